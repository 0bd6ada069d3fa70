/-! printed (wip/whole/gen.py): contracts -/
section K
variable {p : Program} {l : Launch} {e : Env} {R : Room} {s : State} {m : MethodId} {args : Array Value} {below : List Frame} {meth : Method} {c : Code} {Q : State → Prop} {D : va_G} {X : Nat → ClassId} {ad : Nat → Nat → Nat} {A : Nat → Prop} {M : Nat → Nat → Bool} {nL : Nat} {b : ByteArray} {mc ms : Nat} {k : Option VV → TT → Prop} {kx : String → TT → Prop} {t : TT} {as : List VV}
def Q_X5_thrown (M : Nat → Nat → Bool) (ix : Nat) (as : List VV) (t : TT) (k : Option VV → TT → Prop) (kx : String → TT → Prop) : Prop := False
def N_X5_thrown (v : Bool) (ix : Nat) : Option (Nat × Nat × Nat) := none
def S_X5_thrown (pc : Nat) : Option (List (Nat × Nat × Nat) × List (Nat × Nat) × Nat × Nat) := none
def H_X5_thrown (pc : Nat) : Option String := none
set_option maxRecDepth 100000 in
set_option maxHeartbeats 4000000 in
theorem c_X5_thrown {l : Launch} (hst9 : l.stackTraces = false) {D : va_G} {X : Nat → ClassId} {ad : Nat → Nat → Nat} {M : Nat → Nat → Bool} {post : Option VV → TT → Prop} {px : String → TT → Prop} (o0 : Nat) (t : TT) (h : P_X5_thrown M (fun r t1 => post (some (.inl r)) t1) px o0 t) : CT l yX5_thrown (Cond.code yX5_thrown cX5_thrown 1 (some .int) :: LT) ({ frames := 0, cells := 0, slots := 0, locals := 0 } : Room) D X ad M [.inr (.inl (20, o0))] t 0 0 post px := by
  refine met_of_wp (by decide +kernel) (Nat.le_of_ble_eq_true rfl) ?_
  intro p e s m args below meth c A hx hb hml hts hown hK hnt hlocks hr hA hE
  have hR9 : Ready p l e ({ frames := 0, cells := 0, slots := 0, locals := 0 } : Room) s m args below meth c D X ad A M 1 cX5_thrown 0 0 post px RX5 1 (fldOf F_X5) N_X5_thrown (Q_X5_thrown M) (tabOf T_X5_thrown) H_X5_thrown := by
    refine ⟨hx, hb, hts, hown, hK, hnt, hlocks, hr, F_X5_ok, ?_, fun pc en h => tabOf_ok T_X5_thrown_ok h, ?_⟩
    · intro v9 ix n mc1 ms1 as t k hn hl h
      unfold N_X5_thrown at hn
      cases hn
    · intro pc E hE9; cases hE9
  refine wp_go hR9 (cs := S_X5_thrown) (Bk := (fun _ _ _ _ => False)) ?_ 400 0 _ _ _ _ _ h
  intro pc q vs ws t hc hk
  exact hk.elim
theorem k_X5_thrown (hx : p.tables.exec = Jvm.exec) (hb : c.code = b) (hml : c.maxLocals = nL) (hts : ∀ w ∈ LT, w.before args s = true) {own : String} (hown : s.vm.findClass own = some m.cls) (hK : va_K D vwCl (TYX X) s) (hA : ∀ q, s.heap.size ≤ q → A q) (hE : EX A s) (hst9 : l.stackTraces = false) {ix : Nat} (hl9 : Cond.methodLink own ix yX5_thrown ∈ LT) (hR : 1 ≤ R.frames ∧ 20 ≤ R.locals) (hmc : R.cells = mc) (hms : R.slots = ms) (h : PC_X5_thrown M as t k kx) : CallOK p l e R s m args below meth c Q D X ad A M nL b mc ms (.invokevirtual ix) 0 0 as t k kx := by
  unfold PC_X5_thrown at h
  split at h
  · exact call_V hx hb hml hts hown hK hA hE (c_X5_thrown hst9 _ t h.2) ⟨hl9, ws_X5_thrown.1, ws_X5_thrown.2.1, ws_X5_thrown.2.2.1, ws_X5_thrown.2.2.2⟩ (n := 0) (by decide +kernel) hR rfl rfl hmc hms rfl ⟨20, _, rfl, h.1, Or.inr (Or.inr (Or.inr (Or.inr (Or.inr rfl)))), rfl⟩
  · exact CallOK.congr (by simp only [List.map_cons]; congr 1; exact (if_neg h.1).symm) (call_V hx hb hml hts hown hK hA hE (c_X5_thrown hst9 _ t h.2.2) ⟨hl9, ws_X5_thrown.1, ws_X5_thrown.2.1, ws_X5_thrown.2.2.1, ws_X5_thrown.2.2.2⟩ (n := 0) (by decide +kernel) hR rfl rfl hmc hms rfl ⟨20, _, rfl, h.2.1, Or.inr (Or.inr (Or.inr (Or.inr (Or.inr rfl)))), rfl⟩)
  · exact h.elim
def Q_X5_isFine (M : Nat → Nat → Bool) (ix : Nat) (as : List VV) (t : TT) (k : Option VV → TT → Prop) (kx : String → TT → Prop) : Prop := False
def N_X5_isFine (v : Bool) (ix : Nat) : Option (Nat × Nat × Nat) := none
def S_X5_isFine (pc : Nat) : Option (List (Nat × Nat × Nat) × List (Nat × Nat) × Nat × Nat) := match pc with
  | 14 => some ([], [(0, 0)], 0, 0)
  | _ => none
def H_X5_isFine (pc : Nat) : Option String := none
set_option maxRecDepth 100000 in
set_option maxHeartbeats 4000000 in
theorem c_X5_isFine {l : Launch} (hst9 : l.stackTraces = false) {D : va_G} {X : Nat → ClassId} {ad : Nat → Nat → Nat} {M : Nat → Nat → Bool} {post : Option VV → TT → Prop} {px : String → TT → Prop} (o0 : Nat) (a1 : Int32) (t : TT) (h : P_X5_isFine M (fun r t1 => post (some (.inl r)) t1) px o0 a1 t) : CT l yX5_isFine (Cond.code yX5_isFine cX5_isFine 2 (some .boolean) :: LT) ({ frames := 0, cells := 0, slots := 0, locals := 0 } : Room) D X ad M [.inr (.inl (20, o0)), .inl a1] t 0 0 post px := by
  refine met_of_wp (by decide +kernel) (Nat.le_of_ble_eq_true rfl) ?_
  intro p e s m args below meth c A hx hb hml hts hown hK hnt hlocks hr hA hE
  have hR9 : Ready p l e ({ frames := 0, cells := 0, slots := 0, locals := 0 } : Room) s m args below meth c D X ad A M 2 cX5_isFine 0 0 post px RX5 2 (fldOf F_X5) N_X5_isFine (Q_X5_isFine M) (tabOf T_X5_isFine) H_X5_isFine := by
    refine ⟨hx, hb, hts, hown, hK, hnt, hlocks, hr, F_X5_ok, ?_, fun pc en h => tabOf_ok T_X5_isFine_ok h, ?_⟩
    · intro v9 ix n mc1 ms1 as t k hn hl h
      unfold N_X5_isFine at hn
      cases hn
    · intro pc E hE9; cases hE9
  have W14 : ∀ (s0 : Int32) (t : TT), B_X5_isFine_14 M (fun r t1 => post (some (.inl r)) t1) px s0 t → Wat p l e ({ frames := 0, cells := 0, slots := 0, locals := 0 } : Room) s m args below meth c (QM below args s D X ad A M 0 0 post px) D X ad A M 2 14 [] [.inl s0] t 0 0 := by
    intro s0 t h
    refine wp_go hR9 (cs := S_X5_isFine) (Bk := (fun _ _ _ _ => False)) ?_ 400 14 _ _ _ _ _ h
    intro pc q vs ws t hc hk
    exact hk.elim
  refine wp_go hR9 (cs := S_X5_isFine) (Bk := (fun pc vs ws t => match pc with | 14 => (match vs, ws with | [], [.inl s0] => B_X5_isFine_14 M (fun r t1 => post (some (.inl r)) t1) px s0 t | _, _ => False) | _ => False)) ?_ 400 0 _ _ _ _ _ h
  intro pc q vs ws t hc hk
  split at hk
  · cases hc
    split at hk
    · exact W14 _ _ hk
    · exact hk.elim
  · exact hk.elim
theorem k_X5_isFine (hx : p.tables.exec = Jvm.exec) (hb : c.code = b) (hml : c.maxLocals = nL) (hts : ∀ w ∈ LT, w.before args s = true) {own : String} (hown : s.vm.findClass own = some m.cls) (hK : va_K D vwCl (TYX X) s) (hA : ∀ q, s.heap.size ≤ q → A q) (hE : EX A s) (hst9 : l.stackTraces = false) {ix : Nat} (hl9 : Cond.methodLink own ix yX5_isFine ∈ LT) (hR : 1 ≤ R.frames ∧ 21 ≤ R.locals) (hmc : R.cells = mc) (hms : R.slots = ms) (h : PC_X5_isFine M as t k kx) : CallOK p l e R s m args below meth c Q D X ad A M nL b mc ms (.invokevirtual ix) 0 0 as t k kx := by
  unfold PC_X5_isFine at h
  split at h
  · exact call_V hx hb hml hts hown hK hA hE (c_X5_isFine hst9 _ _ t h.2) ⟨hl9, ws_X5_isFine.1, ws_X5_isFine.2.1, ws_X5_isFine.2.2.1, ws_X5_isFine.2.2.2⟩ (n := 1) (by decide +kernel) hR rfl rfl hmc hms rfl ⟨20, _, rfl, h.1, Or.inr (Or.inr (Or.inr (Or.inr (Or.inr rfl)))), rfl⟩
  · exact CallOK.congr (by simp only [List.map_cons]; congr 1; exact (if_neg h.1).symm) (call_V hx hb hml hts hown hK hA hE (c_X5_isFine hst9 _ _ t h.2.2) ⟨hl9, ws_X5_isFine.1, ws_X5_isFine.2.1, ws_X5_isFine.2.2.1, ws_X5_isFine.2.2.2⟩ (n := 1) (by decide +kernel) hR rfl rfl hmc hms rfl ⟨20, _, rfl, h.2.1, Or.inr (Or.inr (Or.inr (Or.inr (Or.inr rfl)))), rfl⟩)
  · exact h.elim
def Q_X5_in (M : Nat → Nat → Bool) (ix : Nat) (as : List VV) (t : TT) (k : Option VV → TT → Prop) (kx : String → TT → Prop) : Prop := False
def N_X5_in (v : Bool) (ix : Nat) : Option (Nat × Nat × Nat) := none
def S_X5_in (pc : Nat) : Option (List (Nat × Nat × Nat) × List (Nat × Nat) × Nat × Nat) := match pc with
  | 15 => some ([], [(0, 0)], 0, 0)
  | 14 => some ([], [], 0, 0)
  | _ => none
def H_X5_in (pc : Nat) : Option String := none
set_option maxRecDepth 100000 in
set_option maxHeartbeats 4000000 in
theorem c_X5_in {l : Launch} (hst9 : l.stackTraces = false) {D : va_G} {X : Nat → ClassId} {ad : Nat → Nat → Nat} {M : Nat → Nat → Bool} {post : Option VV → TT → Prop} {px : String → TT → Prop} (a0 : Int32) (a1 : Int32) (a2 : Int32) (t : TT) (h : P_X5_in M (fun r t1 => post (some (.inl r)) t1) px a0 a1 a2 t) : CT l yX5_in (Cond.code yX5_in cX5_in 3 (some .boolean) :: LT) ({ frames := 0, cells := 0, slots := 0, locals := 0 } : Room) D X ad M [.inl a0, .inl a1, .inl a2] t 0 0 post px := by
  refine met_of_wp (by decide +kernel) (Nat.le_of_ble_eq_true rfl) ?_
  intro p e s m args below meth c A hx hb hml hts hown hK hnt hlocks hr hA hE
  have hR9 : Ready p l e ({ frames := 0, cells := 0, slots := 0, locals := 0 } : Room) s m args below meth c D X ad A M 3 cX5_in 0 0 post px RX5 2 (fldOf F_X5) N_X5_in (Q_X5_in M) (tabOf T_X5_in) H_X5_in := by
    refine ⟨hx, hb, hts, hown, hK, hnt, hlocks, hr, F_X5_ok, ?_, fun pc en h => tabOf_ok T_X5_in_ok h, ?_⟩
    · intro v9 ix n mc1 ms1 as t k hn hl h
      unfold N_X5_in at hn
      cases hn
    · intro pc E hE9; cases hE9
  have W15 : ∀ (s0 : Int32) (t : TT), B_X5_in_15 M (fun r t1 => post (some (.inl r)) t1) px s0 t → Wat p l e ({ frames := 0, cells := 0, slots := 0, locals := 0 } : Room) s m args below meth c (QM below args s D X ad A M 0 0 post px) D X ad A M 3 15 [] [.inl s0] t 0 0 := by
    intro s0 t h
    refine wp_go hR9 (cs := S_X5_in) (Bk := (fun _ _ _ _ => False)) ?_ 400 15 _ _ _ _ _ h
    intro pc q vs ws t hc hk
    exact hk.elim
  have W14 : ∀ (t : TT), B_X5_in_14 M (fun r t1 => post (some (.inl r)) t1) px t → Wat p l e ({ frames := 0, cells := 0, slots := 0, locals := 0 } : Room) s m args below meth c (QM below args s D X ad A M 0 0 post px) D X ad A M 3 14 [] [] t 0 0 := by
    intro t h
    refine wp_go hR9 (cs := S_X5_in) (Bk := (fun pc vs ws t => match pc with | 15 => (match vs, ws with | [], [.inl s0] => B_X5_in_15 M (fun r t1 => post (some (.inl r)) t1) px s0 t | _, _ => False) | _ => False)) ?_ 400 14 _ _ _ _ _ h
    intro pc q vs ws t hc hk
    split at hk
    · cases hc
      split at hk
      · exact W15 _ _ hk
      · exact hk.elim
    · exact hk.elim
  refine wp_go hR9 (cs := S_X5_in) (Bk := (fun pc vs ws t => match pc with | 14 => (match vs, ws with | [], [] => B_X5_in_14 M (fun r t1 => post (some (.inl r)) t1) px t | _, _ => False) | 15 => (match vs, ws with | [], [.inl s0] => B_X5_in_15 M (fun r t1 => post (some (.inl r)) t1) px s0 t | _, _ => False) | _ => False)) ?_ 400 0 _ _ _ _ _ h
  intro pc q vs ws t hc hk
  split at hk
  · cases hc
    split at hk
    · exact W14 _ hk
    · exact hk.elim
  · cases hc
    split at hk
    · exact W15 _ _ hk
    · exact hk.elim
  · exact hk.elim
theorem k_X5_in (hx : p.tables.exec = Jvm.exec) (hb : c.code = b) (hml : c.maxLocals = nL) (hts : ∀ w ∈ LT, w.before args s = true) {own : String} (hown : s.vm.findClass own = some m.cls) (hK : va_K D vwCl (TYX X) s) (hA : ∀ q, s.heap.size ≤ q → A q) (hE : EX A s) (hst9 : l.stackTraces = false) {ix : Nat} (hl9 : Cond.methodLink own ix yX5_in ∈ LT) (hR : 1 ≤ R.frames ∧ 22 ≤ R.locals) (hmc : R.cells = mc) (hms : R.slots = ms) (h : PC_X5_in M as t k kx) : CallOK p l e R s m args below meth c Q D X ad A M nL b mc ms (.invokestatic ix) 0 0 as t k kx := by
  unfold PC_X5_in at h
  split at h
  · exact call_S hx hb hml hts hown hK hA hE (c_X5_in hst9 _ _ _ t h) ⟨hl9, ws_X5_in.1, ws_X5_in.2.1, ws_X5_in.2.2⟩ (n := 3) (by decide +kernel) hR rfl rfl hmc hms rfl
  · exact h.elim
def Q_X5_isTrain (M : Nat → Nat → Bool) (ix : Nat) (as : List VV) (t : TT) (k : Option VV → TT → Prop) (kx : String → TT → Prop) : Prop := match ix with
  | 111 => PC_X5_in M as t k kx
  | _ => False
def N_X5_isTrain (v : Bool) (ix : Nat) : Option (Nat × Nat × Nat) := match v, ix with
  | false, 111 => some (3, 0, 0)
  | _, _ => none
def S_X5_isTrain (pc : Nat) : Option (List (Nat × Nat × Nat) × List (Nat × Nat) × Nat × Nat) := none
def H_X5_isTrain (pc : Nat) : Option String := none
set_option maxRecDepth 100000 in
set_option maxHeartbeats 4000000 in
theorem c_X5_isTrain {l : Launch} (hst9 : l.stackTraces = false) {D : va_G} {X : Nat → ClassId} {ad : Nat → Nat → Nat} {M : Nat → Nat → Bool} {post : Option VV → TT → Prop} {px : String → TT → Prop} (o0 : Nat) (a1 : Int32) (t : TT) (h : P_X5_isTrain M (fun r t1 => post (some (.inl r)) t1) px o0 a1 t) : CT l yX5_isTrain (Cond.code yX5_isTrain cX5_isTrain 2 (some .boolean) :: LT) ({ frames := 1, cells := 0, slots := 0, locals := 22 } : Room) D X ad M [.inr (.inl (20, o0)), .inl a1] t 0 0 post px := by
  refine met_of_wp (by decide +kernel) (Nat.le_of_ble_eq_true rfl) ?_
  intro p e s m args below meth c A hx hb hml hts hown hK hnt hlocks hr hA hE
  have hR9 : Ready p l e ({ frames := 1, cells := 0, slots := 0, locals := 22 } : Room) s m args below meth c D X ad A M 2 cX5_isTrain 0 0 post px RX5 2 (fldOf F_X5) N_X5_isTrain (Q_X5_isTrain M) (tabOf T_X5_isTrain) H_X5_isTrain := by
    refine ⟨hx, hb, hts, hown, hK, hnt, hlocks, hr, F_X5_ok, ?_, fun pc en h => tabOf_ok T_X5_isTrain_ok h, ?_⟩
    · intro v9 ix n mc1 ms1 as t k hn hl h
      unfold N_X5_isTrain at hn
      split at hn
      · cases hn
        exact k_X5_in hx hb hml hts hown hK hA hE hst9 (by decide +kernel) ⟨Nat.le_of_ble_eq_true rfl, Nat.le_of_ble_eq_true rfl⟩ rfl rfl h
      · cases hn
    · intro pc E hE9; cases hE9
  refine wp_go hR9 (cs := S_X5_isTrain) (Bk := (fun _ _ _ _ => False)) ?_ 400 0 _ _ _ _ _ h
  intro pc q vs ws t hc hk
  exact hk.elim
theorem k_X5_isTrain (hx : p.tables.exec = Jvm.exec) (hb : c.code = b) (hml : c.maxLocals = nL) (hts : ∀ w ∈ LT, w.before args s = true) {own : String} (hown : s.vm.findClass own = some m.cls) (hK : va_K D vwCl (TYX X) s) (hA : ∀ q, s.heap.size ≤ q → A q) (hE : EX A s) (hst9 : l.stackTraces = false) {ix : Nat} (hl9 : Cond.methodLink own ix yX5_isTrain ∈ LT) (hR : 2 ≤ R.frames ∧ 43 ≤ R.locals) (hmc : R.cells = mc) (hms : R.slots = ms) (h : PC_X5_isTrain M as t k kx) : CallOK p l e R s m args below meth c Q D X ad A M nL b mc ms (.invokevirtual ix) 0 0 as t k kx := by
  unfold PC_X5_isTrain at h
  split at h
  · exact call_V hx hb hml hts hown hK hA hE (c_X5_isTrain hst9 _ _ t h.2) ⟨hl9, ws_X5_isTrain.1, ws_X5_isTrain.2.1, ws_X5_isTrain.2.2.1, ws_X5_isTrain.2.2.2⟩ (n := 1) (by decide +kernel) hR rfl rfl hmc hms rfl ⟨20, _, rfl, h.1, Or.inr (Or.inr (Or.inr (Or.inr (Or.inr rfl)))), rfl⟩
  · exact CallOK.congr (by simp only [List.map_cons]; congr 1; exact (if_neg h.1).symm) (call_V hx hb hml hts hown hK hA hE (c_X5_isTrain hst9 _ _ t h.2.2) ⟨hl9, ws_X5_isTrain.1, ws_X5_isTrain.2.1, ws_X5_isTrain.2.2.1, ws_X5_isTrain.2.2.2⟩ (n := 1) (by decide +kernel) hR rfl rfl hmc hms rfl ⟨20, _, rfl, h.2.1, Or.inr (Or.inr (Or.inr (Or.inr (Or.inr rfl)))), rfl⟩)
  · exact h.elim
def Q_X5_isPlatform (M : Nat → Nat → Bool) (ix : Nat) (as : List VV) (t : TT) (k : Option VV → TT → Prop) (kx : String → TT → Prop) : Prop := match ix with
  | 111 => PC_X5_in M as t k kx
  | _ => False
def N_X5_isPlatform (v : Bool) (ix : Nat) : Option (Nat × Nat × Nat) := match v, ix with
  | false, 111 => some (3, 0, 0)
  | _, _ => none
def S_X5_isPlatform (pc : Nat) : Option (List (Nat × Nat × Nat) × List (Nat × Nat) × Nat × Nat) := none
def H_X5_isPlatform (pc : Nat) : Option String := none
set_option maxRecDepth 100000 in
set_option maxHeartbeats 4000000 in
theorem c_X5_isPlatform {l : Launch} (hst9 : l.stackTraces = false) {D : va_G} {X : Nat → ClassId} {ad : Nat → Nat → Nat} {M : Nat → Nat → Bool} {post : Option VV → TT → Prop} {px : String → TT → Prop} (o0 : Nat) (a1 : Int32) (t : TT) (h : P_X5_isPlatform M (fun r t1 => post (some (.inl r)) t1) px o0 a1 t) : CT l yX5_isPlatform (Cond.code yX5_isPlatform cX5_isPlatform 2 (some .boolean) :: LT) ({ frames := 1, cells := 0, slots := 0, locals := 22 } : Room) D X ad M [.inr (.inl (20, o0)), .inl a1] t 0 0 post px := by
  refine met_of_wp (by decide +kernel) (Nat.le_of_ble_eq_true rfl) ?_
  intro p e s m args below meth c A hx hb hml hts hown hK hnt hlocks hr hA hE
  have hR9 : Ready p l e ({ frames := 1, cells := 0, slots := 0, locals := 22 } : Room) s m args below meth c D X ad A M 2 cX5_isPlatform 0 0 post px RX5 2 (fldOf F_X5) N_X5_isPlatform (Q_X5_isPlatform M) (tabOf T_X5_isPlatform) H_X5_isPlatform := by
    refine ⟨hx, hb, hts, hown, hK, hnt, hlocks, hr, F_X5_ok, ?_, fun pc en h => tabOf_ok T_X5_isPlatform_ok h, ?_⟩
    · intro v9 ix n mc1 ms1 as t k hn hl h
      unfold N_X5_isPlatform at hn
      split at hn
      · cases hn
        exact k_X5_in hx hb hml hts hown hK hA hE hst9 (by decide +kernel) ⟨Nat.le_of_ble_eq_true rfl, Nat.le_of_ble_eq_true rfl⟩ rfl rfl h
      · cases hn
    · intro pc E hE9; cases hE9
  refine wp_go hR9 (cs := S_X5_isPlatform) (Bk := (fun _ _ _ _ => False)) ?_ 400 0 _ _ _ _ _ h
  intro pc q vs ws t hc hk
  exact hk.elim
theorem k_X5_isPlatform (hx : p.tables.exec = Jvm.exec) (hb : c.code = b) (hml : c.maxLocals = nL) (hts : ∀ w ∈ LT, w.before args s = true) {own : String} (hown : s.vm.findClass own = some m.cls) (hK : va_K D vwCl (TYX X) s) (hA : ∀ q, s.heap.size ≤ q → A q) (hE : EX A s) (hst9 : l.stackTraces = false) {ix : Nat} (hl9 : Cond.methodLink own ix yX5_isPlatform ∈ LT) (hR : 2 ≤ R.frames ∧ 43 ≤ R.locals) (hmc : R.cells = mc) (hms : R.slots = ms) (h : PC_X5_isPlatform M as t k kx) : CallOK p l e R s m args below meth c Q D X ad A M nL b mc ms (.invokevirtual ix) 0 0 as t k kx := by
  unfold PC_X5_isPlatform at h
  split at h
  · exact call_V hx hb hml hts hown hK hA hE (c_X5_isPlatform hst9 _ _ t h.2) ⟨hl9, ws_X5_isPlatform.1, ws_X5_isPlatform.2.1, ws_X5_isPlatform.2.2.1, ws_X5_isPlatform.2.2.2⟩ (n := 1) (by decide +kernel) hR rfl rfl hmc hms rfl ⟨20, _, rfl, h.1, Or.inr (Or.inr (Or.inr (Or.inr (Or.inr rfl)))), rfl⟩
  · exact CallOK.congr (by simp only [List.map_cons]; congr 1; exact (if_neg h.1).symm) (call_V hx hb hml hts hown hK hA hE (c_X5_isPlatform hst9 _ _ t h.2.2) ⟨hl9, ws_X5_isPlatform.1, ws_X5_isPlatform.2.1, ws_X5_isPlatform.2.2.1, ws_X5_isPlatform.2.2.2⟩ (n := 1) (by decide +kernel) hR rfl rfl hmc hms rfl ⟨20, _, rfl, h.2.1, Or.inr (Or.inr (Or.inr (Or.inr (Or.inr rfl)))), rfl⟩)
  · exact h.elim
def Q_X5_wayOf (M : Nat → Nat → Bool) (ix : Nat) (as : List VV) (t : TT) (k : Option VV → TT → Prop) (kx : String → TT → Prop) : Prop := False
def N_X5_wayOf (v : Bool) (ix : Nat) : Option (Nat × Nat × Nat) := none
def S_X5_wayOf (pc : Nat) : Option (List (Nat × Nat × Nat) × List (Nat × Nat) × Nat × Nat) := none
def H_X5_wayOf (pc : Nat) : Option String := none
set_option maxRecDepth 100000 in
set_option maxHeartbeats 4000000 in
theorem c_X5_wayOf {l : Launch} (hst9 : l.stackTraces = false) {D : va_G} {X : Nat → ClassId} {ad : Nat → Nat → Nat} {M : Nat → Nat → Bool} {post : Option VV → TT → Prop} {px : String → TT → Prop} (a0 : Int32) (t : TT) (h : P_X5_wayOf M (fun r t1 => post (some (.inl r)) t1) px a0 t) : CT l yX5_wayOf (Cond.code yX5_wayOf cX5_wayOf 1 (some .int) :: LT) ({ frames := 0, cells := 0, slots := 0, locals := 0 } : Room) D X ad M [.inl a0] t 0 0 post px := by
  refine met_of_wp (by decide +kernel) (Nat.le_of_ble_eq_true rfl) ?_
  intro p e s m args below meth c A hx hb hml hts hown hK hnt hlocks hr hA hE
  have hR9 : Ready p l e ({ frames := 0, cells := 0, slots := 0, locals := 0 } : Room) s m args below meth c D X ad A M 1 cX5_wayOf 0 0 post px RX5 1 (fldOf F_X5) N_X5_wayOf (Q_X5_wayOf M) (tabOf T_X5_wayOf) H_X5_wayOf := by
    refine ⟨hx, hb, hts, hown, hK, hnt, hlocks, hr, F_X5_ok, ?_, fun pc en h => tabOf_ok T_X5_wayOf_ok h, ?_⟩
    · intro v9 ix n mc1 ms1 as t k hn hl h
      unfold N_X5_wayOf at hn
      cases hn
    · intro pc E hE9; cases hE9
  refine wp_go hR9 (cs := S_X5_wayOf) (Bk := (fun _ _ _ _ => False)) ?_ 400 0 _ _ _ _ _ h
  intro pc q vs ws t hc hk
  exact hk.elim
theorem k_X5_wayOf (hx : p.tables.exec = Jvm.exec) (hb : c.code = b) (hml : c.maxLocals = nL) (hts : ∀ w ∈ LT, w.before args s = true) {own : String} (hown : s.vm.findClass own = some m.cls) (hK : va_K D vwCl (TYX X) s) (hA : ∀ q, s.heap.size ≤ q → A q) (hE : EX A s) (hst9 : l.stackTraces = false) {ix : Nat} (hl9 : Cond.methodLink own ix yX5_wayOf ∈ LT) (hR : 1 ≤ R.frames ∧ 20 ≤ R.locals) (hmc : R.cells = mc) (hms : R.slots = ms) (h : PC_X5_wayOf M as t k kx) : CallOK p l e R s m args below meth c Q D X ad A M nL b mc ms (.invokestatic ix) 0 0 as t k kx := by
  unfold PC_X5_wayOf at h
  split at h
  · exact call_S hx hb hml hts hown hK hA hE (c_X5_wayOf hst9 _ t h) ⟨hl9, ws_X5_wayOf.1, ws_X5_wayOf.2.1, ws_X5_wayOf.2.2⟩ (n := 1) (by decide +kernel) hR rfl rfl hmc hms rfl
  · exact h.elim
def Q_X5_ones (M : Nat → Nat → Bool) (ix : Nat) (as : List VV) (t : TT) (k : Option VV → TT → Prop) (kx : String → TT → Prop) : Prop := False
def N_X5_ones (v : Bool) (ix : Nat) : Option (Nat × Nat × Nat) := none
def S_X5_ones (pc : Nat) : Option (List (Nat × Nat × Nat) × List (Nat × Nat) × Nat × Nat) := none
def H_X5_ones (pc : Nat) : Option String := none
set_option maxRecDepth 100000 in
set_option maxHeartbeats 4000000 in
theorem c_X5_ones {l : Launch} (hst9 : l.stackTraces = false) {D : va_G} {X : Nat → ClassId} {ad : Nat → Nat → Nat} {M : Nat → Nat → Bool} {post : Option VV → TT → Prop} {px : String → TT → Prop} (a0 : Int32) (t : TT) (h : P_X5_ones M (fun r t1 => post (some (.inl r)) t1) px a0 t) : CT l yX5_ones (Cond.code yX5_ones cX5_ones 1 (some .int) :: LT) ({ frames := 0, cells := 0, slots := 0, locals := 0 } : Room) D X ad M [.inl a0] t 0 0 post px := by
  refine met_of_wp (by decide +kernel) (Nat.le_of_ble_eq_true rfl) ?_
  intro p e s m args below meth c A hx hb hml hts hown hK hnt hlocks hr hA hE
  have hR9 : Ready p l e ({ frames := 0, cells := 0, slots := 0, locals := 0 } : Room) s m args below meth c D X ad A M 1 cX5_ones 0 0 post px RX5 1 (fldOf F_X5) N_X5_ones (Q_X5_ones M) (tabOf T_X5_ones) H_X5_ones := by
    refine ⟨hx, hb, hts, hown, hK, hnt, hlocks, hr, F_X5_ok, ?_, fun pc en h => tabOf_ok T_X5_ones_ok h, ?_⟩
    · intro v9 ix n mc1 ms1 as t k hn hl h
      unfold N_X5_ones at hn
      cases hn
    · intro pc E hE9; cases hE9
  refine wp_go hR9 (cs := S_X5_ones) (Bk := (fun _ _ _ _ => False)) ?_ 400 0 _ _ _ _ _ h
  intro pc q vs ws t hc hk
  exact hk.elim
theorem k_X5_ones (hx : p.tables.exec = Jvm.exec) (hb : c.code = b) (hml : c.maxLocals = nL) (hts : ∀ w ∈ LT, w.before args s = true) {own : String} (hown : s.vm.findClass own = some m.cls) (hK : va_K D vwCl (TYX X) s) (hA : ∀ q, s.heap.size ≤ q → A q) (hE : EX A s) (hst9 : l.stackTraces = false) {ix : Nat} (hl9 : Cond.methodLink own ix yX5_ones ∈ LT) (hR : 1 ≤ R.frames ∧ 20 ≤ R.locals) (hmc : R.cells = mc) (hms : R.slots = ms) (h : PC_X5_ones M as t k kx) : CallOK p l e R s m args below meth c Q D X ad A M nL b mc ms (.invokestatic ix) 0 0 as t k kx := by
  unfold PC_X5_ones at h
  split at h
  · exact call_S hx hb hml hts hown hK hA hE (c_X5_ones hst9 _ t h) ⟨hl9, ws_X5_ones.1, ws_X5_ones.2.1, ws_X5_ones.2.2⟩ (n := 1) (by decide +kernel) hR rfl rfl hmc hms rfl
  · exact h.elim
def Q_X5_keeps (M : Nat → Nat → Bool) (ix : Nat) (as : List VV) (t : TT) (k : Option VV → TT → Prop) (kx : String → TT → Prop) : Prop := match ix with
  | 118 => PC_X5_wayOf M as t k kx
  | _ => False
def N_X5_keeps (v : Bool) (ix : Nat) : Option (Nat × Nat × Nat) := match v, ix with
  | false, 118 => some (1, 0, 0)
  | _, _ => none
def S_X5_keeps (pc : Nat) : Option (List (Nat × Nat × Nat) × List (Nat × Nat) × Nat × Nat) := match pc with
  | 52 => some ([], [(0, 0)], 0, 0)
  | _ => none
def H_X5_keeps (pc : Nat) : Option String := none
set_option maxRecDepth 100000 in
set_option maxHeartbeats 4000000 in
theorem c_X5_keeps {l : Launch} (hst9 : l.stackTraces = false) {D : va_G} {X : Nat → ClassId} {ad : Nat → Nat → Nat} {M : Nat → Nat → Bool} {post : Option VV → TT → Prop} {px : String → TT → Prop} (o0 : Nat) (a1 : Int32) (a2 : Int32) (t : TT) (h : P_X5_keeps M (fun r t1 => post (some (.inl r)) t1) px o0 a1 a2 t) : CT l yX5_keeps (Cond.code yX5_keeps cX5_keeps 3 (some .boolean) :: LT) ({ frames := 1, cells := 0, slots := 0, locals := 20 } : Room) D X ad M [.inr (.inl (20, o0)), .inl a1, .inl a2] t 0 0 post px := by
  refine met_of_wp (by decide +kernel) (Nat.le_of_ble_eq_true rfl) ?_
  intro p e s m args below meth c A hx hb hml hts hown hK hnt hlocks hr hA hE
  have hR9 : Ready p l e ({ frames := 1, cells := 0, slots := 0, locals := 20 } : Room) s m args below meth c D X ad A M 3 cX5_keeps 0 0 post px RX5 2 (fldOf F_X5) N_X5_keeps (Q_X5_keeps M) (tabOf T_X5_keeps) H_X5_keeps := by
    refine ⟨hx, hb, hts, hown, hK, hnt, hlocks, hr, F_X5_ok, ?_, fun pc en h => tabOf_ok T_X5_keeps_ok h, ?_⟩
    · intro v9 ix n mc1 ms1 as t k hn hl h
      unfold N_X5_keeps at hn
      split at hn
      · cases hn
        exact k_X5_wayOf hx hb hml hts hown hK hA hE hst9 (by decide +kernel) ⟨Nat.le_of_ble_eq_true rfl, Nat.le_of_ble_eq_true rfl⟩ rfl rfl h
      · cases hn
    · intro pc E hE9; cases hE9
  have W52 : ∀ (s0 : Int32) (t : TT), B_X5_keeps_52 M (fun r t1 => post (some (.inl r)) t1) px s0 t → Wat p l e ({ frames := 1, cells := 0, slots := 0, locals := 20 } : Room) s m args below meth c (QM below args s D X ad A M 0 0 post px) D X ad A M 3 52 [] [.inl s0] t 0 0 := by
    intro s0 t h
    refine wp_go hR9 (cs := S_X5_keeps) (Bk := (fun _ _ _ _ => False)) ?_ 400 52 _ _ _ _ _ h
    intro pc q vs ws t hc hk
    exact hk.elim
  refine wp_go hR9 (cs := S_X5_keeps) (Bk := (fun pc vs ws t => match pc with | 52 => (match vs, ws with | [], [.inl s0] => B_X5_keeps_52 M (fun r t1 => post (some (.inl r)) t1) px s0 t | _, _ => False) | _ => False)) ?_ 400 0 _ _ _ _ _ h
  intro pc q vs ws t hc hk
  split at hk
  · cases hc
    split at hk
    · exact W52 _ _ hk
    · exact hk.elim
  · exact hk.elim
theorem k_X5_keeps (hx : p.tables.exec = Jvm.exec) (hb : c.code = b) (hml : c.maxLocals = nL) (hts : ∀ w ∈ LT, w.before args s = true) {own : String} (hown : s.vm.findClass own = some m.cls) (hK : va_K D vwCl (TYX X) s) (hA : ∀ q, s.heap.size ≤ q → A q) (hE : EX A s) (hst9 : l.stackTraces = false) {ix : Nat} (hl9 : Cond.methodLink own ix yX5_keeps ∈ LT) (hR : 2 ≤ R.frames ∧ 42 ≤ R.locals) (hmc : R.cells = mc) (hms : R.slots = ms) (h : PC_X5_keeps M as t k kx) : CallOK p l e R s m args below meth c Q D X ad A M nL b mc ms (.invokevirtual ix) 0 0 as t k kx := by
  unfold PC_X5_keeps at h
  split at h
  · exact call_V hx hb hml hts hown hK hA hE (c_X5_keeps hst9 _ _ _ t h.2) ⟨hl9, ws_X5_keeps.1, ws_X5_keeps.2.1, ws_X5_keeps.2.2.1, ws_X5_keeps.2.2.2⟩ (n := 2) (by decide +kernel) hR rfl rfl hmc hms rfl ⟨20, _, rfl, h.1, Or.inr (Or.inr (Or.inr (Or.inr (Or.inr rfl)))), rfl⟩
  · exact CallOK.congr (by simp only [List.map_cons]; congr 1; exact (if_neg h.1).symm) (call_V hx hb hml hts hown hK hA hE (c_X5_keeps hst9 _ _ _ t h.2.2) ⟨hl9, ws_X5_keeps.1, ws_X5_keeps.2.1, ws_X5_keeps.2.2.1, ws_X5_keeps.2.2.2⟩ (n := 2) (by decide +kernel) hR rfl rfl hmc hms rfl ⟨20, _, rfl, h.2.1, Or.inr (Or.inr (Or.inr (Or.inr (Or.inr rfl)))), rfl⟩)
  · exact h.elim
def Q_X5_nextTo (M : Nat → Nat → Bool) (ix : Nat) (as : List VV) (t : TT) (k : Option VV → TT → Prop) (kx : String → TT → Prop) : Prop := False
def N_X5_nextTo (v : Bool) (ix : Nat) : Option (Nat × Nat × Nat) := none
def S_X5_nextTo (pc : Nat) : Option (List (Nat × Nat × Nat) × List (Nat × Nat) × Nat × Nat) := match pc with
  | 49 => some ([(0, 1, 20), (1, 0, 0), (2, 0, 0), (3, 0, 0)], [], 0, 0)
  | 47 => some ([(0, 1, 20), (1, 0, 0), (3, 0, 0)], [], 0, 0)
  | 4 => some ([(0, 1, 20), (1, 0, 0), (2, 0, 0), (3, 0, 0)], [], 0, 0)
  | _ => none
def H_X5_nextTo (pc : Nat) : Option String := none
set_option maxRecDepth 100000 in
set_option maxHeartbeats 4000000 in
theorem c_X5_nextTo {l : Launch} (hst9 : l.stackTraces = false) {D : va_G} {X : Nat → ClassId} {ad : Nat → Nat → Nat} {M : Nat → Nat → Bool} {post : Option VV → TT → Prop} {px : String → TT → Prop} (o0 : Nat) (a1 : Int32) (t : TT) (h : P_X5_nextTo M (fun r t1 => post (some (.inl r)) t1) px o0 a1 t) : CT l yX5_nextTo (Cond.code yX5_nextTo cX5_nextTo 4 (some .int) :: LT) ({ frames := 0, cells := 0, slots := 0, locals := 0 } : Room) D X ad M [.inr (.inl (20, o0)), .inl a1] t 0 0 post px := by
  refine met_of_wp (by decide +kernel) (Nat.le_of_ble_eq_true rfl) ?_
  intro p e s m args below meth c A hx hb hml hts hown hK hnt hlocks hr hA hE
  have hR9 : Ready p l e ({ frames := 0, cells := 0, slots := 0, locals := 0 } : Room) s m args below meth c D X ad A M 4 cX5_nextTo 0 0 post px RX5 1 (fldOf F_X5) N_X5_nextTo (Q_X5_nextTo M) (tabOf T_X5_nextTo) H_X5_nextTo := by
    refine ⟨hx, hb, hts, hown, hK, hnt, hlocks, hr, F_X5_ok, ?_, fun pc en h => tabOf_ok T_X5_nextTo_ok h, ?_⟩
    · intro v9 ix n mc1 ms1 as t k hn hl h
      unfold N_X5_nextTo at hn
      cases hn
    · intro pc E hE9; cases hE9
  have W49 : ∀ (k4 : Nat → Int32 → Int32 → Int32 → TT → Prop) (hk4 : ∀ (o0 : Nat) (a1 : Int32) (a2 : Int32) (a3 : Int32) (t : TT), k4 o0 a1 a2 a3 t → Wat p l e ({ frames := 0, cells := 0, slots := 0, locals := 0 } : Room) s m args below meth c (QM below args s D X ad A M 0 0 post px) D X ad A M 4 4 [(0, .inr (.inl (20, o0))), (1, .inl a1), (2, .inl a2), (3, .inl a3)] [] t 0 0) (o0 : Nat) (a1 : Int32) (a2 : Int32) (a3 : Int32) (t : TT), B_X5_nextTo_49 M (fun r t1 => post (some (.inl r)) t1) px k4 o0 a1 a2 a3 t → Wat p l e ({ frames := 0, cells := 0, slots := 0, locals := 0 } : Room) s m args below meth c (QM below args s D X ad A M 0 0 post px) D X ad A M 4 49 [(0, .inr (.inl (20, o0))), (1, .inl a1), (2, .inl a2), (3, .inl a3)] [] t 0 0 := by
    intro k4 hk4 o0 a1 a2 a3 t h
    refine wp_go hR9 (cs := S_X5_nextTo) (Bk := (fun pc vs ws t => match pc with | 4 => (match vs, ws with | [.inr (.inl (20, o0)), .inl a1, .inl a2, .inl a3], [] => k4 o0 a1 a2 a3 t | _, _ => False) | _ => False)) ?_ 400 49 _ _ _ _ _ h
    intro pc q vs ws t hc hk
    split at hk
    · cases hc
      split at hk
      · exact hk4 _ _ _ _ _ hk
      · exact hk.elim
    · exact hk.elim
  have W47 : ∀ (k4 : Nat → Int32 → Int32 → Int32 → TT → Prop) (hk4 : ∀ (o0 : Nat) (a1 : Int32) (a2 : Int32) (a3 : Int32) (t : TT), k4 o0 a1 a2 a3 t → Wat p l e ({ frames := 0, cells := 0, slots := 0, locals := 0 } : Room) s m args below meth c (QM below args s D X ad A M 0 0 post px) D X ad A M 4 4 [(0, .inr (.inl (20, o0))), (1, .inl a1), (2, .inl a2), (3, .inl a3)] [] t 0 0) (o0 : Nat) (a1 : Int32) (a3 : Int32) (t : TT), B_X5_nextTo_47 M (fun r t1 => post (some (.inl r)) t1) px k4 o0 a1 a3 t → Wat p l e ({ frames := 0, cells := 0, slots := 0, locals := 0 } : Room) s m args below meth c (QM below args s D X ad A M 0 0 post px) D X ad A M 4 47 [(0, .inr (.inl (20, o0))), (1, .inl a1), (3, .inl a3)] [] t 0 0 := by
    intro k4 hk4 o0 a1 a3 t h
    refine wp_go hR9 (cs := S_X5_nextTo) (Bk := (fun pc vs ws t => match pc with | 49 => (match vs, ws with | [.inr (.inl (20, o0)), .inl a1, .inl a2, .inl a3], [] => B_X5_nextTo_49 M (fun r t1 => post (some (.inl r)) t1) px k4 o0 a1 a2 a3 t | _, _ => False) | _ => False)) ?_ 400 47 _ _ _ _ _ h
    intro pc q vs ws t hc hk
    split at hk
    · cases hc
      split at hk
      · exact W49 _ hk4 _ _ _ _ _ hk
      · exact hk.elim
    · exact hk.elim
  have W4 : ∀ (n : Nat) (o0 : Nat) (a1 : Int32) (a2 : Int32) (a3 : Int32) (t : TT), L_X5_nextTo_4 M (fun r t1 => post (some (.inl r)) t1) px n o0 a1 a2 a3 t → Wat p l e ({ frames := 0, cells := 0, slots := 0, locals := 0 } : Room) s m args below meth c (QM below args s D X ad A M 0 0 post px) D X ad A M 4 4 [(0, .inr (.inl (20, o0))), (1, .inl a1), (2, .inl a2), (3, .inl a3)] [] t 0 0 := by
    intro n
    induction n with
    | zero =>
      intro o0 a1 a2 a3 t h
      exact h.elim
    | succ n ih =>
      intro o0 a1 a2 a3 t h
      refine wp_go hR9 (cs := S_X5_nextTo) (Bk := (fun pc vs ws t => match pc with | 47 => (match vs, ws with | [.inr (.inl (20, o0)), .inl a1, .inl a3], [] => B_X5_nextTo_47 M (fun r t1 => post (some (.inl r)) t1) px (L_X5_nextTo_4 M (fun r t1 => post (some (.inl r)) t1) px n) o0 a1 a3 t | _, _ => False) | 49 => (match vs, ws with | [.inr (.inl (20, o0)), .inl a1, .inl a2, .inl a3], [] => B_X5_nextTo_49 M (fun r t1 => post (some (.inl r)) t1) px (L_X5_nextTo_4 M (fun r t1 => post (some (.inl r)) t1) px n) o0 a1 a2 a3 t | _, _ => False) | _ => False)) ?_ 400 4 _ _ _ _ _ h
      intro pc q vs ws t hc hk
      split at hk
      · cases hc
        split at hk
        · exact W47 _ ih _ _ _ _ hk
        · exact hk.elim
      · cases hc
        split at hk
        · exact W49 _ ih _ _ _ _ _ hk
        · exact hk.elim
      · exact hk.elim
  refine wp_go hR9 (cs := S_X5_nextTo) (Bk := (fun pc vs ws t => match pc with | 4 => (match vs, ws with | [.inr (.inl (20, o0)), .inl a1, .inl a2, .inl a3], [] => ∃ n9, L_X5_nextTo_4 M (fun r t1 => post (some (.inl r)) t1) px n9 o0 a1 a2 a3 t | _, _ => False) | _ => False)) ?_ 400 0 _ _ _ _ _ h
  intro pc q vs ws t hc hk
  split at hk
  · cases hc
    split at hk
    · obtain ⟨n9, hk⟩ := hk
      exact W4 n9 _ _ _ _ _ hk
    · exact hk.elim
  · exact hk.elim
theorem k_X5_nextTo (hx : p.tables.exec = Jvm.exec) (hb : c.code = b) (hml : c.maxLocals = nL) (hts : ∀ w ∈ LT, w.before args s = true) {own : String} (hown : s.vm.findClass own = some m.cls) (hK : va_K D vwCl (TYX X) s) (hA : ∀ q, s.heap.size ≤ q → A q) (hE : EX A s) (hst9 : l.stackTraces = false) {ix : Nat} (hl9 : Cond.methodLink own ix yX5_nextTo ∈ LT) (hR : 1 ≤ R.frames ∧ 23 ≤ R.locals) (hmc : R.cells = mc) (hms : R.slots = ms) (h : PC_X5_nextTo M as t k kx) : CallOK p l e R s m args below meth c Q D X ad A M nL b mc ms (.invokevirtual ix) 0 0 as t k kx := by
  unfold PC_X5_nextTo at h
  split at h
  · exact call_V hx hb hml hts hown hK hA hE (c_X5_nextTo hst9 _ _ t h.2) ⟨hl9, ws_X5_nextTo.1, ws_X5_nextTo.2.1, ws_X5_nextTo.2.2.1, ws_X5_nextTo.2.2.2⟩ (n := 1) (by decide +kernel) hR rfl rfl hmc hms rfl ⟨20, _, rfl, h.1, Or.inr (Or.inr (Or.inr (Or.inr (Or.inr rfl)))), rfl⟩
  · exact CallOK.congr (by simp only [List.map_cons]; congr 1; exact (if_neg h.1).symm) (call_V hx hb hml hts hown hK hA hE (c_X5_nextTo hst9 _ _ t h.2.2) ⟨hl9, ws_X5_nextTo.1, ws_X5_nextTo.2.1, ws_X5_nextTo.2.2.1, ws_X5_nextTo.2.2.2⟩ (n := 1) (by decide +kernel) hR rfl rfl hmc hms rfl ⟨20, _, rfl, h.2.1, Or.inr (Or.inr (Or.inr (Or.inr (Or.inr rfl)))), rfl⟩)
  · exact h.elim
def Q_X5_givenTo (M : Nat → Nat → Bool) (ix : Nat) (as : List VV) (t : TT) (k : Option VV → TT → Prop) (kx : String → TT → Prop) : Prop := match ix with
  | 122 => PC_X5_nextTo M as t k kx
  | _ => False
def N_X5_givenTo (v : Bool) (ix : Nat) : Option (Nat × Nat × Nat) := match v, ix with
  | true, 122 => some (2, 0, 0)
  | _, _ => none
def S_X5_givenTo (pc : Nat) : Option (List (Nat × Nat × Nat) × List (Nat × Nat) × Nat × Nat) := match pc with
  | 99 => some ([(0, 1, 20), (1, 0, 0), (3, 0, 0), (4, 0, 0)], [], 0, 0)
  | 45 => some ([(0, 1, 20), (1, 0, 0), (3, 0, 0), (4, 0, 0)], [], 0, 0)
  | 41 => some ([(0, 1, 20), (1, 0, 0)], [(0, 0)], 0, 0)
  | 26 => some ([(0, 1, 20), (1, 0, 0)], [(0, 0)], 0, 0)
  | _ => none
def H_X5_givenTo (pc : Nat) : Option String := none
set_option maxRecDepth 100000 in
set_option maxHeartbeats 4000000 in
theorem c_X5_givenTo {l : Launch} (hst9 : l.stackTraces = false) {D : va_G} {X : Nat → ClassId} {ad : Nat → Nat → Nat} {M : Nat → Nat → Bool} {post : Option VV → TT → Prop} {px : String → TT → Prop} (o0 : Nat) (a1 : Int32) (t : TT) (h : P_X5_givenTo M (fun r t1 => post (some (.inl r)) t1) px o0 a1 t) : CT l yX5_givenTo (Cond.code yX5_givenTo cX5_givenTo 5 (some .int) :: LT) ({ frames := 1, cells := 0, slots := 0, locals := 23 } : Room) D X ad M [.inr (.inl (20, o0)), .inl a1] t 0 0 post px := by
  refine met_of_wp (by decide +kernel) (Nat.le_of_ble_eq_true rfl) ?_
  intro p e s m args below meth c A hx hb hml hts hown hK hnt hlocks hr hA hE
  have hR9 : Ready p l e ({ frames := 1, cells := 0, slots := 0, locals := 23 } : Room) s m args below meth c D X ad A M 5 cX5_givenTo 0 0 post px RX5 1 (fldOf F_X5) N_X5_givenTo (Q_X5_givenTo M) (tabOf T_X5_givenTo) H_X5_givenTo := by
    refine ⟨hx, hb, hts, hown, hK, hnt, hlocks, hr, F_X5_ok, ?_, fun pc en h => tabOf_ok T_X5_givenTo_ok h, ?_⟩
    · intro v9 ix n mc1 ms1 as t k hn hl h
      unfold N_X5_givenTo at hn
      split at hn
      · cases hn
        exact k_X5_nextTo hx hb hml hts hown hK hA hE hst9 (by decide +kernel) ⟨Nat.le_of_ble_eq_true rfl, Nat.le_of_ble_eq_true rfl⟩ rfl rfl h
      · cases hn
    · intro pc E hE9; cases hE9
  have W99 : ∀ (k45 : Nat → Int32 → Int32 → Int32 → TT → Prop) (hk45 : ∀ (o0 : Nat) (a1 : Int32) (a3 : Int32) (a4 : Int32) (t : TT), k45 o0 a1 a3 a4 t → Wat p l e ({ frames := 1, cells := 0, slots := 0, locals := 23 } : Room) s m args below meth c (QM below args s D X ad A M 0 0 post px) D X ad A M 5 45 [(0, .inr (.inl (20, o0))), (1, .inl a1), (3, .inl a3), (4, .inl a4)] [] t 0 0) (o0 : Nat) (a1 : Int32) (a3 : Int32) (a4 : Int32) (t : TT), B_X5_givenTo_99 M (fun r t1 => post (some (.inl r)) t1) px k45 o0 a1 a3 a4 t → Wat p l e ({ frames := 1, cells := 0, slots := 0, locals := 23 } : Room) s m args below meth c (QM below args s D X ad A M 0 0 post px) D X ad A M 5 99 [(0, .inr (.inl (20, o0))), (1, .inl a1), (3, .inl a3), (4, .inl a4)] [] t 0 0 := by
    intro k45 hk45 o0 a1 a3 a4 t h
    refine wp_go hR9 (cs := S_X5_givenTo) (Bk := (fun pc vs ws t => match pc with | 45 => (match vs, ws with | [.inr (.inl (20, o0)), .inl a1, .inl a3, .inl a4], [] => k45 o0 a1 a3 a4 t | _, _ => False) | _ => False)) ?_ 400 99 _ _ _ _ _ h
    intro pc q vs ws t hc hk
    split at hk
    · cases hc
      split at hk
      · exact hk45 _ _ _ _ _ hk
      · exact hk.elim
    · exact hk.elim
  have W45 : ∀ (n : Nat) (o0 : Nat) (a1 : Int32) (a3 : Int32) (a4 : Int32) (t : TT), L_X5_givenTo_45 M (fun r t1 => post (some (.inl r)) t1) px n o0 a1 a3 a4 t → Wat p l e ({ frames := 1, cells := 0, slots := 0, locals := 23 } : Room) s m args below meth c (QM below args s D X ad A M 0 0 post px) D X ad A M 5 45 [(0, .inr (.inl (20, o0))), (1, .inl a1), (3, .inl a3), (4, .inl a4)] [] t 0 0 := by
    intro n
    induction n with
    | zero =>
      intro o0 a1 a3 a4 t h
      exact h.elim
    | succ n ih =>
      intro o0 a1 a3 a4 t h
      refine wp_go hR9 (cs := S_X5_givenTo) (Bk := (fun pc vs ws t => match pc with | 99 => (match vs, ws with | [.inr (.inl (20, o0)), .inl a1, .inl a3, .inl a4], [] => B_X5_givenTo_99 M (fun r t1 => post (some (.inl r)) t1) px (L_X5_givenTo_45 M (fun r t1 => post (some (.inl r)) t1) px n) o0 a1 a3 a4 t | _, _ => False) | _ => False)) ?_ 400 45 _ _ _ _ _ h
      intro pc q vs ws t hc hk
      split at hk
      · cases hc
        split at hk
        · exact W99 _ ih _ _ _ _ _ hk
        · exact hk.elim
      · exact hk.elim
  have W41 : ∀ (o0 : Nat) (a1 : Int32) (s0 : Int32) (t : TT), B_X5_givenTo_41 M (fun r t1 => post (some (.inl r)) t1) px o0 a1 s0 t → Wat p l e ({ frames := 1, cells := 0, slots := 0, locals := 23 } : Room) s m args below meth c (QM below args s D X ad A M 0 0 post px) D X ad A M 5 41 [(0, .inr (.inl (20, o0))), (1, .inl a1)] [.inl s0] t 0 0 := by
    intro o0 a1 s0 t h
    refine wp_go hR9 (cs := S_X5_givenTo) (Bk := (fun pc vs ws t => match pc with | 45 => (match vs, ws with | [.inr (.inl (20, o0)), .inl a1, .inl a3, .inl a4], [] => ∃ n9, L_X5_givenTo_45 M (fun r t1 => post (some (.inl r)) t1) px n9 o0 a1 a3 a4 t | _, _ => False) | _ => False)) ?_ 400 41 _ _ _ _ _ h
    intro pc q vs ws t hc hk
    split at hk
    · cases hc
      split at hk
      · obtain ⟨n9, hk⟩ := hk
        exact W45 n9 _ _ _ _ _ hk
      · exact hk.elim
    · exact hk.elim
  have W26 : ∀ (o0 : Nat) (a1 : Int32) (s0 : Int32) (t : TT), B_X5_givenTo_26 M (fun r t1 => post (some (.inl r)) t1) px o0 a1 s0 t → Wat p l e ({ frames := 1, cells := 0, slots := 0, locals := 23 } : Room) s m args below meth c (QM below args s D X ad A M 0 0 post px) D X ad A M 5 26 [(0, .inr (.inl (20, o0))), (1, .inl a1)] [.inl s0] t 0 0 := by
    intro o0 a1 s0 t h
    refine wp_go hR9 (cs := S_X5_givenTo) (Bk := (fun pc vs ws t => match pc with | 41 => (match vs, ws with | [.inr (.inl (20, o0)), .inl a1], [.inl s0] => B_X5_givenTo_41 M (fun r t1 => post (some (.inl r)) t1) px o0 a1 s0 t | _, _ => False) | _ => False)) ?_ 400 26 _ _ _ _ _ h
    intro pc q vs ws t hc hk
    split at hk
    · cases hc
      split at hk
      · exact W41 _ _ _ _ hk
      · exact hk.elim
    · exact hk.elim
  refine wp_go hR9 (cs := S_X5_givenTo) (Bk := (fun pc vs ws t => match pc with | 26 => (match vs, ws with | [.inr (.inl (20, o0)), .inl a1], [.inl s0] => B_X5_givenTo_26 M (fun r t1 => post (some (.inl r)) t1) px o0 a1 s0 t | _, _ => False) | _ => False)) ?_ 400 0 _ _ _ _ _ h
  intro pc q vs ws t hc hk
  split at hk
  · cases hc
    split at hk
    · exact W26 _ _ _ _ hk
    · exact hk.elim
  · exact hk.elim
theorem k_X5_givenTo (hx : p.tables.exec = Jvm.exec) (hb : c.code = b) (hml : c.maxLocals = nL) (hts : ∀ w ∈ LT, w.before args s = true) {own : String} (hown : s.vm.findClass own = some m.cls) (hK : va_K D vwCl (TYX X) s) (hA : ∀ q, s.heap.size ≤ q → A q) (hE : EX A s) (hst9 : l.stackTraces = false) {ix : Nat} (hl9 : Cond.methodLink own ix yX5_givenTo ∈ LT) (hR : 2 ≤ R.frames ∧ 47 ≤ R.locals) (hmc : R.cells = mc) (hms : R.slots = ms) (h : PC_X5_givenTo M as t k kx) : CallOK p l e R s m args below meth c Q D X ad A M nL b mc ms (.invokevirtual ix) 0 0 as t k kx := by
  unfold PC_X5_givenTo at h
  split at h
  · exact call_V hx hb hml hts hown hK hA hE (c_X5_givenTo hst9 _ _ t h.2) ⟨hl9, ws_X5_givenTo.1, ws_X5_givenTo.2.1, ws_X5_givenTo.2.2.1, ws_X5_givenTo.2.2.2⟩ (n := 1) (by decide +kernel) hR rfl rfl hmc hms rfl ⟨20, _, rfl, h.1, Or.inr (Or.inr (Or.inr (Or.inr (Or.inr rfl)))), rfl⟩
  · exact CallOK.congr (by simp only [List.map_cons]; congr 1; exact (if_neg h.1).symm) (call_V hx hb hml hts hown hK hA hE (c_X5_givenTo hst9 _ _ t h.2.2) ⟨hl9, ws_X5_givenTo.1, ws_X5_givenTo.2.1, ws_X5_givenTo.2.2.1, ws_X5_givenTo.2.2.2⟩ (n := 1) (by decide +kernel) hR rfl rfl hmc hms rfl ⟨20, _, rfl, h.2.1, Or.inr (Or.inr (Or.inr (Or.inr (Or.inr rfl)))), rfl⟩)
  · exact h.elim
def Q_X5_deal (M : Nat → Nat → Bool) (ix : Nat) (as : List VV) (t : TT) (k : Option VV → TT → Prop) (kx : String → TT → Prop) : Prop := match ix with
  | 128 => PC_X5_givenTo M as t k kx
  | _ => False
def N_X5_deal (v : Bool) (ix : Nat) : Option (Nat × Nat × Nat) := match v, ix with
  | true, 128 => some (2, 0, 0)
  | _, _ => none
def S_X5_deal (pc : Nat) : Option (List (Nat × Nat × Nat) × List (Nat × Nat) × Nat × Nat) := match pc with
  | 38 => some ([(0, 1, 20), (1, 0, 0)], [(0, 0), (0, 0), (26, 21)], 0, 0)
  | 2 => some ([(0, 1, 20), (1, 0, 0)], [], 0, 0)
  | _ => none
def H_X5_deal (pc : Nat) : Option String := none
set_option maxRecDepth 100000 in
set_option maxHeartbeats 4000000 in
theorem c_X5_deal {l : Launch} (hst9 : l.stackTraces = false) {D : va_G} {X : Nat → ClassId} {ad : Nat → Nat → Nat} {M : Nat → Nat → Bool} {post : Option VV → TT → Prop} {px : String → TT → Prop} (o0 : Nat) (t : TT) (h : P_X5_deal M (fun t1 => post none t1) px o0 t) : CT l yX5_deal (Cond.code yX5_deal cX5_deal 2 none :: LT) ({ frames := 2, cells := 0, slots := 0, locals := 47 } : Room) D X ad M [.inr (.inl (20, o0))] t 0 0 post px := by
  refine met_of_wp (by decide +kernel) (Nat.le_of_ble_eq_true rfl) ?_
  intro p e s m args below meth c A hx hb hml hts hown hK hnt hlocks hr hA hE
  have hR9 : Ready p l e ({ frames := 2, cells := 0, slots := 0, locals := 47 } : Room) s m args below meth c D X ad A M 2 cX5_deal 0 0 post px RX5 0 (fldOf F_X5) N_X5_deal (Q_X5_deal M) (tabOf T_X5_deal) H_X5_deal := by
    refine ⟨hx, hb, hts, hown, hK, hnt, hlocks, hr, F_X5_ok, ?_, fun pc en h => tabOf_ok T_X5_deal_ok h, ?_⟩
    · intro v9 ix n mc1 ms1 as t k hn hl h
      unfold N_X5_deal at hn
      split at hn
      · cases hn
        exact k_X5_givenTo hx hb hml hts hown hK hA hE hst9 (by decide +kernel) ⟨Nat.le_of_ble_eq_true rfl, Nat.le_of_ble_eq_true rfl⟩ rfl rfl h
      · cases hn
    · intro pc E hE9; cases hE9
  have W38 : ∀ (k2 : Nat → Int32 → TT → Prop) (hk2 : ∀ (o0 : Nat) (a1 : Int32) (t : TT), k2 o0 a1 t → Wat p l e ({ frames := 2, cells := 0, slots := 0, locals := 47 } : Room) s m args below meth c (QM below args s D X ad A M 0 0 post px) D X ad A M 2 2 [(0, .inr (.inl (20, o0))), (1, .inl a1)] [] t 0 0) (o0 : Nat) (a1 : Int32) (s0 : Int32) (s1 : Int32) (t : TT), B_X5_deal_38 M (fun t1 => post none t1) px k2 o0 a1 s0 s1 t → Wat p l e ({ frames := 2, cells := 0, slots := 0, locals := 47 } : Room) s m args below meth c (QM below args s D X ad A M 0 0 post px) D X ad A M 2 38 [(0, .inr (.inl (20, o0))), (1, .inl a1)] [.inl s0, .inl s1, .inr (.inl (21, 23))] t 0 0 := by
    intro k2 hk2 o0 a1 s0 s1 t h
    refine wp_go hR9 (cs := S_X5_deal) (Bk := (fun pc vs ws t => match pc with | 2 => (match vs, ws with | [.inr (.inl (20, o0)), .inl a1], [] => k2 o0 a1 t | _, _ => False) | _ => False)) ?_ 400 38 _ _ _ _ _ h
    intro pc q vs ws t hc hk
    split at hk
    · cases hc
      split at hk
      · exact hk2 _ _ _ hk
      · exact hk.elim
    · exact hk.elim
  have W2 : ∀ (n : Nat) (o0 : Nat) (a1 : Int32) (t : TT), L_X5_deal_2 M (fun t1 => post none t1) px n o0 a1 t → Wat p l e ({ frames := 2, cells := 0, slots := 0, locals := 47 } : Room) s m args below meth c (QM below args s D X ad A M 0 0 post px) D X ad A M 2 2 [(0, .inr (.inl (20, o0))), (1, .inl a1)] [] t 0 0 := by
    intro n
    induction n with
    | zero =>
      intro o0 a1 t h
      exact h.elim
    | succ n ih =>
      intro o0 a1 t h
      refine wp_go hR9 (cs := S_X5_deal) (Bk := (fun pc vs ws t => match pc with | 38 => (match vs, ws with | [.inr (.inl (20, o0)), .inl a1], [.inl s0, .inl s1, .inr (.inl (21, 23))] => B_X5_deal_38 M (fun t1 => post none t1) px (L_X5_deal_2 M (fun t1 => post none t1) px n) o0 a1 s0 s1 t | _, _ => False) | _ => False)) ?_ 400 2 _ _ _ _ _ h
      intro pc q vs ws t hc hk
      split at hk
      · cases hc
        split at hk
        · exact W38 _ ih _ _ _ _ _ hk
        · exact hk.elim
      · exact hk.elim
  refine wp_go hR9 (cs := S_X5_deal) (Bk := (fun pc vs ws t => match pc with | 2 => (match vs, ws with | [.inr (.inl (20, o0)), .inl a1], [] => ∃ n9, L_X5_deal_2 M (fun t1 => post none t1) px n9 o0 a1 t | _, _ => False) | _ => False)) ?_ 400 0 _ _ _ _ _ h
  intro pc q vs ws t hc hk
  split at hk
  · cases hc
    split at hk
    · obtain ⟨n9, hk⟩ := hk
      exact W2 n9 _ _ _ hk
    · exact hk.elim
  · exact hk.elim
theorem k_X5_deal (hx : p.tables.exec = Jvm.exec) (hb : c.code = b) (hml : c.maxLocals = nL) (hts : ∀ w ∈ LT, w.before args s = true) {own : String} (hown : s.vm.findClass own = some m.cls) (hK : va_K D vwCl (TYX X) s) (hA : ∀ q, s.heap.size ≤ q → A q) (hE : EX A s) (hst9 : l.stackTraces = false) {ix : Nat} (hl9 : Cond.methodLink own ix yX5_deal ∈ LT) (hR : 3 ≤ R.frames ∧ 68 ≤ R.locals) (hmc : R.cells = mc) (hms : R.slots = ms) (h : PC_X5_deal M as t k kx) : CallOK p l e R s m args below meth c Q D X ad A M nL b mc ms (.invokevirtual ix) 0 0 as t k kx := by
  unfold PC_X5_deal at h
  split at h
  · exact call_V hx hb hml hts hown hK hA hE (c_X5_deal hst9 _ t h.2) ⟨hl9, ws_X5_deal.1, ws_X5_deal.2.1, ws_X5_deal.2.2.1, ws_X5_deal.2.2.2⟩ (n := 0) (by decide +kernel) hR rfl rfl hmc hms rfl ⟨20, _, rfl, h.1, Or.inr (Or.inr (Or.inr (Or.inr (Or.inr rfl)))), rfl⟩
  · exact CallOK.congr (by simp only [List.map_cons]; congr 1; exact (if_neg h.1).symm) (call_V hx hb hml hts hown hK hA hE (c_X5_deal hst9 _ t h.2.2) ⟨hl9, ws_X5_deal.1, ws_X5_deal.2.1, ws_X5_deal.2.2.1, ws_X5_deal.2.2.2⟩ (n := 0) (by decide +kernel) hR rfl rfl hmc hms rfl ⟨20, _, rfl, h.2.1, Or.inr (Or.inr (Or.inr (Or.inr (Or.inr rfl)))), rfl⟩)
  · exact h.elim
def Q_X5_platform (M : Nat → Nat → Bool) (ix : Nat) (as : List VV) (t : TT) (k : Option VV → TT → Prop) (kx : String → TT → Prop) : Prop := match ix with
  | 111 => PC_X5_in M as t k kx
  | 131 => PC_X5_isFine M as t k kx
  | _ => False
def N_X5_platform (v : Bool) (ix : Nat) : Option (Nat × Nat × Nat) := match v, ix with
  | false, 111 => some (3, 0, 0)
  | true, 131 => some (2, 0, 0)
  | _, _ => none
def S_X5_platform (pc : Nat) : Option (List (Nat × Nat × Nat) × List (Nat × Nat) × Nat × Nat) := match pc with
  | 31 => some ([(0, 1, 20), (1, 0, 0)], [(0, 0), (1, 20)], 0, 0)
  | _ => none
def H_X5_platform (pc : Nat) : Option String := none
set_option maxRecDepth 100000 in
set_option maxHeartbeats 4000000 in
theorem c_X5_platform {l : Launch} (hst9 : l.stackTraces = false) {D : va_G} {X : Nat → ClassId} {ad : Nat → Nat → Nat} {M : Nat → Nat → Bool} {post : Option VV → TT → Prop} {px : String → TT → Prop} (o0 : Nat) (a1 : Int32) (t : TT) (h : P_X5_platform M (fun r t1 => post (some (.inl r)) t1) px o0 a1 t) : CT l yX5_platform (Cond.code yX5_platform cX5_platform 2 (some .int) :: LT) ({ frames := 1, cells := 0, slots := 0, locals := 22 } : Room) D X ad M [.inr (.inl (20, o0)), .inl a1] t 0 0 post px := by
  refine met_of_wp (by decide +kernel) (Nat.le_of_ble_eq_true rfl) ?_
  intro p e s m args below meth c A hx hb hml hts hown hK hnt hlocks hr hA hE
  have hR9 : Ready p l e ({ frames := 1, cells := 0, slots := 0, locals := 22 } : Room) s m args below meth c D X ad A M 2 cX5_platform 0 0 post px RX5 1 (fldOf F_X5) N_X5_platform (Q_X5_platform M) (tabOf T_X5_platform) H_X5_platform := by
    refine ⟨hx, hb, hts, hown, hK, hnt, hlocks, hr, F_X5_ok, ?_, fun pc en h => tabOf_ok T_X5_platform_ok h, ?_⟩
    · intro v9 ix n mc1 ms1 as t k hn hl h
      unfold N_X5_platform at hn
      split at hn
      · cases hn
        exact k_X5_in hx hb hml hts hown hK hA hE hst9 (by decide +kernel) ⟨Nat.le_of_ble_eq_true rfl, Nat.le_of_ble_eq_true rfl⟩ rfl rfl h
      · cases hn
        exact k_X5_isFine hx hb hml hts hown hK hA hE hst9 (by decide +kernel) ⟨Nat.le_of_ble_eq_true rfl, Nat.le_of_ble_eq_true rfl⟩ rfl rfl h
      · cases hn
    · intro pc E hE9; cases hE9
  have W31 : ∀ (o0 : Nat) (a1 : Int32) (s0 : Int32) (u1 : Nat) (t : TT), B_X5_platform_31 M (fun r t1 => post (some (.inl r)) t1) px o0 a1 s0 u1 t → Wat p l e ({ frames := 1, cells := 0, slots := 0, locals := 22 } : Room) s m args below meth c (QM below args s D X ad A M 0 0 post px) D X ad A M 2 31 [(0, .inr (.inl (20, o0))), (1, .inl a1)] [.inl s0, .inr (.inl (20, u1))] t 0 0 := by
    intro o0 a1 s0 u1 t h
    refine wp_go hR9 (cs := S_X5_platform) (Bk := (fun _ _ _ _ => False)) ?_ 400 31 _ _ _ _ _ h
    intro pc q vs ws t hc hk
    exact hk.elim
  refine wp_go hR9 (cs := S_X5_platform) (Bk := (fun pc vs ws t => match pc with | 31 => (match vs, ws with | [.inr (.inl (20, o0)), .inl a1], [.inl s0, .inr (.inl (20, u1))] => B_X5_platform_31 M (fun r t1 => post (some (.inl r)) t1) px o0 a1 s0 u1 t | _, _ => False) | _ => False)) ?_ 400 0 _ _ _ _ _ h
  intro pc q vs ws t hc hk
  split at hk
  · cases hc
    split at hk
    · exact W31 _ _ _ _ _ hk
    · exact hk.elim
  · exact hk.elim
theorem k_X5_platform (hx : p.tables.exec = Jvm.exec) (hb : c.code = b) (hml : c.maxLocals = nL) (hts : ∀ w ∈ LT, w.before args s = true) {own : String} (hown : s.vm.findClass own = some m.cls) (hK : va_K D vwCl (TYX X) s) (hA : ∀ q, s.heap.size ≤ q → A q) (hE : EX A s) (hst9 : l.stackTraces = false) {ix : Nat} (hl9 : Cond.methodLink own ix yX5_platform ∈ LT) (hR : 2 ≤ R.frames ∧ 43 ≤ R.locals) (hmc : R.cells = mc) (hms : R.slots = ms) (h : PC_X5_platform M as t k kx) : CallOK p l e R s m args below meth c Q D X ad A M nL b mc ms (.invokevirtual ix) 0 0 as t k kx := by
  unfold PC_X5_platform at h
  split at h
  · exact call_V hx hb hml hts hown hK hA hE (c_X5_platform hst9 _ _ t h.2) ⟨hl9, ws_X5_platform.1, ws_X5_platform.2.1, ws_X5_platform.2.2.1, ws_X5_platform.2.2.2⟩ (n := 1) (by decide +kernel) hR rfl rfl hmc hms rfl ⟨20, _, rfl, h.1, Or.inr (Or.inr (Or.inr (Or.inr (Or.inr rfl)))), rfl⟩
  · exact CallOK.congr (by simp only [List.map_cons]; congr 1; exact (if_neg h.1).symm) (call_V hx hb hml hts hown hK hA hE (c_X5_platform hst9 _ _ t h.2.2) ⟨hl9, ws_X5_platform.1, ws_X5_platform.2.1, ws_X5_platform.2.2.1, ws_X5_platform.2.2.2⟩ (n := 1) (by decide +kernel) hR rfl rfl hmc hms rfl ⟨20, _, rfl, h.2.1, Or.inr (Or.inr (Or.inr (Or.inr (Or.inr rfl)))), rfl⟩)
  · exact h.elim
def Q_X5_beacon (M : Nat → Nat → Bool) (ix : Nat) (as : List VV) (t : TT) (k : Option VV → TT → Prop) (kx : String → TT → Prop) : Prop := match ix with
  | 111 => PC_X5_in M as t k kx
  | 131 => PC_X5_isFine M as t k kx
  | _ => False
def N_X5_beacon (v : Bool) (ix : Nat) : Option (Nat × Nat × Nat) := match v, ix with
  | false, 111 => some (3, 0, 0)
  | true, 131 => some (2, 0, 0)
  | _, _ => none
def S_X5_beacon (pc : Nat) : Option (List (Nat × Nat × Nat) × List (Nat × Nat) × Nat × Nat) := match pc with
  | 30 => some ([(0, 1, 20), (1, 0, 0)], [(0, 0), (1, 20)], 0, 0)
  | _ => none
def H_X5_beacon (pc : Nat) : Option String := none
set_option maxRecDepth 100000 in
set_option maxHeartbeats 4000000 in
theorem c_X5_beacon {l : Launch} (hst9 : l.stackTraces = false) {D : va_G} {X : Nat → ClassId} {ad : Nat → Nat → Nat} {M : Nat → Nat → Bool} {post : Option VV → TT → Prop} {px : String → TT → Prop} (o0 : Nat) (a1 : Int32) (t : TT) (h : P_X5_beacon M (fun r t1 => post (some (.inl r)) t1) px o0 a1 t) : CT l yX5_beacon (Cond.code yX5_beacon cX5_beacon 2 (some .int) :: LT) ({ frames := 1, cells := 0, slots := 0, locals := 22 } : Room) D X ad M [.inr (.inl (20, o0)), .inl a1] t 0 0 post px := by
  refine met_of_wp (by decide +kernel) (Nat.le_of_ble_eq_true rfl) ?_
  intro p e s m args below meth c A hx hb hml hts hown hK hnt hlocks hr hA hE
  have hR9 : Ready p l e ({ frames := 1, cells := 0, slots := 0, locals := 22 } : Room) s m args below meth c D X ad A M 2 cX5_beacon 0 0 post px RX5 1 (fldOf F_X5) N_X5_beacon (Q_X5_beacon M) (tabOf T_X5_beacon) H_X5_beacon := by
    refine ⟨hx, hb, hts, hown, hK, hnt, hlocks, hr, F_X5_ok, ?_, fun pc en h => tabOf_ok T_X5_beacon_ok h, ?_⟩
    · intro v9 ix n mc1 ms1 as t k hn hl h
      unfold N_X5_beacon at hn
      split at hn
      · cases hn
        exact k_X5_in hx hb hml hts hown hK hA hE hst9 (by decide +kernel) ⟨Nat.le_of_ble_eq_true rfl, Nat.le_of_ble_eq_true rfl⟩ rfl rfl h
      · cases hn
        exact k_X5_isFine hx hb hml hts hown hK hA hE hst9 (by decide +kernel) ⟨Nat.le_of_ble_eq_true rfl, Nat.le_of_ble_eq_true rfl⟩ rfl rfl h
      · cases hn
    · intro pc E hE9; cases hE9
  have W30 : ∀ (o0 : Nat) (a1 : Int32) (s0 : Int32) (u1 : Nat) (t : TT), B_X5_beacon_30 M (fun r t1 => post (some (.inl r)) t1) px o0 a1 s0 u1 t → Wat p l e ({ frames := 1, cells := 0, slots := 0, locals := 22 } : Room) s m args below meth c (QM below args s D X ad A M 0 0 post px) D X ad A M 2 30 [(0, .inr (.inl (20, o0))), (1, .inl a1)] [.inl s0, .inr (.inl (20, u1))] t 0 0 := by
    intro o0 a1 s0 u1 t h
    refine wp_go hR9 (cs := S_X5_beacon) (Bk := (fun _ _ _ _ => False)) ?_ 400 30 _ _ _ _ _ h
    intro pc q vs ws t hc hk
    exact hk.elim
  refine wp_go hR9 (cs := S_X5_beacon) (Bk := (fun pc vs ws t => match pc with | 30 => (match vs, ws with | [.inr (.inl (20, o0)), .inl a1], [.inl s0, .inr (.inl (20, u1))] => B_X5_beacon_30 M (fun r t1 => post (some (.inl r)) t1) px o0 a1 s0 u1 t | _, _ => False) | _ => False)) ?_ 400 0 _ _ _ _ _ h
  intro pc q vs ws t hc hk
  split at hk
  · cases hc
    split at hk
    · exact W30 _ _ _ _ _ hk
    · exact hk.elim
  · exact hk.elim
theorem k_X5_beacon (hx : p.tables.exec = Jvm.exec) (hb : c.code = b) (hml : c.maxLocals = nL) (hts : ∀ w ∈ LT, w.before args s = true) {own : String} (hown : s.vm.findClass own = some m.cls) (hK : va_K D vwCl (TYX X) s) (hA : ∀ q, s.heap.size ≤ q → A q) (hE : EX A s) (hst9 : l.stackTraces = false) {ix : Nat} (hl9 : Cond.methodLink own ix yX5_beacon ∈ LT) (hR : 2 ≤ R.frames ∧ 43 ≤ R.locals) (hmc : R.cells = mc) (hms : R.slots = ms) (h : PC_X5_beacon M as t k kx) : CallOK p l e R s m args below meth c Q D X ad A M nL b mc ms (.invokevirtual ix) 0 0 as t k kx := by
  unfold PC_X5_beacon at h
  split at h
  · exact call_V hx hb hml hts hown hK hA hE (c_X5_beacon hst9 _ _ t h.2) ⟨hl9, ws_X5_beacon.1, ws_X5_beacon.2.1, ws_X5_beacon.2.2.1, ws_X5_beacon.2.2.2⟩ (n := 1) (by decide +kernel) hR rfl rfl hmc hms rfl ⟨20, _, rfl, h.1, Or.inr (Or.inr (Or.inr (Or.inr (Or.inr rfl)))), rfl⟩
  · exact CallOK.congr (by simp only [List.map_cons]; congr 1; exact (if_neg h.1).symm) (call_V hx hb hml hts hown hK hA hE (c_X5_beacon hst9 _ _ t h.2.2) ⟨hl9, ws_X5_beacon.1, ws_X5_beacon.2.1, ws_X5_beacon.2.2.1, ws_X5_beacon.2.2.2⟩ (n := 1) (by decide +kernel) hR rfl rfl hmc hms rfl ⟨20, _, rfl, h.2.1, Or.inr (Or.inr (Or.inr (Or.inr (Or.inr rfl)))), rfl⟩)
  · exact h.elim
def Q_X5_works (M : Nat → Nat → Bool) (ix : Nat) (as : List VV) (t : TT) (k : Option VV → TT → Prop) (kx : String → TT → Prop) : Prop := match ix with
  | 111 => PC_X5_in M as t k kx
  | 131 => PC_X5_isFine M as t k kx
  | _ => False
def N_X5_works (v : Bool) (ix : Nat) : Option (Nat × Nat × Nat) := match v, ix with
  | false, 111 => some (3, 0, 0)
  | true, 131 => some (2, 0, 0)
  | _, _ => none
def S_X5_works (pc : Nat) : Option (List (Nat × Nat × Nat) × List (Nat × Nat) × Nat × Nat) := match pc with
  | 20 => some ([(0, 1, 20), (1, 0, 0), (2, 0, 0)], [(0, 0), (1, 20)], 0, 0)
  | _ => none
def H_X5_works (pc : Nat) : Option String := none
set_option maxRecDepth 100000 in
set_option maxHeartbeats 4000000 in
theorem c_X5_works {l : Launch} (hst9 : l.stackTraces = false) {D : va_G} {X : Nat → ClassId} {ad : Nat → Nat → Nat} {M : Nat → Nat → Bool} {post : Option VV → TT → Prop} {px : String → TT → Prop} (o0 : Nat) (a1 : Int32) (a2 : Int32) (t : TT) (h : P_X5_works M (fun r t1 => post (some (.inl r)) t1) px o0 a1 a2 t) : CT l yX5_works (Cond.code yX5_works cX5_works 4 (some .boolean) :: LT) ({ frames := 1, cells := 0, slots := 0, locals := 22 } : Room) D X ad M [.inr (.inl (20, o0)), .inl a1, .inl a2] t 0 0 post px := by
  refine met_of_wp (by decide +kernel) (Nat.le_of_ble_eq_true rfl) ?_
  intro p e s m args below meth c A hx hb hml hts hown hK hnt hlocks hr hA hE
  have hR9 : Ready p l e ({ frames := 1, cells := 0, slots := 0, locals := 22 } : Room) s m args below meth c D X ad A M 4 cX5_works 0 0 post px RX5 2 (fldOf F_X5) N_X5_works (Q_X5_works M) (tabOf T_X5_works) H_X5_works := by
    refine ⟨hx, hb, hts, hown, hK, hnt, hlocks, hr, F_X5_ok, ?_, fun pc en h => tabOf_ok T_X5_works_ok h, ?_⟩
    · intro v9 ix n mc1 ms1 as t k hn hl h
      unfold N_X5_works at hn
      split at hn
      · cases hn
        exact k_X5_in hx hb hml hts hown hK hA hE hst9 (by decide +kernel) ⟨Nat.le_of_ble_eq_true rfl, Nat.le_of_ble_eq_true rfl⟩ rfl rfl h
      · cases hn
        exact k_X5_isFine hx hb hml hts hown hK hA hE hst9 (by decide +kernel) ⟨Nat.le_of_ble_eq_true rfl, Nat.le_of_ble_eq_true rfl⟩ rfl rfl h
      · cases hn
    · intro pc E hE9; cases hE9
  have W20 : ∀ (o0 : Nat) (a1 : Int32) (a2 : Int32) (s0 : Int32) (u1 : Nat) (t : TT), B_X5_works_20 M (fun r t1 => post (some (.inl r)) t1) px o0 a1 a2 s0 u1 t → Wat p l e ({ frames := 1, cells := 0, slots := 0, locals := 22 } : Room) s m args below meth c (QM below args s D X ad A M 0 0 post px) D X ad A M 4 20 [(0, .inr (.inl (20, o0))), (1, .inl a1), (2, .inl a2)] [.inl s0, .inr (.inl (20, u1))] t 0 0 := by
    intro o0 a1 a2 s0 u1 t h
    refine wp_go hR9 (cs := S_X5_works) (Bk := (fun _ _ _ _ => False)) ?_ 400 20 _ _ _ _ _ h
    intro pc q vs ws t hc hk
    exact hk.elim
  refine wp_go hR9 (cs := S_X5_works) (Bk := (fun pc vs ws t => match pc with | 20 => (match vs, ws with | [.inr (.inl (20, o0)), .inl a1, .inl a2], [.inl s0, .inr (.inl (20, u1))] => B_X5_works_20 M (fun r t1 => post (some (.inl r)) t1) px o0 a1 a2 s0 u1 t | _, _ => False) | _ => False)) ?_ 400 0 _ _ _ _ _ h
  intro pc q vs ws t hc hk
  split at hk
  · cases hc
    split at hk
    · exact W20 _ _ _ _ _ _ hk
    · exact hk.elim
  · exact hk.elim
theorem k_X5_works (hx : p.tables.exec = Jvm.exec) (hb : c.code = b) (hml : c.maxLocals = nL) (hts : ∀ w ∈ LT, w.before args s = true) {own : String} (hown : s.vm.findClass own = some m.cls) (hK : va_K D vwCl (TYX X) s) (hA : ∀ q, s.heap.size ≤ q → A q) (hE : EX A s) (hst9 : l.stackTraces = false) {ix : Nat} (hl9 : Cond.methodLink own ix yX5_works ∈ LT) (hR : 2 ≤ R.frames ∧ 45 ≤ R.locals) (hmc : R.cells = mc) (hms : R.slots = ms) (h : PC_X5_works M as t k kx) : CallOK p l e R s m args below meth c Q D X ad A M nL b mc ms (.invokevirtual ix) 0 0 as t k kx := by
  unfold PC_X5_works at h
  split at h
  · exact call_V hx hb hml hts hown hK hA hE (c_X5_works hst9 _ _ _ t h.2) ⟨hl9, ws_X5_works.1, ws_X5_works.2.1, ws_X5_works.2.2.1, ws_X5_works.2.2.2⟩ (n := 2) (by decide +kernel) hR rfl rfl hmc hms rfl ⟨20, _, rfl, h.1, Or.inr (Or.inr (Or.inr (Or.inr (Or.inr rfl)))), rfl⟩
  · exact CallOK.congr (by simp only [List.map_cons]; congr 1; exact (if_neg h.1).symm) (call_V hx hb hml hts hown hK hA hE (c_X5_works hst9 _ _ _ t h.2.2) ⟨hl9, ws_X5_works.1, ws_X5_works.2.1, ws_X5_works.2.2.1, ws_X5_works.2.2.2⟩ (n := 2) (by decide +kernel) hR rfl rfl hmc hms rfl ⟨20, _, rfl, h.2.1, Or.inr (Or.inr (Or.inr (Or.inr (Or.inr rfl)))), rfl⟩)
  · exact h.elim
def Q_X5_zone (M : Nat → Nat → Bool) (ix : Nat) (as : List VV) (t : TT) (k : Option VV → TT → Prop) (kx : String → TT → Prop) : Prop := match ix with
  | 111 => PC_X5_in M as t k kx
  | 131 => PC_X5_isFine M as t k kx
  | _ => False
def N_X5_zone (v : Bool) (ix : Nat) : Option (Nat × Nat × Nat) := match v, ix with
  | false, 111 => some (3, 0, 0)
  | true, 131 => some (2, 0, 0)
  | _, _ => none
def S_X5_zone (pc : Nat) : Option (List (Nat × Nat × Nat) × List (Nat × Nat) × Nat × Nat) := match pc with
  | 52 => some ([(0, 1, 20), (1, 0, 0), (2, 0, 0)], [(0, 0), (1, 20)], 0, 0)
  | 29 => some ([(0, 1, 20), (1, 0, 0), (2, 0, 0)], [(0, 0)], 0, 0)
  | 28 => some ([(0, 1, 20), (1, 0, 0), (2, 0, 0)], [], 0, 0)
  | _ => none
def H_X5_zone (pc : Nat) : Option String := none
set_option maxRecDepth 100000 in
set_option maxHeartbeats 4000000 in
theorem c_X5_zone {l : Launch} (hst9 : l.stackTraces = false) {D : va_G} {X : Nat → ClassId} {ad : Nat → Nat → Nat} {M : Nat → Nat → Bool} {post : Option VV → TT → Prop} {px : String → TT → Prop} (o0 : Nat) (a1 : Int32) (a2 : Int32) (t : TT) (h : P_X5_zone M (fun r t1 => post (some (.inl r)) t1) px o0 a1 a2 t) : CT l yX5_zone (Cond.code yX5_zone cX5_zone 4 (some .int) :: LT) ({ frames := 1, cells := 0, slots := 0, locals := 22 } : Room) D X ad M [.inr (.inl (20, o0)), .inl a1, .inl a2] t 0 0 post px := by
  refine met_of_wp (by decide +kernel) (Nat.le_of_ble_eq_true rfl) ?_
  intro p e s m args below meth c A hx hb hml hts hown hK hnt hlocks hr hA hE
  have hR9 : Ready p l e ({ frames := 1, cells := 0, slots := 0, locals := 22 } : Room) s m args below meth c D X ad A M 4 cX5_zone 0 0 post px RX5 1 (fldOf F_X5) N_X5_zone (Q_X5_zone M) (tabOf T_X5_zone) H_X5_zone := by
    refine ⟨hx, hb, hts, hown, hK, hnt, hlocks, hr, F_X5_ok, ?_, fun pc en h => tabOf_ok T_X5_zone_ok h, ?_⟩
    · intro v9 ix n mc1 ms1 as t k hn hl h
      unfold N_X5_zone at hn
      split at hn
      · cases hn
        exact k_X5_in hx hb hml hts hown hK hA hE hst9 (by decide +kernel) ⟨Nat.le_of_ble_eq_true rfl, Nat.le_of_ble_eq_true rfl⟩ rfl rfl h
      · cases hn
        exact k_X5_isFine hx hb hml hts hown hK hA hE hst9 (by decide +kernel) ⟨Nat.le_of_ble_eq_true rfl, Nat.le_of_ble_eq_true rfl⟩ rfl rfl h
      · cases hn
    · intro pc E hE9; cases hE9
  have W52 : ∀ (o0 : Nat) (a1 : Int32) (a2 : Int32) (s0 : Int32) (u1 : Nat) (t : TT), B_X5_zone_52 M (fun r t1 => post (some (.inl r)) t1) px o0 a1 a2 s0 u1 t → Wat p l e ({ frames := 1, cells := 0, slots := 0, locals := 22 } : Room) s m args below meth c (QM below args s D X ad A M 0 0 post px) D X ad A M 4 52 [(0, .inr (.inl (20, o0))), (1, .inl a1), (2, .inl a2)] [.inl s0, .inr (.inl (20, u1))] t 0 0 := by
    intro o0 a1 a2 s0 u1 t h
    refine wp_go hR9 (cs := S_X5_zone) (Bk := (fun _ _ _ _ => False)) ?_ 400 52 _ _ _ _ _ h
    intro pc q vs ws t hc hk
    exact hk.elim
  have W29 : ∀ (o0 : Nat) (a1 : Int32) (a2 : Int32) (s0 : Int32) (t : TT), B_X5_zone_29 M (fun r t1 => post (some (.inl r)) t1) px o0 a1 a2 s0 t → Wat p l e ({ frames := 1, cells := 0, slots := 0, locals := 22 } : Room) s m args below meth c (QM below args s D X ad A M 0 0 post px) D X ad A M 4 29 [(0, .inr (.inl (20, o0))), (1, .inl a1), (2, .inl a2)] [.inl s0] t 0 0 := by
    intro o0 a1 a2 s0 t h
    refine wp_go hR9 (cs := S_X5_zone) (Bk := (fun pc vs ws t => match pc with | 52 => (match vs, ws with | [.inr (.inl (20, o0)), .inl a1, .inl a2], [.inl s0, .inr (.inl (20, u1))] => B_X5_zone_52 M (fun r t1 => post (some (.inl r)) t1) px o0 a1 a2 s0 u1 t | _, _ => False) | _ => False)) ?_ 400 29 _ _ _ _ _ h
    intro pc q vs ws t hc hk
    split at hk
    · cases hc
      split at hk
      · exact W52 _ _ _ _ _ _ hk
      · exact hk.elim
    · exact hk.elim
  have W28 : ∀ (o0 : Nat) (a1 : Int32) (a2 : Int32) (t : TT), B_X5_zone_28 M (fun r t1 => post (some (.inl r)) t1) px o0 a1 a2 t → Wat p l e ({ frames := 1, cells := 0, slots := 0, locals := 22 } : Room) s m args below meth c (QM below args s D X ad A M 0 0 post px) D X ad A M 4 28 [(0, .inr (.inl (20, o0))), (1, .inl a1), (2, .inl a2)] [] t 0 0 := by
    intro o0 a1 a2 t h
    refine wp_go hR9 (cs := S_X5_zone) (Bk := (fun pc vs ws t => match pc with | 29 => (match vs, ws with | [.inr (.inl (20, o0)), .inl a1, .inl a2], [.inl s0] => B_X5_zone_29 M (fun r t1 => post (some (.inl r)) t1) px o0 a1 a2 s0 t | _, _ => False) | _ => False)) ?_ 400 28 _ _ _ _ _ h
    intro pc q vs ws t hc hk
    split at hk
    · cases hc
      split at hk
      · exact W29 _ _ _ _ _ hk
      · exact hk.elim
    · exact hk.elim
  refine wp_go hR9 (cs := S_X5_zone) (Bk := (fun pc vs ws t => match pc with | 28 => (match vs, ws with | [.inr (.inl (20, o0)), .inl a1, .inl a2], [] => B_X5_zone_28 M (fun r t1 => post (some (.inl r)) t1) px o0 a1 a2 t | _, _ => False) | 29 => (match vs, ws with | [.inr (.inl (20, o0)), .inl a1, .inl a2], [.inl s0] => B_X5_zone_29 M (fun r t1 => post (some (.inl r)) t1) px o0 a1 a2 s0 t | _, _ => False) | _ => False)) ?_ 400 0 _ _ _ _ _ h
  intro pc q vs ws t hc hk
  split at hk
  · cases hc
    split at hk
    · exact W28 _ _ _ _ hk
    · exact hk.elim
  · cases hc
    split at hk
    · exact W29 _ _ _ _ _ hk
    · exact hk.elim
  · exact hk.elim
theorem k_X5_zone (hx : p.tables.exec = Jvm.exec) (hb : c.code = b) (hml : c.maxLocals = nL) (hts : ∀ w ∈ LT, w.before args s = true) {own : String} (hown : s.vm.findClass own = some m.cls) (hK : va_K D vwCl (TYX X) s) (hA : ∀ q, s.heap.size ≤ q → A q) (hE : EX A s) (hst9 : l.stackTraces = false) {ix : Nat} (hl9 : Cond.methodLink own ix yX5_zone ∈ LT) (hR : 2 ≤ R.frames ∧ 45 ≤ R.locals) (hmc : R.cells = mc) (hms : R.slots = ms) (h : PC_X5_zone M as t k kx) : CallOK p l e R s m args below meth c Q D X ad A M nL b mc ms (.invokevirtual ix) 0 0 as t k kx := by
  unfold PC_X5_zone at h
  split at h
  · exact call_V hx hb hml hts hown hK hA hE (c_X5_zone hst9 _ _ _ t h.2) ⟨hl9, ws_X5_zone.1, ws_X5_zone.2.1, ws_X5_zone.2.2.1, ws_X5_zone.2.2.2⟩ (n := 2) (by decide +kernel) hR rfl rfl hmc hms rfl ⟨20, _, rfl, h.1, Or.inr (Or.inr (Or.inr (Or.inr (Or.inr rfl)))), rfl⟩
  · exact CallOK.congr (by simp only [List.map_cons]; congr 1; exact (if_neg h.1).symm) (call_V hx hb hml hts hown hK hA hE (c_X5_zone hst9 _ _ _ t h.2.2) ⟨hl9, ws_X5_zone.1, ws_X5_zone.2.1, ws_X5_zone.2.2.1, ws_X5_zone.2.2.2⟩ (n := 2) (by decide +kernel) hR rfl rfl hmc hms rfl ⟨20, _, rfl, h.2.1, Or.inr (Or.inr (Or.inr (Or.inr (Or.inr rfl)))), rfl⟩)
  · exact h.elim
def Q_X5_canClose (M : Nat → Nat → Bool) (ix : Nat) (as : List VV) (t : TT) (k : Option VV → TT → Prop) (kx : String → TT → Prop) : Prop := match ix with
  | 138 => PC_X5_keeps M as t k kx
  | _ => False
def N_X5_canClose (v : Bool) (ix : Nat) : Option (Nat × Nat × Nat) := match v, ix with
  | true, 138 => some (3, 0, 0)
  | _, _ => none
def S_X5_canClose (pc : Nat) : Option (List (Nat × Nat × Nat) × List (Nat × Nat) × Nat × Nat) := match pc with
  | 95 => some ([(0, 1, 20), (1, 0, 0), (3, 0, 0)], [(0, 0)], 0, 0)
  | 94 => some ([(0, 1, 20), (1, 0, 0), (3, 0, 0)], [], 0, 0)
  | 90 => some ([(0, 1, 20), (1, 0, 0), (3, 0, 0)], [], 0, 0)
  | 50 => some ([(0, 1, 20), (1, 0, 0), (2, 0, 0), (3, 0, 0)], [(0, 0)], 0, 0)
  | 49 => some ([(0, 1, 20), (1, 0, 0), (2, 0, 0), (3, 0, 0)], [], 0, 0)
  | 4 => some ([(0, 1, 20), (1, 0, 0), (2, 0, 0), (3, 0, 0)], [], 0, 0)
  | _ => none
def H_X5_canClose (pc : Nat) : Option String := none
set_option maxRecDepth 100000 in
set_option maxHeartbeats 4000000 in
theorem c_X5_canClose {l : Launch} (hst9 : l.stackTraces = false) {D : va_G} {X : Nat → ClassId} {ad : Nat → Nat → Nat} {M : Nat → Nat → Bool} {post : Option VV → TT → Prop} {px : String → TT → Prop} (o0 : Nat) (a1 : Int32) (t : TT) (h : P_X5_canClose M (fun r t1 => post (some (.inl r)) t1) px o0 a1 t) : CT l yX5_canClose (Cond.code yX5_canClose cX5_canClose 5 (some .boolean) :: LT) ({ frames := 2, cells := 0, slots := 0, locals := 42 } : Room) D X ad M [.inr (.inl (20, o0)), .inl a1] t 0 0 post px := by
  refine met_of_wp (by decide +kernel) (Nat.le_of_ble_eq_true rfl) ?_
  intro p e s m args below meth c A hx hb hml hts hown hK hnt hlocks hr hA hE
  have hR9 : Ready p l e ({ frames := 2, cells := 0, slots := 0, locals := 42 } : Room) s m args below meth c D X ad A M 5 cX5_canClose 0 0 post px RX5 2 (fldOf F_X5) N_X5_canClose (Q_X5_canClose M) (tabOf T_X5_canClose) H_X5_canClose := by
    refine ⟨hx, hb, hts, hown, hK, hnt, hlocks, hr, F_X5_ok, ?_, fun pc en h => tabOf_ok T_X5_canClose_ok h, ?_⟩
    · intro v9 ix n mc1 ms1 as t k hn hl h
      unfold N_X5_canClose at hn
      split at hn
      · cases hn
        exact k_X5_keeps hx hb hml hts hown hK hA hE hst9 (by decide +kernel) ⟨Nat.le_of_ble_eq_true rfl, Nat.le_of_ble_eq_true rfl⟩ rfl rfl h
      · cases hn
    · intro pc E hE9; cases hE9
  have W95 : ∀ (k4 : Nat → Int32 → Int32 → Int32 → TT → Prop) (hk4 : ∀ (o0 : Nat) (a1 : Int32) (a2 : Int32) (a3 : Int32) (t : TT), k4 o0 a1 a2 a3 t → Wat p l e ({ frames := 2, cells := 0, slots := 0, locals := 42 } : Room) s m args below meth c (QM below args s D X ad A M 0 0 post px) D X ad A M 5 4 [(0, .inr (.inl (20, o0))), (1, .inl a1), (2, .inl a2), (3, .inl a3)] [] t 0 0) (o0 : Nat) (a1 : Int32) (a3 : Int32) (s0 : Int32) (t : TT), B_X5_canClose_95 M (fun r t1 => post (some (.inl r)) t1) px k4 o0 a1 a3 s0 t → Wat p l e ({ frames := 2, cells := 0, slots := 0, locals := 42 } : Room) s m args below meth c (QM below args s D X ad A M 0 0 post px) D X ad A M 5 95 [(0, .inr (.inl (20, o0))), (1, .inl a1), (3, .inl a3)] [.inl s0] t 0 0 := by
    intro k4 hk4 o0 a1 a3 s0 t h
    refine wp_go hR9 (cs := S_X5_canClose) (Bk := (fun pc vs ws t => match pc with | 4 => (match vs, ws with | [.inr (.inl (20, o0)), .inl a1, .inl a2, .inl a3], [] => k4 o0 a1 a2 a3 t | _, _ => False) | _ => False)) ?_ 400 95 _ _ _ _ _ h
    intro pc q vs ws t hc hk
    split at hk
    · cases hc
      split at hk
      · exact hk4 _ _ _ _ _ hk
      · exact hk.elim
    · exact hk.elim
  have W94 : ∀ (k4 : Nat → Int32 → Int32 → Int32 → TT → Prop) (hk4 : ∀ (o0 : Nat) (a1 : Int32) (a2 : Int32) (a3 : Int32) (t : TT), k4 o0 a1 a2 a3 t → Wat p l e ({ frames := 2, cells := 0, slots := 0, locals := 42 } : Room) s m args below meth c (QM below args s D X ad A M 0 0 post px) D X ad A M 5 4 [(0, .inr (.inl (20, o0))), (1, .inl a1), (2, .inl a2), (3, .inl a3)] [] t 0 0) (o0 : Nat) (a1 : Int32) (a3 : Int32) (t : TT), B_X5_canClose_94 M (fun r t1 => post (some (.inl r)) t1) px k4 o0 a1 a3 t → Wat p l e ({ frames := 2, cells := 0, slots := 0, locals := 42 } : Room) s m args below meth c (QM below args s D X ad A M 0 0 post px) D X ad A M 5 94 [(0, .inr (.inl (20, o0))), (1, .inl a1), (3, .inl a3)] [] t 0 0 := by
    intro k4 hk4 o0 a1 a3 t h
    refine wp_go hR9 (cs := S_X5_canClose) (Bk := (fun pc vs ws t => match pc with | 95 => (match vs, ws with | [.inr (.inl (20, o0)), .inl a1, .inl a3], [.inl s0] => B_X5_canClose_95 M (fun r t1 => post (some (.inl r)) t1) px k4 o0 a1 a3 s0 t | _, _ => False) | _ => False)) ?_ 400 94 _ _ _ _ _ h
    intro pc q vs ws t hc hk
    split at hk
    · cases hc
      split at hk
      · exact W95 _ hk4 _ _ _ _ _ hk
      · exact hk.elim
    · exact hk.elim
  have W90 : ∀ (k4 : Nat → Int32 → Int32 → Int32 → TT → Prop) (hk4 : ∀ (o0 : Nat) (a1 : Int32) (a2 : Int32) (a3 : Int32) (t : TT), k4 o0 a1 a2 a3 t → Wat p l e ({ frames := 2, cells := 0, slots := 0, locals := 42 } : Room) s m args below meth c (QM below args s D X ad A M 0 0 post px) D X ad A M 5 4 [(0, .inr (.inl (20, o0))), (1, .inl a1), (2, .inl a2), (3, .inl a3)] [] t 0 0) (o0 : Nat) (a1 : Int32) (a3 : Int32) (t : TT), B_X5_canClose_90 M (fun r t1 => post (some (.inl r)) t1) px k4 o0 a1 a3 t → Wat p l e ({ frames := 2, cells := 0, slots := 0, locals := 42 } : Room) s m args below meth c (QM below args s D X ad A M 0 0 post px) D X ad A M 5 90 [(0, .inr (.inl (20, o0))), (1, .inl a1), (3, .inl a3)] [] t 0 0 := by
    intro k4 hk4 o0 a1 a3 t h
    refine wp_go hR9 (cs := S_X5_canClose) (Bk := (fun pc vs ws t => match pc with | 95 => (match vs, ws with | [.inr (.inl (20, o0)), .inl a1, .inl a3], [.inl s0] => B_X5_canClose_95 M (fun r t1 => post (some (.inl r)) t1) px k4 o0 a1 a3 s0 t | _, _ => False) | _ => False)) ?_ 400 90 _ _ _ _ _ h
    intro pc q vs ws t hc hk
    split at hk
    · cases hc
      split at hk
      · exact W95 _ hk4 _ _ _ _ _ hk
      · exact hk.elim
    · exact hk.elim
  have W50 : ∀ (k4 : Nat → Int32 → Int32 → Int32 → TT → Prop) (hk4 : ∀ (o0 : Nat) (a1 : Int32) (a2 : Int32) (a3 : Int32) (t : TT), k4 o0 a1 a2 a3 t → Wat p l e ({ frames := 2, cells := 0, slots := 0, locals := 42 } : Room) s m args below meth c (QM below args s D X ad A M 0 0 post px) D X ad A M 5 4 [(0, .inr (.inl (20, o0))), (1, .inl a1), (2, .inl a2), (3, .inl a3)] [] t 0 0) (o0 : Nat) (a1 : Int32) (a2 : Int32) (a3 : Int32) (s0 : Int32) (t : TT), B_X5_canClose_50 M (fun r t1 => post (some (.inl r)) t1) px k4 o0 a1 a2 a3 s0 t → Wat p l e ({ frames := 2, cells := 0, slots := 0, locals := 42 } : Room) s m args below meth c (QM below args s D X ad A M 0 0 post px) D X ad A M 5 50 [(0, .inr (.inl (20, o0))), (1, .inl a1), (2, .inl a2), (3, .inl a3)] [.inl s0] t 0 0 := by
    intro k4 hk4 o0 a1 a2 a3 s0 t h
    refine wp_go hR9 (cs := S_X5_canClose) (Bk := (fun pc vs ws t => match pc with | 90 => (match vs, ws with | [.inr (.inl (20, o0)), .inl a1, .inl a3], [] => B_X5_canClose_90 M (fun r t1 => post (some (.inl r)) t1) px k4 o0 a1 a3 t | _, _ => False) | 94 => (match vs, ws with | [.inr (.inl (20, o0)), .inl a1, .inl a3], [] => B_X5_canClose_94 M (fun r t1 => post (some (.inl r)) t1) px k4 o0 a1 a3 t | _, _ => False) | _ => False)) ?_ 400 50 _ _ _ _ _ h
    intro pc q vs ws t hc hk
    split at hk
    · cases hc
      split at hk
      · exact W90 _ hk4 _ _ _ _ hk
      · exact hk.elim
    · cases hc
      split at hk
      · exact W94 _ hk4 _ _ _ _ hk
      · exact hk.elim
    · exact hk.elim
  have W49 : ∀ (k4 : Nat → Int32 → Int32 → Int32 → TT → Prop) (hk4 : ∀ (o0 : Nat) (a1 : Int32) (a2 : Int32) (a3 : Int32) (t : TT), k4 o0 a1 a2 a3 t → Wat p l e ({ frames := 2, cells := 0, slots := 0, locals := 42 } : Room) s m args below meth c (QM below args s D X ad A M 0 0 post px) D X ad A M 5 4 [(0, .inr (.inl (20, o0))), (1, .inl a1), (2, .inl a2), (3, .inl a3)] [] t 0 0) (o0 : Nat) (a1 : Int32) (a2 : Int32) (a3 : Int32) (t : TT), B_X5_canClose_49 M (fun r t1 => post (some (.inl r)) t1) px k4 o0 a1 a2 a3 t → Wat p l e ({ frames := 2, cells := 0, slots := 0, locals := 42 } : Room) s m args below meth c (QM below args s D X ad A M 0 0 post px) D X ad A M 5 49 [(0, .inr (.inl (20, o0))), (1, .inl a1), (2, .inl a2), (3, .inl a3)] [] t 0 0 := by
    intro k4 hk4 o0 a1 a2 a3 t h
    refine wp_go hR9 (cs := S_X5_canClose) (Bk := (fun pc vs ws t => match pc with | 50 => (match vs, ws with | [.inr (.inl (20, o0)), .inl a1, .inl a2, .inl a3], [.inl s0] => B_X5_canClose_50 M (fun r t1 => post (some (.inl r)) t1) px k4 o0 a1 a2 a3 s0 t | _, _ => False) | _ => False)) ?_ 400 49 _ _ _ _ _ h
    intro pc q vs ws t hc hk
    split at hk
    · cases hc
      split at hk
      · exact W50 _ hk4 _ _ _ _ _ _ hk
      · exact hk.elim
    · exact hk.elim
  have W4 : ∀ (n : Nat) (o0 : Nat) (a1 : Int32) (a2 : Int32) (a3 : Int32) (t : TT), L_X5_canClose_4 M (fun r t1 => post (some (.inl r)) t1) px n o0 a1 a2 a3 t → Wat p l e ({ frames := 2, cells := 0, slots := 0, locals := 42 } : Room) s m args below meth c (QM below args s D X ad A M 0 0 post px) D X ad A M 5 4 [(0, .inr (.inl (20, o0))), (1, .inl a1), (2, .inl a2), (3, .inl a3)] [] t 0 0 := by
    intro n
    induction n with
    | zero =>
      intro o0 a1 a2 a3 t h
      exact h.elim
    | succ n ih =>
      intro o0 a1 a2 a3 t h
      refine wp_go hR9 (cs := S_X5_canClose) (Bk := (fun pc vs ws t => match pc with | 49 => (match vs, ws with | [.inr (.inl (20, o0)), .inl a1, .inl a2, .inl a3], [] => B_X5_canClose_49 M (fun r t1 => post (some (.inl r)) t1) px (L_X5_canClose_4 M (fun r t1 => post (some (.inl r)) t1) px n) o0 a1 a2 a3 t | _, _ => False) | 50 => (match vs, ws with | [.inr (.inl (20, o0)), .inl a1, .inl a2, .inl a3], [.inl s0] => B_X5_canClose_50 M (fun r t1 => post (some (.inl r)) t1) px (L_X5_canClose_4 M (fun r t1 => post (some (.inl r)) t1) px n) o0 a1 a2 a3 s0 t | _, _ => False) | _ => False)) ?_ 400 4 _ _ _ _ _ h
      intro pc q vs ws t hc hk
      split at hk
      · cases hc
        split at hk
        · exact W49 _ ih _ _ _ _ _ hk
        · exact hk.elim
      · cases hc
        split at hk
        · exact W50 _ ih _ _ _ _ _ _ hk
        · exact hk.elim
      · exact hk.elim
  refine wp_go hR9 (cs := S_X5_canClose) (Bk := (fun pc vs ws t => match pc with | 4 => (match vs, ws with | [.inr (.inl (20, o0)), .inl a1, .inl a2, .inl a3], [] => ∃ n9, L_X5_canClose_4 M (fun r t1 => post (some (.inl r)) t1) px n9 o0 a1 a2 a3 t | _, _ => False) | _ => False)) ?_ 400 0 _ _ _ _ _ h
  intro pc q vs ws t hc hk
  split at hk
  · cases hc
    split at hk
    · obtain ⟨n9, hk⟩ := hk
      exact W4 n9 _ _ _ _ _ hk
    · exact hk.elim
  · exact hk.elim
theorem k_X5_canClose (hx : p.tables.exec = Jvm.exec) (hb : c.code = b) (hml : c.maxLocals = nL) (hts : ∀ w ∈ LT, w.before args s = true) {own : String} (hown : s.vm.findClass own = some m.cls) (hK : va_K D vwCl (TYX X) s) (hA : ∀ q, s.heap.size ≤ q → A q) (hE : EX A s) (hst9 : l.stackTraces = false) {ix : Nat} (hl9 : Cond.methodLink own ix yX5_canClose ∈ LT) (hR : 3 ≤ R.frames ∧ 66 ≤ R.locals) (hmc : R.cells = mc) (hms : R.slots = ms) (h : PC_X5_canClose M as t k kx) : CallOK p l e R s m args below meth c Q D X ad A M nL b mc ms (.invokevirtual ix) 0 0 as t k kx := by
  unfold PC_X5_canClose at h
  split at h
  · exact call_V hx hb hml hts hown hK hA hE (c_X5_canClose hst9 _ _ t h.2) ⟨hl9, ws_X5_canClose.1, ws_X5_canClose.2.1, ws_X5_canClose.2.2.1, ws_X5_canClose.2.2.2⟩ (n := 1) (by decide +kernel) hR rfl rfl hmc hms rfl ⟨20, _, rfl, h.1, Or.inr (Or.inr (Or.inr (Or.inr (Or.inr rfl)))), rfl⟩
  · exact CallOK.congr (by simp only [List.map_cons]; congr 1; exact (if_neg h.1).symm) (call_V hx hb hml hts hown hK hA hE (c_X5_canClose hst9 _ _ t h.2.2) ⟨hl9, ws_X5_canClose.1, ws_X5_canClose.2.1, ws_X5_canClose.2.2.1, ws_X5_canClose.2.2.2⟩ (n := 1) (by decide +kernel) hR rfl rfl hmc hms rfl ⟨20, _, rfl, h.2.1, Or.inr (Or.inr (Or.inr (Or.inr (Or.inr rfl)))), rfl⟩)
  · exact h.elim
def Q_X5_close (M : Nat → Nat → Bool) (ix : Nat) (as : List VV) (t : TT) (k : Option VV → TT → Prop) (kx : String → TT → Prop) : Prop := match ix with
  | 111 => PC_X5_in M as t k kx
  | 131 => PC_X5_isFine M as t k kx
  | 142 => PC_X5_canClose M as t k kx
  | 145 => PC_X5_deal M as t k kx
  | _ => False
def N_X5_close (v : Bool) (ix : Nat) : Option (Nat × Nat × Nat) := match v, ix with
  | false, 111 => some (3, 0, 0)
  | true, 131 => some (2, 0, 0)
  | true, 142 => some (2, 0, 0)
  | true, 145 => some (1, 0, 0)
  | _, _ => none
def S_X5_close (pc : Nat) : Option (List (Nat × Nat × Nat) × List (Nat × Nat) × Nat × Nat) := match pc with
  | 47 => some ([(0, 1, 20), (1, 0, 0), (2, 0, 0)], [(0, 0), (1, 20)], 0, 0)
  | 46 => some ([(0, 1, 20), (1, 0, 0), (2, 0, 0)], [(1, 20)], 0, 0)
  | _ => none
def H_X5_close (pc : Nat) : Option String := none
set_option maxRecDepth 100000 in
set_option maxHeartbeats 4000000 in
theorem c_X5_close {l : Launch} (hst9 : l.stackTraces = false) {D : va_G} {X : Nat → ClassId} {ad : Nat → Nat → Nat} {M : Nat → Nat → Bool} {post : Option VV → TT → Prop} {px : String → TT → Prop} (o0 : Nat) (a1 : Int32) (a2 : Int32) (t : TT) (h : P_X5_close M (fun r t1 => post (some (.inl r)) t1) px o0 a1 a2 t) : CT l yX5_close (Cond.code yX5_close cX5_close 5 (some .boolean) :: LT) ({ frames := 3, cells := 0, slots := 0, locals := 68 } : Room) D X ad M [.inr (.inl (20, o0)), .inl a1, .inl a2] t 0 0 post px := by
  refine met_of_wp (by decide +kernel) (Nat.le_of_ble_eq_true rfl) ?_
  intro p e s m args below meth c A hx hb hml hts hown hK hnt hlocks hr hA hE
  have hR9 : Ready p l e ({ frames := 3, cells := 0, slots := 0, locals := 68 } : Room) s m args below meth c D X ad A M 5 cX5_close 0 0 post px RX5 2 (fldOf F_X5) N_X5_close (Q_X5_close M) (tabOf T_X5_close) H_X5_close := by
    refine ⟨hx, hb, hts, hown, hK, hnt, hlocks, hr, F_X5_ok, ?_, fun pc en h => tabOf_ok T_X5_close_ok h, ?_⟩
    · intro v9 ix n mc1 ms1 as t k hn hl h
      unfold N_X5_close at hn
      split at hn
      · cases hn
        exact k_X5_in hx hb hml hts hown hK hA hE hst9 (by decide +kernel) ⟨Nat.le_of_ble_eq_true rfl, Nat.le_of_ble_eq_true rfl⟩ rfl rfl h
      · cases hn
        exact k_X5_isFine hx hb hml hts hown hK hA hE hst9 (by decide +kernel) ⟨Nat.le_of_ble_eq_true rfl, Nat.le_of_ble_eq_true rfl⟩ rfl rfl h
      · cases hn
        exact k_X5_canClose hx hb hml hts hown hK hA hE hst9 (by decide +kernel) ⟨Nat.le_of_ble_eq_true rfl, Nat.le_of_ble_eq_true rfl⟩ rfl rfl h
      · cases hn
        exact k_X5_deal hx hb hml hts hown hK hA hE hst9 (by decide +kernel) ⟨Nat.le_of_ble_eq_true rfl, Nat.le_of_ble_eq_true rfl⟩ rfl rfl h
      · cases hn
    · intro pc E hE9; cases hE9
  have W47 : ∀ (o0 : Nat) (a1 : Int32) (a2 : Int32) (s0 : Int32) (u1 : Nat) (t : TT), B_X5_close_47 M (fun r t1 => post (some (.inl r)) t1) px o0 a1 a2 s0 u1 t → Wat p l e ({ frames := 3, cells := 0, slots := 0, locals := 68 } : Room) s m args below meth c (QM below args s D X ad A M 0 0 post px) D X ad A M 5 47 [(0, .inr (.inl (20, o0))), (1, .inl a1), (2, .inl a2)] [.inl s0, .inr (.inl (20, u1))] t 0 0 := by
    intro o0 a1 a2 s0 u1 t h
    refine wp_go hR9 (cs := S_X5_close) (Bk := (fun _ _ _ _ => False)) ?_ 400 47 _ _ _ _ _ h
    intro pc q vs ws t hc hk
    exact hk.elim
  have W46 : ∀ (o0 : Nat) (a1 : Int32) (a2 : Int32) (u0 : Nat) (t : TT), B_X5_close_46 M (fun r t1 => post (some (.inl r)) t1) px o0 a1 a2 u0 t → Wat p l e ({ frames := 3, cells := 0, slots := 0, locals := 68 } : Room) s m args below meth c (QM below args s D X ad A M 0 0 post px) D X ad A M 5 46 [(0, .inr (.inl (20, o0))), (1, .inl a1), (2, .inl a2)] [.inr (.inl (20, u0))] t 0 0 := by
    intro o0 a1 a2 u0 t h
    refine wp_go hR9 (cs := S_X5_close) (Bk := (fun pc vs ws t => match pc with | 47 => (match vs, ws with | [.inr (.inl (20, o0)), .inl a1, .inl a2], [.inl s0, .inr (.inl (20, u1))] => B_X5_close_47 M (fun r t1 => post (some (.inl r)) t1) px o0 a1 a2 s0 u1 t | _, _ => False) | _ => False)) ?_ 400 46 _ _ _ _ _ h
    intro pc q vs ws t hc hk
    split at hk
    · cases hc
      split at hk
      · exact W47 _ _ _ _ _ _ hk
      · exact hk.elim
    · exact hk.elim
  refine wp_go hR9 (cs := S_X5_close) (Bk := (fun pc vs ws t => match pc with | 46 => (match vs, ws with | [.inr (.inl (20, o0)), .inl a1, .inl a2], [.inr (.inl (20, u0))] => B_X5_close_46 M (fun r t1 => post (some (.inl r)) t1) px o0 a1 a2 u0 t | _, _ => False) | 47 => (match vs, ws with | [.inr (.inl (20, o0)), .inl a1, .inl a2], [.inl s0, .inr (.inl (20, u1))] => B_X5_close_47 M (fun r t1 => post (some (.inl r)) t1) px o0 a1 a2 s0 u1 t | _, _ => False) | _ => False)) ?_ 400 0 _ _ _ _ _ h
  intro pc q vs ws t hc hk
  split at hk
  · cases hc
    split at hk
    · exact W46 _ _ _ _ _ hk
    · exact hk.elim
  · cases hc
    split at hk
    · exact W47 _ _ _ _ _ _ hk
    · exact hk.elim
  · exact hk.elim
theorem k_X5_close (hx : p.tables.exec = Jvm.exec) (hb : c.code = b) (hml : c.maxLocals = nL) (hts : ∀ w ∈ LT, w.before args s = true) {own : String} (hown : s.vm.findClass own = some m.cls) (hK : va_K D vwCl (TYX X) s) (hA : ∀ q, s.heap.size ≤ q → A q) (hE : EX A s) (hst9 : l.stackTraces = false) {ix : Nat} (hl9 : Cond.methodLink own ix yX5_close ∈ LT) (hR : 4 ≤ R.frames ∧ 92 ≤ R.locals) (hmc : R.cells = mc) (hms : R.slots = ms) (h : PC_X5_close M as t k kx) : CallOK p l e R s m args below meth c Q D X ad A M nL b mc ms (.invokevirtual ix) 0 0 as t k kx := by
  unfold PC_X5_close at h
  split at h
  · exact call_V hx hb hml hts hown hK hA hE (c_X5_close hst9 _ _ _ t h.2) ⟨hl9, ws_X5_close.1, ws_X5_close.2.1, ws_X5_close.2.2.1, ws_X5_close.2.2.2⟩ (n := 2) (by decide +kernel) hR rfl rfl hmc hms rfl ⟨20, _, rfl, h.1, Or.inr (Or.inr (Or.inr (Or.inr (Or.inr rfl)))), rfl⟩
  · exact CallOK.congr (by simp only [List.map_cons]; congr 1; exact (if_neg h.1).symm) (call_V hx hb hml hts hown hK hA hE (c_X5_close hst9 _ _ _ t h.2.2) ⟨hl9, ws_X5_close.1, ws_X5_close.2.1, ws_X5_close.2.2.1, ws_X5_close.2.2.2⟩ (n := 2) (by decide +kernel) hR rfl rfl hmc hms rfl ⟨20, _, rfl, h.2.1, Or.inr (Or.inr (Or.inr (Or.inr (Or.inr rfl)))), rfl⟩)
  · exact h.elim
def Q_X5_speed (M : Nat → Nat → Bool) (ix : Nat) (as : List VV) (t : TT) (k : Option VV → TT → Prop) (kx : String → TT → Prop) : Prop := match ix with
  | 111 => PC_X5_in M as t k kx
  | 131 => PC_X5_isFine M as t k kx
  | _ => False
def N_X5_speed (v : Bool) (ix : Nat) : Option (Nat × Nat × Nat) := match v, ix with
  | false, 111 => some (3, 0, 0)
  | true, 131 => some (2, 0, 0)
  | _, _ => none
def S_X5_speed (pc : Nat) : Option (List (Nat × Nat × Nat) × List (Nat × Nat) × Nat × Nat) := match pc with
  | 16 => some ([(0, 1, 20), (1, 0, 0)], [(0, 0), (1, 20)], 0, 0)
  | _ => none
def H_X5_speed (pc : Nat) : Option String := none
set_option maxRecDepth 100000 in
set_option maxHeartbeats 4000000 in
theorem c_X5_speed {l : Launch} (hst9 : l.stackTraces = false) {D : va_G} {X : Nat → ClassId} {ad : Nat → Nat → Nat} {M : Nat → Nat → Bool} {post : Option VV → TT → Prop} {px : String → TT → Prop} (o0 : Nat) (a1 : Int32) (t : TT) (h : P_X5_speed M (fun r t1 => post (some (.inl r)) t1) px o0 a1 t) : CT l yX5_speed (Cond.code yX5_speed cX5_speed 3 (some .int) :: LT) ({ frames := 1, cells := 0, slots := 0, locals := 22 } : Room) D X ad M [.inr (.inl (20, o0)), .inl a1] t 0 0 post px := by
  refine met_of_wp (by decide +kernel) (Nat.le_of_ble_eq_true rfl) ?_
  intro p e s m args below meth c A hx hb hml hts hown hK hnt hlocks hr hA hE
  have hR9 : Ready p l e ({ frames := 1, cells := 0, slots := 0, locals := 22 } : Room) s m args below meth c D X ad A M 3 cX5_speed 0 0 post px RX5 1 (fldOf F_X5) N_X5_speed (Q_X5_speed M) (tabOf T_X5_speed) H_X5_speed := by
    refine ⟨hx, hb, hts, hown, hK, hnt, hlocks, hr, F_X5_ok, ?_, fun pc en h => tabOf_ok T_X5_speed_ok h, ?_⟩
    · intro v9 ix n mc1 ms1 as t k hn hl h
      unfold N_X5_speed at hn
      split at hn
      · cases hn
        exact k_X5_in hx hb hml hts hown hK hA hE hst9 (by decide +kernel) ⟨Nat.le_of_ble_eq_true rfl, Nat.le_of_ble_eq_true rfl⟩ rfl rfl h
      · cases hn
        exact k_X5_isFine hx hb hml hts hown hK hA hE hst9 (by decide +kernel) ⟨Nat.le_of_ble_eq_true rfl, Nat.le_of_ble_eq_true rfl⟩ rfl rfl h
      · cases hn
    · intro pc E hE9; cases hE9
  have W16 : ∀ (o0 : Nat) (a1 : Int32) (s0 : Int32) (u1 : Nat) (t : TT), B_X5_speed_16 M (fun r t1 => post (some (.inl r)) t1) px o0 a1 s0 u1 t → Wat p l e ({ frames := 1, cells := 0, slots := 0, locals := 22 } : Room) s m args below meth c (QM below args s D X ad A M 0 0 post px) D X ad A M 3 16 [(0, .inr (.inl (20, o0))), (1, .inl a1)] [.inl s0, .inr (.inl (20, u1))] t 0 0 := by
    intro o0 a1 s0 u1 t h
    refine wp_go hR9 (cs := S_X5_speed) (Bk := (fun _ _ _ _ => False)) ?_ 400 16 _ _ _ _ _ h
    intro pc q vs ws t hc hk
    exact hk.elim
  refine wp_go hR9 (cs := S_X5_speed) (Bk := (fun pc vs ws t => match pc with | 16 => (match vs, ws with | [.inr (.inl (20, o0)), .inl a1], [.inl s0, .inr (.inl (20, u1))] => B_X5_speed_16 M (fun r t1 => post (some (.inl r)) t1) px o0 a1 s0 u1 t | _, _ => False) | _ => False)) ?_ 400 0 _ _ _ _ _ h
  intro pc q vs ws t hc hk
  split at hk
  · cases hc
    split at hk
    · exact W16 _ _ _ _ _ hk
    · exact hk.elim
  · exact hk.elim
theorem k_X5_speed (hx : p.tables.exec = Jvm.exec) (hb : c.code = b) (hml : c.maxLocals = nL) (hts : ∀ w ∈ LT, w.before args s = true) {own : String} (hown : s.vm.findClass own = some m.cls) (hK : va_K D vwCl (TYX X) s) (hA : ∀ q, s.heap.size ≤ q → A q) (hE : EX A s) (hst9 : l.stackTraces = false) {ix : Nat} (hl9 : Cond.methodLink own ix yX5_speed ∈ LT) (hR : 2 ≤ R.frames ∧ 44 ≤ R.locals) (hmc : R.cells = mc) (hms : R.slots = ms) (h : PC_X5_speed M as t k kx) : CallOK p l e R s m args below meth c Q D X ad A M nL b mc ms (.invokevirtual ix) 0 0 as t k kx := by
  unfold PC_X5_speed at h
  split at h
  · exact call_V hx hb hml hts hown hK hA hE (c_X5_speed hst9 _ _ t h.2) ⟨hl9, ws_X5_speed.1, ws_X5_speed.2.1, ws_X5_speed.2.2.1, ws_X5_speed.2.2.2⟩ (n := 1) (by decide +kernel) hR rfl rfl hmc hms rfl ⟨20, _, rfl, h.1, Or.inr (Or.inr (Or.inr (Or.inr (Or.inr rfl)))), rfl⟩
  · exact CallOK.congr (by simp only [List.map_cons]; congr 1; exact (if_neg h.1).symm) (call_V hx hb hml hts hown hK hA hE (c_X5_speed hst9 _ _ t h.2.2) ⟨hl9, ws_X5_speed.1, ws_X5_speed.2.1, ws_X5_speed.2.2.1, ws_X5_speed.2.2.2⟩ (n := 1) (by decide +kernel) hR rfl rfl hmc hms rfl ⟨20, _, rfl, h.2.1, Or.inr (Or.inr (Or.inr (Or.inr (Or.inr rfl)))), rfl⟩)
  · exact h.elim
def Q_X5_canPut (M : Nat → Nat → Bool) (ix : Nat) (as : List VV) (t : TT) (k : Option VV → TT → Prop) (kx : String → TT → Prop) : Prop := match ix with
  | 138 => PC_X5_keeps M as t k kx
  | _ => False
def N_X5_canPut (v : Bool) (ix : Nat) : Option (Nat × Nat × Nat) := match v, ix with
  | true, 138 => some (3, 0, 0)
  | _, _ => none
def S_X5_canPut (pc : Nat) : Option (List (Nat × Nat × Nat) × List (Nat × Nat) × Nat × Nat) := match pc with
  | 117 => some ([(0, 1, 20), (1, 0, 0), (3, 0, 0)], [(0, 0)], 0, 0)
  | 116 => some ([(0, 1, 20), (1, 0, 0), (3, 0, 0)], [], 0, 0)
  | 112 => some ([(0, 1, 20), (1, 0, 0), (3, 0, 0)], [], 0, 0)
  | 68 => some ([(0, 1, 20), (1, 0, 0), (2, 0, 0), (3, 0, 0)], [], 0, 0)
  | 59 => some ([(0, 1, 20), (1, 0, 0), (3, 0, 0)], [(0, 0)], 0, 0)
  | 58 => some ([(0, 1, 20), (1, 0, 0), (3, 0, 0)], [], 0, 0)
  | 54 => some ([(0, 1, 20), (1, 0, 0), (3, 0, 0)], [], 0, 0)
  | 4 => some ([(0, 1, 20), (1, 0, 0), (2, 0, 0), (3, 0, 0)], [], 0, 0)
  | _ => none
def H_X5_canPut (pc : Nat) : Option String := none
set_option maxRecDepth 100000 in
set_option maxHeartbeats 4000000 in
theorem c_X5_canPut {l : Launch} (hst9 : l.stackTraces = false) {D : va_G} {X : Nat → ClassId} {ad : Nat → Nat → Nat} {M : Nat → Nat → Bool} {post : Option VV → TT → Prop} {px : String → TT → Prop} (o0 : Nat) (a1 : Int32) (t : TT) (h : P_X5_canPut M (fun r t1 => post (some (.inl r)) t1) px o0 a1 t) : CT l yX5_canPut (Cond.code yX5_canPut cX5_canPut 4 (some .boolean) :: LT) ({ frames := 2, cells := 0, slots := 0, locals := 42 } : Room) D X ad M [.inr (.inl (20, o0)), .inl a1] t 0 0 post px := by
  refine met_of_wp (by decide +kernel) (Nat.le_of_ble_eq_true rfl) ?_
  intro p e s m args below meth c A hx hb hml hts hown hK hnt hlocks hr hA hE
  have hR9 : Ready p l e ({ frames := 2, cells := 0, slots := 0, locals := 42 } : Room) s m args below meth c D X ad A M 4 cX5_canPut 0 0 post px RX5 2 (fldOf F_X5) N_X5_canPut (Q_X5_canPut M) (tabOf T_X5_canPut) H_X5_canPut := by
    refine ⟨hx, hb, hts, hown, hK, hnt, hlocks, hr, F_X5_ok, ?_, fun pc en h => tabOf_ok T_X5_canPut_ok h, ?_⟩
    · intro v9 ix n mc1 ms1 as t k hn hl h
      unfold N_X5_canPut at hn
      split at hn
      · cases hn
        exact k_X5_keeps hx hb hml hts hown hK hA hE hst9 (by decide +kernel) ⟨Nat.le_of_ble_eq_true rfl, Nat.le_of_ble_eq_true rfl⟩ rfl rfl h
      · cases hn
    · intro pc E hE9; cases hE9
  have W117 : ∀ (k68 : Nat → Int32 → Int32 → Int32 → TT → Prop) (hk68 : ∀ (o0 : Nat) (a1 : Int32) (a2 : Int32) (a3 : Int32) (t : TT), k68 o0 a1 a2 a3 t → Wat p l e ({ frames := 2, cells := 0, slots := 0, locals := 42 } : Room) s m args below meth c (QM below args s D X ad A M 0 0 post px) D X ad A M 4 68 [(0, .inr (.inl (20, o0))), (1, .inl a1), (2, .inl a2), (3, .inl a3)] [] t 0 0) (o0 : Nat) (a1 : Int32) (a3 : Int32) (s0 : Int32) (t : TT), B_X5_canPut_117 M (fun r t1 => post (some (.inl r)) t1) px k68 o0 a1 a3 s0 t → Wat p l e ({ frames := 2, cells := 0, slots := 0, locals := 42 } : Room) s m args below meth c (QM below args s D X ad A M 0 0 post px) D X ad A M 4 117 [(0, .inr (.inl (20, o0))), (1, .inl a1), (3, .inl a3)] [.inl s0] t 0 0 := by
    intro k68 hk68 o0 a1 a3 s0 t h
    refine wp_go hR9 (cs := S_X5_canPut) (Bk := (fun pc vs ws t => match pc with | 68 => (match vs, ws with | [.inr (.inl (20, o0)), .inl a1, .inl a2, .inl a3], [] => k68 o0 a1 a2 a3 t | _, _ => False) | _ => False)) ?_ 400 117 _ _ _ _ _ h
    intro pc q vs ws t hc hk
    split at hk
    · cases hc
      split at hk
      · exact hk68 _ _ _ _ _ hk
      · exact hk.elim
    · exact hk.elim
  have W116 : ∀ (k68 : Nat → Int32 → Int32 → Int32 → TT → Prop) (hk68 : ∀ (o0 : Nat) (a1 : Int32) (a2 : Int32) (a3 : Int32) (t : TT), k68 o0 a1 a2 a3 t → Wat p l e ({ frames := 2, cells := 0, slots := 0, locals := 42 } : Room) s m args below meth c (QM below args s D X ad A M 0 0 post px) D X ad A M 4 68 [(0, .inr (.inl (20, o0))), (1, .inl a1), (2, .inl a2), (3, .inl a3)] [] t 0 0) (o0 : Nat) (a1 : Int32) (a3 : Int32) (t : TT), B_X5_canPut_116 M (fun r t1 => post (some (.inl r)) t1) px k68 o0 a1 a3 t → Wat p l e ({ frames := 2, cells := 0, slots := 0, locals := 42 } : Room) s m args below meth c (QM below args s D X ad A M 0 0 post px) D X ad A M 4 116 [(0, .inr (.inl (20, o0))), (1, .inl a1), (3, .inl a3)] [] t 0 0 := by
    intro k68 hk68 o0 a1 a3 t h
    refine wp_go hR9 (cs := S_X5_canPut) (Bk := (fun pc vs ws t => match pc with | 117 => (match vs, ws with | [.inr (.inl (20, o0)), .inl a1, .inl a3], [.inl s0] => B_X5_canPut_117 M (fun r t1 => post (some (.inl r)) t1) px k68 o0 a1 a3 s0 t | _, _ => False) | _ => False)) ?_ 400 116 _ _ _ _ _ h
    intro pc q vs ws t hc hk
    split at hk
    · cases hc
      split at hk
      · exact W117 _ hk68 _ _ _ _ _ hk
      · exact hk.elim
    · exact hk.elim
  have W112 : ∀ (k68 : Nat → Int32 → Int32 → Int32 → TT → Prop) (hk68 : ∀ (o0 : Nat) (a1 : Int32) (a2 : Int32) (a3 : Int32) (t : TT), k68 o0 a1 a2 a3 t → Wat p l e ({ frames := 2, cells := 0, slots := 0, locals := 42 } : Room) s m args below meth c (QM below args s D X ad A M 0 0 post px) D X ad A M 4 68 [(0, .inr (.inl (20, o0))), (1, .inl a1), (2, .inl a2), (3, .inl a3)] [] t 0 0) (o0 : Nat) (a1 : Int32) (a3 : Int32) (t : TT), B_X5_canPut_112 M (fun r t1 => post (some (.inl r)) t1) px k68 o0 a1 a3 t → Wat p l e ({ frames := 2, cells := 0, slots := 0, locals := 42 } : Room) s m args below meth c (QM below args s D X ad A M 0 0 post px) D X ad A M 4 112 [(0, .inr (.inl (20, o0))), (1, .inl a1), (3, .inl a3)] [] t 0 0 := by
    intro k68 hk68 o0 a1 a3 t h
    refine wp_go hR9 (cs := S_X5_canPut) (Bk := (fun pc vs ws t => match pc with | 117 => (match vs, ws with | [.inr (.inl (20, o0)), .inl a1, .inl a3], [.inl s0] => B_X5_canPut_117 M (fun r t1 => post (some (.inl r)) t1) px k68 o0 a1 a3 s0 t | _, _ => False) | _ => False)) ?_ 400 112 _ _ _ _ _ h
    intro pc q vs ws t hc hk
    split at hk
    · cases hc
      split at hk
      · exact W117 _ hk68 _ _ _ _ _ hk
      · exact hk.elim
    · exact hk.elim
  have W68 : ∀ (n : Nat) (o0 : Nat) (a1 : Int32) (a2 : Int32) (a3 : Int32) (t : TT), L_X5_canPut_68 M (fun r t1 => post (some (.inl r)) t1) px n o0 a1 a2 a3 t → Wat p l e ({ frames := 2, cells := 0, slots := 0, locals := 42 } : Room) s m args below meth c (QM below args s D X ad A M 0 0 post px) D X ad A M 4 68 [(0, .inr (.inl (20, o0))), (1, .inl a1), (2, .inl a2), (3, .inl a3)] [] t 0 0 := by
    intro n
    induction n with
    | zero =>
      intro o0 a1 a2 a3 t h
      exact h.elim
    | succ n ih =>
      intro o0 a1 a2 a3 t h
      refine wp_go hR9 (cs := S_X5_canPut) (Bk := (fun pc vs ws t => match pc with | 112 => (match vs, ws with | [.inr (.inl (20, o0)), .inl a1, .inl a3], [] => B_X5_canPut_112 M (fun r t1 => post (some (.inl r)) t1) px (L_X5_canPut_68 M (fun r t1 => post (some (.inl r)) t1) px n) o0 a1 a3 t | _, _ => False) | 116 => (match vs, ws with | [.inr (.inl (20, o0)), .inl a1, .inl a3], [] => B_X5_canPut_116 M (fun r t1 => post (some (.inl r)) t1) px (L_X5_canPut_68 M (fun r t1 => post (some (.inl r)) t1) px n) o0 a1 a3 t | _, _ => False) | _ => False)) ?_ 400 68 _ _ _ _ _ h
      intro pc q vs ws t hc hk
      split at hk
      · cases hc
        split at hk
        · exact W112 _ ih _ _ _ _ hk
        · exact hk.elim
      · cases hc
        split at hk
        · exact W116 _ ih _ _ _ _ hk
        · exact hk.elim
      · exact hk.elim
  have W59 : ∀ (k4 : Nat → Int32 → Int32 → Int32 → TT → Prop) (hk4 : ∀ (o0 : Nat) (a1 : Int32) (a2 : Int32) (a3 : Int32) (t : TT), k4 o0 a1 a2 a3 t → Wat p l e ({ frames := 2, cells := 0, slots := 0, locals := 42 } : Room) s m args below meth c (QM below args s D X ad A M 0 0 post px) D X ad A M 4 4 [(0, .inr (.inl (20, o0))), (1, .inl a1), (2, .inl a2), (3, .inl a3)] [] t 0 0) (o0 : Nat) (a1 : Int32) (a3 : Int32) (s0 : Int32) (t : TT), B_X5_canPut_59 M (fun r t1 => post (some (.inl r)) t1) px k4 o0 a1 a3 s0 t → Wat p l e ({ frames := 2, cells := 0, slots := 0, locals := 42 } : Room) s m args below meth c (QM below args s D X ad A M 0 0 post px) D X ad A M 4 59 [(0, .inr (.inl (20, o0))), (1, .inl a1), (3, .inl a3)] [.inl s0] t 0 0 := by
    intro k4 hk4 o0 a1 a3 s0 t h
    refine wp_go hR9 (cs := S_X5_canPut) (Bk := (fun pc vs ws t => match pc with | 4 => (match vs, ws with | [.inr (.inl (20, o0)), .inl a1, .inl a2, .inl a3], [] => k4 o0 a1 a2 a3 t | _, _ => False) | _ => False)) ?_ 400 59 _ _ _ _ _ h
    intro pc q vs ws t hc hk
    split at hk
    · cases hc
      split at hk
      · exact hk4 _ _ _ _ _ hk
      · exact hk.elim
    · exact hk.elim
  have W58 : ∀ (k4 : Nat → Int32 → Int32 → Int32 → TT → Prop) (hk4 : ∀ (o0 : Nat) (a1 : Int32) (a2 : Int32) (a3 : Int32) (t : TT), k4 o0 a1 a2 a3 t → Wat p l e ({ frames := 2, cells := 0, slots := 0, locals := 42 } : Room) s m args below meth c (QM below args s D X ad A M 0 0 post px) D X ad A M 4 4 [(0, .inr (.inl (20, o0))), (1, .inl a1), (2, .inl a2), (3, .inl a3)] [] t 0 0) (o0 : Nat) (a1 : Int32) (a3 : Int32) (t : TT), B_X5_canPut_58 M (fun r t1 => post (some (.inl r)) t1) px k4 o0 a1 a3 t → Wat p l e ({ frames := 2, cells := 0, slots := 0, locals := 42 } : Room) s m args below meth c (QM below args s D X ad A M 0 0 post px) D X ad A M 4 58 [(0, .inr (.inl (20, o0))), (1, .inl a1), (3, .inl a3)] [] t 0 0 := by
    intro k4 hk4 o0 a1 a3 t h
    refine wp_go hR9 (cs := S_X5_canPut) (Bk := (fun pc vs ws t => match pc with | 59 => (match vs, ws with | [.inr (.inl (20, o0)), .inl a1, .inl a3], [.inl s0] => B_X5_canPut_59 M (fun r t1 => post (some (.inl r)) t1) px k4 o0 a1 a3 s0 t | _, _ => False) | _ => False)) ?_ 400 58 _ _ _ _ _ h
    intro pc q vs ws t hc hk
    split at hk
    · cases hc
      split at hk
      · exact W59 _ hk4 _ _ _ _ _ hk
      · exact hk.elim
    · exact hk.elim
  have W54 : ∀ (k4 : Nat → Int32 → Int32 → Int32 → TT → Prop) (hk4 : ∀ (o0 : Nat) (a1 : Int32) (a2 : Int32) (a3 : Int32) (t : TT), k4 o0 a1 a2 a3 t → Wat p l e ({ frames := 2, cells := 0, slots := 0, locals := 42 } : Room) s m args below meth c (QM below args s D X ad A M 0 0 post px) D X ad A M 4 4 [(0, .inr (.inl (20, o0))), (1, .inl a1), (2, .inl a2), (3, .inl a3)] [] t 0 0) (o0 : Nat) (a1 : Int32) (a3 : Int32) (t : TT), B_X5_canPut_54 M (fun r t1 => post (some (.inl r)) t1) px k4 o0 a1 a3 t → Wat p l e ({ frames := 2, cells := 0, slots := 0, locals := 42 } : Room) s m args below meth c (QM below args s D X ad A M 0 0 post px) D X ad A M 4 54 [(0, .inr (.inl (20, o0))), (1, .inl a1), (3, .inl a3)] [] t 0 0 := by
    intro k4 hk4 o0 a1 a3 t h
    refine wp_go hR9 (cs := S_X5_canPut) (Bk := (fun pc vs ws t => match pc with | 59 => (match vs, ws with | [.inr (.inl (20, o0)), .inl a1, .inl a3], [.inl s0] => B_X5_canPut_59 M (fun r t1 => post (some (.inl r)) t1) px k4 o0 a1 a3 s0 t | _, _ => False) | _ => False)) ?_ 400 54 _ _ _ _ _ h
    intro pc q vs ws t hc hk
    split at hk
    · cases hc
      split at hk
      · exact W59 _ hk4 _ _ _ _ _ hk
      · exact hk.elim
    · exact hk.elim
  have W4 : ∀ (n : Nat) (o0 : Nat) (a1 : Int32) (a2 : Int32) (a3 : Int32) (t : TT), L_X5_canPut_4 M (fun r t1 => post (some (.inl r)) t1) px n o0 a1 a2 a3 t → Wat p l e ({ frames := 2, cells := 0, slots := 0, locals := 42 } : Room) s m args below meth c (QM below args s D X ad A M 0 0 post px) D X ad A M 4 4 [(0, .inr (.inl (20, o0))), (1, .inl a1), (2, .inl a2), (3, .inl a3)] [] t 0 0 := by
    intro n
    induction n with
    | zero =>
      intro o0 a1 a2 a3 t h
      exact h.elim
    | succ n ih =>
      intro o0 a1 a2 a3 t h
      refine wp_go hR9 (cs := S_X5_canPut) (Bk := (fun pc vs ws t => match pc with | 54 => (match vs, ws with | [.inr (.inl (20, o0)), .inl a1, .inl a3], [] => B_X5_canPut_54 M (fun r t1 => post (some (.inl r)) t1) px (L_X5_canPut_4 M (fun r t1 => post (some (.inl r)) t1) px n) o0 a1 a3 t | _, _ => False) | 58 => (match vs, ws with | [.inr (.inl (20, o0)), .inl a1, .inl a3], [] => B_X5_canPut_58 M (fun r t1 => post (some (.inl r)) t1) px (L_X5_canPut_4 M (fun r t1 => post (some (.inl r)) t1) px n) o0 a1 a3 t | _, _ => False) | 68 => (match vs, ws with | [.inr (.inl (20, o0)), .inl a1, .inl a2, .inl a3], [] => ∃ n9, L_X5_canPut_68 M (fun r t1 => post (some (.inl r)) t1) px n9 o0 a1 a2 a3 t | _, _ => False) | _ => False)) ?_ 400 4 _ _ _ _ _ h
      intro pc q vs ws t hc hk
      split at hk
      · cases hc
        split at hk
        · exact W54 _ ih _ _ _ _ hk
        · exact hk.elim
      · cases hc
        split at hk
        · exact W58 _ ih _ _ _ _ hk
        · exact hk.elim
      · cases hc
        split at hk
        · obtain ⟨n9, hk⟩ := hk
          exact W68 n9 _ _ _ _ _ hk
        · exact hk.elim
      · exact hk.elim
  refine wp_go hR9 (cs := S_X5_canPut) (Bk := (fun pc vs ws t => match pc with | 4 => (match vs, ws with | [.inr (.inl (20, o0)), .inl a1, .inl a2, .inl a3], [] => ∃ n9, L_X5_canPut_4 M (fun r t1 => post (some (.inl r)) t1) px n9 o0 a1 a2 a3 t | _, _ => False) | _ => False)) ?_ 400 0 _ _ _ _ _ h
  intro pc q vs ws t hc hk
  split at hk
  · cases hc
    split at hk
    · obtain ⟨n9, hk⟩ := hk
      exact W4 n9 _ _ _ _ _ hk
    · exact hk.elim
  · exact hk.elim
theorem k_X5_canPut (hx : p.tables.exec = Jvm.exec) (hb : c.code = b) (hml : c.maxLocals = nL) (hts : ∀ w ∈ LT, w.before args s = true) {own : String} (hown : s.vm.findClass own = some m.cls) (hK : va_K D vwCl (TYX X) s) (hA : ∀ q, s.heap.size ≤ q → A q) (hE : EX A s) (hst9 : l.stackTraces = false) {ix : Nat} (hl9 : Cond.methodLink own ix yX5_canPut ∈ LT) (hR : 3 ≤ R.frames ∧ 65 ≤ R.locals) (hmc : R.cells = mc) (hms : R.slots = ms) (h : PC_X5_canPut M as t k kx) : CallOK p l e R s m args below meth c Q D X ad A M nL b mc ms (.invokevirtual ix) 0 0 as t k kx := by
  unfold PC_X5_canPut at h
  split at h
  · exact call_V hx hb hml hts hown hK hA hE (c_X5_canPut hst9 _ _ t h.2) ⟨hl9, ws_X5_canPut.1, ws_X5_canPut.2.1, ws_X5_canPut.2.2.1, ws_X5_canPut.2.2.2⟩ (n := 1) (by decide +kernel) hR rfl rfl hmc hms rfl ⟨20, _, rfl, h.1, Or.inr (Or.inr (Or.inr (Or.inr (Or.inr rfl)))), rfl⟩
  · exact CallOK.congr (by simp only [List.map_cons]; congr 1; exact (if_neg h.1).symm) (call_V hx hb hml hts hown hK hA hE (c_X5_canPut hst9 _ _ t h.2.2) ⟨hl9, ws_X5_canPut.1, ws_X5_canPut.2.1, ws_X5_canPut.2.2.1, ws_X5_canPut.2.2.2⟩ (n := 1) (by decide +kernel) hR rfl rfl hmc hms rfl ⟨20, _, rfl, h.2.1, Or.inr (Or.inr (Or.inr (Or.inr (Or.inr rfl)))), rfl⟩)
  · exact h.elim
def Q_X5_train (M : Nat → Nat → Bool) (ix : Nat) (as : List VV) (t : TT) (k : Option VV → TT → Prop) (kx : String → TT → Prop) : Prop := match ix with
  | 111 => PC_X5_in M as t k kx
  | 131 => PC_X5_isFine M as t k kx
  | 145 => PC_X5_deal M as t k kx
  | 148 => PC_X5_canPut M as t k kx
  | _ => False
def N_X5_train (v : Bool) (ix : Nat) : Option (Nat × Nat × Nat) := match v, ix with
  | false, 111 => some (3, 0, 0)
  | true, 131 => some (2, 0, 0)
  | true, 145 => some (1, 0, 0)
  | true, 148 => some (2, 0, 0)
  | _, _ => none
def S_X5_train (pc : Nat) : Option (List (Nat × Nat × Nat) × List (Nat × Nat) × Nat × Nat) := match pc with
  | 38 => some ([(0, 1, 20), (1, 0, 0)], [(0, 0), (1, 20)], 0, 0)
  | 33 => some ([(0, 1, 20), (1, 0, 0)], [(1, 20)], 0, 0)
  | _ => none
def H_X5_train (pc : Nat) : Option String := none
set_option maxRecDepth 100000 in
set_option maxHeartbeats 4000000 in
theorem c_X5_train {l : Launch} (hst9 : l.stackTraces = false) {D : va_G} {X : Nat → ClassId} {ad : Nat → Nat → Nat} {M : Nat → Nat → Bool} {post : Option VV → TT → Prop} {px : String → TT → Prop} (o0 : Nat) (a1 : Int32) (t : TT) (h : P_X5_train M (fun r t1 => post (some (.inl r)) t1) px o0 a1 t) : CT l yX5_train (Cond.code yX5_train cX5_train 2 (some .int) :: LT) ({ frames := 3, cells := 0, slots := 0, locals := 68 } : Room) D X ad M [.inr (.inl (20, o0)), .inl a1] t 0 0 post px := by
  refine met_of_wp (by decide +kernel) (Nat.le_of_ble_eq_true rfl) ?_
  intro p e s m args below meth c A hx hb hml hts hown hK hnt hlocks hr hA hE
  have hR9 : Ready p l e ({ frames := 3, cells := 0, slots := 0, locals := 68 } : Room) s m args below meth c D X ad A M 2 cX5_train 0 0 post px RX5 1 (fldOf F_X5) N_X5_train (Q_X5_train M) (tabOf T_X5_train) H_X5_train := by
    refine ⟨hx, hb, hts, hown, hK, hnt, hlocks, hr, F_X5_ok, ?_, fun pc en h => tabOf_ok T_X5_train_ok h, ?_⟩
    · intro v9 ix n mc1 ms1 as t k hn hl h
      unfold N_X5_train at hn
      split at hn
      · cases hn
        exact k_X5_in hx hb hml hts hown hK hA hE hst9 (by decide +kernel) ⟨Nat.le_of_ble_eq_true rfl, Nat.le_of_ble_eq_true rfl⟩ rfl rfl h
      · cases hn
        exact k_X5_isFine hx hb hml hts hown hK hA hE hst9 (by decide +kernel) ⟨Nat.le_of_ble_eq_true rfl, Nat.le_of_ble_eq_true rfl⟩ rfl rfl h
      · cases hn
        exact k_X5_deal hx hb hml hts hown hK hA hE hst9 (by decide +kernel) ⟨Nat.le_of_ble_eq_true rfl, Nat.le_of_ble_eq_true rfl⟩ rfl rfl h
      · cases hn
        exact k_X5_canPut hx hb hml hts hown hK hA hE hst9 (by decide +kernel) ⟨Nat.le_of_ble_eq_true rfl, Nat.le_of_ble_eq_true rfl⟩ rfl rfl h
      · cases hn
    · intro pc E hE9; cases hE9
  have W38 : ∀ (o0 : Nat) (a1 : Int32) (s0 : Int32) (u1 : Nat) (t : TT), B_X5_train_38 M (fun r t1 => post (some (.inl r)) t1) px o0 a1 s0 u1 t → Wat p l e ({ frames := 3, cells := 0, slots := 0, locals := 68 } : Room) s m args below meth c (QM below args s D X ad A M 0 0 post px) D X ad A M 2 38 [(0, .inr (.inl (20, o0))), (1, .inl a1)] [.inl s0, .inr (.inl (20, u1))] t 0 0 := by
    intro o0 a1 s0 u1 t h
    refine wp_go hR9 (cs := S_X5_train) (Bk := (fun _ _ _ _ => False)) ?_ 400 38 _ _ _ _ _ h
    intro pc q vs ws t hc hk
    exact hk.elim
  have W33 : ∀ (o0 : Nat) (a1 : Int32) (u0 : Nat) (t : TT), B_X5_train_33 M (fun r t1 => post (some (.inl r)) t1) px o0 a1 u0 t → Wat p l e ({ frames := 3, cells := 0, slots := 0, locals := 68 } : Room) s m args below meth c (QM below args s D X ad A M 0 0 post px) D X ad A M 2 33 [(0, .inr (.inl (20, o0))), (1, .inl a1)] [.inr (.inl (20, u0))] t 0 0 := by
    intro o0 a1 u0 t h
    refine wp_go hR9 (cs := S_X5_train) (Bk := (fun pc vs ws t => match pc with | 38 => (match vs, ws with | [.inr (.inl (20, o0)), .inl a1], [.inl s0, .inr (.inl (20, u1))] => B_X5_train_38 M (fun r t1 => post (some (.inl r)) t1) px o0 a1 s0 u1 t | _, _ => False) | _ => False)) ?_ 400 33 _ _ _ _ _ h
    intro pc q vs ws t hc hk
    split at hk
    · cases hc
      split at hk
      · exact W38 _ _ _ _ _ hk
      · exact hk.elim
    · exact hk.elim
  refine wp_go hR9 (cs := S_X5_train) (Bk := (fun pc vs ws t => match pc with | 33 => (match vs, ws with | [.inr (.inl (20, o0)), .inl a1], [.inr (.inl (20, u0))] => B_X5_train_33 M (fun r t1 => post (some (.inl r)) t1) px o0 a1 u0 t | _, _ => False) | 38 => (match vs, ws with | [.inr (.inl (20, o0)), .inl a1], [.inl s0, .inr (.inl (20, u1))] => B_X5_train_38 M (fun r t1 => post (some (.inl r)) t1) px o0 a1 s0 u1 t | _, _ => False) | _ => False)) ?_ 400 0 _ _ _ _ _ h
  intro pc q vs ws t hc hk
  split at hk
  · cases hc
    split at hk
    · exact W33 _ _ _ _ hk
    · exact hk.elim
  · cases hc
    split at hk
    · exact W38 _ _ _ _ _ hk
    · exact hk.elim
  · exact hk.elim
theorem k_X5_train (hx : p.tables.exec = Jvm.exec) (hb : c.code = b) (hml : c.maxLocals = nL) (hts : ∀ w ∈ LT, w.before args s = true) {own : String} (hown : s.vm.findClass own = some m.cls) (hK : va_K D vwCl (TYX X) s) (hA : ∀ q, s.heap.size ≤ q → A q) (hE : EX A s) (hst9 : l.stackTraces = false) {ix : Nat} (hl9 : Cond.methodLink own ix yX5_train ∈ LT) (hR : 4 ≤ R.frames ∧ 89 ≤ R.locals) (hmc : R.cells = mc) (hms : R.slots = ms) (h : PC_X5_train M as t k kx) : CallOK p l e R s m args below meth c Q D X ad A M nL b mc ms (.invokevirtual ix) 0 0 as t k kx := by
  unfold PC_X5_train at h
  split at h
  · exact call_V hx hb hml hts hown hK hA hE (c_X5_train hst9 _ _ t h.2) ⟨hl9, ws_X5_train.1, ws_X5_train.2.1, ws_X5_train.2.2.1, ws_X5_train.2.2.2⟩ (n := 1) (by decide +kernel) hR rfl rfl hmc hms rfl ⟨20, _, rfl, h.1, Or.inr (Or.inr (Or.inr (Or.inr (Or.inr rfl)))), rfl⟩
  · exact CallOK.congr (by simp only [List.map_cons]; congr 1; exact (if_neg h.1).symm) (call_V hx hb hml hts hown hK hA hE (c_X5_train hst9 _ _ t h.2.2) ⟨hl9, ws_X5_train.1, ws_X5_train.2.1, ws_X5_train.2.2.1, ws_X5_train.2.2.2⟩ (n := 1) (by decide +kernel) hR rfl rfl hmc hms rfl ⟨20, _, rfl, h.2.1, Or.inr (Or.inr (Or.inr (Or.inr (Or.inr rfl)))), rfl⟩)
  · exact h.elim
def Q_X5_trainIs (M : Nat → Nat → Bool) (ix : Nat) (as : List VV) (t : TT) (k : Option VV → TT → Prop) (kx : String → TT → Prop) : Prop := match ix with
  | 111 => PC_X5_in M as t k kx
  | 131 => PC_X5_isFine M as t k kx
  | 154 => PC_X5_isTrain M as t k kx
  | _ => False
def N_X5_trainIs (v : Bool) (ix : Nat) : Option (Nat × Nat × Nat) := match v, ix with
  | false, 111 => some (3, 0, 0)
  | true, 131 => some (2, 0, 0)
  | true, 154 => some (2, 0, 0)
  | _, _ => none
def S_X5_trainIs (pc : Nat) : Option (List (Nat × Nat × Nat) × List (Nat × Nat) × Nat × Nat) := match pc with
  | 141 => some ([], [(0, 0)], 0, 0)
  | 156 => some ([], [(0, 0)], 0, 0)
  | 28 => some ([(0, 1, 20), (1, 0, 0), (2, 0, 0)], [(0, 0), (1, 20)], 0, 0)
  | _ => none
def H_X5_trainIs (pc : Nat) : Option String := none
set_option maxRecDepth 100000 in
set_option maxHeartbeats 4000000 in
theorem c_X5_trainIs {l : Launch} (hst9 : l.stackTraces = false) {D : va_G} {X : Nat → ClassId} {ad : Nat → Nat → Nat} {M : Nat → Nat → Bool} {post : Option VV → TT → Prop} {px : String → TT → Prop} (o0 : Nat) (a1 : Int32) (a2 : Int32) (t : TT) (h : P_X5_trainIs M (fun r t1 => post (some (.inl r)) t1) px o0 a1 a2 t) : CT l yX5_trainIs (Cond.code yX5_trainIs cX5_trainIs 3 (some .int) :: LT) ({ frames := 2, cells := 0, slots := 0, locals := 43 } : Room) D X ad M [.inr (.inl (20, o0)), .inl a1, .inl a2] t 0 0 post px := by
  refine met_of_wp (by decide +kernel) (Nat.le_of_ble_eq_true rfl) ?_
  intro p e s m args below meth c A hx hb hml hts hown hK hnt hlocks hr hA hE
  have hR9 : Ready p l e ({ frames := 2, cells := 0, slots := 0, locals := 43 } : Room) s m args below meth c D X ad A M 3 cX5_trainIs 0 0 post px RX5 1 (fldOf F_X5) N_X5_trainIs (Q_X5_trainIs M) (tabOf T_X5_trainIs) H_X5_trainIs := by
    refine ⟨hx, hb, hts, hown, hK, hnt, hlocks, hr, F_X5_ok, ?_, fun pc en h => tabOf_ok T_X5_trainIs_ok h, ?_⟩
    · intro v9 ix n mc1 ms1 as t k hn hl h
      unfold N_X5_trainIs at hn
      split at hn
      · cases hn
        exact k_X5_in hx hb hml hts hown hK hA hE hst9 (by decide +kernel) ⟨Nat.le_of_ble_eq_true rfl, Nat.le_of_ble_eq_true rfl⟩ rfl rfl h
      · cases hn
        exact k_X5_isFine hx hb hml hts hown hK hA hE hst9 (by decide +kernel) ⟨Nat.le_of_ble_eq_true rfl, Nat.le_of_ble_eq_true rfl⟩ rfl rfl h
      · cases hn
        exact k_X5_isTrain hx hb hml hts hown hK hA hE hst9 (by decide +kernel) ⟨Nat.le_of_ble_eq_true rfl, Nat.le_of_ble_eq_true rfl⟩ rfl rfl h
      · cases hn
    · intro pc E hE9; cases hE9
  have W141 : ∀ (s0 : Int32) (t : TT), B_X5_trainIs_141 M (fun r t1 => post (some (.inl r)) t1) px s0 t → Wat p l e ({ frames := 2, cells := 0, slots := 0, locals := 43 } : Room) s m args below meth c (QM below args s D X ad A M 0 0 post px) D X ad A M 3 141 [] [.inl s0] t 0 0 := by
    intro s0 t h
    refine wp_go hR9 (cs := S_X5_trainIs) (Bk := (fun _ _ _ _ => False)) ?_ 400 141 _ _ _ _ _ h
    intro pc q vs ws t hc hk
    exact hk.elim
  have W156 : ∀ (s0 : Int32) (t : TT), B_X5_trainIs_156 M (fun r t1 => post (some (.inl r)) t1) px s0 t → Wat p l e ({ frames := 2, cells := 0, slots := 0, locals := 43 } : Room) s m args below meth c (QM below args s D X ad A M 0 0 post px) D X ad A M 3 156 [] [.inl s0] t 0 0 := by
    intro s0 t h
    refine wp_go hR9 (cs := S_X5_trainIs) (Bk := (fun _ _ _ _ => False)) ?_ 400 156 _ _ _ _ _ h
    intro pc q vs ws t hc hk
    exact hk.elim
  have W28 : ∀ (o0 : Nat) (a1 : Int32) (a2 : Int32) (s0 : Int32) (u1 : Nat) (t : TT), B_X5_trainIs_28 M (fun r t1 => post (some (.inl r)) t1) px o0 a1 a2 s0 u1 t → Wat p l e ({ frames := 2, cells := 0, slots := 0, locals := 43 } : Room) s m args below meth c (QM below args s D X ad A M 0 0 post px) D X ad A M 3 28 [(0, .inr (.inl (20, o0))), (1, .inl a1), (2, .inl a2)] [.inl s0, .inr (.inl (20, u1))] t 0 0 := by
    intro o0 a1 a2 s0 u1 t h
    refine wp_go hR9 (cs := S_X5_trainIs) (Bk := (fun pc vs ws t => match pc with | 141 => (match vs, ws with | [], [.inl s0] => B_X5_trainIs_141 M (fun r t1 => post (some (.inl r)) t1) px s0 t | _, _ => False) | 156 => (match vs, ws with | [], [.inl s0] => B_X5_trainIs_156 M (fun r t1 => post (some (.inl r)) t1) px s0 t | _, _ => False) | _ => False)) ?_ 400 28 _ _ _ _ _ h
    intro pc q vs ws t hc hk
    split at hk
    · cases hc
      split at hk
      · exact W141 _ _ hk
      · exact hk.elim
    · cases hc
      split at hk
      · exact W156 _ _ hk
      · exact hk.elim
    · exact hk.elim
  refine wp_go hR9 (cs := S_X5_trainIs) (Bk := (fun pc vs ws t => match pc with | 28 => (match vs, ws with | [.inr (.inl (20, o0)), .inl a1, .inl a2], [.inl s0, .inr (.inl (20, u1))] => B_X5_trainIs_28 M (fun r t1 => post (some (.inl r)) t1) px o0 a1 a2 s0 u1 t | _, _ => False) | _ => False)) ?_ 400 0 _ _ _ _ _ h
  intro pc q vs ws t hc hk
  split at hk
  · cases hc
    split at hk
    · exact W28 _ _ _ _ _ _ hk
    · exact hk.elim
  · exact hk.elim
theorem k_X5_trainIs (hx : p.tables.exec = Jvm.exec) (hb : c.code = b) (hml : c.maxLocals = nL) (hts : ∀ w ∈ LT, w.before args s = true) {own : String} (hown : s.vm.findClass own = some m.cls) (hK : va_K D vwCl (TYX X) s) (hA : ∀ q, s.heap.size ≤ q → A q) (hE : EX A s) (hst9 : l.stackTraces = false) {ix : Nat} (hl9 : Cond.methodLink own ix yX5_trainIs ∈ LT) (hR : 3 ≤ R.frames ∧ 65 ≤ R.locals) (hmc : R.cells = mc) (hms : R.slots = ms) (h : PC_X5_trainIs M as t k kx) : CallOK p l e R s m args below meth c Q D X ad A M nL b mc ms (.invokevirtual ix) 0 0 as t k kx := by
  unfold PC_X5_trainIs at h
  split at h
  · exact call_V hx hb hml hts hown hK hA hE (c_X5_trainIs hst9 _ _ _ t h.2) ⟨hl9, ws_X5_trainIs.1, ws_X5_trainIs.2.1, ws_X5_trainIs.2.2.1, ws_X5_trainIs.2.2.2⟩ (n := 2) (by decide +kernel) hR rfl rfl hmc hms rfl ⟨20, _, rfl, h.1, Or.inr (Or.inr (Or.inr (Or.inr (Or.inr rfl)))), rfl⟩
  · exact CallOK.congr (by simp only [List.map_cons]; congr 1; exact (if_neg h.1).symm) (call_V hx hb hml hts hown hK hA hE (c_X5_trainIs hst9 _ _ _ t h.2.2) ⟨hl9, ws_X5_trainIs.1, ws_X5_trainIs.2.1, ws_X5_trainIs.2.2.1, ws_X5_trainIs.2.2.2⟩ (n := 2) (by decide +kernel) hR rfl rfl hmc hms rfl ⟨20, _, rfl, h.2.1, Or.inr (Or.inr (Or.inr (Or.inr (Or.inr rfl)))), rfl⟩)
  · exact h.elim
def Q_X5_slip (M : Nat → Nat → Bool) (ix : Nat) (as : List VV) (t : TT) (k : Option VV → TT → Prop) (kx : String → TT → Prop) : Prop := match ix with
  | 111 => PC_X5_in M as t k kx
  | 131 => PC_X5_isFine M as t k kx
  | 154 => PC_X5_isTrain M as t k kx
  | _ => False
def N_X5_slip (v : Bool) (ix : Nat) : Option (Nat × Nat × Nat) := match v, ix with
  | false, 111 => some (3, 0, 0)
  | true, 131 => some (2, 0, 0)
  | true, 154 => some (2, 0, 0)
  | _, _ => none
def S_X5_slip (pc : Nat) : Option (List (Nat × Nat × Nat) × List (Nat × Nat) × Nat × Nat) := match pc with
  | 27 => some ([(0, 1, 20), (1, 0, 0), (2, 0, 0)], [(0, 0), (1, 20)], 0, 0)
  | _ => none
def H_X5_slip (pc : Nat) : Option String := none
set_option maxRecDepth 100000 in
set_option maxHeartbeats 4000000 in
theorem c_X5_slip {l : Launch} (hst9 : l.stackTraces = false) {D : va_G} {X : Nat → ClassId} {ad : Nat → Nat → Nat} {M : Nat → Nat → Bool} {post : Option VV → TT → Prop} {px : String → TT → Prop} (o0 : Nat) (a1 : Int32) (a2 : Int32) (t : TT) (h : P_X5_slip M (fun r t1 => post (some (.inl r)) t1) px o0 a1 a2 t) : CT l yX5_slip (Cond.code yX5_slip cX5_slip 4 (some .int) :: LT) ({ frames := 2, cells := 0, slots := 0, locals := 43 } : Room) D X ad M [.inr (.inl (20, o0)), .inl a1, .inl a2] t 0 0 post px := by
  refine met_of_wp (by decide +kernel) (Nat.le_of_ble_eq_true rfl) ?_
  intro p e s m args below meth c A hx hb hml hts hown hK hnt hlocks hr hA hE
  have hR9 : Ready p l e ({ frames := 2, cells := 0, slots := 0, locals := 43 } : Room) s m args below meth c D X ad A M 4 cX5_slip 0 0 post px RX5 1 (fldOf F_X5) N_X5_slip (Q_X5_slip M) (tabOf T_X5_slip) H_X5_slip := by
    refine ⟨hx, hb, hts, hown, hK, hnt, hlocks, hr, F_X5_ok, ?_, fun pc en h => tabOf_ok T_X5_slip_ok h, ?_⟩
    · intro v9 ix n mc1 ms1 as t k hn hl h
      unfold N_X5_slip at hn
      split at hn
      · cases hn
        exact k_X5_in hx hb hml hts hown hK hA hE hst9 (by decide +kernel) ⟨Nat.le_of_ble_eq_true rfl, Nat.le_of_ble_eq_true rfl⟩ rfl rfl h
      · cases hn
        exact k_X5_isFine hx hb hml hts hown hK hA hE hst9 (by decide +kernel) ⟨Nat.le_of_ble_eq_true rfl, Nat.le_of_ble_eq_true rfl⟩ rfl rfl h
      · cases hn
        exact k_X5_isTrain hx hb hml hts hown hK hA hE hst9 (by decide +kernel) ⟨Nat.le_of_ble_eq_true rfl, Nat.le_of_ble_eq_true rfl⟩ rfl rfl h
      · cases hn
    · intro pc E hE9; cases hE9
  have W27 : ∀ (o0 : Nat) (a1 : Int32) (a2 : Int32) (s0 : Int32) (u1 : Nat) (t : TT), B_X5_slip_27 M (fun r t1 => post (some (.inl r)) t1) px o0 a1 a2 s0 u1 t → Wat p l e ({ frames := 2, cells := 0, slots := 0, locals := 43 } : Room) s m args below meth c (QM below args s D X ad A M 0 0 post px) D X ad A M 4 27 [(0, .inr (.inl (20, o0))), (1, .inl a1), (2, .inl a2)] [.inl s0, .inr (.inl (20, u1))] t 0 0 := by
    intro o0 a1 a2 s0 u1 t h
    refine wp_go hR9 (cs := S_X5_slip) (Bk := (fun _ _ _ _ => False)) ?_ 400 27 _ _ _ _ _ h
    intro pc q vs ws t hc hk
    exact hk.elim
  refine wp_go hR9 (cs := S_X5_slip) (Bk := (fun pc vs ws t => match pc with | 27 => (match vs, ws with | [.inr (.inl (20, o0)), .inl a1, .inl a2], [.inl s0, .inr (.inl (20, u1))] => B_X5_slip_27 M (fun r t1 => post (some (.inl r)) t1) px o0 a1 a2 s0 u1 t | _, _ => False) | _ => False)) ?_ 400 0 _ _ _ _ _ h
  intro pc q vs ws t hc hk
  split at hk
  · cases hc
    split at hk
    · exact W27 _ _ _ _ _ _ hk
    · exact hk.elim
  · exact hk.elim
theorem k_X5_slip (hx : p.tables.exec = Jvm.exec) (hb : c.code = b) (hml : c.maxLocals = nL) (hts : ∀ w ∈ LT, w.before args s = true) {own : String} (hown : s.vm.findClass own = some m.cls) (hK : va_K D vwCl (TYX X) s) (hA : ∀ q, s.heap.size ≤ q → A q) (hE : EX A s) (hst9 : l.stackTraces = false) {ix : Nat} (hl9 : Cond.methodLink own ix yX5_slip ∈ LT) (hR : 3 ≤ R.frames ∧ 66 ≤ R.locals) (hmc : R.cells = mc) (hms : R.slots = ms) (h : PC_X5_slip M as t k kx) : CallOK p l e R s m args below meth c Q D X ad A M nL b mc ms (.invokevirtual ix) 0 0 as t k kx := by
  unfold PC_X5_slip at h
  split at h
  · exact call_V hx hb hml hts hown hK hA hE (c_X5_slip hst9 _ _ _ t h.2) ⟨hl9, ws_X5_slip.1, ws_X5_slip.2.1, ws_X5_slip.2.2.1, ws_X5_slip.2.2.2⟩ (n := 2) (by decide +kernel) hR rfl rfl hmc hms rfl ⟨20, _, rfl, h.1, Or.inr (Or.inr (Or.inr (Or.inr (Or.inr rfl)))), rfl⟩
  · exact CallOK.congr (by simp only [List.map_cons]; congr 1; exact (if_neg h.1).symm) (call_V hx hb hml hts hown hK hA hE (c_X5_slip hst9 _ _ _ t h.2.2) ⟨hl9, ws_X5_slip.1, ws_X5_slip.2.1, ws_X5_slip.2.2.1, ws_X5_slip.2.2.2⟩ (n := 2) (by decide +kernel) hR rfl rfl hmc hms rfl ⟨20, _, rfl, h.2.1, Or.inr (Or.inr (Or.inr (Or.inr (Or.inr rfl)))), rfl⟩)
  · exact h.elim
def Q_X5_silent (M : Nat → Nat → Bool) (ix : Nat) (as : List VV) (t : TT) (k : Option VV → TT → Prop) (kx : String → TT → Prop) : Prop := match ix with
  | 131 => PC_X5_isFine M as t k kx
  | 154 => PC_X5_isTrain M as t k kx
  | _ => False
def N_X5_silent (v : Bool) (ix : Nat) : Option (Nat × Nat × Nat) := match v, ix with
  | true, 131 => some (2, 0, 0)
  | true, 154 => some (2, 0, 0)
  | _, _ => none
def S_X5_silent (pc : Nat) : Option (List (Nat × Nat × Nat) × List (Nat × Nat) × Nat × Nat) := match pc with
  | 14 => some ([(0, 1, 20), (1, 0, 0), (2, 0, 0)], [(0, 0), (1, 20)], 0, 0)
  | _ => none
def H_X5_silent (pc : Nat) : Option String := none
set_option maxRecDepth 100000 in
set_option maxHeartbeats 4000000 in
theorem c_X5_silent {l : Launch} (hst9 : l.stackTraces = false) {D : va_G} {X : Nat → ClassId} {ad : Nat → Nat → Nat} {M : Nat → Nat → Bool} {post : Option VV → TT → Prop} {px : String → TT → Prop} (o0 : Nat) (a1 : Int32) (a2 : Int32) (t : TT) (h : P_X5_silent M (fun r t1 => post (some (.inl r)) t1) px o0 a1 a2 t) : CT l yX5_silent (Cond.code yX5_silent cX5_silent 4 (some .boolean) :: LT) ({ frames := 2, cells := 0, slots := 0, locals := 43 } : Room) D X ad M [.inr (.inl (20, o0)), .inl a1, .inl a2] t 0 0 post px := by
  refine met_of_wp (by decide +kernel) (Nat.le_of_ble_eq_true rfl) ?_
  intro p e s m args below meth c A hx hb hml hts hown hK hnt hlocks hr hA hE
  have hR9 : Ready p l e ({ frames := 2, cells := 0, slots := 0, locals := 43 } : Room) s m args below meth c D X ad A M 4 cX5_silent 0 0 post px RX5 2 (fldOf F_X5) N_X5_silent (Q_X5_silent M) (tabOf T_X5_silent) H_X5_silent := by
    refine ⟨hx, hb, hts, hown, hK, hnt, hlocks, hr, F_X5_ok, ?_, fun pc en h => tabOf_ok T_X5_silent_ok h, ?_⟩
    · intro v9 ix n mc1 ms1 as t k hn hl h
      unfold N_X5_silent at hn
      split at hn
      · cases hn
        exact k_X5_isFine hx hb hml hts hown hK hA hE hst9 (by decide +kernel) ⟨Nat.le_of_ble_eq_true rfl, Nat.le_of_ble_eq_true rfl⟩ rfl rfl h
      · cases hn
        exact k_X5_isTrain hx hb hml hts hown hK hA hE hst9 (by decide +kernel) ⟨Nat.le_of_ble_eq_true rfl, Nat.le_of_ble_eq_true rfl⟩ rfl rfl h
      · cases hn
    · intro pc E hE9; cases hE9
  have W14 : ∀ (o0 : Nat) (a1 : Int32) (a2 : Int32) (s0 : Int32) (u1 : Nat) (t : TT), B_X5_silent_14 M (fun r t1 => post (some (.inl r)) t1) px o0 a1 a2 s0 u1 t → Wat p l e ({ frames := 2, cells := 0, slots := 0, locals := 43 } : Room) s m args below meth c (QM below args s D X ad A M 0 0 post px) D X ad A M 4 14 [(0, .inr (.inl (20, o0))), (1, .inl a1), (2, .inl a2)] [.inl s0, .inr (.inl (20, u1))] t 0 0 := by
    intro o0 a1 a2 s0 u1 t h
    refine wp_go hR9 (cs := S_X5_silent) (Bk := (fun _ _ _ _ => False)) ?_ 400 14 _ _ _ _ _ h
    intro pc q vs ws t hc hk
    exact hk.elim
  refine wp_go hR9 (cs := S_X5_silent) (Bk := (fun pc vs ws t => match pc with | 14 => (match vs, ws with | [.inr (.inl (20, o0)), .inl a1, .inl a2], [.inl s0, .inr (.inl (20, u1))] => B_X5_silent_14 M (fun r t1 => post (some (.inl r)) t1) px o0 a1 a2 s0 u1 t | _, _ => False) | _ => False)) ?_ 400 0 _ _ _ _ _ h
  intro pc q vs ws t hc hk
  split at hk
  · cases hc
    split at hk
    · exact W14 _ _ _ _ _ _ hk
    · exact hk.elim
  · exact hk.elim
theorem k_X5_silent (hx : p.tables.exec = Jvm.exec) (hb : c.code = b) (hml : c.maxLocals = nL) (hts : ∀ w ∈ LT, w.before args s = true) {own : String} (hown : s.vm.findClass own = some m.cls) (hK : va_K D vwCl (TYX X) s) (hA : ∀ q, s.heap.size ≤ q → A q) (hE : EX A s) (hst9 : l.stackTraces = false) {ix : Nat} (hl9 : Cond.methodLink own ix yX5_silent ∈ LT) (hR : 3 ≤ R.frames ∧ 66 ≤ R.locals) (hmc : R.cells = mc) (hms : R.slots = ms) (h : PC_X5_silent M as t k kx) : CallOK p l e R s m args below meth c Q D X ad A M nL b mc ms (.invokevirtual ix) 0 0 as t k kx := by
  unfold PC_X5_silent at h
  split at h
  · exact call_V hx hb hml hts hown hK hA hE (c_X5_silent hst9 _ _ _ t h.2) ⟨hl9, ws_X5_silent.1, ws_X5_silent.2.1, ws_X5_silent.2.2.1, ws_X5_silent.2.2.2⟩ (n := 2) (by decide +kernel) hR rfl rfl hmc hms rfl ⟨20, _, rfl, h.1, Or.inr (Or.inr (Or.inr (Or.inr (Or.inr rfl)))), rfl⟩
  · exact CallOK.congr (by simp only [List.map_cons]; congr 1; exact (if_neg h.1).symm) (call_V hx hb hml hts hown hK hA hE (c_X5_silent hst9 _ _ _ t h.2.2) ⟨hl9, ws_X5_silent.1, ws_X5_silent.2.1, ws_X5_silent.2.2.1, ws_X5_silent.2.2.2⟩ (n := 2) (by decide +kernel) hR rfl rfl hmc hms rfl ⟨20, _, rfl, h.2.1, Or.inr (Or.inr (Or.inr (Or.inr (Or.inr rfl)))), rfl⟩)
  · exact h.elim
def Q_X5_emergency (M : Nat → Nat → Bool) (ix : Nat) (as : List VV) (t : TT) (k : Option VV → TT → Prop) (kx : String → TT → Prop) : Prop := match ix with
  | 131 => PC_X5_isFine M as t k kx
  | 154 => PC_X5_isTrain M as t k kx
  | _ => False
def N_X5_emergency (v : Bool) (ix : Nat) : Option (Nat × Nat × Nat) := match v, ix with
  | true, 131 => some (2, 0, 0)
  | true, 154 => some (2, 0, 0)
  | _, _ => none
def S_X5_emergency (pc : Nat) : Option (List (Nat × Nat × Nat) × List (Nat × Nat) × Nat × Nat) := match pc with
  | 41 => some ([(0, 1, 20), (1, 0, 0)], [(0, 0), (0, 0), (36, 21)], 0, 0)
  | 14 => some ([(0, 1, 20), (1, 0, 0)], [(0, 0), (1, 20)], 0, 0)
  | _ => none
def H_X5_emergency (pc : Nat) : Option String := none
set_option maxRecDepth 100000 in
set_option maxHeartbeats 4000000 in
theorem c_X5_emergency {l : Launch} (hst9 : l.stackTraces = false) {D : va_G} {X : Nat → ClassId} {ad : Nat → Nat → Nat} {M : Nat → Nat → Bool} {post : Option VV → TT → Prop} {px : String → TT → Prop} (o0 : Nat) (a1 : Int32) (t : TT) (h : P_X5_emergency M (fun r t1 => post (some (.inl r)) t1) px o0 a1 t) : CT l yX5_emergency (Cond.code yX5_emergency cX5_emergency 2 (some .boolean) :: LT) ({ frames := 2, cells := 0, slots := 0, locals := 43 } : Room) D X ad M [.inr (.inl (20, o0)), .inl a1] t 0 0 post px := by
  refine met_of_wp (by decide +kernel) (Nat.le_of_ble_eq_true rfl) ?_
  intro p e s m args below meth c A hx hb hml hts hown hK hnt hlocks hr hA hE
  have hR9 : Ready p l e ({ frames := 2, cells := 0, slots := 0, locals := 43 } : Room) s m args below meth c D X ad A M 2 cX5_emergency 0 0 post px RX5 2 (fldOf F_X5) N_X5_emergency (Q_X5_emergency M) (tabOf T_X5_emergency) H_X5_emergency := by
    refine ⟨hx, hb, hts, hown, hK, hnt, hlocks, hr, F_X5_ok, ?_, fun pc en h => tabOf_ok T_X5_emergency_ok h, ?_⟩
    · intro v9 ix n mc1 ms1 as t k hn hl h
      unfold N_X5_emergency at hn
      split at hn
      · cases hn
        exact k_X5_isFine hx hb hml hts hown hK hA hE hst9 (by decide +kernel) ⟨Nat.le_of_ble_eq_true rfl, Nat.le_of_ble_eq_true rfl⟩ rfl rfl h
      · cases hn
        exact k_X5_isTrain hx hb hml hts hown hK hA hE hst9 (by decide +kernel) ⟨Nat.le_of_ble_eq_true rfl, Nat.le_of_ble_eq_true rfl⟩ rfl rfl h
      · cases hn
    · intro pc E hE9; cases hE9
  have W41 : ∀ (o0 : Nat) (a1 : Int32) (s0 : Int32) (s1 : Int32) (t : TT), B_X5_emergency_41 M (fun r t1 => post (some (.inl r)) t1) px o0 a1 s0 s1 t → Wat p l e ({ frames := 2, cells := 0, slots := 0, locals := 43 } : Room) s m args below meth c (QM below args s D X ad A M 0 0 post px) D X ad A M 2 41 [(0, .inr (.inl (20, o0))), (1, .inl a1)] [.inl s0, .inl s1, .inr (.inl (21, 33))] t 0 0 := by
    intro o0 a1 s0 s1 t h
    refine wp_go hR9 (cs := S_X5_emergency) (Bk := (fun _ _ _ _ => False)) ?_ 400 41 _ _ _ _ _ h
    intro pc q vs ws t hc hk
    exact hk.elim
  have W14 : ∀ (o0 : Nat) (a1 : Int32) (s0 : Int32) (u1 : Nat) (t : TT), B_X5_emergency_14 M (fun r t1 => post (some (.inl r)) t1) px o0 a1 s0 u1 t → Wat p l e ({ frames := 2, cells := 0, slots := 0, locals := 43 } : Room) s m args below meth c (QM below args s D X ad A M 0 0 post px) D X ad A M 2 14 [(0, .inr (.inl (20, o0))), (1, .inl a1)] [.inl s0, .inr (.inl (20, u1))] t 0 0 := by
    intro o0 a1 s0 u1 t h
    refine wp_go hR9 (cs := S_X5_emergency) (Bk := (fun pc vs ws t => match pc with | 41 => (match vs, ws with | [.inr (.inl (20, o0)), .inl a1], [.inl s0, .inl s1, .inr (.inl (21, 33))] => B_X5_emergency_41 M (fun r t1 => post (some (.inl r)) t1) px o0 a1 s0 s1 t | _, _ => False) | _ => False)) ?_ 400 14 _ _ _ _ _ h
    intro pc q vs ws t hc hk
    split at hk
    · cases hc
      split at hk
      · exact W41 _ _ _ _ _ hk
      · exact hk.elim
    · exact hk.elim
  refine wp_go hR9 (cs := S_X5_emergency) (Bk := (fun pc vs ws t => match pc with | 14 => (match vs, ws with | [.inr (.inl (20, o0)), .inl a1], [.inl s0, .inr (.inl (20, u1))] => B_X5_emergency_14 M (fun r t1 => post (some (.inl r)) t1) px o0 a1 s0 u1 t | _, _ => False) | _ => False)) ?_ 400 0 _ _ _ _ _ h
  intro pc q vs ws t hc hk
  split at hk
  · cases hc
    split at hk
    · exact W14 _ _ _ _ _ hk
    · exact hk.elim
  · exact hk.elim
theorem k_X5_emergency (hx : p.tables.exec = Jvm.exec) (hb : c.code = b) (hml : c.maxLocals = nL) (hts : ∀ w ∈ LT, w.before args s = true) {own : String} (hown : s.vm.findClass own = some m.cls) (hK : va_K D vwCl (TYX X) s) (hA : ∀ q, s.heap.size ≤ q → A q) (hE : EX A s) (hst9 : l.stackTraces = false) {ix : Nat} (hl9 : Cond.methodLink own ix yX5_emergency ∈ LT) (hR : 3 ≤ R.frames ∧ 64 ≤ R.locals) (hmc : R.cells = mc) (hms : R.slots = ms) (h : PC_X5_emergency M as t k kx) : CallOK p l e R s m args below meth c Q D X ad A M nL b mc ms (.invokevirtual ix) 0 0 as t k kx := by
  unfold PC_X5_emergency at h
  split at h
  · exact call_V hx hb hml hts hown hK hA hE (c_X5_emergency hst9 _ _ t h.2) ⟨hl9, ws_X5_emergency.1, ws_X5_emergency.2.1, ws_X5_emergency.2.2.1, ws_X5_emergency.2.2.2⟩ (n := 1) (by decide +kernel) hR rfl rfl hmc hms rfl ⟨20, _, rfl, h.1, Or.inr (Or.inr (Or.inr (Or.inr (Or.inr rfl)))), rfl⟩
  · exact CallOK.congr (by simp only [List.map_cons]; congr 1; exact (if_neg h.1).symm) (call_V hx hb hml hts hown hK hA hE (c_X5_emergency hst9 _ _ t h.2.2) ⟨hl9, ws_X5_emergency.1, ws_X5_emergency.2.1, ws_X5_emergency.2.2.1, ws_X5_emergency.2.2.2⟩ (n := 1) (by decide +kernel) hR rfl rfl hmc hms rfl ⟨20, _, rfl, h.2.1, Or.inr (Or.inr (Or.inr (Or.inr (Or.inr rfl)))), rfl⟩)
  · exact h.elim
def Q_X5_speedFor (M : Nat → Nat → Bool) (ix : Nat) (as : List VV) (t : TT) (k : Option VV → TT → Prop) (kx : String → TT → Prop) : Prop := match ix with
  | 118 => PC_X5_wayOf M as t k kx
  | _ => False
def N_X5_speedFor (v : Bool) (ix : Nat) : Option (Nat × Nat × Nat) := match v, ix with
  | false, 118 => some (1, 0, 0)
  | _, _ => none
def S_X5_speedFor (pc : Nat) : Option (List (Nat × Nat × Nat) × List (Nat × Nat) × Nat × Nat) := match pc with
  | 48 => some ([], [], 0, 0)
  | 171 => some ([(4, 0, 0)], [], 0, 0)
  | 143 => some ([(0, 1, 20), (1, 0, 0), (4, 0, 0), (5, 0, 0)], [], 0, 0)
  | 141 => some ([(0, 1, 20), (1, 0, 0), (4, 0, 0)], [(0, 0)], 0, 0)
  | 135 => some ([(0, 1, 20), (1, 0, 0), (4, 0, 0)], [], 0, 0)
  | 85 => some ([(0, 1, 20), (1, 0, 0)], [(0, 0)], 0, 0)
  | 70 => some ([(0, 1, 20), (1, 0, 0), (2, 0, 0)], [(0, 0)], 0, 0)
  | 28 => some ([], [(0, 0)], 0, 0)
  | _ => none
def H_X5_speedFor (pc : Nat) : Option String := none
set_option maxRecDepth 100000 in
set_option maxHeartbeats 4000000 in
theorem c_X5_speedFor {l : Launch} (hst9 : l.stackTraces = false) {D : va_G} {X : Nat → ClassId} {ad : Nat → Nat → Nat} {M : Nat → Nat → Bool} {post : Option VV → TT → Prop} {px : String → TT → Prop} (o0 : Nat) (a1 : Int32) (t : TT) (h : P_X5_speedFor M (fun r t1 => post (some (.inl r)) t1) px o0 a1 t) : CT l yX5_speedFor (Cond.code yX5_speedFor cX5_speedFor 6 (some .int) :: LT) ({ frames := 1, cells := 0, slots := 0, locals := 20 } : Room) D X ad M [.inr (.inl (20, o0)), .inl a1] t 0 0 post px := by
  refine met_of_wp (by decide +kernel) (Nat.le_of_ble_eq_true rfl) ?_
  intro p e s m args below meth c A hx hb hml hts hown hK hnt hlocks hr hA hE
  have hR9 : Ready p l e ({ frames := 1, cells := 0, slots := 0, locals := 20 } : Room) s m args below meth c D X ad A M 6 cX5_speedFor 0 0 post px RX5 1 (fldOf F_X5) N_X5_speedFor (Q_X5_speedFor M) (tabOf T_X5_speedFor) H_X5_speedFor := by
    refine ⟨hx, hb, hts, hown, hK, hnt, hlocks, hr, F_X5_ok, ?_, fun pc en h => tabOf_ok T_X5_speedFor_ok h, ?_⟩
    · intro v9 ix n mc1 ms1 as t k hn hl h
      unfold N_X5_speedFor at hn
      split at hn
      · cases hn
        exact k_X5_wayOf hx hb hml hts hown hK hA hE hst9 (by decide +kernel) ⟨Nat.le_of_ble_eq_true rfl, Nat.le_of_ble_eq_true rfl⟩ rfl rfl h
      · cases hn
    · intro pc E hE9; cases hE9
  have W48 : ∀ (t : TT), B_X5_speedFor_48 M (fun r t1 => post (some (.inl r)) t1) px t → Wat p l e ({ frames := 1, cells := 0, slots := 0, locals := 20 } : Room) s m args below meth c (QM below args s D X ad A M 0 0 post px) D X ad A M 6 48 [] [] t 0 0 := by
    intro t h
    refine wp_go hR9 (cs := S_X5_speedFor) (Bk := (fun _ _ _ _ => False)) ?_ 400 48 _ _ _ _ _ h
    intro pc q vs ws t hc hk
    exact hk.elim
  have W171 : ∀ (a4 : Int32) (t : TT), B_X5_speedFor_171 M (fun r t1 => post (some (.inl r)) t1) px a4 t → Wat p l e ({ frames := 1, cells := 0, slots := 0, locals := 20 } : Room) s m args below meth c (QM below args s D X ad A M 0 0 post px) D X ad A M 6 171 [(4, .inl a4)] [] t 0 0 := by
    intro a4 t h
    refine wp_go hR9 (cs := S_X5_speedFor) (Bk := (fun _ _ _ _ => False)) ?_ 400 171 _ _ _ _ _ h
    intro pc q vs ws t hc hk
    exact hk.elim
  have W143 : ∀ (n : Nat) (o0 : Nat) (a1 : Int32) (a4 : Int32) (a5 : Int32) (t : TT), L_X5_speedFor_143 M (fun r t1 => post (some (.inl r)) t1) px n o0 a1 a4 a5 t → Wat p l e ({ frames := 1, cells := 0, slots := 0, locals := 20 } : Room) s m args below meth c (QM below args s D X ad A M 0 0 post px) D X ad A M 6 143 [(0, .inr (.inl (20, o0))), (1, .inl a1), (4, .inl a4), (5, .inl a5)] [] t 0 0 := by
    intro n
    induction n with
    | zero =>
      intro o0 a1 a4 a5 t h
      exact h.elim
    | succ n ih =>
      intro o0 a1 a4 a5 t h
      refine wp_go hR9 (cs := S_X5_speedFor) (Bk := (fun pc vs ws t => match pc with | 143 => (match vs, ws with | [.inr (.inl (20, o0)), .inl a1, .inl a4, .inl a5], [] => L_X5_speedFor_143 M (fun r t1 => post (some (.inl r)) t1) px n o0 a1 a4 a5 t | _, _ => False) | 171 => (match vs, ws with | [.inl a4], [] => B_X5_speedFor_171 M (fun r t1 => post (some (.inl r)) t1) px a4 t | _, _ => False) | _ => False)) ?_ 400 143 _ _ _ _ _ h
      intro pc q vs ws t hc hk
      split at hk
      · cases hc
        split at hk
        · exact ih _ _ _ _ _ hk
        · exact hk.elim
      · cases hc
        split at hk
        · exact W171 _ _ hk
        · exact hk.elim
      · exact hk.elim
  have W141 : ∀ (o0 : Nat) (a1 : Int32) (a4 : Int32) (s0 : Int32) (t : TT), B_X5_speedFor_141 M (fun r t1 => post (some (.inl r)) t1) px o0 a1 a4 s0 t → Wat p l e ({ frames := 1, cells := 0, slots := 0, locals := 20 } : Room) s m args below meth c (QM below args s D X ad A M 0 0 post px) D X ad A M 6 141 [(0, .inr (.inl (20, o0))), (1, .inl a1), (4, .inl a4)] [.inl s0] t 0 0 := by
    intro o0 a1 a4 s0 t h
    refine wp_go hR9 (cs := S_X5_speedFor) (Bk := (fun pc vs ws t => match pc with | 143 => (match vs, ws with | [.inr (.inl (20, o0)), .inl a1, .inl a4, .inl a5], [] => ∃ n9, L_X5_speedFor_143 M (fun r t1 => post (some (.inl r)) t1) px n9 o0 a1 a4 a5 t | _, _ => False) | _ => False)) ?_ 400 141 _ _ _ _ _ h
    intro pc q vs ws t hc hk
    split at hk
    · cases hc
      split at hk
      · obtain ⟨n9, hk⟩ := hk
        exact W143 n9 _ _ _ _ _ hk
      · exact hk.elim
    · exact hk.elim
  have W135 : ∀ (o0 : Nat) (a1 : Int32) (a4 : Int32) (t : TT), B_X5_speedFor_135 M (fun r t1 => post (some (.inl r)) t1) px o0 a1 a4 t → Wat p l e ({ frames := 1, cells := 0, slots := 0, locals := 20 } : Room) s m args below meth c (QM below args s D X ad A M 0 0 post px) D X ad A M 6 135 [(0, .inr (.inl (20, o0))), (1, .inl a1), (4, .inl a4)] [] t 0 0 := by
    intro o0 a1 a4 t h
    refine wp_go hR9 (cs := S_X5_speedFor) (Bk := (fun pc vs ws t => match pc with | 141 => (match vs, ws with | [.inr (.inl (20, o0)), .inl a1, .inl a4], [.inl s0] => B_X5_speedFor_141 M (fun r t1 => post (some (.inl r)) t1) px o0 a1 a4 s0 t | _, _ => False) | _ => False)) ?_ 400 135 _ _ _ _ _ h
    intro pc q vs ws t hc hk
    split at hk
    · cases hc
      split at hk
      · exact W141 _ _ _ _ _ hk
      · exact hk.elim
    · exact hk.elim
  have W85 : ∀ (o0 : Nat) (a1 : Int32) (s0 : Int32) (t : TT), B_X5_speedFor_85 M (fun r t1 => post (some (.inl r)) t1) px o0 a1 s0 t → Wat p l e ({ frames := 1, cells := 0, slots := 0, locals := 20 } : Room) s m args below meth c (QM below args s D X ad A M 0 0 post px) D X ad A M 6 85 [(0, .inr (.inl (20, o0))), (1, .inl a1)] [.inl s0] t 0 0 := by
    intro o0 a1 s0 t h
    refine wp_go hR9 (cs := S_X5_speedFor) (Bk := (fun pc vs ws t => match pc with | 135 => (match vs, ws with | [.inr (.inl (20, o0)), .inl a1, .inl a4], [] => B_X5_speedFor_135 M (fun r t1 => post (some (.inl r)) t1) px o0 a1 a4 t | _, _ => False) | 141 => (match vs, ws with | [.inr (.inl (20, o0)), .inl a1, .inl a4], [.inl s0] => B_X5_speedFor_141 M (fun r t1 => post (some (.inl r)) t1) px o0 a1 a4 s0 t | _, _ => False) | _ => False)) ?_ 400 85 _ _ _ _ _ h
    intro pc q vs ws t hc hk
    split at hk
    · cases hc
      split at hk
      · exact W135 _ _ _ _ hk
      · exact hk.elim
    · cases hc
      split at hk
      · exact W141 _ _ _ _ _ hk
      · exact hk.elim
    · exact hk.elim
  have W70 : ∀ (o0 : Nat) (a1 : Int32) (a2 : Int32) (s0 : Int32) (t : TT), B_X5_speedFor_70 M (fun r t1 => post (some (.inl r)) t1) px o0 a1 a2 s0 t → Wat p l e ({ frames := 1, cells := 0, slots := 0, locals := 20 } : Room) s m args below meth c (QM below args s D X ad A M 0 0 post px) D X ad A M 6 70 [(0, .inr (.inl (20, o0))), (1, .inl a1), (2, .inl a2)] [.inl s0] t 0 0 := by
    intro o0 a1 a2 s0 t h
    refine wp_go hR9 (cs := S_X5_speedFor) (Bk := (fun pc vs ws t => match pc with | 85 => (match vs, ws with | [.inr (.inl (20, o0)), .inl a1], [.inl s0] => B_X5_speedFor_85 M (fun r t1 => post (some (.inl r)) t1) px o0 a1 s0 t | _, _ => False) | _ => False)) ?_ 400 70 _ _ _ _ _ h
    intro pc q vs ws t hc hk
    split at hk
    · cases hc
      split at hk
      · exact W85 _ _ _ _ hk
      · exact hk.elim
    · exact hk.elim
  have W28 : ∀ (s0 : Int32) (t : TT), B_X5_speedFor_28 M (fun r t1 => post (some (.inl r)) t1) px s0 t → Wat p l e ({ frames := 1, cells := 0, slots := 0, locals := 20 } : Room) s m args below meth c (QM below args s D X ad A M 0 0 post px) D X ad A M 6 28 [] [.inl s0] t 0 0 := by
    intro s0 t h
    refine wp_go hR9 (cs := S_X5_speedFor) (Bk := (fun _ _ _ _ => False)) ?_ 400 28 _ _ _ _ _ h
    intro pc q vs ws t hc hk
    exact hk.elim
  refine wp_go hR9 (cs := S_X5_speedFor) (Bk := (fun pc vs ws t => match pc with | 28 => (match vs, ws with | [], [.inl s0] => B_X5_speedFor_28 M (fun r t1 => post (some (.inl r)) t1) px s0 t | _, _ => False) | 48 => (match vs, ws with | [], [] => B_X5_speedFor_48 M (fun r t1 => post (some (.inl r)) t1) px t | _, _ => False) | 70 => (match vs, ws with | [.inr (.inl (20, o0)), .inl a1, .inl a2], [.inl s0] => B_X5_speedFor_70 M (fun r t1 => post (some (.inl r)) t1) px o0 a1 a2 s0 t | _, _ => False) | _ => False)) ?_ 400 0 _ _ _ _ _ h
  intro pc q vs ws t hc hk
  split at hk
  · cases hc
    split at hk
    · exact W28 _ _ hk
    · exact hk.elim
  · cases hc
    split at hk
    · exact W48 _ hk
    · exact hk.elim
  · cases hc
    split at hk
    · exact W70 _ _ _ _ _ hk
    · exact hk.elim
  · exact hk.elim
theorem k_X5_speedFor (hx : p.tables.exec = Jvm.exec) (hb : c.code = b) (hml : c.maxLocals = nL) (hts : ∀ w ∈ LT, w.before args s = true) {own : String} (hown : s.vm.findClass own = some m.cls) (hK : va_K D vwCl (TYX X) s) (hA : ∀ q, s.heap.size ≤ q → A q) (hE : EX A s) (hst9 : l.stackTraces = false) {ix : Nat} (hl9 : Cond.methodLink own ix yX5_speedFor ∈ LT) (hR : 2 ≤ R.frames ∧ 45 ≤ R.locals) (hmc : R.cells = mc) (hms : R.slots = ms) (h : PC_X5_speedFor M as t k kx) : CallOK p l e R s m args below meth c Q D X ad A M nL b mc ms (.invokevirtual ix) 0 0 as t k kx := by
  unfold PC_X5_speedFor at h
  split at h
  · exact call_V hx hb hml hts hown hK hA hE (c_X5_speedFor hst9 _ _ t h.2) ⟨hl9, ws_X5_speedFor.1, ws_X5_speedFor.2.1, ws_X5_speedFor.2.2.1, ws_X5_speedFor.2.2.2⟩ (n := 1) (by decide +kernel) hR rfl rfl hmc hms rfl ⟨20, _, rfl, h.1, Or.inr (Or.inr (Or.inr (Or.inr (Or.inr rfl)))), rfl⟩
  · exact CallOK.congr (by simp only [List.map_cons]; congr 1; exact (if_neg h.1).symm) (call_V hx hb hml hts hown hK hA hE (c_X5_speedFor hst9 _ _ t h.2.2) ⟨hl9, ws_X5_speedFor.1, ws_X5_speedFor.2.1, ws_X5_speedFor.2.2.1, ws_X5_speedFor.2.2.2⟩ (n := 1) (by decide +kernel) hR rfl rfl hmc hms rfl ⟨20, _, rfl, h.2.1, Or.inr (Or.inr (Or.inr (Or.inr (Or.inr rfl)))), rfl⟩)
  · exact h.elim
def Q_X5_go (M : Nat → Nat → Bool) (ix : Nat) (as : List VV) (t : TT) (k : Option VV → TT → Prop) (kx : String → TT → Prop) : Prop := False
def N_X5_go (v : Bool) (ix : Nat) : Option (Nat × Nat × Nat) := none
def S_X5_go (pc : Nat) : Option (List (Nat × Nat × Nat) × List (Nat × Nat) × Nat × Nat) := match pc with
  | 189 => some ([(0, 1, 20), (1, 0, 0), (3, 0, 0), (5, 0, 0)], [], 0, 0)
  | 119 => some ([(0, 1, 20), (1, 0, 0), (3, 0, 0), (5, 0, 0)], [], 0, 0)
  | 114 => some ([(0, 1, 20), (1, 0, 0), (3, 0, 0)], [(0, 0), (0, 0), (0, 0), (24, 21)], 0, 0)
  | 94 => some ([(0, 1, 20), (1, 0, 0), (2, 0, 0), (3, 0, 0)], [(0, 0), (0, 0), (0, 0), (23, 21)], 0, 0)
  | 30 => some ([(0, 1, 20), (1, 0, 0), (2, 0, 0), (3, 0, 0)], [(0, 0)], 0, 0)
  | _ => none
def H_X5_go (pc : Nat) : Option String := none
set_option maxRecDepth 100000 in
set_option maxHeartbeats 4000000 in
theorem c_X5_go {l : Launch} (hst9 : l.stackTraces = false) {D : va_G} {X : Nat → ClassId} {ad : Nat → Nat → Nat} {M : Nat → Nat → Bool} {post : Option VV → TT → Prop} {px : String → TT → Prop} (o0 : Nat) (a1 : Int32) (t : TT) (h : P_X5_go M (fun t1 => post none t1) px o0 a1 t) : CT l yX5_go (Cond.code yX5_go cX5_go 6 none :: LT) ({ frames := 0, cells := 0, slots := 0, locals := 0 } : Room) D X ad M [.inr (.inl (20, o0)), .inl a1] t 0 0 post px := by
  refine met_of_wp (by decide +kernel) (Nat.le_of_ble_eq_true rfl) ?_
  intro p e s m args below meth c A hx hb hml hts hown hK hnt hlocks hr hA hE
  have hR9 : Ready p l e ({ frames := 0, cells := 0, slots := 0, locals := 0 } : Room) s m args below meth c D X ad A M 6 cX5_go 0 0 post px RX5 0 (fldOf F_X5) N_X5_go (Q_X5_go M) (tabOf T_X5_go) H_X5_go := by
    refine ⟨hx, hb, hts, hown, hK, hnt, hlocks, hr, F_X5_ok, ?_, fun pc en h => tabOf_ok T_X5_go_ok h, ?_⟩
    · intro v9 ix n mc1 ms1 as t k hn hl h
      unfold N_X5_go at hn
      cases hn
    · intro pc E hE9; cases hE9
  have W189 : ∀ (k119 : Nat → Int32 → Int32 → Int32 → TT → Prop) (hk119 : ∀ (o0 : Nat) (a1 : Int32) (a3 : Int32) (a5 : Int32) (t : TT), k119 o0 a1 a3 a5 t → Wat p l e ({ frames := 0, cells := 0, slots := 0, locals := 0 } : Room) s m args below meth c (QM below args s D X ad A M 0 0 post px) D X ad A M 6 119 [(0, .inr (.inl (20, o0))), (1, .inl a1), (3, .inl a3), (5, .inl a5)] [] t 0 0) (o0 : Nat) (a1 : Int32) (a3 : Int32) (a5 : Int32) (t : TT), B_X5_go_189 M (fun t1 => post none t1) px k119 o0 a1 a3 a5 t → Wat p l e ({ frames := 0, cells := 0, slots := 0, locals := 0 } : Room) s m args below meth c (QM below args s D X ad A M 0 0 post px) D X ad A M 6 189 [(0, .inr (.inl (20, o0))), (1, .inl a1), (3, .inl a3), (5, .inl a5)] [] t 0 0 := by
    intro k119 hk119 o0 a1 a3 a5 t h
    refine wp_go hR9 (cs := S_X5_go) (Bk := (fun pc vs ws t => match pc with | 119 => (match vs, ws with | [.inr (.inl (20, o0)), .inl a1, .inl a3, .inl a5], [] => k119 o0 a1 a3 a5 t | _, _ => False) | _ => False)) ?_ 400 189 _ _ _ _ _ h
    intro pc q vs ws t hc hk
    split at hk
    · cases hc
      split at hk
      · exact hk119 _ _ _ _ _ hk
      · exact hk.elim
    · exact hk.elim
  have W119 : ∀ (n : Nat) (o0 : Nat) (a1 : Int32) (a3 : Int32) (a5 : Int32) (t : TT), L_X5_go_119 M (fun t1 => post none t1) px n o0 a1 a3 a5 t → Wat p l e ({ frames := 0, cells := 0, slots := 0, locals := 0 } : Room) s m args below meth c (QM below args s D X ad A M 0 0 post px) D X ad A M 6 119 [(0, .inr (.inl (20, o0))), (1, .inl a1), (3, .inl a3), (5, .inl a5)] [] t 0 0 := by
    intro n
    induction n with
    | zero =>
      intro o0 a1 a3 a5 t h
      exact h.elim
    | succ n ih =>
      intro o0 a1 a3 a5 t h
      refine wp_go hR9 (cs := S_X5_go) (Bk := (fun pc vs ws t => match pc with | 189 => (match vs, ws with | [.inr (.inl (20, o0)), .inl a1, .inl a3, .inl a5], [] => B_X5_go_189 M (fun t1 => post none t1) px (L_X5_go_119 M (fun t1 => post none t1) px n) o0 a1 a3 a5 t | _, _ => False) | _ => False)) ?_ 400 119 _ _ _ _ _ h
      intro pc q vs ws t hc hk
      split at hk
      · cases hc
        split at hk
        · exact W189 _ ih _ _ _ _ _ hk
        · exact hk.elim
      · exact hk.elim
  have W114 : ∀ (o0 : Nat) (a1 : Int32) (a3 : Int32) (s0 : Int32) (s1 : Int32) (s2 : Int32) (t : TT), B_X5_go_114 M (fun t1 => post none t1) px o0 a1 a3 s0 s1 s2 t → Wat p l e ({ frames := 0, cells := 0, slots := 0, locals := 0 } : Room) s m args below meth c (QM below args s D X ad A M 0 0 post px) D X ad A M 6 114 [(0, .inr (.inl (20, o0))), (1, .inl a1), (3, .inl a3)] [.inl s0, .inl s1, .inl s2, .inr (.inl (21, 21))] t 0 0 := by
    intro o0 a1 a3 s0 s1 s2 t h
    refine wp_go hR9 (cs := S_X5_go) (Bk := (fun pc vs ws t => match pc with | 119 => (match vs, ws with | [.inr (.inl (20, o0)), .inl a1, .inl a3, .inl a5], [] => ∃ n9, L_X5_go_119 M (fun t1 => post none t1) px n9 o0 a1 a3 a5 t | _, _ => False) | _ => False)) ?_ 400 114 _ _ _ _ _ h
    intro pc q vs ws t hc hk
    split at hk
    · cases hc
      split at hk
      · obtain ⟨n9, hk⟩ := hk
        exact W119 n9 _ _ _ _ _ hk
      · exact hk.elim
    · exact hk.elim
  have W94 : ∀ (o0 : Nat) (a1 : Int32) (a2 : Int32) (a3 : Int32) (s0 : Int32) (s1 : Int32) (s2 : Int32) (t : TT), B_X5_go_94 M (fun t1 => post none t1) px o0 a1 a2 a3 s0 s1 s2 t → Wat p l e ({ frames := 0, cells := 0, slots := 0, locals := 0 } : Room) s m args below meth c (QM below args s D X ad A M 0 0 post px) D X ad A M 6 94 [(0, .inr (.inl (20, o0))), (1, .inl a1), (2, .inl a2), (3, .inl a3)] [.inl s0, .inl s1, .inl s2, .inr (.inl (21, 20))] t 0 0 := by
    intro o0 a1 a2 a3 s0 s1 s2 t h
    refine wp_go hR9 (cs := S_X5_go) (Bk := (fun pc vs ws t => match pc with | 114 => (match vs, ws with | [.inr (.inl (20, o0)), .inl a1, .inl a3], [.inl s0, .inl s1, .inl s2, .inr (.inl (21, 21))] => B_X5_go_114 M (fun t1 => post none t1) px o0 a1 a3 s0 s1 s2 t | _, _ => False) | _ => False)) ?_ 400 94 _ _ _ _ _ h
    intro pc q vs ws t hc hk
    split at hk
    · cases hc
      split at hk
      · exact W114 _ _ _ _ _ _ _ hk
      · exact hk.elim
    · exact hk.elim
  have W30 : ∀ (o0 : Nat) (a1 : Int32) (a2 : Int32) (a3 : Int32) (s0 : Int32) (t : TT), B_X5_go_30 M (fun t1 => post none t1) px o0 a1 a2 a3 s0 t → Wat p l e ({ frames := 0, cells := 0, slots := 0, locals := 0 } : Room) s m args below meth c (QM below args s D X ad A M 0 0 post px) D X ad A M 6 30 [(0, .inr (.inl (20, o0))), (1, .inl a1), (2, .inl a2), (3, .inl a3)] [.inl s0] t 0 0 := by
    intro o0 a1 a2 a3 s0 t h
    refine wp_go hR9 (cs := S_X5_go) (Bk := (fun pc vs ws t => match pc with | 94 => (match vs, ws with | [.inr (.inl (20, o0)), .inl a1, .inl a2, .inl a3], [.inl s0, .inl s1, .inl s2, .inr (.inl (21, 20))] => B_X5_go_94 M (fun t1 => post none t1) px o0 a1 a2 a3 s0 s1 s2 t | _, _ => False) | _ => False)) ?_ 400 30 _ _ _ _ _ h
    intro pc q vs ws t hc hk
    split at hk
    · cases hc
      split at hk
      · exact W94 _ _ _ _ _ _ _ _ hk
      · exact hk.elim
    · exact hk.elim
  refine wp_go hR9 (cs := S_X5_go) (Bk := (fun pc vs ws t => match pc with | 30 => (match vs, ws with | [.inr (.inl (20, o0)), .inl a1, .inl a2, .inl a3], [.inl s0] => B_X5_go_30 M (fun t1 => post none t1) px o0 a1 a2 a3 s0 t | _, _ => False) | _ => False)) ?_ 400 0 _ _ _ _ _ h
  intro pc q vs ws t hc hk
  split at hk
  · cases hc
    split at hk
    · exact W30 _ _ _ _ _ _ hk
    · exact hk.elim
  · exact hk.elim
theorem k_X5_go (hx : p.tables.exec = Jvm.exec) (hb : c.code = b) (hml : c.maxLocals = nL) (hts : ∀ w ∈ LT, w.before args s = true) {own : String} (hown : s.vm.findClass own = some m.cls) (hK : va_K D vwCl (TYX X) s) (hA : ∀ q, s.heap.size ≤ q → A q) (hE : EX A s) (hst9 : l.stackTraces = false) {ix : Nat} (hl9 : Cond.methodLink own ix yX5_go ∈ LT) (hR : 1 ≤ R.frames ∧ 25 ≤ R.locals) (hmc : R.cells = mc) (hms : R.slots = ms) (h : PC_X5_go M as t k kx) : CallOK p l e R s m args below meth c Q D X ad A M nL b mc ms (.invokevirtual ix) 0 0 as t k kx := by
  unfold PC_X5_go at h
  split at h
  · exact call_V hx hb hml hts hown hK hA hE (c_X5_go hst9 _ _ t h.2) ⟨hl9, ws_X5_go.1, ws_X5_go.2.1, ws_X5_go.2.2.1, ws_X5_go.2.2.2⟩ (n := 1) (by decide +kernel) hR rfl rfl hmc hms rfl ⟨20, _, rfl, h.1, Or.inr (Or.inr (Or.inr (Or.inr (Or.inr rfl)))), rfl⟩
  · exact CallOK.congr (by simp only [List.map_cons]; congr 1; exact (if_neg h.1).symm) (call_V hx hb hml hts hown hK hA hE (c_X5_go hst9 _ _ t h.2.2) ⟨hl9, ws_X5_go.1, ws_X5_go.2.1, ws_X5_go.2.2.1, ws_X5_go.2.2.2⟩ (n := 1) (by decide +kernel) hR rfl rfl hmc hms rfl ⟨20, _, rfl, h.2.1, Or.inr (Or.inr (Or.inr (Or.inr (Or.inr rfl)))), rfl⟩)
  · exact h.elim
def Q_X5_board (M : Nat → Nat → Bool) (ix : Nat) (as : List VV) (t : TT) (k : Option VV → TT → Prop) (kx : String → TT → Prop) : Prop := match ix with
  | 157 => PC_X5_ones M as t k kx
  | _ => False
def N_X5_board (v : Bool) (ix : Nat) : Option (Nat × Nat × Nat) := match v, ix with
  | false, 157 => some (1, 0, 0)
  | _, _ => none
def S_X5_board (pc : Nat) : Option (List (Nat × Nat × Nat) × List (Nat × Nat) × Nat × Nat) := match pc with
  | 66 => some ([(0, 1, 20), (1, 0, 0), (2, 0, 0)], [(0, 0)], 0, 0)
  | 39 => some ([(0, 1, 20), (1, 0, 0), (2, 0, 0)], [(0, 0)], 0, 0)
  | _ => none
def H_X5_board (pc : Nat) : Option String := none
set_option maxRecDepth 100000 in
set_option maxHeartbeats 4000000 in
theorem c_X5_board {l : Launch} (hst9 : l.stackTraces = false) {D : va_G} {X : Nat → ClassId} {ad : Nat → Nat → Nat} {M : Nat → Nat → Bool} {post : Option VV → TT → Prop} {px : String → TT → Prop} (o0 : Nat) (a1 : Int32) (t : TT) (h : P_X5_board M (fun t1 => post none t1) px o0 a1 t) : CT l yX5_board (Cond.code yX5_board cX5_board 4 none :: LT) ({ frames := 1, cells := 0, slots := 0, locals := 20 } : Room) D X ad M [.inr (.inl (20, o0)), .inl a1] t 0 0 post px := by
  refine met_of_wp (by decide +kernel) (Nat.le_of_ble_eq_true rfl) ?_
  intro p e s m args below meth c A hx hb hml hts hown hK hnt hlocks hr hA hE
  have hR9 : Ready p l e ({ frames := 1, cells := 0, slots := 0, locals := 20 } : Room) s m args below meth c D X ad A M 4 cX5_board 0 0 post px RX5 0 (fldOf F_X5) N_X5_board (Q_X5_board M) (tabOf T_X5_board) H_X5_board := by
    refine ⟨hx, hb, hts, hown, hK, hnt, hlocks, hr, F_X5_ok, ?_, fun pc en h => tabOf_ok T_X5_board_ok h, ?_⟩
    · intro v9 ix n mc1 ms1 as t k hn hl h
      unfold N_X5_board at hn
      split at hn
      · cases hn
        exact k_X5_ones hx hb hml hts hown hK hA hE hst9 (by decide +kernel) ⟨Nat.le_of_ble_eq_true rfl, Nat.le_of_ble_eq_true rfl⟩ rfl rfl h
      · cases hn
    · intro pc E hE9; cases hE9
  have W66 : ∀ (o0 : Nat) (a1 : Int32) (a2 : Int32) (s0 : Int32) (t : TT), B_X5_board_66 M (fun t1 => post none t1) px o0 a1 a2 s0 t → Wat p l e ({ frames := 1, cells := 0, slots := 0, locals := 20 } : Room) s m args below meth c (QM below args s D X ad A M 0 0 post px) D X ad A M 4 66 [(0, .inr (.inl (20, o0))), (1, .inl a1), (2, .inl a2)] [.inl s0] t 0 0 := by
    intro o0 a1 a2 s0 t h
    refine wp_go hR9 (cs := S_X5_board) (Bk := (fun _ _ _ _ => False)) ?_ 400 66 _ _ _ _ _ h
    intro pc q vs ws t hc hk
    exact hk.elim
  have W39 : ∀ (o0 : Nat) (a1 : Int32) (a2 : Int32) (s0 : Int32) (t : TT), B_X5_board_39 M (fun t1 => post none t1) px o0 a1 a2 s0 t → Wat p l e ({ frames := 1, cells := 0, slots := 0, locals := 20 } : Room) s m args below meth c (QM below args s D X ad A M 0 0 post px) D X ad A M 4 39 [(0, .inr (.inl (20, o0))), (1, .inl a1), (2, .inl a2)] [.inl s0] t 0 0 := by
    intro o0 a1 a2 s0 t h
    refine wp_go hR9 (cs := S_X5_board) (Bk := (fun pc vs ws t => match pc with | 66 => (match vs, ws with | [.inr (.inl (20, o0)), .inl a1, .inl a2], [.inl s0] => B_X5_board_66 M (fun t1 => post none t1) px o0 a1 a2 s0 t | _, _ => False) | _ => False)) ?_ 400 39 _ _ _ _ _ h
    intro pc q vs ws t hc hk
    split at hk
    · cases hc
      split at hk
      · exact W66 _ _ _ _ _ hk
      · exact hk.elim
    · exact hk.elim
  refine wp_go hR9 (cs := S_X5_board) (Bk := (fun pc vs ws t => match pc with | 39 => (match vs, ws with | [.inr (.inl (20, o0)), .inl a1, .inl a2], [.inl s0] => B_X5_board_39 M (fun t1 => post none t1) px o0 a1 a2 s0 t | _, _ => False) | _ => False)) ?_ 400 0 _ _ _ _ _ h
  intro pc q vs ws t hc hk
  split at hk
  · cases hc
    split at hk
    · exact W39 _ _ _ _ _ hk
    · exact hk.elim
  · exact hk.elim
theorem k_X5_board (hx : p.tables.exec = Jvm.exec) (hb : c.code = b) (hml : c.maxLocals = nL) (hts : ∀ w ∈ LT, w.before args s = true) {own : String} (hown : s.vm.findClass own = some m.cls) (hK : va_K D vwCl (TYX X) s) (hA : ∀ q, s.heap.size ≤ q → A q) (hE : EX A s) (hst9 : l.stackTraces = false) {ix : Nat} (hl9 : Cond.methodLink own ix yX5_board ∈ LT) (hR : 2 ≤ R.frames ∧ 43 ≤ R.locals) (hmc : R.cells = mc) (hms : R.slots = ms) (h : PC_X5_board M as t k kx) : CallOK p l e R s m args below meth c Q D X ad A M nL b mc ms (.invokevirtual ix) 0 0 as t k kx := by
  unfold PC_X5_board at h
  split at h
  · exact call_V hx hb hml hts hown hK hA hE (c_X5_board hst9 _ _ t h.2) ⟨hl9, ws_X5_board.1, ws_X5_board.2.1, ws_X5_board.2.2.1, ws_X5_board.2.2.2⟩ (n := 1) (by decide +kernel) hR rfl rfl hmc hms rfl ⟨20, _, rfl, h.1, Or.inr (Or.inr (Or.inr (Or.inr (Or.inr rfl)))), rfl⟩
  · exact CallOK.congr (by simp only [List.map_cons]; congr 1; exact (if_neg h.1).symm) (call_V hx hb hml hts hown hK hA hE (c_X5_board hst9 _ _ t h.2.2) ⟨hl9, ws_X5_board.1, ws_X5_board.2.1, ws_X5_board.2.2.1, ws_X5_board.2.2.2⟩ (n := 1) (by decide +kernel) hR rfl rfl hmc hms rfl ⟨20, _, rfl, h.2.1, Or.inr (Or.inr (Or.inr (Or.inr (Or.inr rfl)))), rfl⟩)
  · exact h.elim
def Q_X5_oneTick (M : Nat → Nat → Bool) (ix : Nat) (as : List VV) (t : TT) (k : Option VV → TT → Prop) (kx : String → TT → Prop) : Prop := match ix with
  | 145 => PC_X5_deal M as t k kx
  | 160 => PC_X5_speedFor M as t k kx
  | 163 => PC_X5_go M as t k kx
  | 167 => PC_X5_board M as t k kx
  | _ => False
def N_X5_oneTick (v : Bool) (ix : Nat) : Option (Nat × Nat × Nat) := match v, ix with
  | true, 145 => some (1, 0, 0)
  | true, 160 => some (2, 0, 0)
  | true, 163 => some (2, 0, 0)
  | true, 167 => some (2, 0, 0)
  | _, _ => none
def S_X5_oneTick (pc : Nat) : Option (List (Nat × Nat × Nat) × List (Nat × Nat) × Nat × Nat) := match pc with
  | 261 => some ([(0, 1, 20), (1, 0, 0)], [], 0, 0)
  | 238 => some ([(0, 1, 20), (1, 0, 0)], [], 0, 0)
  | 229 => some ([(0, 1, 20), (1, 0, 0)], [(0, 0), (0, 0), (9, 21)], 0, 0)
  | 178 => some ([(0, 1, 20), (1, 0, 0)], [], 0, 0)
  | 168 => some ([(0, 1, 20), (1, 0, 0)], [(0, 0), (0, 0), (0, 0), (32, 21)], 0, 0)
  | 139 => some ([(0, 1, 20), (1, 0, 0)], [], 0, 0)
  | 118 => some ([(0, 1, 20), (1, 0, 0)], [], 0, 0)
  | 109 => some ([(0, 1, 20), (1, 0, 0)], [(0, 0), (0, 0), (36, 21)], 0, 0)
  | 108 => some ([(0, 1, 20), (1, 0, 0)], [(0, 0), (36, 21)], 0, 0)
  | 62 => some ([(0, 1, 20), (1, 0, 0)], [], 0, 0)
  | 49 => some ([(0, 1, 20), (1, 0, 0)], [(0, 0), (0, 0), (27, 21)], 0, 0)
  | 12 => some ([(0, 1, 20), (1, 0, 0)], [], 0, 0)
  | _ => none
def H_X5_oneTick (pc : Nat) : Option String := none
set_option maxRecDepth 100000 in
set_option maxHeartbeats 4000000 in
theorem c_X5_oneTick {l : Launch} (hst9 : l.stackTraces = false) {D : va_G} {X : Nat → ClassId} {ad : Nat → Nat → Nat} {M : Nat → Nat → Bool} {post : Option VV → TT → Prop} {px : String → TT → Prop} (o0 : Nat) (t : TT) (h : P_X5_oneTick M (fun t1 => post none t1) px o0 t) : CT l yX5_oneTick (Cond.code yX5_oneTick cX5_oneTick 2 none :: LT) ({ frames := 3, cells := 0, slots := 0, locals := 68 } : Room) D X ad M [.inr (.inl (20, o0))] t 0 0 post px := by
  refine met_of_wp (by decide +kernel) (Nat.le_of_ble_eq_true rfl) ?_
  intro p e s m args below meth c A hx hb hml hts hown hK hnt hlocks hr hA hE
  have hR9 : Ready p l e ({ frames := 3, cells := 0, slots := 0, locals := 68 } : Room) s m args below meth c D X ad A M 2 cX5_oneTick 0 0 post px RX5 0 (fldOf F_X5) N_X5_oneTick (Q_X5_oneTick M) (tabOf T_X5_oneTick) H_X5_oneTick := by
    refine ⟨hx, hb, hts, hown, hK, hnt, hlocks, hr, F_X5_ok, ?_, fun pc en h => tabOf_ok T_X5_oneTick_ok h, ?_⟩
    · intro v9 ix n mc1 ms1 as t k hn hl h
      unfold N_X5_oneTick at hn
      split at hn
      · cases hn
        exact k_X5_deal hx hb hml hts hown hK hA hE hst9 (by decide +kernel) ⟨Nat.le_of_ble_eq_true rfl, Nat.le_of_ble_eq_true rfl⟩ rfl rfl h
      · cases hn
        exact k_X5_speedFor hx hb hml hts hown hK hA hE hst9 (by decide +kernel) ⟨Nat.le_of_ble_eq_true rfl, Nat.le_of_ble_eq_true rfl⟩ rfl rfl h
      · cases hn
        exact k_X5_go hx hb hml hts hown hK hA hE hst9 (by decide +kernel) ⟨Nat.le_of_ble_eq_true rfl, Nat.le_of_ble_eq_true rfl⟩ rfl rfl h
      · cases hn
        exact k_X5_board hx hb hml hts hown hK hA hE hst9 (by decide +kernel) ⟨Nat.le_of_ble_eq_true rfl, Nat.le_of_ble_eq_true rfl⟩ rfl rfl h
      · cases hn
    · intro pc E hE9; cases hE9
  have W261 : ∀ (k238 : Nat → Int32 → TT → Prop) (hk238 : ∀ (o0 : Nat) (a1 : Int32) (t : TT), k238 o0 a1 t → Wat p l e ({ frames := 3, cells := 0, slots := 0, locals := 68 } : Room) s m args below meth c (QM below args s D X ad A M 0 0 post px) D X ad A M 2 238 [(0, .inr (.inl (20, o0))), (1, .inl a1)] [] t 0 0) (o0 : Nat) (a1 : Int32) (t : TT), B_X5_oneTick_261 M (fun t1 => post none t1) px k238 o0 a1 t → Wat p l e ({ frames := 3, cells := 0, slots := 0, locals := 68 } : Room) s m args below meth c (QM below args s D X ad A M 0 0 post px) D X ad A M 2 261 [(0, .inr (.inl (20, o0))), (1, .inl a1)] [] t 0 0 := by
    intro k238 hk238 o0 a1 t h
    refine wp_go hR9 (cs := S_X5_oneTick) (Bk := (fun pc vs ws t => match pc with | 238 => (match vs, ws with | [.inr (.inl (20, o0)), .inl a1], [] => k238 o0 a1 t | _, _ => False) | _ => False)) ?_ 400 261 _ _ _ _ _ h
    intro pc q vs ws t hc hk
    split at hk
    · cases hc
      split at hk
      · exact hk238 _ _ _ hk
      · exact hk.elim
    · exact hk.elim
  have W238 : ∀ (n : Nat) (o0 : Nat) (a1 : Int32) (t : TT), L_X5_oneTick_238 M (fun t1 => post none t1) px n o0 a1 t → Wat p l e ({ frames := 3, cells := 0, slots := 0, locals := 68 } : Room) s m args below meth c (QM below args s D X ad A M 0 0 post px) D X ad A M 2 238 [(0, .inr (.inl (20, o0))), (1, .inl a1)] [] t 0 0 := by
    intro n
    induction n with
    | zero =>
      intro o0 a1 t h
      exact h.elim
    | succ n ih =>
      intro o0 a1 t h
      refine wp_go hR9 (cs := S_X5_oneTick) (Bk := (fun pc vs ws t => match pc with | 261 => (match vs, ws with | [.inr (.inl (20, o0)), .inl a1], [] => B_X5_oneTick_261 M (fun t1 => post none t1) px (L_X5_oneTick_238 M (fun t1 => post none t1) px n) o0 a1 t | _, _ => False) | _ => False)) ?_ 400 238 _ _ _ _ _ h
      intro pc q vs ws t hc hk
      split at hk
      · cases hc
        split at hk
        · exact W261 _ ih _ _ _ hk
        · exact hk.elim
      · exact hk.elim
  have W229 : ∀ (k178 : Nat → Int32 → TT → Prop) (hk178 : ∀ (o0 : Nat) (a1 : Int32) (t : TT), k178 o0 a1 t → Wat p l e ({ frames := 3, cells := 0, slots := 0, locals := 68 } : Room) s m args below meth c (QM below args s D X ad A M 0 0 post px) D X ad A M 2 178 [(0, .inr (.inl (20, o0))), (1, .inl a1)] [] t 0 0) (o0 : Nat) (a1 : Int32) (s0 : Int32) (s1 : Int32) (t : TT), B_X5_oneTick_229 M (fun t1 => post none t1) px k178 o0 a1 s0 s1 t → Wat p l e ({ frames := 3, cells := 0, slots := 0, locals := 68 } : Room) s m args below meth c (QM below args s D X ad A M 0 0 post px) D X ad A M 2 229 [(0, .inr (.inl (20, o0))), (1, .inl a1)] [.inl s0, .inl s1, .inr (.inl (21, 6))] t 0 0 := by
    intro k178 hk178 o0 a1 s0 s1 t h
    refine wp_go hR9 (cs := S_X5_oneTick) (Bk := (fun pc vs ws t => match pc with | 178 => (match vs, ws with | [.inr (.inl (20, o0)), .inl a1], [] => k178 o0 a1 t | _, _ => False) | _ => False)) ?_ 400 229 _ _ _ _ _ h
    intro pc q vs ws t hc hk
    split at hk
    · cases hc
      split at hk
      · exact hk178 _ _ _ hk
      · exact hk.elim
    · exact hk.elim
  have W178 : ∀ (n : Nat) (o0 : Nat) (a1 : Int32) (t : TT), L_X5_oneTick_178 M (fun t1 => post none t1) px n o0 a1 t → Wat p l e ({ frames := 3, cells := 0, slots := 0, locals := 68 } : Room) s m args below meth c (QM below args s D X ad A M 0 0 post px) D X ad A M 2 178 [(0, .inr (.inl (20, o0))), (1, .inl a1)] [] t 0 0 := by
    intro n
    induction n with
    | zero =>
      intro o0 a1 t h
      exact h.elim
    | succ n ih =>
      intro o0 a1 t h
      refine wp_go hR9 (cs := S_X5_oneTick) (Bk := (fun pc vs ws t => match pc with | 229 => (match vs, ws with | [.inr (.inl (20, o0)), .inl a1], [.inl s0, .inl s1, .inr (.inl (21, 6))] => B_X5_oneTick_229 M (fun t1 => post none t1) px (L_X5_oneTick_178 M (fun t1 => post none t1) px n) o0 a1 s0 s1 t | _, _ => False) | 238 => (match vs, ws with | [.inr (.inl (20, o0)), .inl a1], [] => ∃ n9, L_X5_oneTick_238 M (fun t1 => post none t1) px n9 o0 a1 t | _, _ => False) | _ => False)) ?_ 400 178 _ _ _ _ _ h
      intro pc q vs ws t hc hk
      split at hk
      · cases hc
        split at hk
        · exact W229 _ ih _ _ _ _ _ hk
        · exact hk.elim
      · cases hc
        split at hk
        · obtain ⟨n9, hk⟩ := hk
          exact W238 n9 _ _ _ hk
        · exact hk.elim
      · exact hk.elim
  have W168 : ∀ (k139 : Nat → Int32 → TT → Prop) (hk139 : ∀ (o0 : Nat) (a1 : Int32) (t : TT), k139 o0 a1 t → Wat p l e ({ frames := 3, cells := 0, slots := 0, locals := 68 } : Room) s m args below meth c (QM below args s D X ad A M 0 0 post px) D X ad A M 2 139 [(0, .inr (.inl (20, o0))), (1, .inl a1)] [] t 0 0) (o0 : Nat) (a1 : Int32) (s0 : Int32) (s1 : Int32) (s2 : Int32) (t : TT), B_X5_oneTick_168 M (fun t1 => post none t1) px k139 o0 a1 s0 s1 s2 t → Wat p l e ({ frames := 3, cells := 0, slots := 0, locals := 68 } : Room) s m args below meth c (QM below args s D X ad A M 0 0 post px) D X ad A M 2 168 [(0, .inr (.inl (20, o0))), (1, .inl a1)] [.inl s0, .inl s1, .inl s2, .inr (.inl (21, 29))] t 0 0 := by
    intro k139 hk139 o0 a1 s0 s1 s2 t h
    refine wp_go hR9 (cs := S_X5_oneTick) (Bk := (fun pc vs ws t => match pc with | 139 => (match vs, ws with | [.inr (.inl (20, o0)), .inl a1], [] => k139 o0 a1 t | _, _ => False) | _ => False)) ?_ 400 168 _ _ _ _ _ h
    intro pc q vs ws t hc hk
    split at hk
    · cases hc
      split at hk
      · exact hk139 _ _ _ hk
      · exact hk.elim
    · exact hk.elim
  have W139 : ∀ (n : Nat) (o0 : Nat) (a1 : Int32) (t : TT), L_X5_oneTick_139 M (fun t1 => post none t1) px n o0 a1 t → Wat p l e ({ frames := 3, cells := 0, slots := 0, locals := 68 } : Room) s m args below meth c (QM below args s D X ad A M 0 0 post px) D X ad A M 2 139 [(0, .inr (.inl (20, o0))), (1, .inl a1)] [] t 0 0 := by
    intro n
    induction n with
    | zero =>
      intro o0 a1 t h
      exact h.elim
    | succ n ih =>
      intro o0 a1 t h
      refine wp_go hR9 (cs := S_X5_oneTick) (Bk := (fun pc vs ws t => match pc with | 168 => (match vs, ws with | [.inr (.inl (20, o0)), .inl a1], [.inl s0, .inl s1, .inl s2, .inr (.inl (21, 29))] => B_X5_oneTick_168 M (fun t1 => post none t1) px (L_X5_oneTick_139 M (fun t1 => post none t1) px n) o0 a1 s0 s1 s2 t | _, _ => False) | 178 => (match vs, ws with | [.inr (.inl (20, o0)), .inl a1], [] => ∃ n9, L_X5_oneTick_178 M (fun t1 => post none t1) px n9 o0 a1 t | _, _ => False) | _ => False)) ?_ 400 139 _ _ _ _ _ h
      intro pc q vs ws t hc hk
      split at hk
      · cases hc
        split at hk
        · exact W168 _ ih _ _ _ _ _ _ hk
        · exact hk.elim
      · cases hc
        split at hk
        · obtain ⟨n9, hk⟩ := hk
          exact W178 n9 _ _ _ hk
        · exact hk.elim
      · exact hk.elim
  have W118 : ∀ (n : Nat) (o0 : Nat) (a1 : Int32) (t : TT), L_X5_oneTick_118 M (fun t1 => post none t1) px n o0 a1 t → Wat p l e ({ frames := 3, cells := 0, slots := 0, locals := 68 } : Room) s m args below meth c (QM below args s D X ad A M 0 0 post px) D X ad A M 2 118 [(0, .inr (.inl (20, o0))), (1, .inl a1)] [] t 0 0 := by
    intro n
    induction n with
    | zero =>
      intro o0 a1 t h
      exact h.elim
    | succ n ih =>
      intro o0 a1 t h
      refine wp_go hR9 (cs := S_X5_oneTick) (Bk := (fun pc vs ws t => match pc with | 118 => (match vs, ws with | [.inr (.inl (20, o0)), .inl a1], [] => L_X5_oneTick_118 M (fun t1 => post none t1) px n o0 a1 t | _, _ => False) | 139 => (match vs, ws with | [.inr (.inl (20, o0)), .inl a1], [] => ∃ n9, L_X5_oneTick_139 M (fun t1 => post none t1) px n9 o0 a1 t | _, _ => False) | _ => False)) ?_ 400 118 _ _ _ _ _ h
      intro pc q vs ws t hc hk
      split at hk
      · cases hc
        split at hk
        · exact ih _ _ _ hk
        · exact hk.elim
      · cases hc
        split at hk
        · obtain ⟨n9, hk⟩ := hk
          exact W139 n9 _ _ _ hk
        · exact hk.elim
      · exact hk.elim
  have W109 : ∀ (k62 : Nat → Int32 → TT → Prop) (hk62 : ∀ (o0 : Nat) (a1 : Int32) (t : TT), k62 o0 a1 t → Wat p l e ({ frames := 3, cells := 0, slots := 0, locals := 68 } : Room) s m args below meth c (QM below args s D X ad A M 0 0 post px) D X ad A M 2 62 [(0, .inr (.inl (20, o0))), (1, .inl a1)] [] t 0 0) (o0 : Nat) (a1 : Int32) (s0 : Int32) (s1 : Int32) (t : TT), B_X5_oneTick_109 M (fun t1 => post none t1) px k62 o0 a1 s0 s1 t → Wat p l e ({ frames := 3, cells := 0, slots := 0, locals := 68 } : Room) s m args below meth c (QM below args s D X ad A M 0 0 post px) D X ad A M 2 109 [(0, .inr (.inl (20, o0))), (1, .inl a1)] [.inl s0, .inl s1, .inr (.inl (21, 33))] t 0 0 := by
    intro k62 hk62 o0 a1 s0 s1 t h
    refine wp_go hR9 (cs := S_X5_oneTick) (Bk := (fun pc vs ws t => match pc with | 62 => (match vs, ws with | [.inr (.inl (20, o0)), .inl a1], [] => k62 o0 a1 t | _, _ => False) | _ => False)) ?_ 400 109 _ _ _ _ _ h
    intro pc q vs ws t hc hk
    split at hk
    · cases hc
      split at hk
      · exact hk62 _ _ _ hk
      · exact hk.elim
    · exact hk.elim
  have W108 : ∀ (k62 : Nat → Int32 → TT → Prop) (hk62 : ∀ (o0 : Nat) (a1 : Int32) (t : TT), k62 o0 a1 t → Wat p l e ({ frames := 3, cells := 0, slots := 0, locals := 68 } : Room) s m args below meth c (QM below args s D X ad A M 0 0 post px) D X ad A M 2 62 [(0, .inr (.inl (20, o0))), (1, .inl a1)] [] t 0 0) (o0 : Nat) (a1 : Int32) (s0 : Int32) (t : TT), B_X5_oneTick_108 M (fun t1 => post none t1) px k62 o0 a1 s0 t → Wat p l e ({ frames := 3, cells := 0, slots := 0, locals := 68 } : Room) s m args below meth c (QM below args s D X ad A M 0 0 post px) D X ad A M 2 108 [(0, .inr (.inl (20, o0))), (1, .inl a1)] [.inl s0, .inr (.inl (21, 33))] t 0 0 := by
    intro k62 hk62 o0 a1 s0 t h
    refine wp_go hR9 (cs := S_X5_oneTick) (Bk := (fun pc vs ws t => match pc with | 109 => (match vs, ws with | [.inr (.inl (20, o0)), .inl a1], [.inl s0, .inl s1, .inr (.inl (21, 33))] => B_X5_oneTick_109 M (fun t1 => post none t1) px k62 o0 a1 s0 s1 t | _, _ => False) | _ => False)) ?_ 400 108 _ _ _ _ _ h
    intro pc q vs ws t hc hk
    split at hk
    · cases hc
      split at hk
      · exact W109 _ hk62 _ _ _ _ _ hk
      · exact hk.elim
    · exact hk.elim
  have W62 : ∀ (n : Nat) (o0 : Nat) (a1 : Int32) (t : TT), L_X5_oneTick_62 M (fun t1 => post none t1) px n o0 a1 t → Wat p l e ({ frames := 3, cells := 0, slots := 0, locals := 68 } : Room) s m args below meth c (QM below args s D X ad A M 0 0 post px) D X ad A M 2 62 [(0, .inr (.inl (20, o0))), (1, .inl a1)] [] t 0 0 := by
    intro n
    induction n with
    | zero =>
      intro o0 a1 t h
      exact h.elim
    | succ n ih =>
      intro o0 a1 t h
      refine wp_go hR9 (cs := S_X5_oneTick) (Bk := (fun pc vs ws t => match pc with | 108 => (match vs, ws with | [.inr (.inl (20, o0)), .inl a1], [.inl s0, .inr (.inl (21, 33))] => B_X5_oneTick_108 M (fun t1 => post none t1) px (L_X5_oneTick_62 M (fun t1 => post none t1) px n) o0 a1 s0 t | _, _ => False) | 109 => (match vs, ws with | [.inr (.inl (20, o0)), .inl a1], [.inl s0, .inl s1, .inr (.inl (21, 33))] => B_X5_oneTick_109 M (fun t1 => post none t1) px (L_X5_oneTick_62 M (fun t1 => post none t1) px n) o0 a1 s0 s1 t | _, _ => False) | 118 => (match vs, ws with | [.inr (.inl (20, o0)), .inl a1], [] => ∃ n9, L_X5_oneTick_118 M (fun t1 => post none t1) px n9 o0 a1 t | _, _ => False) | _ => False)) ?_ 400 62 _ _ _ _ _ h
      intro pc q vs ws t hc hk
      split at hk
      · cases hc
        split at hk
        · exact W108 _ ih _ _ _ _ hk
        · exact hk.elim
      · cases hc
        split at hk
        · exact W109 _ ih _ _ _ _ _ hk
        · exact hk.elim
      · cases hc
        split at hk
        · obtain ⟨n9, hk⟩ := hk
          exact W118 n9 _ _ _ hk
        · exact hk.elim
      · exact hk.elim
  have W49 : ∀ (k12 : Nat → Int32 → TT → Prop) (hk12 : ∀ (o0 : Nat) (a1 : Int32) (t : TT), k12 o0 a1 t → Wat p l e ({ frames := 3, cells := 0, slots := 0, locals := 68 } : Room) s m args below meth c (QM below args s D X ad A M 0 0 post px) D X ad A M 2 12 [(0, .inr (.inl (20, o0))), (1, .inl a1)] [] t 0 0) (o0 : Nat) (a1 : Int32) (s0 : Int32) (s1 : Int32) (t : TT), B_X5_oneTick_49 M (fun t1 => post none t1) px k12 o0 a1 s0 s1 t → Wat p l e ({ frames := 3, cells := 0, slots := 0, locals := 68 } : Room) s m args below meth c (QM below args s D X ad A M 0 0 post px) D X ad A M 2 49 [(0, .inr (.inl (20, o0))), (1, .inl a1)] [.inl s0, .inl s1, .inr (.inl (21, 24))] t 0 0 := by
    intro k12 hk12 o0 a1 s0 s1 t h
    refine wp_go hR9 (cs := S_X5_oneTick) (Bk := (fun pc vs ws t => match pc with | 12 => (match vs, ws with | [.inr (.inl (20, o0)), .inl a1], [] => k12 o0 a1 t | _, _ => False) | _ => False)) ?_ 400 49 _ _ _ _ _ h
    intro pc q vs ws t hc hk
    split at hk
    · cases hc
      split at hk
      · exact hk12 _ _ _ hk
      · exact hk.elim
    · exact hk.elim
  have W12 : ∀ (n : Nat) (o0 : Nat) (a1 : Int32) (t : TT), L_X5_oneTick_12 M (fun t1 => post none t1) px n o0 a1 t → Wat p l e ({ frames := 3, cells := 0, slots := 0, locals := 68 } : Room) s m args below meth c (QM below args s D X ad A M 0 0 post px) D X ad A M 2 12 [(0, .inr (.inl (20, o0))), (1, .inl a1)] [] t 0 0 := by
    intro n
    induction n with
    | zero =>
      intro o0 a1 t h
      exact h.elim
    | succ n ih =>
      intro o0 a1 t h
      refine wp_go hR9 (cs := S_X5_oneTick) (Bk := (fun pc vs ws t => match pc with | 49 => (match vs, ws with | [.inr (.inl (20, o0)), .inl a1], [.inl s0, .inl s1, .inr (.inl (21, 24))] => B_X5_oneTick_49 M (fun t1 => post none t1) px (L_X5_oneTick_12 M (fun t1 => post none t1) px n) o0 a1 s0 s1 t | _, _ => False) | 62 => (match vs, ws with | [.inr (.inl (20, o0)), .inl a1], [] => ∃ n9, L_X5_oneTick_62 M (fun t1 => post none t1) px n9 o0 a1 t | _, _ => False) | _ => False)) ?_ 400 12 _ _ _ _ _ h
      intro pc q vs ws t hc hk
      split at hk
      · cases hc
        split at hk
        · exact W49 _ ih _ _ _ _ _ hk
        · exact hk.elim
      · cases hc
        split at hk
        · obtain ⟨n9, hk⟩ := hk
          exact W62 n9 _ _ _ hk
        · exact hk.elim
      · exact hk.elim
  refine wp_go hR9 (cs := S_X5_oneTick) (Bk := (fun pc vs ws t => match pc with | 12 => (match vs, ws with | [.inr (.inl (20, o0)), .inl a1], [] => ∃ n9, L_X5_oneTick_12 M (fun t1 => post none t1) px n9 o0 a1 t | _, _ => False) | _ => False)) ?_ 400 0 _ _ _ _ _ h
  intro pc q vs ws t hc hk
  split at hk
  · cases hc
    split at hk
    · obtain ⟨n9, hk⟩ := hk
      exact W12 n9 _ _ _ hk
    · exact hk.elim
  · exact hk.elim
theorem k_X5_oneTick (hx : p.tables.exec = Jvm.exec) (hb : c.code = b) (hml : c.maxLocals = nL) (hts : ∀ w ∈ LT, w.before args s = true) {own : String} (hown : s.vm.findClass own = some m.cls) (hK : va_K D vwCl (TYX X) s) (hA : ∀ q, s.heap.size ≤ q → A q) (hE : EX A s) (hst9 : l.stackTraces = false) {ix : Nat} (hl9 : Cond.methodLink own ix yX5_oneTick ∈ LT) (hR : 4 ≤ R.frames ∧ 89 ≤ R.locals) (hmc : R.cells = mc) (hms : R.slots = ms) (h : PC_X5_oneTick M as t k kx) : CallOK p l e R s m args below meth c Q D X ad A M nL b mc ms (.invokevirtual ix) 0 0 as t k kx := by
  unfold PC_X5_oneTick at h
  split at h
  · exact call_V hx hb hml hts hown hK hA hE (c_X5_oneTick hst9 _ t h.2) ⟨hl9, ws_X5_oneTick.1, ws_X5_oneTick.2.1, ws_X5_oneTick.2.2.1, ws_X5_oneTick.2.2.2⟩ (n := 0) (by decide +kernel) hR rfl rfl hmc hms rfl ⟨20, _, rfl, h.1, Or.inr (Or.inr (Or.inr (Or.inr (Or.inr rfl)))), rfl⟩
  · exact CallOK.congr (by simp only [List.map_cons]; congr 1; exact (if_neg h.1).symm) (call_V hx hb hml hts hown hK hA hE (c_X5_oneTick hst9 _ t h.2.2) ⟨hl9, ws_X5_oneTick.1, ws_X5_oneTick.2.1, ws_X5_oneTick.2.2.1, ws_X5_oneTick.2.2.2⟩ (n := 0) (by decide +kernel) hR rfl rfl hmc hms rfl ⟨20, _, rfl, h.2.1, Or.inr (Or.inr (Or.inr (Or.inr (Or.inr rfl)))), rfl⟩)
  · exact h.elim
def Q_X5_pass (M : Nat → Nat → Bool) (ix : Nat) (as : List VV) (t : TT) (k : Option VV → TT → Prop) (kx : String → TT → Prop) : Prop := match ix with
  | 111 => PC_X5_in M as t k kx
  | 131 => PC_X5_isFine M as t k kx
  | 170 => PC_X5_oneTick M as t k kx
  | _ => False
def N_X5_pass (v : Bool) (ix : Nat) : Option (Nat × Nat × Nat) := match v, ix with
  | false, 111 => some (3, 0, 0)
  | true, 131 => some (2, 0, 0)
  | true, 170 => some (1, 0, 0)
  | _, _ => none
def S_X5_pass (pc : Nat) : Option (List (Nat × Nat × Nat) × List (Nat × Nat) × Nat × Nat) := match pc with
  | 42 => some ([(0, 1, 20), (1, 0, 0), (2, 0, 0)], [], 0, 0)
  | 32 => some ([(0, 1, 20), (1, 0, 0)], [(0, 0), (1, 20)], 0, 0)
  | _ => none
def H_X5_pass (pc : Nat) : Option String := none
set_option maxRecDepth 100000 in
set_option maxHeartbeats 4000000 in
theorem c_X5_pass {l : Launch} (hst9 : l.stackTraces = false) {D : va_G} {X : Nat → ClassId} {ad : Nat → Nat → Nat} {M : Nat → Nat → Bool} {post : Option VV → TT → Prop} {px : String → TT → Prop} (o0 : Nat) (a1 : Int32) (t : TT) (h : P_X5_pass M (fun r t1 => post (some (.inl r)) t1) px o0 a1 t) : CT l yX5_pass (Cond.code yX5_pass cX5_pass 3 (some .int) :: LT) ({ frames := 4, cells := 0, slots := 0, locals := 89 } : Room) D X ad M [.inr (.inl (20, o0)), .inl a1] t 0 0 post px := by
  refine met_of_wp (by decide +kernel) (Nat.le_of_ble_eq_true rfl) ?_
  intro p e s m args below meth c A hx hb hml hts hown hK hnt hlocks hr hA hE
  have hR9 : Ready p l e ({ frames := 4, cells := 0, slots := 0, locals := 89 } : Room) s m args below meth c D X ad A M 3 cX5_pass 0 0 post px RX5 1 (fldOf F_X5) N_X5_pass (Q_X5_pass M) (tabOf T_X5_pass) H_X5_pass := by
    refine ⟨hx, hb, hts, hown, hK, hnt, hlocks, hr, F_X5_ok, ?_, fun pc en h => tabOf_ok T_X5_pass_ok h, ?_⟩
    · intro v9 ix n mc1 ms1 as t k hn hl h
      unfold N_X5_pass at hn
      split at hn
      · cases hn
        exact k_X5_in hx hb hml hts hown hK hA hE hst9 (by decide +kernel) ⟨Nat.le_of_ble_eq_true rfl, Nat.le_of_ble_eq_true rfl⟩ rfl rfl h
      · cases hn
        exact k_X5_isFine hx hb hml hts hown hK hA hE hst9 (by decide +kernel) ⟨Nat.le_of_ble_eq_true rfl, Nat.le_of_ble_eq_true rfl⟩ rfl rfl h
      · cases hn
        exact k_X5_oneTick hx hb hml hts hown hK hA hE hst9 (by decide +kernel) ⟨Nat.le_of_ble_eq_true rfl, Nat.le_of_ble_eq_true rfl⟩ rfl rfl h
      · cases hn
    · intro pc E hE9; cases hE9
  have W42 : ∀ (n : Nat) (o0 : Nat) (a1 : Int32) (a2 : Int32) (t : TT), L_X5_pass_42 M (fun r t1 => post (some (.inl r)) t1) px n o0 a1 a2 t → Wat p l e ({ frames := 4, cells := 0, slots := 0, locals := 89 } : Room) s m args below meth c (QM below args s D X ad A M 0 0 post px) D X ad A M 3 42 [(0, .inr (.inl (20, o0))), (1, .inl a1), (2, .inl a2)] [] t 0 0 := by
    intro n
    induction n with
    | zero =>
      intro o0 a1 a2 t h
      exact h.elim
    | succ n ih =>
      intro o0 a1 a2 t h
      refine wp_go hR9 (cs := S_X5_pass) (Bk := (fun pc vs ws t => match pc with | 42 => (match vs, ws with | [.inr (.inl (20, o0)), .inl a1, .inl a2], [] => L_X5_pass_42 M (fun r t1 => post (some (.inl r)) t1) px n o0 a1 a2 t | _, _ => False) | _ => False)) ?_ 400 42 _ _ _ _ _ h
      intro pc q vs ws t hc hk
      split at hk
      · cases hc
        split at hk
        · exact ih _ _ _ _ hk
        · exact hk.elim
      · exact hk.elim
  have W32 : ∀ (o0 : Nat) (a1 : Int32) (s0 : Int32) (u1 : Nat) (t : TT), B_X5_pass_32 M (fun r t1 => post (some (.inl r)) t1) px o0 a1 s0 u1 t → Wat p l e ({ frames := 4, cells := 0, slots := 0, locals := 89 } : Room) s m args below meth c (QM below args s D X ad A M 0 0 post px) D X ad A M 3 32 [(0, .inr (.inl (20, o0))), (1, .inl a1)] [.inl s0, .inr (.inl (20, u1))] t 0 0 := by
    intro o0 a1 s0 u1 t h
    refine wp_go hR9 (cs := S_X5_pass) (Bk := (fun pc vs ws t => match pc with | 42 => (match vs, ws with | [.inr (.inl (20, o0)), .inl a1, .inl a2], [] => ∃ n9, L_X5_pass_42 M (fun r t1 => post (some (.inl r)) t1) px n9 o0 a1 a2 t | _, _ => False) | _ => False)) ?_ 400 32 _ _ _ _ _ h
    intro pc q vs ws t hc hk
    split at hk
    · cases hc
      split at hk
      · obtain ⟨n9, hk⟩ := hk
        exact W42 n9 _ _ _ _ hk
      · exact hk.elim
    · exact hk.elim
  refine wp_go hR9 (cs := S_X5_pass) (Bk := (fun pc vs ws t => match pc with | 32 => (match vs, ws with | [.inr (.inl (20, o0)), .inl a1], [.inl s0, .inr (.inl (20, u1))] => B_X5_pass_32 M (fun r t1 => post (some (.inl r)) t1) px o0 a1 s0 u1 t | _, _ => False) | _ => False)) ?_ 400 0 _ _ _ _ _ h
  intro pc q vs ws t hc hk
  split at hk
  · cases hc
    split at hk
    · exact W32 _ _ _ _ _ hk
    · exact hk.elim
  · exact hk.elim
theorem k_X5_pass (hx : p.tables.exec = Jvm.exec) (hb : c.code = b) (hml : c.maxLocals = nL) (hts : ∀ w ∈ LT, w.before args s = true) {own : String} (hown : s.vm.findClass own = some m.cls) (hK : va_K D vwCl (TYX X) s) (hA : ∀ q, s.heap.size ≤ q → A q) (hE : EX A s) (hst9 : l.stackTraces = false) {ix : Nat} (hl9 : Cond.methodLink own ix yX5_pass ∈ LT) (hR : 5 ≤ R.frames ∧ 111 ≤ R.locals) (hmc : R.cells = mc) (hms : R.slots = ms) (h : PC_X5_pass M as t k kx) : CallOK p l e R s m args below meth c Q D X ad A M nL b mc ms (.invokevirtual ix) 0 0 as t k kx := by
  unfold PC_X5_pass at h
  split at h
  · exact call_V hx hb hml hts hown hK hA hE (c_X5_pass hst9 _ _ t h.2) ⟨hl9, ws_X5_pass.1, ws_X5_pass.2.1, ws_X5_pass.2.2.1, ws_X5_pass.2.2.2⟩ (n := 1) (by decide +kernel) hR rfl rfl hmc hms rfl ⟨20, _, rfl, h.1, Or.inr (Or.inr (Or.inr (Or.inr (Or.inr rfl)))), rfl⟩
  · exact CallOK.congr (by simp only [List.map_cons]; congr 1; exact (if_neg h.1).symm) (call_V hx hb hml hts hown hK hA hE (c_X5_pass hst9 _ _ t h.2.2) ⟨hl9, ws_X5_pass.1, ws_X5_pass.2.1, ws_X5_pass.2.2.1, ws_X5_pass.2.2.2⟩ (n := 1) (by decide +kernel) hR rfl rfl hmc hms rfl ⟨20, _, rfl, h.2.1, Or.inr (Or.inr (Or.inr (Or.inr (Or.inr rfl)))), rfl⟩)
  · exact h.elim
def Q_X5_stop (M : Nat → Nat → Bool) (ix : Nat) (as : List VV) (t : TT) (k : Option VV → TT → Prop) (kx : String → TT → Prop) : Prop := match ix with
  | 118 => PC_X5_wayOf M as t k kx
  | 131 => PC_X5_isFine M as t k kx
  | 154 => PC_X5_isTrain M as t k kx
  | 173 => PC_X5_isPlatform M as t k kx
  | _ => False
def N_X5_stop (v : Bool) (ix : Nat) : Option (Nat × Nat × Nat) := match v, ix with
  | false, 118 => some (1, 0, 0)
  | true, 131 => some (2, 0, 0)
  | true, 154 => some (2, 0, 0)
  | true, 173 => some (2, 0, 0)
  | _, _ => none
def S_X5_stop (pc : Nat) : Option (List (Nat × Nat × Nat) × List (Nat × Nat) × Nat × Nat) := match pc with
  | 111 => some ([], [], 0, 0)
  | 98 => some ([(0, 1, 20), (1, 0, 0), (2, 0, 0)], [(0, 0), (1, 20)], 0, 0)
  | 77 => some ([(0, 1, 20), (1, 0, 0), (2, 0, 0), (3, 0, 0)], [(0, 0)], 0, 0)
  | 76 => some ([(0, 1, 20), (1, 0, 0), (2, 0, 0), (3, 0, 0)], [], 0, 0)
  | 21 => some ([(0, 1, 20), (1, 0, 0), (2, 0, 0)], [(0, 0)], 0, 0)
  | 20 => some ([(0, 1, 20), (1, 0, 0), (2, 0, 0)], [], 0, 0)
  | _ => none
def H_X5_stop (pc : Nat) : Option String := none
set_option maxRecDepth 100000 in
set_option maxHeartbeats 4000000 in
theorem c_X5_stop {l : Launch} (hst9 : l.stackTraces = false) {D : va_G} {X : Nat → ClassId} {ad : Nat → Nat → Nat} {M : Nat → Nat → Bool} {post : Option VV → TT → Prop} {px : String → TT → Prop} (o0 : Nat) (a1 : Int32) (a2 : Int32) (t : TT) (h : P_X5_stop M (fun t1 => post none t1) px o0 a1 a2 t) : CT l yX5_stop (Cond.code yX5_stop cX5_stop 5 none :: LT) ({ frames := 2, cells := 0, slots := 0, locals := 43 } : Room) D X ad M [.inr (.inl (20, o0)), .inl a1, .inl a2] t 0 0 post px := by
  refine met_of_wp (by decide +kernel) (Nat.le_of_ble_eq_true rfl) ?_
  intro p e s m args below meth c A hx hb hml hts hown hK hnt hlocks hr hA hE
  have hR9 : Ready p l e ({ frames := 2, cells := 0, slots := 0, locals := 43 } : Room) s m args below meth c D X ad A M 5 cX5_stop 0 0 post px RX5 0 (fldOf F_X5) N_X5_stop (Q_X5_stop M) (tabOf T_X5_stop) H_X5_stop := by
    refine ⟨hx, hb, hts, hown, hK, hnt, hlocks, hr, F_X5_ok, ?_, fun pc en h => tabOf_ok T_X5_stop_ok h, ?_⟩
    · intro v9 ix n mc1 ms1 as t k hn hl h
      unfold N_X5_stop at hn
      split at hn
      · cases hn
        exact k_X5_wayOf hx hb hml hts hown hK hA hE hst9 (by decide +kernel) ⟨Nat.le_of_ble_eq_true rfl, Nat.le_of_ble_eq_true rfl⟩ rfl rfl h
      · cases hn
        exact k_X5_isFine hx hb hml hts hown hK hA hE hst9 (by decide +kernel) ⟨Nat.le_of_ble_eq_true rfl, Nat.le_of_ble_eq_true rfl⟩ rfl rfl h
      · cases hn
        exact k_X5_isTrain hx hb hml hts hown hK hA hE hst9 (by decide +kernel) ⟨Nat.le_of_ble_eq_true rfl, Nat.le_of_ble_eq_true rfl⟩ rfl rfl h
      · cases hn
        exact k_X5_isPlatform hx hb hml hts hown hK hA hE hst9 (by decide +kernel) ⟨Nat.le_of_ble_eq_true rfl, Nat.le_of_ble_eq_true rfl⟩ rfl rfl h
      · cases hn
    · intro pc E hE9; cases hE9
  have W111 : ∀ (t : TT), B_X5_stop_111 M (fun t1 => post none t1) px t → Wat p l e ({ frames := 2, cells := 0, slots := 0, locals := 43 } : Room) s m args below meth c (QM below args s D X ad A M 0 0 post px) D X ad A M 5 111 [] [] t 0 0 := by
    intro t h
    refine wp_go hR9 (cs := S_X5_stop) (Bk := (fun _ _ _ _ => False)) ?_ 400 111 _ _ _ _ _ h
    intro pc q vs ws t hc hk
    exact hk.elim
  have W98 : ∀ (o0 : Nat) (a1 : Int32) (a2 : Int32) (s0 : Int32) (u1 : Nat) (t : TT), B_X5_stop_98 M (fun t1 => post none t1) px o0 a1 a2 s0 u1 t → Wat p l e ({ frames := 2, cells := 0, slots := 0, locals := 43 } : Room) s m args below meth c (QM below args s D X ad A M 0 0 post px) D X ad A M 5 98 [(0, .inr (.inl (20, o0))), (1, .inl a1), (2, .inl a2)] [.inl s0, .inr (.inl (20, u1))] t 0 0 := by
    intro o0 a1 a2 s0 u1 t h
    refine wp_go hR9 (cs := S_X5_stop) (Bk := (fun pc vs ws t => match pc with | 111 => (match vs, ws with | [], [] => B_X5_stop_111 M (fun t1 => post none t1) px t | _, _ => False) | _ => False)) ?_ 400 98 _ _ _ _ _ h
    intro pc q vs ws t hc hk
    split at hk
    · cases hc
      split at hk
      · exact W111 _ hk
      · exact hk.elim
    · exact hk.elim
  have W77 : ∀ (o0 : Nat) (a1 : Int32) (a2 : Int32) (a3 : Int32) (s0 : Int32) (t : TT), B_X5_stop_77 M (fun t1 => post none t1) px o0 a1 a2 a3 s0 t → Wat p l e ({ frames := 2, cells := 0, slots := 0, locals := 43 } : Room) s m args below meth c (QM below args s D X ad A M 0 0 post px) D X ad A M 5 77 [(0, .inr (.inl (20, o0))), (1, .inl a1), (2, .inl a2), (3, .inl a3)] [.inl s0] t 0 0 := by
    intro o0 a1 a2 a3 s0 t h
    refine wp_go hR9 (cs := S_X5_stop) (Bk := (fun pc vs ws t => match pc with | 98 => (match vs, ws with | [.inr (.inl (20, o0)), .inl a1, .inl a2], [.inl s0, .inr (.inl (20, u1))] => B_X5_stop_98 M (fun t1 => post none t1) px o0 a1 a2 s0 u1 t | _, _ => False) | _ => False)) ?_ 400 77 _ _ _ _ _ h
    intro pc q vs ws t hc hk
    split at hk
    · cases hc
      split at hk
      · exact W98 _ _ _ _ _ _ hk
      · exact hk.elim
    · exact hk.elim
  have W76 : ∀ (o0 : Nat) (a1 : Int32) (a2 : Int32) (a3 : Int32) (t : TT), B_X5_stop_76 M (fun t1 => post none t1) px o0 a1 a2 a3 t → Wat p l e ({ frames := 2, cells := 0, slots := 0, locals := 43 } : Room) s m args below meth c (QM below args s D X ad A M 0 0 post px) D X ad A M 5 76 [(0, .inr (.inl (20, o0))), (1, .inl a1), (2, .inl a2), (3, .inl a3)] [] t 0 0 := by
    intro o0 a1 a2 a3 t h
    refine wp_go hR9 (cs := S_X5_stop) (Bk := (fun pc vs ws t => match pc with | 77 => (match vs, ws with | [.inr (.inl (20, o0)), .inl a1, .inl a2, .inl a3], [.inl s0] => B_X5_stop_77 M (fun t1 => post none t1) px o0 a1 a2 a3 s0 t | _, _ => False) | _ => False)) ?_ 400 76 _ _ _ _ _ h
    intro pc q vs ws t hc hk
    split at hk
    · cases hc
      split at hk
      · exact W77 _ _ _ _ _ _ hk
      · exact hk.elim
    · exact hk.elim
  have W21 : ∀ (o0 : Nat) (a1 : Int32) (a2 : Int32) (s0 : Int32) (t : TT), B_X5_stop_21 M (fun t1 => post none t1) px o0 a1 a2 s0 t → Wat p l e ({ frames := 2, cells := 0, slots := 0, locals := 43 } : Room) s m args below meth c (QM below args s D X ad A M 0 0 post px) D X ad A M 5 21 [(0, .inr (.inl (20, o0))), (1, .inl a1), (2, .inl a2)] [.inl s0] t 0 0 := by
    intro o0 a1 a2 s0 t h
    refine wp_go hR9 (cs := S_X5_stop) (Bk := (fun pc vs ws t => match pc with | 76 => (match vs, ws with | [.inr (.inl (20, o0)), .inl a1, .inl a2, .inl a3], [] => B_X5_stop_76 M (fun t1 => post none t1) px o0 a1 a2 a3 t | _, _ => False) | 77 => (match vs, ws with | [.inr (.inl (20, o0)), .inl a1, .inl a2, .inl a3], [.inl s0] => B_X5_stop_77 M (fun t1 => post none t1) px o0 a1 a2 a3 s0 t | _, _ => False) | _ => False)) ?_ 400 21 _ _ _ _ _ h
    intro pc q vs ws t hc hk
    split at hk
    · cases hc
      split at hk
      · exact W76 _ _ _ _ _ hk
      · exact hk.elim
    · cases hc
      split at hk
      · exact W77 _ _ _ _ _ _ hk
      · exact hk.elim
    · exact hk.elim
  have W20 : ∀ (o0 : Nat) (a1 : Int32) (a2 : Int32) (t : TT), B_X5_stop_20 M (fun t1 => post none t1) px o0 a1 a2 t → Wat p l e ({ frames := 2, cells := 0, slots := 0, locals := 43 } : Room) s m args below meth c (QM below args s D X ad A M 0 0 post px) D X ad A M 5 20 [(0, .inr (.inl (20, o0))), (1, .inl a1), (2, .inl a2)] [] t 0 0 := by
    intro o0 a1 a2 t h
    refine wp_go hR9 (cs := S_X5_stop) (Bk := (fun pc vs ws t => match pc with | 21 => (match vs, ws with | [.inr (.inl (20, o0)), .inl a1, .inl a2], [.inl s0] => B_X5_stop_21 M (fun t1 => post none t1) px o0 a1 a2 s0 t | _, _ => False) | _ => False)) ?_ 400 20 _ _ _ _ _ h
    intro pc q vs ws t hc hk
    split at hk
    · cases hc
      split at hk
      · exact W21 _ _ _ _ _ hk
      · exact hk.elim
    · exact hk.elim
  refine wp_go hR9 (cs := S_X5_stop) (Bk := (fun pc vs ws t => match pc with | 20 => (match vs, ws with | [.inr (.inl (20, o0)), .inl a1, .inl a2], [] => B_X5_stop_20 M (fun t1 => post none t1) px o0 a1 a2 t | _, _ => False) | 21 => (match vs, ws with | [.inr (.inl (20, o0)), .inl a1, .inl a2], [.inl s0] => B_X5_stop_21 M (fun t1 => post none t1) px o0 a1 a2 s0 t | _, _ => False) | _ => False)) ?_ 400 0 _ _ _ _ _ h
  intro pc q vs ws t hc hk
  split at hk
  · cases hc
    split at hk
    · exact W20 _ _ _ _ hk
    · exact hk.elim
  · cases hc
    split at hk
    · exact W21 _ _ _ _ _ hk
    · exact hk.elim
  · exact hk.elim
theorem k_X5_stop (hx : p.tables.exec = Jvm.exec) (hb : c.code = b) (hml : c.maxLocals = nL) (hts : ∀ w ∈ LT, w.before args s = true) {own : String} (hown : s.vm.findClass own = some m.cls) (hK : va_K D vwCl (TYX X) s) (hA : ∀ q, s.heap.size ≤ q → A q) (hE : EX A s) (hst9 : l.stackTraces = false) {ix : Nat} (hl9 : Cond.methodLink own ix yX5_stop ∈ LT) (hR : 3 ≤ R.frames ∧ 67 ≤ R.locals) (hmc : R.cells = mc) (hms : R.slots = ms) (h : PC_X5_stop M as t k kx) : CallOK p l e R s m args below meth c Q D X ad A M nL b mc ms (.invokevirtual ix) 0 0 as t k kx := by
  unfold PC_X5_stop at h
  split at h
  · exact call_V hx hb hml hts hown hK hA hE (c_X5_stop hst9 _ _ _ t h.2) ⟨hl9, ws_X5_stop.1, ws_X5_stop.2.1, ws_X5_stop.2.2.1, ws_X5_stop.2.2.2⟩ (n := 2) (by decide +kernel) hR rfl rfl hmc hms rfl ⟨20, _, rfl, h.1, Or.inr (Or.inr (Or.inr (Or.inr (Or.inr rfl)))), rfl⟩
  · exact CallOK.congr (by simp only [List.map_cons]; congr 1; exact (if_neg h.1).symm) (call_V hx hb hml hts hown hK hA hE (c_X5_stop hst9 _ _ _ t h.2.2) ⟨hl9, ws_X5_stop.1, ws_X5_stop.2.1, ws_X5_stop.2.2.1, ws_X5_stop.2.2.2⟩ (n := 2) (by decide +kernel) hR rfl rfl hmc hms rfl ⟨20, _, rfl, h.2.1, Or.inr (Or.inr (Or.inr (Or.inr (Or.inr rfl)))), rfl⟩)
  · exact h.elim
def Q_X5_bar (M : Nat → Nat → Bool) (ix : Nat) (as : List VV) (t : TT) (k : Option VV → TT → Prop) (kx : String → TT → Prop) : Prop := match ix with
  | 111 => PC_X5_in M as t k kx
  | 131 => PC_X5_isFine M as t k kx
  | 154 => PC_X5_isTrain M as t k kx
  | 173 => PC_X5_isPlatform M as t k kx
  | _ => False
def N_X5_bar (v : Bool) (ix : Nat) : Option (Nat × Nat × Nat) := match v, ix with
  | false, 111 => some (3, 0, 0)
  | true, 131 => some (2, 0, 0)
  | true, 154 => some (2, 0, 0)
  | true, 173 => some (2, 0, 0)
  | _, _ => none
def S_X5_bar (pc : Nat) : Option (List (Nat × Nat × Nat) × List (Nat × Nat) × Nat × Nat) := match pc with
  | 94 => some ([(5, 0, 0)], [], 0, 0)
  | 71 => some ([(0, 1, 20), (1, 0, 0), (2, 0, 0), (3, 0, 0)], [(0, 0)], 0, 0)
  | 44 => some ([(0, 1, 20), (1, 0, 0), (2, 0, 0), (3, 0, 0)], [(0, 0), (1, 20)], 0, 0)
  | 17 => some ([(0, 1, 20), (1, 0, 0), (2, 0, 0), (3, 0, 0)], [(0, 0)], 0, 0)
  | _ => none
def H_X5_bar (pc : Nat) : Option String := none
set_option maxRecDepth 100000 in
set_option maxHeartbeats 4000000 in
theorem c_X5_bar {l : Launch} (hst9 : l.stackTraces = false) {D : va_G} {X : Nat → ClassId} {ad : Nat → Nat → Nat} {M : Nat → Nat → Bool} {post : Option VV → TT → Prop} {px : String → TT → Prop} (o0 : Nat) (a1 : Int32) (a2 : Int32) (a3 : Int32) (t : TT) (h : P_X5_bar M (fun r t1 => post (some (.inl r)) t1) px o0 a1 a2 a3 t) : CT l yX5_bar (Cond.code yX5_bar cX5_bar 6 (some .int) :: LT) ({ frames := 2, cells := 0, slots := 0, locals := 43 } : Room) D X ad M [.inr (.inl (20, o0)), .inl a1, .inl a2, .inl a3] t 0 0 post px := by
  refine met_of_wp (by decide +kernel) (Nat.le_of_ble_eq_true rfl) ?_
  intro p e s m args below meth c A hx hb hml hts hown hK hnt hlocks hr hA hE
  have hR9 : Ready p l e ({ frames := 2, cells := 0, slots := 0, locals := 43 } : Room) s m args below meth c D X ad A M 6 cX5_bar 0 0 post px RX5 1 (fldOf F_X5) N_X5_bar (Q_X5_bar M) (tabOf T_X5_bar) H_X5_bar := by
    refine ⟨hx, hb, hts, hown, hK, hnt, hlocks, hr, F_X5_ok, ?_, fun pc en h => tabOf_ok T_X5_bar_ok h, ?_⟩
    · intro v9 ix n mc1 ms1 as t k hn hl h
      unfold N_X5_bar at hn
      split at hn
      · cases hn
        exact k_X5_in hx hb hml hts hown hK hA hE hst9 (by decide +kernel) ⟨Nat.le_of_ble_eq_true rfl, Nat.le_of_ble_eq_true rfl⟩ rfl rfl h
      · cases hn
        exact k_X5_isFine hx hb hml hts hown hK hA hE hst9 (by decide +kernel) ⟨Nat.le_of_ble_eq_true rfl, Nat.le_of_ble_eq_true rfl⟩ rfl rfl h
      · cases hn
        exact k_X5_isTrain hx hb hml hts hown hK hA hE hst9 (by decide +kernel) ⟨Nat.le_of_ble_eq_true rfl, Nat.le_of_ble_eq_true rfl⟩ rfl rfl h
      · cases hn
        exact k_X5_isPlatform hx hb hml hts hown hK hA hE hst9 (by decide +kernel) ⟨Nat.le_of_ble_eq_true rfl, Nat.le_of_ble_eq_true rfl⟩ rfl rfl h
      · cases hn
    · intro pc E hE9; cases hE9
  have W94 : ∀ (a5 : Int32) (t : TT), B_X5_bar_94 M (fun r t1 => post (some (.inl r)) t1) px a5 t → Wat p l e ({ frames := 2, cells := 0, slots := 0, locals := 43 } : Room) s m args below meth c (QM below args s D X ad A M 0 0 post px) D X ad A M 6 94 [(5, .inl a5)] [] t 0 0 := by
    intro a5 t h
    refine wp_go hR9 (cs := S_X5_bar) (Bk := (fun _ _ _ _ => False)) ?_ 400 94 _ _ _ _ _ h
    intro pc q vs ws t hc hk
    exact hk.elim
  have W71 : ∀ (o0 : Nat) (a1 : Int32) (a2 : Int32) (a3 : Int32) (s0 : Int32) (t : TT), B_X5_bar_71 M (fun r t1 => post (some (.inl r)) t1) px o0 a1 a2 a3 s0 t → Wat p l e ({ frames := 2, cells := 0, slots := 0, locals := 43 } : Room) s m args below meth c (QM below args s D X ad A M 0 0 post px) D X ad A M 6 71 [(0, .inr (.inl (20, o0))), (1, .inl a1), (2, .inl a2), (3, .inl a3)] [.inl s0] t 0 0 := by
    intro o0 a1 a2 a3 s0 t h
    refine wp_go hR9 (cs := S_X5_bar) (Bk := (fun pc vs ws t => match pc with | 94 => (match vs, ws with | [.inl a5], [] => B_X5_bar_94 M (fun r t1 => post (some (.inl r)) t1) px a5 t | _, _ => False) | _ => False)) ?_ 400 71 _ _ _ _ _ h
    intro pc q vs ws t hc hk
    split at hk
    · cases hc
      split at hk
      · exact W94 _ _ hk
      · exact hk.elim
    · exact hk.elim
  have W44 : ∀ (o0 : Nat) (a1 : Int32) (a2 : Int32) (a3 : Int32) (s0 : Int32) (u1 : Nat) (t : TT), B_X5_bar_44 M (fun r t1 => post (some (.inl r)) t1) px o0 a1 a2 a3 s0 u1 t → Wat p l e ({ frames := 2, cells := 0, slots := 0, locals := 43 } : Room) s m args below meth c (QM below args s D X ad A M 0 0 post px) D X ad A M 6 44 [(0, .inr (.inl (20, o0))), (1, .inl a1), (2, .inl a2), (3, .inl a3)] [.inl s0, .inr (.inl (20, u1))] t 0 0 := by
    intro o0 a1 a2 a3 s0 u1 t h
    refine wp_go hR9 (cs := S_X5_bar) (Bk := (fun pc vs ws t => match pc with | 71 => (match vs, ws with | [.inr (.inl (20, o0)), .inl a1, .inl a2, .inl a3], [.inl s0] => B_X5_bar_71 M (fun r t1 => post (some (.inl r)) t1) px o0 a1 a2 a3 s0 t | _, _ => False) | _ => False)) ?_ 400 44 _ _ _ _ _ h
    intro pc q vs ws t hc hk
    split at hk
    · cases hc
      split at hk
      · exact W71 _ _ _ _ _ _ hk
      · exact hk.elim
    · exact hk.elim
  have W17 : ∀ (o0 : Nat) (a1 : Int32) (a2 : Int32) (a3 : Int32) (s0 : Int32) (t : TT), B_X5_bar_17 M (fun r t1 => post (some (.inl r)) t1) px o0 a1 a2 a3 s0 t → Wat p l e ({ frames := 2, cells := 0, slots := 0, locals := 43 } : Room) s m args below meth c (QM below args s D X ad A M 0 0 post px) D X ad A M 6 17 [(0, .inr (.inl (20, o0))), (1, .inl a1), (2, .inl a2), (3, .inl a3)] [.inl s0] t 0 0 := by
    intro o0 a1 a2 a3 s0 t h
    refine wp_go hR9 (cs := S_X5_bar) (Bk := (fun pc vs ws t => match pc with | 44 => (match vs, ws with | [.inr (.inl (20, o0)), .inl a1, .inl a2, .inl a3], [.inl s0, .inr (.inl (20, u1))] => B_X5_bar_44 M (fun r t1 => post (some (.inl r)) t1) px o0 a1 a2 a3 s0 u1 t | _, _ => False) | _ => False)) ?_ 400 17 _ _ _ _ _ h
    intro pc q vs ws t hc hk
    split at hk
    · cases hc
      split at hk
      · exact W44 _ _ _ _ _ _ _ hk
      · exact hk.elim
    · exact hk.elim
  refine wp_go hR9 (cs := S_X5_bar) (Bk := (fun pc vs ws t => match pc with | 17 => (match vs, ws with | [.inr (.inl (20, o0)), .inl a1, .inl a2, .inl a3], [.inl s0] => B_X5_bar_17 M (fun r t1 => post (some (.inl r)) t1) px o0 a1 a2 a3 s0 t | _, _ => False) | _ => False)) ?_ 400 0 _ _ _ _ _ h
  intro pc q vs ws t hc hk
  split at hk
  · cases hc
    split at hk
    · exact W17 _ _ _ _ _ _ hk
    · exact hk.elim
  · exact hk.elim
theorem k_X5_bar (hx : p.tables.exec = Jvm.exec) (hb : c.code = b) (hml : c.maxLocals = nL) (hts : ∀ w ∈ LT, w.before args s = true) {own : String} (hown : s.vm.findClass own = some m.cls) (hK : va_K D vwCl (TYX X) s) (hA : ∀ q, s.heap.size ≤ q → A q) (hE : EX A s) (hst9 : l.stackTraces = false) {ix : Nat} (hl9 : Cond.methodLink own ix yX5_bar ∈ LT) (hR : 3 ≤ R.frames ∧ 68 ≤ R.locals) (hmc : R.cells = mc) (hms : R.slots = ms) (h : PC_X5_bar M as t k kx) : CallOK p l e R s m args below meth c Q D X ad A M nL b mc ms (.invokevirtual ix) 0 0 as t k kx := by
  unfold PC_X5_bar at h
  split at h
  · exact call_V hx hb hml hts hown hK hA hE (c_X5_bar hst9 _ _ _ _ t h.2) ⟨hl9, ws_X5_bar.1, ws_X5_bar.2.1, ws_X5_bar.2.2.1, ws_X5_bar.2.2.2⟩ (n := 3) (by decide +kernel) hR rfl rfl hmc hms rfl ⟨20, _, rfl, h.1, Or.inr (Or.inr (Or.inr (Or.inr (Or.inr rfl)))), rfl⟩
  · exact CallOK.congr (by simp only [List.map_cons]; congr 1; exact (if_neg h.1).symm) (call_V hx hb hml hts hown hK hA hE (c_X5_bar hst9 _ _ _ _ t h.2.2) ⟨hl9, ws_X5_bar.1, ws_X5_bar.2.1, ws_X5_bar.2.2.1, ws_X5_bar.2.2.2⟩ (n := 3) (by decide +kernel) hR rfl rfl hmc hms rfl ⟨20, _, rfl, h.2.1, Or.inr (Or.inr (Or.inr (Or.inr (Or.inr rfl)))), rfl⟩)
  · exact h.elim
def Q_X5_isAtStop (M : Nat → Nat → Bool) (ix : Nat) (as : List VV) (t : TT) (k : Option VV → TT → Prop) (kx : String → TT → Prop) : Prop := False
def N_X5_isAtStop (v : Bool) (ix : Nat) : Option (Nat × Nat × Nat) := none
def S_X5_isAtStop (pc : Nat) : Option (List (Nat × Nat × Nat) × List (Nat × Nat) × Nat × Nat) := match pc with
  | 60 => some ([], [(0, 0)], 0, 0)
  | 59 => some ([], [], 0, 0)
  | _ => none
def H_X5_isAtStop (pc : Nat) : Option String := none
set_option maxRecDepth 100000 in
set_option maxHeartbeats 4000000 in
theorem c_X5_isAtStop {l : Launch} (hst9 : l.stackTraces = false) {D : va_G} {X : Nat → ClassId} {ad : Nat → Nat → Nat} {M : Nat → Nat → Bool} {post : Option VV → TT → Prop} {px : String → TT → Prop} (o0 : Nat) (a1 : Int32) (t : TT) (h : P_X5_isAtStop M (fun r t1 => post (some (.inl r)) t1) px o0 a1 t) : CT l yX5_isAtStop (Cond.code yX5_isAtStop cX5_isAtStop 3 (some .boolean) :: LT) ({ frames := 0, cells := 0, slots := 0, locals := 0 } : Room) D X ad M [.inr (.inl (20, o0)), .inl a1] t 0 0 post px := by
  refine met_of_wp (by decide +kernel) (Nat.le_of_ble_eq_true rfl) ?_
  intro p e s m args below meth c A hx hb hml hts hown hK hnt hlocks hr hA hE
  have hR9 : Ready p l e ({ frames := 0, cells := 0, slots := 0, locals := 0 } : Room) s m args below meth c D X ad A M 3 cX5_isAtStop 0 0 post px RX5 2 (fldOf F_X5) N_X5_isAtStop (Q_X5_isAtStop M) (tabOf T_X5_isAtStop) H_X5_isAtStop := by
    refine ⟨hx, hb, hts, hown, hK, hnt, hlocks, hr, F_X5_ok, ?_, fun pc en h => tabOf_ok T_X5_isAtStop_ok h, ?_⟩
    · intro v9 ix n mc1 ms1 as t k hn hl h
      unfold N_X5_isAtStop at hn
      cases hn
    · intro pc E hE9; cases hE9
  have W60 : ∀ (s0 : Int32) (t : TT), B_X5_isAtStop_60 M (fun r t1 => post (some (.inl r)) t1) px s0 t → Wat p l e ({ frames := 0, cells := 0, slots := 0, locals := 0 } : Room) s m args below meth c (QM below args s D X ad A M 0 0 post px) D X ad A M 3 60 [] [.inl s0] t 0 0 := by
    intro s0 t h
    refine wp_go hR9 (cs := S_X5_isAtStop) (Bk := (fun _ _ _ _ => False)) ?_ 400 60 _ _ _ _ _ h
    intro pc q vs ws t hc hk
    exact hk.elim
  have W59 : ∀ (t : TT), B_X5_isAtStop_59 M (fun r t1 => post (some (.inl r)) t1) px t → Wat p l e ({ frames := 0, cells := 0, slots := 0, locals := 0 } : Room) s m args below meth c (QM below args s D X ad A M 0 0 post px) D X ad A M 3 59 [] [] t 0 0 := by
    intro t h
    refine wp_go hR9 (cs := S_X5_isAtStop) (Bk := (fun pc vs ws t => match pc with | 60 => (match vs, ws with | [], [.inl s0] => B_X5_isAtStop_60 M (fun r t1 => post (some (.inl r)) t1) px s0 t | _, _ => False) | _ => False)) ?_ 400 59 _ _ _ _ _ h
    intro pc q vs ws t hc hk
    split at hk
    · cases hc
      split at hk
      · exact W60 _ _ hk
      · exact hk.elim
    · exact hk.elim
  refine wp_go hR9 (cs := S_X5_isAtStop) (Bk := (fun pc vs ws t => match pc with | 59 => (match vs, ws with | [], [] => B_X5_isAtStop_59 M (fun r t1 => post (some (.inl r)) t1) px t | _, _ => False) | 60 => (match vs, ws with | [], [.inl s0] => B_X5_isAtStop_60 M (fun r t1 => post (some (.inl r)) t1) px s0 t | _, _ => False) | _ => False)) ?_ 400 0 _ _ _ _ _ h
  intro pc q vs ws t hc hk
  split at hk
  · cases hc
    split at hk
    · exact W59 _ hk
    · exact hk.elim
  · cases hc
    split at hk
    · exact W60 _ _ hk
    · exact hk.elim
  · exact hk.elim
theorem k_X5_isAtStop (hx : p.tables.exec = Jvm.exec) (hb : c.code = b) (hml : c.maxLocals = nL) (hts : ∀ w ∈ LT, w.before args s = true) {own : String} (hown : s.vm.findClass own = some m.cls) (hK : va_K D vwCl (TYX X) s) (hA : ∀ q, s.heap.size ≤ q → A q) (hE : EX A s) (hst9 : l.stackTraces = false) {ix : Nat} (hl9 : Cond.methodLink own ix yX5_isAtStop ∈ LT) (hR : 1 ≤ R.frames ∧ 22 ≤ R.locals) (hmc : R.cells = mc) (hms : R.slots = ms) (h : PC_X5_isAtStop M as t k kx) : CallOK p l e R s m args below meth c Q D X ad A M nL b mc ms (.invokevirtual ix) 0 0 as t k kx := by
  unfold PC_X5_isAtStop at h
  split at h
  · exact call_V hx hb hml hts hown hK hA hE (c_X5_isAtStop hst9 _ _ t h.2) ⟨hl9, ws_X5_isAtStop.1, ws_X5_isAtStop.2.1, ws_X5_isAtStop.2.2.1, ws_X5_isAtStop.2.2.2⟩ (n := 1) (by decide +kernel) hR rfl rfl hmc hms rfl ⟨20, _, rfl, h.1, Or.inr (Or.inr (Or.inr (Or.inr (Or.inr rfl)))), rfl⟩
  · exact CallOK.congr (by simp only [List.map_cons]; congr 1; exact (if_neg h.1).symm) (call_V hx hb hml hts hown hK hA hE (c_X5_isAtStop hst9 _ _ t h.2.2) ⟨hl9, ws_X5_isAtStop.1, ws_X5_isAtStop.2.1, ws_X5_isAtStop.2.2.1, ws_X5_isAtStop.2.2.2⟩ (n := 1) (by decide +kernel) hR rfl rfl hmc hms rfl ⟨20, _, rfl, h.2.1, Or.inr (Or.inr (Or.inr (Or.inr (Or.inr rfl)))), rfl⟩)
  · exact h.elim
def Q_X5_open (M : Nat → Nat → Bool) (ix : Nat) (as : List VV) (t : TT) (k : Option VV → TT → Prop) (kx : String → TT → Prop) : Prop := match ix with
  | 111 => PC_X5_in M as t k kx
  | 131 => PC_X5_isFine M as t k kx
  | 154 => PC_X5_isTrain M as t k kx
  | 176 => PC_X5_isAtStop M as t k kx
  | _ => False
def N_X5_open (v : Bool) (ix : Nat) : Option (Nat × Nat × Nat) := match v, ix with
  | false, 111 => some (3, 0, 0)
  | true, 131 => some (2, 0, 0)
  | true, 154 => some (2, 0, 0)
  | true, 176 => some (2, 0, 0)
  | _, _ => none
def S_X5_open (pc : Nat) : Option (List (Nat × Nat × Nat) × List (Nat × Nat) × Nat × Nat) := match pc with
  | 114 => some ([(0, 1, 20), (1, 0, 0)], [(0, 0), (0, 0), (0, 0), (31, 21)], 0, 0)
  | 50 => some ([(0, 1, 20), (1, 0, 0), (2, 0, 0)], [(0, 0), (1, 20)], 0, 0)
  | 45 => some ([(0, 1, 20), (1, 0, 0), (2, 0, 0)], [(1, 20)], 0, 0)
  | _ => none
def H_X5_open (pc : Nat) : Option String := none
set_option maxRecDepth 100000 in
set_option maxHeartbeats 4000000 in
theorem c_X5_open {l : Launch} (hst9 : l.stackTraces = false) {D : va_G} {X : Nat → ClassId} {ad : Nat → Nat → Nat} {M : Nat → Nat → Bool} {post : Option VV → TT → Prop} {px : String → TT → Prop} (o0 : Nat) (a1 : Int32) (a2 : Int32) (t : TT) (h : P_X5_open M (fun r t1 => post (some (.inl r)) t1) px o0 a1 a2 t) : CT l yX5_open (Cond.code yX5_open cX5_open 3 (some .int) :: LT) ({ frames := 2, cells := 0, slots := 0, locals := 43 } : Room) D X ad M [.inr (.inl (20, o0)), .inl a1, .inl a2] t 0 0 post px := by
  refine met_of_wp (by decide +kernel) (Nat.le_of_ble_eq_true rfl) ?_
  intro p e s m args below meth c A hx hb hml hts hown hK hnt hlocks hr hA hE
  have hR9 : Ready p l e ({ frames := 2, cells := 0, slots := 0, locals := 43 } : Room) s m args below meth c D X ad A M 3 cX5_open 0 0 post px RX5 1 (fldOf F_X5) N_X5_open (Q_X5_open M) (tabOf T_X5_open) H_X5_open := by
    refine ⟨hx, hb, hts, hown, hK, hnt, hlocks, hr, F_X5_ok, ?_, fun pc en h => tabOf_ok T_X5_open_ok h, ?_⟩
    · intro v9 ix n mc1 ms1 as t k hn hl h
      unfold N_X5_open at hn
      split at hn
      · cases hn
        exact k_X5_in hx hb hml hts hown hK hA hE hst9 (by decide +kernel) ⟨Nat.le_of_ble_eq_true rfl, Nat.le_of_ble_eq_true rfl⟩ rfl rfl h
      · cases hn
        exact k_X5_isFine hx hb hml hts hown hK hA hE hst9 (by decide +kernel) ⟨Nat.le_of_ble_eq_true rfl, Nat.le_of_ble_eq_true rfl⟩ rfl rfl h
      · cases hn
        exact k_X5_isTrain hx hb hml hts hown hK hA hE hst9 (by decide +kernel) ⟨Nat.le_of_ble_eq_true rfl, Nat.le_of_ble_eq_true rfl⟩ rfl rfl h
      · cases hn
        exact k_X5_isAtStop hx hb hml hts hown hK hA hE hst9 (by decide +kernel) ⟨Nat.le_of_ble_eq_true rfl, Nat.le_of_ble_eq_true rfl⟩ rfl rfl h
      · cases hn
    · intro pc E hE9; cases hE9
  have W114 : ∀ (o0 : Nat) (a1 : Int32) (s0 : Int32) (s1 : Int32) (s2 : Int32) (t : TT), B_X5_open_114 M (fun r t1 => post (some (.inl r)) t1) px o0 a1 s0 s1 s2 t → Wat p l e ({ frames := 2, cells := 0, slots := 0, locals := 43 } : Room) s m args below meth c (QM below args s D X ad A M 0 0 post px) D X ad A M 3 114 [(0, .inr (.inl (20, o0))), (1, .inl a1)] [.inl s0, .inl s1, .inl s2, .inr (.inl (21, 28))] t 0 0 := by
    intro o0 a1 s0 s1 s2 t h
    refine wp_go hR9 (cs := S_X5_open) (Bk := (fun _ _ _ _ => False)) ?_ 400 114 _ _ _ _ _ h
    intro pc q vs ws t hc hk
    exact hk.elim
  have W50 : ∀ (o0 : Nat) (a1 : Int32) (a2 : Int32) (s0 : Int32) (u1 : Nat) (t : TT), B_X5_open_50 M (fun r t1 => post (some (.inl r)) t1) px o0 a1 a2 s0 u1 t → Wat p l e ({ frames := 2, cells := 0, slots := 0, locals := 43 } : Room) s m args below meth c (QM below args s D X ad A M 0 0 post px) D X ad A M 3 50 [(0, .inr (.inl (20, o0))), (1, .inl a1), (2, .inl a2)] [.inl s0, .inr (.inl (20, u1))] t 0 0 := by
    intro o0 a1 a2 s0 u1 t h
    refine wp_go hR9 (cs := S_X5_open) (Bk := (fun pc vs ws t => match pc with | 114 => (match vs, ws with | [.inr (.inl (20, o0)), .inl a1], [.inl s0, .inl s1, .inl s2, .inr (.inl (21, 28))] => B_X5_open_114 M (fun r t1 => post (some (.inl r)) t1) px o0 a1 s0 s1 s2 t | _, _ => False) | _ => False)) ?_ 400 50 _ _ _ _ _ h
    intro pc q vs ws t hc hk
    split at hk
    · cases hc
      split at hk
      · exact W114 _ _ _ _ _ _ hk
      · exact hk.elim
    · exact hk.elim
  have W45 : ∀ (o0 : Nat) (a1 : Int32) (a2 : Int32) (u0 : Nat) (t : TT), B_X5_open_45 M (fun r t1 => post (some (.inl r)) t1) px o0 a1 a2 u0 t → Wat p l e ({ frames := 2, cells := 0, slots := 0, locals := 43 } : Room) s m args below meth c (QM below args s D X ad A M 0 0 post px) D X ad A M 3 45 [(0, .inr (.inl (20, o0))), (1, .inl a1), (2, .inl a2)] [.inr (.inl (20, u0))] t 0 0 := by
    intro o0 a1 a2 u0 t h
    refine wp_go hR9 (cs := S_X5_open) (Bk := (fun pc vs ws t => match pc with | 50 => (match vs, ws with | [.inr (.inl (20, o0)), .inl a1, .inl a2], [.inl s0, .inr (.inl (20, u1))] => B_X5_open_50 M (fun r t1 => post (some (.inl r)) t1) px o0 a1 a2 s0 u1 t | _, _ => False) | _ => False)) ?_ 400 45 _ _ _ _ _ h
    intro pc q vs ws t hc hk
    split at hk
    · cases hc
      split at hk
      · exact W50 _ _ _ _ _ _ hk
      · exact hk.elim
    · exact hk.elim
  refine wp_go hR9 (cs := S_X5_open) (Bk := (fun pc vs ws t => match pc with | 45 => (match vs, ws with | [.inr (.inl (20, o0)), .inl a1, .inl a2], [.inr (.inl (20, u0))] => B_X5_open_45 M (fun r t1 => post (some (.inl r)) t1) px o0 a1 a2 u0 t | _, _ => False) | 50 => (match vs, ws with | [.inr (.inl (20, o0)), .inl a1, .inl a2], [.inl s0, .inr (.inl (20, u1))] => B_X5_open_50 M (fun r t1 => post (some (.inl r)) t1) px o0 a1 a2 s0 u1 t | _, _ => False) | _ => False)) ?_ 400 0 _ _ _ _ _ h
  intro pc q vs ws t hc hk
  split at hk
  · cases hc
    split at hk
    · exact W45 _ _ _ _ _ hk
    · exact hk.elim
  · cases hc
    split at hk
    · exact W50 _ _ _ _ _ _ hk
    · exact hk.elim
  · exact hk.elim
theorem k_X5_open (hx : p.tables.exec = Jvm.exec) (hb : c.code = b) (hml : c.maxLocals = nL) (hts : ∀ w ∈ LT, w.before args s = true) {own : String} (hown : s.vm.findClass own = some m.cls) (hK : va_K D vwCl (TYX X) s) (hA : ∀ q, s.heap.size ≤ q → A q) (hE : EX A s) (hst9 : l.stackTraces = false) {ix : Nat} (hl9 : Cond.methodLink own ix yX5_open ∈ LT) (hR : 3 ≤ R.frames ∧ 65 ≤ R.locals) (hmc : R.cells = mc) (hms : R.slots = ms) (h : PC_X5_open M as t k kx) : CallOK p l e R s m args below meth c Q D X ad A M nL b mc ms (.invokevirtual ix) 0 0 as t k kx := by
  unfold PC_X5_open at h
  split at h
  · exact call_V hx hb hml hts hown hK hA hE (c_X5_open hst9 _ _ _ t h.2) ⟨hl9, ws_X5_open.1, ws_X5_open.2.1, ws_X5_open.2.2.1, ws_X5_open.2.2.2⟩ (n := 2) (by decide +kernel) hR rfl rfl hmc hms rfl ⟨20, _, rfl, h.1, Or.inr (Or.inr (Or.inr (Or.inr (Or.inr rfl)))), rfl⟩
  · exact CallOK.congr (by simp only [List.map_cons]; congr 1; exact (if_neg h.1).symm) (call_V hx hb hml hts hown hK hA hE (c_X5_open hst9 _ _ _ t h.2.2) ⟨hl9, ws_X5_open.1, ws_X5_open.2.1, ws_X5_open.2.2.1, ws_X5_open.2.2.2⟩ (n := 2) (by decide +kernel) hR rfl rfl hmc hms rfl ⟨20, _, rfl, h.2.1, Or.inr (Or.inr (Or.inr (Or.inr (Or.inr rfl)))), rfl⟩)
  · exact h.elim
def Q_X5_shut (M : Nat → Nat → Bool) (ix : Nat) (as : List VV) (t : TT) (k : Option VV → TT → Prop) (kx : String → TT → Prop) : Prop := match ix with
  | 131 => PC_X5_isFine M as t k kx
  | 154 => PC_X5_isTrain M as t k kx
  | _ => False
def N_X5_shut (v : Bool) (ix : Nat) : Option (Nat × Nat × Nat) := match v, ix with
  | true, 131 => some (2, 0, 0)
  | true, 154 => some (2, 0, 0)
  | _, _ => none
def S_X5_shut (pc : Nat) : Option (List (Nat × Nat × Nat) × List (Nat × Nat) × Nat × Nat) := match pc with
  | 41 => some ([], [], 0, 0)
  | 28 => some ([(0, 1, 20), (1, 0, 0)], [(0, 0), (1, 20)], 0, 0)
  | _ => none
def H_X5_shut (pc : Nat) : Option String := none
set_option maxRecDepth 100000 in
set_option maxHeartbeats 4000000 in
theorem c_X5_shut {l : Launch} (hst9 : l.stackTraces = false) {D : va_G} {X : Nat → ClassId} {ad : Nat → Nat → Nat} {M : Nat → Nat → Bool} {post : Option VV → TT → Prop} {px : String → TT → Prop} (o0 : Nat) (a1 : Int32) (t : TT) (h : P_X5_shut M (fun t1 => post none t1) px o0 a1 t) : CT l yX5_shut (Cond.code yX5_shut cX5_shut 2 none :: LT) ({ frames := 2, cells := 0, slots := 0, locals := 43 } : Room) D X ad M [.inr (.inl (20, o0)), .inl a1] t 0 0 post px := by
  refine met_of_wp (by decide +kernel) (Nat.le_of_ble_eq_true rfl) ?_
  intro p e s m args below meth c A hx hb hml hts hown hK hnt hlocks hr hA hE
  have hR9 : Ready p l e ({ frames := 2, cells := 0, slots := 0, locals := 43 } : Room) s m args below meth c D X ad A M 2 cX5_shut 0 0 post px RX5 0 (fldOf F_X5) N_X5_shut (Q_X5_shut M) (tabOf T_X5_shut) H_X5_shut := by
    refine ⟨hx, hb, hts, hown, hK, hnt, hlocks, hr, F_X5_ok, ?_, fun pc en h => tabOf_ok T_X5_shut_ok h, ?_⟩
    · intro v9 ix n mc1 ms1 as t k hn hl h
      unfold N_X5_shut at hn
      split at hn
      · cases hn
        exact k_X5_isFine hx hb hml hts hown hK hA hE hst9 (by decide +kernel) ⟨Nat.le_of_ble_eq_true rfl, Nat.le_of_ble_eq_true rfl⟩ rfl rfl h
      · cases hn
        exact k_X5_isTrain hx hb hml hts hown hK hA hE hst9 (by decide +kernel) ⟨Nat.le_of_ble_eq_true rfl, Nat.le_of_ble_eq_true rfl⟩ rfl rfl h
      · cases hn
    · intro pc E hE9; cases hE9
  have W41 : ∀ (t : TT), B_X5_shut_41 M (fun t1 => post none t1) px t → Wat p l e ({ frames := 2, cells := 0, slots := 0, locals := 43 } : Room) s m args below meth c (QM below args s D X ad A M 0 0 post px) D X ad A M 2 41 [] [] t 0 0 := by
    intro t h
    refine wp_go hR9 (cs := S_X5_shut) (Bk := (fun _ _ _ _ => False)) ?_ 400 41 _ _ _ _ _ h
    intro pc q vs ws t hc hk
    exact hk.elim
  have W28 : ∀ (o0 : Nat) (a1 : Int32) (s0 : Int32) (u1 : Nat) (t : TT), B_X5_shut_28 M (fun t1 => post none t1) px o0 a1 s0 u1 t → Wat p l e ({ frames := 2, cells := 0, slots := 0, locals := 43 } : Room) s m args below meth c (QM below args s D X ad A M 0 0 post px) D X ad A M 2 28 [(0, .inr (.inl (20, o0))), (1, .inl a1)] [.inl s0, .inr (.inl (20, u1))] t 0 0 := by
    intro o0 a1 s0 u1 t h
    refine wp_go hR9 (cs := S_X5_shut) (Bk := (fun pc vs ws t => match pc with | 41 => (match vs, ws with | [], [] => B_X5_shut_41 M (fun t1 => post none t1) px t | _, _ => False) | _ => False)) ?_ 400 28 _ _ _ _ _ h
    intro pc q vs ws t hc hk
    split at hk
    · cases hc
      split at hk
      · exact W41 _ hk
      · exact hk.elim
    · exact hk.elim
  refine wp_go hR9 (cs := S_X5_shut) (Bk := (fun pc vs ws t => match pc with | 28 => (match vs, ws with | [.inr (.inl (20, o0)), .inl a1], [.inl s0, .inr (.inl (20, u1))] => B_X5_shut_28 M (fun t1 => post none t1) px o0 a1 s0 u1 t | _, _ => False) | _ => False)) ?_ 400 0 _ _ _ _ _ h
  intro pc q vs ws t hc hk
  split at hk
  · cases hc
    split at hk
    · exact W28 _ _ _ _ _ hk
    · exact hk.elim
  · exact hk.elim
theorem k_X5_shut (hx : p.tables.exec = Jvm.exec) (hb : c.code = b) (hml : c.maxLocals = nL) (hts : ∀ w ∈ LT, w.before args s = true) {own : String} (hown : s.vm.findClass own = some m.cls) (hK : va_K D vwCl (TYX X) s) (hA : ∀ q, s.heap.size ≤ q → A q) (hE : EX A s) (hst9 : l.stackTraces = false) {ix : Nat} (hl9 : Cond.methodLink own ix yX5_shut ∈ LT) (hR : 3 ≤ R.frames ∧ 64 ≤ R.locals) (hmc : R.cells = mc) (hms : R.slots = ms) (h : PC_X5_shut M as t k kx) : CallOK p l e R s m args below meth c Q D X ad A M nL b mc ms (.invokevirtual ix) 0 0 as t k kx := by
  unfold PC_X5_shut at h
  split at h
  · exact call_V hx hb hml hts hown hK hA hE (c_X5_shut hst9 _ _ t h.2) ⟨hl9, ws_X5_shut.1, ws_X5_shut.2.1, ws_X5_shut.2.2.1, ws_X5_shut.2.2.2⟩ (n := 1) (by decide +kernel) hR rfl rfl hmc hms rfl ⟨20, _, rfl, h.1, Or.inr (Or.inr (Or.inr (Or.inr (Or.inr rfl)))), rfl⟩
  · exact CallOK.congr (by simp only [List.map_cons]; congr 1; exact (if_neg h.1).symm) (call_V hx hb hml hts hown hK hA hE (c_X5_shut hst9 _ _ t h.2.2) ⟨hl9, ws_X5_shut.1, ws_X5_shut.2.1, ws_X5_shut.2.2.1, ws_X5_shut.2.2.2⟩ (n := 1) (by decide +kernel) hR rfl rfl hmc hms rfl ⟨20, _, rfl, h.2.1, Or.inr (Or.inr (Or.inr (Or.inr (Or.inr rfl)))), rfl⟩)
  · exact h.elim
def Q_X5_hold (M : Nat → Nat → Bool) (ix : Nat) (as : List VV) (t : TT) (k : Option VV → TT → Prop) (kx : String → TT → Prop) : Prop := match ix with
  | 111 => PC_X5_in M as t k kx
  | 131 => PC_X5_isFine M as t k kx
  | 154 => PC_X5_isTrain M as t k kx
  | _ => False
def N_X5_hold (v : Bool) (ix : Nat) : Option (Nat × Nat × Nat) := match v, ix with
  | false, 111 => some (3, 0, 0)
  | true, 131 => some (2, 0, 0)
  | true, 154 => some (2, 0, 0)
  | _, _ => none
def S_X5_hold (pc : Nat) : Option (List (Nat × Nat × Nat) × List (Nat × Nat) × Nat × Nat) := match pc with
  | 80 => some ([(0, 1, 20), (1, 0, 0)], [(0, 0), (0, 0), (32, 21)], 0, 0)
  | 41 => some ([(0, 1, 20), (1, 0, 0), (2, 0, 0)], [(0, 0), (1, 20)], 0, 0)
  | _ => none
def H_X5_hold (pc : Nat) : Option String := none
set_option maxRecDepth 100000 in
set_option maxHeartbeats 4000000 in
theorem c_X5_hold {l : Launch} (hst9 : l.stackTraces = false) {D : va_G} {X : Nat → ClassId} {ad : Nat → Nat → Nat} {M : Nat → Nat → Bool} {post : Option VV → TT → Prop} {px : String → TT → Prop} (o0 : Nat) (a1 : Int32) (a2 : Int32) (t : TT) (h : P_X5_hold M (fun r t1 => post (some (.inl r)) t1) px o0 a1 a2 t) : CT l yX5_hold (Cond.code yX5_hold cX5_hold 3 (some .int) :: LT) ({ frames := 2, cells := 0, slots := 0, locals := 43 } : Room) D X ad M [.inr (.inl (20, o0)), .inl a1, .inl a2] t 0 0 post px := by
  refine met_of_wp (by decide +kernel) (Nat.le_of_ble_eq_true rfl) ?_
  intro p e s m args below meth c A hx hb hml hts hown hK hnt hlocks hr hA hE
  have hR9 : Ready p l e ({ frames := 2, cells := 0, slots := 0, locals := 43 } : Room) s m args below meth c D X ad A M 3 cX5_hold 0 0 post px RX5 1 (fldOf F_X5) N_X5_hold (Q_X5_hold M) (tabOf T_X5_hold) H_X5_hold := by
    refine ⟨hx, hb, hts, hown, hK, hnt, hlocks, hr, F_X5_ok, ?_, fun pc en h => tabOf_ok T_X5_hold_ok h, ?_⟩
    · intro v9 ix n mc1 ms1 as t k hn hl h
      unfold N_X5_hold at hn
      split at hn
      · cases hn
        exact k_X5_in hx hb hml hts hown hK hA hE hst9 (by decide +kernel) ⟨Nat.le_of_ble_eq_true rfl, Nat.le_of_ble_eq_true rfl⟩ rfl rfl h
      · cases hn
        exact k_X5_isFine hx hb hml hts hown hK hA hE hst9 (by decide +kernel) ⟨Nat.le_of_ble_eq_true rfl, Nat.le_of_ble_eq_true rfl⟩ rfl rfl h
      · cases hn
        exact k_X5_isTrain hx hb hml hts hown hK hA hE hst9 (by decide +kernel) ⟨Nat.le_of_ble_eq_true rfl, Nat.le_of_ble_eq_true rfl⟩ rfl rfl h
      · cases hn
    · intro pc E hE9; cases hE9
  have W80 : ∀ (o0 : Nat) (a1 : Int32) (s0 : Int32) (s1 : Int32) (t : TT), B_X5_hold_80 M (fun r t1 => post (some (.inl r)) t1) px o0 a1 s0 s1 t → Wat p l e ({ frames := 2, cells := 0, slots := 0, locals := 43 } : Room) s m args below meth c (QM below args s D X ad A M 0 0 post px) D X ad A M 3 80 [(0, .inr (.inl (20, o0))), (1, .inl a1)] [.inl s0, .inl s1, .inr (.inl (21, 29))] t 0 0 := by
    intro o0 a1 s0 s1 t h
    refine wp_go hR9 (cs := S_X5_hold) (Bk := (fun _ _ _ _ => False)) ?_ 400 80 _ _ _ _ _ h
    intro pc q vs ws t hc hk
    exact hk.elim
  have W41 : ∀ (o0 : Nat) (a1 : Int32) (a2 : Int32) (s0 : Int32) (u1 : Nat) (t : TT), B_X5_hold_41 M (fun r t1 => post (some (.inl r)) t1) px o0 a1 a2 s0 u1 t → Wat p l e ({ frames := 2, cells := 0, slots := 0, locals := 43 } : Room) s m args below meth c (QM below args s D X ad A M 0 0 post px) D X ad A M 3 41 [(0, .inr (.inl (20, o0))), (1, .inl a1), (2, .inl a2)] [.inl s0, .inr (.inl (20, u1))] t 0 0 := by
    intro o0 a1 a2 s0 u1 t h
    refine wp_go hR9 (cs := S_X5_hold) (Bk := (fun pc vs ws t => match pc with | 80 => (match vs, ws with | [.inr (.inl (20, o0)), .inl a1], [.inl s0, .inl s1, .inr (.inl (21, 29))] => B_X5_hold_80 M (fun r t1 => post (some (.inl r)) t1) px o0 a1 s0 s1 t | _, _ => False) | _ => False)) ?_ 400 41 _ _ _ _ _ h
    intro pc q vs ws t hc hk
    split at hk
    · cases hc
      split at hk
      · exact W80 _ _ _ _ _ hk
      · exact hk.elim
    · exact hk.elim
  refine wp_go hR9 (cs := S_X5_hold) (Bk := (fun pc vs ws t => match pc with | 41 => (match vs, ws with | [.inr (.inl (20, o0)), .inl a1, .inl a2], [.inl s0, .inr (.inl (20, u1))] => B_X5_hold_41 M (fun r t1 => post (some (.inl r)) t1) px o0 a1 a2 s0 u1 t | _, _ => False) | _ => False)) ?_ 400 0 _ _ _ _ _ h
  intro pc q vs ws t hc hk
  split at hk
  · cases hc
    split at hk
    · exact W41 _ _ _ _ _ _ hk
    · exact hk.elim
  · exact hk.elim
theorem k_X5_hold (hx : p.tables.exec = Jvm.exec) (hb : c.code = b) (hml : c.maxLocals = nL) (hts : ∀ w ∈ LT, w.before args s = true) {own : String} (hown : s.vm.findClass own = some m.cls) (hK : va_K D vwCl (TYX X) s) (hA : ∀ q, s.heap.size ≤ q → A q) (hE : EX A s) (hst9 : l.stackTraces = false) {ix : Nat} (hl9 : Cond.methodLink own ix yX5_hold ∈ LT) (hR : 3 ≤ R.frames ∧ 65 ≤ R.locals) (hmc : R.cells = mc) (hms : R.slots = ms) (h : PC_X5_hold M as t k kx) : CallOK p l e R s m args below meth c Q D X ad A M nL b mc ms (.invokevirtual ix) 0 0 as t k kx := by
  unfold PC_X5_hold at h
  split at h
  · exact call_V hx hb hml hts hown hK hA hE (c_X5_hold hst9 _ _ _ t h.2) ⟨hl9, ws_X5_hold.1, ws_X5_hold.2.1, ws_X5_hold.2.2.1, ws_X5_hold.2.2.2⟩ (n := 2) (by decide +kernel) hR rfl rfl hmc hms rfl ⟨20, _, rfl, h.1, Or.inr (Or.inr (Or.inr (Or.inr (Or.inr rfl)))), rfl⟩
  · exact CallOK.congr (by simp only [List.map_cons]; congr 1; exact (if_neg h.1).symm) (call_V hx hb hml hts hown hK hA hE (c_X5_hold hst9 _ _ _ t h.2.2) ⟨hl9, ws_X5_hold.1, ws_X5_hold.2.1, ws_X5_hold.2.2.1, ws_X5_hold.2.2.2⟩ (n := 2) (by decide +kernel) hR rfl rfl hmc hms rfl ⟨20, _, rfl, h.2.1, Or.inr (Or.inr (Or.inr (Or.inr (Or.inr rfl)))), rfl⟩)
  · exact h.elim
def Q_X5_depart (M : Nat → Nat → Bool) (ix : Nat) (as : List VV) (t : TT) (k : Option VV → TT → Prop) (kx : String → TT → Prop) : Prop := match ix with
  | 131 => PC_X5_isFine M as t k kx
  | 154 => PC_X5_isTrain M as t k kx
  | 176 => PC_X5_isAtStop M as t k kx
  | _ => False
def N_X5_depart (v : Bool) (ix : Nat) : Option (Nat × Nat × Nat) := match v, ix with
  | true, 131 => some (2, 0, 0)
  | true, 154 => some (2, 0, 0)
  | true, 176 => some (2, 0, 0)
  | _, _ => none
def S_X5_depart (pc : Nat) : Option (List (Nat × Nat × Nat) × List (Nat × Nat) × Nat × Nat) := match pc with
  | 45 => some ([(0, 1, 20), (1, 0, 0)], [(0, 0), (1, 20)], 0, 0)
  | 40 => some ([(0, 1, 20), (1, 0, 0)], [(1, 20)], 0, 0)
  | _ => none
def H_X5_depart (pc : Nat) : Option String := none
set_option maxRecDepth 100000 in
set_option maxHeartbeats 4000000 in
theorem c_X5_depart {l : Launch} (hst9 : l.stackTraces = false) {D : va_G} {X : Nat → ClassId} {ad : Nat → Nat → Nat} {M : Nat → Nat → Bool} {post : Option VV → TT → Prop} {px : String → TT → Prop} (o0 : Nat) (a1 : Int32) (t : TT) (h : P_X5_depart M (fun r t1 => post (some (.inl r)) t1) px o0 a1 t) : CT l yX5_depart (Cond.code yX5_depart cX5_depart 3 (some .int) :: LT) ({ frames := 2, cells := 0, slots := 0, locals := 43 } : Room) D X ad M [.inr (.inl (20, o0)), .inl a1] t 0 0 post px := by
  refine met_of_wp (by decide +kernel) (Nat.le_of_ble_eq_true rfl) ?_
  intro p e s m args below meth c A hx hb hml hts hown hK hnt hlocks hr hA hE
  have hR9 : Ready p l e ({ frames := 2, cells := 0, slots := 0, locals := 43 } : Room) s m args below meth c D X ad A M 3 cX5_depart 0 0 post px RX5 1 (fldOf F_X5) N_X5_depart (Q_X5_depart M) (tabOf T_X5_depart) H_X5_depart := by
    refine ⟨hx, hb, hts, hown, hK, hnt, hlocks, hr, F_X5_ok, ?_, fun pc en h => tabOf_ok T_X5_depart_ok h, ?_⟩
    · intro v9 ix n mc1 ms1 as t k hn hl h
      unfold N_X5_depart at hn
      split at hn
      · cases hn
        exact k_X5_isFine hx hb hml hts hown hK hA hE hst9 (by decide +kernel) ⟨Nat.le_of_ble_eq_true rfl, Nat.le_of_ble_eq_true rfl⟩ rfl rfl h
      · cases hn
        exact k_X5_isTrain hx hb hml hts hown hK hA hE hst9 (by decide +kernel) ⟨Nat.le_of_ble_eq_true rfl, Nat.le_of_ble_eq_true rfl⟩ rfl rfl h
      · cases hn
        exact k_X5_isAtStop hx hb hml hts hown hK hA hE hst9 (by decide +kernel) ⟨Nat.le_of_ble_eq_true rfl, Nat.le_of_ble_eq_true rfl⟩ rfl rfl h
      · cases hn
    · intro pc E hE9; cases hE9
  have W45 : ∀ (o0 : Nat) (a1 : Int32) (s0 : Int32) (u1 : Nat) (t : TT), B_X5_depart_45 M (fun r t1 => post (some (.inl r)) t1) px o0 a1 s0 u1 t → Wat p l e ({ frames := 2, cells := 0, slots := 0, locals := 43 } : Room) s m args below meth c (QM below args s D X ad A M 0 0 post px) D X ad A M 3 45 [(0, .inr (.inl (20, o0))), (1, .inl a1)] [.inl s0, .inr (.inl (20, u1))] t 0 0 := by
    intro o0 a1 s0 u1 t h
    refine wp_go hR9 (cs := S_X5_depart) (Bk := (fun _ _ _ _ => False)) ?_ 400 45 _ _ _ _ _ h
    intro pc q vs ws t hc hk
    exact hk.elim
  have W40 : ∀ (o0 : Nat) (a1 : Int32) (u0 : Nat) (t : TT), B_X5_depart_40 M (fun r t1 => post (some (.inl r)) t1) px o0 a1 u0 t → Wat p l e ({ frames := 2, cells := 0, slots := 0, locals := 43 } : Room) s m args below meth c (QM below args s D X ad A M 0 0 post px) D X ad A M 3 40 [(0, .inr (.inl (20, o0))), (1, .inl a1)] [.inr (.inl (20, u0))] t 0 0 := by
    intro o0 a1 u0 t h
    refine wp_go hR9 (cs := S_X5_depart) (Bk := (fun pc vs ws t => match pc with | 45 => (match vs, ws with | [.inr (.inl (20, o0)), .inl a1], [.inl s0, .inr (.inl (20, u1))] => B_X5_depart_45 M (fun r t1 => post (some (.inl r)) t1) px o0 a1 s0 u1 t | _, _ => False) | _ => False)) ?_ 400 40 _ _ _ _ _ h
    intro pc q vs ws t hc hk
    split at hk
    · cases hc
      split at hk
      · exact W45 _ _ _ _ _ hk
      · exact hk.elim
    · exact hk.elim
  refine wp_go hR9 (cs := S_X5_depart) (Bk := (fun pc vs ws t => match pc with | 40 => (match vs, ws with | [.inr (.inl (20, o0)), .inl a1], [.inr (.inl (20, u0))] => B_X5_depart_40 M (fun r t1 => post (some (.inl r)) t1) px o0 a1 u0 t | _, _ => False) | 45 => (match vs, ws with | [.inr (.inl (20, o0)), .inl a1], [.inl s0, .inr (.inl (20, u1))] => B_X5_depart_45 M (fun r t1 => post (some (.inl r)) t1) px o0 a1 s0 u1 t | _, _ => False) | _ => False)) ?_ 400 0 _ _ _ _ _ h
  intro pc q vs ws t hc hk
  split at hk
  · cases hc
    split at hk
    · exact W40 _ _ _ _ hk
    · exact hk.elim
  · cases hc
    split at hk
    · exact W45 _ _ _ _ _ hk
    · exact hk.elim
  · exact hk.elim
theorem k_X5_depart (hx : p.tables.exec = Jvm.exec) (hb : c.code = b) (hml : c.maxLocals = nL) (hts : ∀ w ∈ LT, w.before args s = true) {own : String} (hown : s.vm.findClass own = some m.cls) (hK : va_K D vwCl (TYX X) s) (hA : ∀ q, s.heap.size ≤ q → A q) (hE : EX A s) (hst9 : l.stackTraces = false) {ix : Nat} (hl9 : Cond.methodLink own ix yX5_depart ∈ LT) (hR : 3 ≤ R.frames ∧ 65 ≤ R.locals) (hmc : R.cells = mc) (hms : R.slots = ms) (h : PC_X5_depart M as t k kx) : CallOK p l e R s m args below meth c Q D X ad A M nL b mc ms (.invokevirtual ix) 0 0 as t k kx := by
  unfold PC_X5_depart at h
  split at h
  · exact call_V hx hb hml hts hown hK hA hE (c_X5_depart hst9 _ _ t h.2) ⟨hl9, ws_X5_depart.1, ws_X5_depart.2.1, ws_X5_depart.2.2.1, ws_X5_depart.2.2.2⟩ (n := 1) (by decide +kernel) hR rfl rfl hmc hms rfl ⟨20, _, rfl, h.1, Or.inr (Or.inr (Or.inr (Or.inr (Or.inr rfl)))), rfl⟩
  · exact CallOK.congr (by simp only [List.map_cons]; congr 1; exact (if_neg h.1).symm) (call_V hx hb hml hts hown hK hA hE (c_X5_depart hst9 _ _ t h.2.2) ⟨hl9, ws_X5_depart.1, ws_X5_depart.2.1, ws_X5_depart.2.2.1, ws_X5_depart.2.2.2⟩ (n := 1) (by decide +kernel) hR rfl rfl hmc hms rfl ⟨20, _, rfl, h.2.1, Or.inr (Or.inr (Or.inr (Or.inr (Or.inr rfl)))), rfl⟩)
  · exact h.elim
def Q_X5_rate (M : Nat → Nat → Bool) (ix : Nat) (as : List VV) (t : TT) (k : Option VV → TT → Prop) (kx : String → TT → Prop) : Prop := match ix with
  | 111 => PC_X5_in M as t k kx
  | 131 => PC_X5_isFine M as t k kx
  | 173 => PC_X5_isPlatform M as t k kx
  | _ => False
def N_X5_rate (v : Bool) (ix : Nat) : Option (Nat × Nat × Nat) := match v, ix with
  | false, 111 => some (3, 0, 0)
  | true, 131 => some (2, 0, 0)
  | true, 173 => some (2, 0, 0)
  | _, _ => none
def S_X5_rate (pc : Nat) : Option (List (Nat × Nat × Nat) × List (Nat × Nat) × Nat × Nat) := match pc with
  | 28 => some ([(0, 1, 20), (1, 0, 0), (2, 0, 0)], [(0, 0), (1, 20)], 0, 0)
  | _ => none
def H_X5_rate (pc : Nat) : Option String := none
set_option maxRecDepth 100000 in
set_option maxHeartbeats 4000000 in
theorem c_X5_rate {l : Launch} (hst9 : l.stackTraces = false) {D : va_G} {X : Nat → ClassId} {ad : Nat → Nat → Nat} {M : Nat → Nat → Bool} {post : Option VV → TT → Prop} {px : String → TT → Prop} (o0 : Nat) (a1 : Int32) (a2 : Int32) (t : TT) (h : P_X5_rate M (fun r t1 => post (some (.inl r)) t1) px o0 a1 a2 t) : CT l yX5_rate (Cond.code yX5_rate cX5_rate 4 (some .int) :: LT) ({ frames := 2, cells := 0, slots := 0, locals := 43 } : Room) D X ad M [.inr (.inl (20, o0)), .inl a1, .inl a2] t 0 0 post px := by
  refine met_of_wp (by decide +kernel) (Nat.le_of_ble_eq_true rfl) ?_
  intro p e s m args below meth c A hx hb hml hts hown hK hnt hlocks hr hA hE
  have hR9 : Ready p l e ({ frames := 2, cells := 0, slots := 0, locals := 43 } : Room) s m args below meth c D X ad A M 4 cX5_rate 0 0 post px RX5 1 (fldOf F_X5) N_X5_rate (Q_X5_rate M) (tabOf T_X5_rate) H_X5_rate := by
    refine ⟨hx, hb, hts, hown, hK, hnt, hlocks, hr, F_X5_ok, ?_, fun pc en h => tabOf_ok T_X5_rate_ok h, ?_⟩
    · intro v9 ix n mc1 ms1 as t k hn hl h
      unfold N_X5_rate at hn
      split at hn
      · cases hn
        exact k_X5_in hx hb hml hts hown hK hA hE hst9 (by decide +kernel) ⟨Nat.le_of_ble_eq_true rfl, Nat.le_of_ble_eq_true rfl⟩ rfl rfl h
      · cases hn
        exact k_X5_isFine hx hb hml hts hown hK hA hE hst9 (by decide +kernel) ⟨Nat.le_of_ble_eq_true rfl, Nat.le_of_ble_eq_true rfl⟩ rfl rfl h
      · cases hn
        exact k_X5_isPlatform hx hb hml hts hown hK hA hE hst9 (by decide +kernel) ⟨Nat.le_of_ble_eq_true rfl, Nat.le_of_ble_eq_true rfl⟩ rfl rfl h
      · cases hn
    · intro pc E hE9; cases hE9
  have W28 : ∀ (o0 : Nat) (a1 : Int32) (a2 : Int32) (s0 : Int32) (u1 : Nat) (t : TT), B_X5_rate_28 M (fun r t1 => post (some (.inl r)) t1) px o0 a1 a2 s0 u1 t → Wat p l e ({ frames := 2, cells := 0, slots := 0, locals := 43 } : Room) s m args below meth c (QM below args s D X ad A M 0 0 post px) D X ad A M 4 28 [(0, .inr (.inl (20, o0))), (1, .inl a1), (2, .inl a2)] [.inl s0, .inr (.inl (20, u1))] t 0 0 := by
    intro o0 a1 a2 s0 u1 t h
    refine wp_go hR9 (cs := S_X5_rate) (Bk := (fun _ _ _ _ => False)) ?_ 400 28 _ _ _ _ _ h
    intro pc q vs ws t hc hk
    exact hk.elim
  refine wp_go hR9 (cs := S_X5_rate) (Bk := (fun pc vs ws t => match pc with | 28 => (match vs, ws with | [.inr (.inl (20, o0)), .inl a1, .inl a2], [.inl s0, .inr (.inl (20, u1))] => B_X5_rate_28 M (fun r t1 => post (some (.inl r)) t1) px o0 a1 a2 s0 u1 t | _, _ => False) | _ => False)) ?_ 400 0 _ _ _ _ _ h
  intro pc q vs ws t hc hk
  split at hk
  · cases hc
    split at hk
    · exact W28 _ _ _ _ _ _ hk
    · exact hk.elim
  · exact hk.elim
theorem k_X5_rate (hx : p.tables.exec = Jvm.exec) (hb : c.code = b) (hml : c.maxLocals = nL) (hts : ∀ w ∈ LT, w.before args s = true) {own : String} (hown : s.vm.findClass own = some m.cls) (hK : va_K D vwCl (TYX X) s) (hA : ∀ q, s.heap.size ≤ q → A q) (hE : EX A s) (hst9 : l.stackTraces = false) {ix : Nat} (hl9 : Cond.methodLink own ix yX5_rate ∈ LT) (hR : 3 ≤ R.frames ∧ 66 ≤ R.locals) (hmc : R.cells = mc) (hms : R.slots = ms) (h : PC_X5_rate M as t k kx) : CallOK p l e R s m args below meth c Q D X ad A M nL b mc ms (.invokevirtual ix) 0 0 as t k kx := by
  unfold PC_X5_rate at h
  split at h
  · exact call_V hx hb hml hts hown hK hA hE (c_X5_rate hst9 _ _ _ t h.2) ⟨hl9, ws_X5_rate.1, ws_X5_rate.2.1, ws_X5_rate.2.2.1, ws_X5_rate.2.2.2⟩ (n := 2) (by decide +kernel) hR rfl rfl hmc hms rfl ⟨20, _, rfl, h.1, Or.inr (Or.inr (Or.inr (Or.inr (Or.inr rfl)))), rfl⟩
  · exact CallOK.congr (by simp only [List.map_cons]; congr 1; exact (if_neg h.1).symm) (call_V hx hb hml hts hown hK hA hE (c_X5_rate hst9 _ _ _ t h.2.2) ⟨hl9, ws_X5_rate.1, ws_X5_rate.2.1, ws_X5_rate.2.2.1, ws_X5_rate.2.2.2⟩ (n := 2) (by decide +kernel) hR rfl rfl hmc hms rfl ⟨20, _, rfl, h.2.1, Or.inr (Or.inr (Or.inr (Or.inr (Or.inr rfl)))), rfl⟩)
  · exact h.elim
def Q_X5_platformIs (M : Nat → Nat → Bool) (ix : Nat) (as : List VV) (t : TT) (k : Option VV → TT → Prop) (kx : String → TT → Prop) : Prop := match ix with
  | 111 => PC_X5_in M as t k kx
  | 131 => PC_X5_isFine M as t k kx
  | 173 => PC_X5_isPlatform M as t k kx
  | _ => False
def N_X5_platformIs (v : Bool) (ix : Nat) : Option (Nat × Nat × Nat) := match v, ix with
  | false, 111 => some (3, 0, 0)
  | true, 131 => some (2, 0, 0)
  | true, 173 => some (2, 0, 0)
  | _, _ => none
def S_X5_platformIs (pc : Nat) : Option (List (Nat × Nat × Nat) × List (Nat × Nat) × Nat × Nat) := match pc with
  | 98 => some ([], [(0, 0)], 0, 0)
  | 55 => some ([(0, 1, 20), (1, 0, 0), (2, 0, 0)], [(0, 0)], 0, 0)
  | 27 => some ([(0, 1, 20), (1, 0, 0), (2, 0, 0)], [(0, 0), (1, 20)], 0, 0)
  | _ => none
def H_X5_platformIs (pc : Nat) : Option String := none
set_option maxRecDepth 100000 in
set_option maxHeartbeats 4000000 in
theorem c_X5_platformIs {l : Launch} (hst9 : l.stackTraces = false) {D : va_G} {X : Nat → ClassId} {ad : Nat → Nat → Nat} {M : Nat → Nat → Bool} {post : Option VV → TT → Prop} {px : String → TT → Prop} (o0 : Nat) (a1 : Int32) (a2 : Int32) (t : TT) (h : P_X5_platformIs M (fun r t1 => post (some (.inl r)) t1) px o0 a1 a2 t) : CT l yX5_platformIs (Cond.code yX5_platformIs cX5_platformIs 4 (some .int) :: LT) ({ frames := 2, cells := 0, slots := 0, locals := 43 } : Room) D X ad M [.inr (.inl (20, o0)), .inl a1, .inl a2] t 0 0 post px := by
  refine met_of_wp (by decide +kernel) (Nat.le_of_ble_eq_true rfl) ?_
  intro p e s m args below meth c A hx hb hml hts hown hK hnt hlocks hr hA hE
  have hR9 : Ready p l e ({ frames := 2, cells := 0, slots := 0, locals := 43 } : Room) s m args below meth c D X ad A M 4 cX5_platformIs 0 0 post px RX5 1 (fldOf F_X5) N_X5_platformIs (Q_X5_platformIs M) (tabOf T_X5_platformIs) H_X5_platformIs := by
    refine ⟨hx, hb, hts, hown, hK, hnt, hlocks, hr, F_X5_ok, ?_, fun pc en h => tabOf_ok T_X5_platformIs_ok h, ?_⟩
    · intro v9 ix n mc1 ms1 as t k hn hl h
      unfold N_X5_platformIs at hn
      split at hn
      · cases hn
        exact k_X5_in hx hb hml hts hown hK hA hE hst9 (by decide +kernel) ⟨Nat.le_of_ble_eq_true rfl, Nat.le_of_ble_eq_true rfl⟩ rfl rfl h
      · cases hn
        exact k_X5_isFine hx hb hml hts hown hK hA hE hst9 (by decide +kernel) ⟨Nat.le_of_ble_eq_true rfl, Nat.le_of_ble_eq_true rfl⟩ rfl rfl h
      · cases hn
        exact k_X5_isPlatform hx hb hml hts hown hK hA hE hst9 (by decide +kernel) ⟨Nat.le_of_ble_eq_true rfl, Nat.le_of_ble_eq_true rfl⟩ rfl rfl h
      · cases hn
    · intro pc E hE9; cases hE9
  have W98 : ∀ (s0 : Int32) (t : TT), B_X5_platformIs_98 M (fun r t1 => post (some (.inl r)) t1) px s0 t → Wat p l e ({ frames := 2, cells := 0, slots := 0, locals := 43 } : Room) s m args below meth c (QM below args s D X ad A M 0 0 post px) D X ad A M 4 98 [] [.inl s0] t 0 0 := by
    intro s0 t h
    refine wp_go hR9 (cs := S_X5_platformIs) (Bk := (fun _ _ _ _ => False)) ?_ 400 98 _ _ _ _ _ h
    intro pc q vs ws t hc hk
    exact hk.elim
  have W55 : ∀ (o0 : Nat) (a1 : Int32) (a2 : Int32) (s0 : Int32) (t : TT), B_X5_platformIs_55 M (fun r t1 => post (some (.inl r)) t1) px o0 a1 a2 s0 t → Wat p l e ({ frames := 2, cells := 0, slots := 0, locals := 43 } : Room) s m args below meth c (QM below args s D X ad A M 0 0 post px) D X ad A M 4 55 [(0, .inr (.inl (20, o0))), (1, .inl a1), (2, .inl a2)] [.inl s0] t 0 0 := by
    intro o0 a1 a2 s0 t h
    refine wp_go hR9 (cs := S_X5_platformIs) (Bk := (fun pc vs ws t => match pc with | 98 => (match vs, ws with | [], [.inl s0] => B_X5_platformIs_98 M (fun r t1 => post (some (.inl r)) t1) px s0 t | _, _ => False) | _ => False)) ?_ 400 55 _ _ _ _ _ h
    intro pc q vs ws t hc hk
    split at hk
    · cases hc
      split at hk
      · exact W98 _ _ hk
      · exact hk.elim
    · exact hk.elim
  have W27 : ∀ (o0 : Nat) (a1 : Int32) (a2 : Int32) (s0 : Int32) (u1 : Nat) (t : TT), B_X5_platformIs_27 M (fun r t1 => post (some (.inl r)) t1) px o0 a1 a2 s0 u1 t → Wat p l e ({ frames := 2, cells := 0, slots := 0, locals := 43 } : Room) s m args below meth c (QM below args s D X ad A M 0 0 post px) D X ad A M 4 27 [(0, .inr (.inl (20, o0))), (1, .inl a1), (2, .inl a2)] [.inl s0, .inr (.inl (20, u1))] t 0 0 := by
    intro o0 a1 a2 s0 u1 t h
    refine wp_go hR9 (cs := S_X5_platformIs) (Bk := (fun pc vs ws t => match pc with | 55 => (match vs, ws with | [.inr (.inl (20, o0)), .inl a1, .inl a2], [.inl s0] => B_X5_platformIs_55 M (fun r t1 => post (some (.inl r)) t1) px o0 a1 a2 s0 t | _, _ => False) | _ => False)) ?_ 400 27 _ _ _ _ _ h
    intro pc q vs ws t hc hk
    split at hk
    · cases hc
      split at hk
      · exact W55 _ _ _ _ _ hk
      · exact hk.elim
    · exact hk.elim
  refine wp_go hR9 (cs := S_X5_platformIs) (Bk := (fun pc vs ws t => match pc with | 27 => (match vs, ws with | [.inr (.inl (20, o0)), .inl a1, .inl a2], [.inl s0, .inr (.inl (20, u1))] => B_X5_platformIs_27 M (fun r t1 => post (some (.inl r)) t1) px o0 a1 a2 s0 u1 t | _, _ => False) | _ => False)) ?_ 400 0 _ _ _ _ _ h
  intro pc q vs ws t hc hk
  split at hk
  · cases hc
    split at hk
    · exact W27 _ _ _ _ _ _ hk
    · exact hk.elim
  · exact hk.elim
theorem k_X5_platformIs (hx : p.tables.exec = Jvm.exec) (hb : c.code = b) (hml : c.maxLocals = nL) (hts : ∀ w ∈ LT, w.before args s = true) {own : String} (hown : s.vm.findClass own = some m.cls) (hK : va_K D vwCl (TYX X) s) (hA : ∀ q, s.heap.size ≤ q → A q) (hE : EX A s) (hst9 : l.stackTraces = false) {ix : Nat} (hl9 : Cond.methodLink own ix yX5_platformIs ∈ LT) (hR : 3 ≤ R.frames ∧ 66 ≤ R.locals) (hmc : R.cells = mc) (hms : R.slots = ms) (h : PC_X5_platformIs M as t k kx) : CallOK p l e R s m args below meth c Q D X ad A M nL b mc ms (.invokevirtual ix) 0 0 as t k kx := by
  unfold PC_X5_platformIs at h
  split at h
  · exact call_V hx hb hml hts hown hK hA hE (c_X5_platformIs hst9 _ _ _ t h.2) ⟨hl9, ws_X5_platformIs.1, ws_X5_platformIs.2.1, ws_X5_platformIs.2.2.1, ws_X5_platformIs.2.2.2⟩ (n := 2) (by decide +kernel) hR rfl rfl hmc hms rfl ⟨20, _, rfl, h.1, Or.inr (Or.inr (Or.inr (Or.inr (Or.inr rfl)))), rfl⟩
  · exact CallOK.congr (by simp only [List.map_cons]; congr 1; exact (if_neg h.1).symm) (call_V hx hb hml hts hown hK hA hE (c_X5_platformIs hst9 _ _ _ t h.2.2) ⟨hl9, ws_X5_platformIs.1, ws_X5_platformIs.2.1, ws_X5_platformIs.2.2.1, ws_X5_platformIs.2.2.2⟩ (n := 2) (by decide +kernel) hR rfl rfl hmc hms rfl ⟨20, _, rfl, h.2.1, Or.inr (Or.inr (Or.inr (Or.inr (Or.inr rfl)))), rfl⟩)
  · exact h.elim
def Q_X5_record (M : Nat → Nat → Bool) (ix : Nat) (as : List VV) (t : TT) (k : Option VV → TT → Prop) (kx : String → TT → Prop) : Prop := match ix with
  | 111 => PC_X5_in M as t k kx
  | 131 => PC_X5_isFine M as t k kx
  | 154 => PC_X5_isTrain M as t k kx
  | _ => False
def N_X5_record (v : Bool) (ix : Nat) : Option (Nat × Nat × Nat) := match v, ix with
  | false, 111 => some (3, 0, 0)
  | true, 131 => some (2, 0, 0)
  | true, 154 => some (2, 0, 0)
  | _, _ => none
def S_X5_record (pc : Nat) : Option (List (Nat × Nat × Nat) × List (Nat × Nat) × Nat × Nat) := match pc with
  | 64 => some ([], [(0, 0)], 0, 0)
  | 30 => some ([(0, 1, 20), (1, 0, 0), (2, 0, 0)], [(0, 0), (1, 20)], 0, 0)
  | _ => none
def H_X5_record (pc : Nat) : Option String := none
set_option maxRecDepth 100000 in
set_option maxHeartbeats 4000000 in
theorem c_X5_record {l : Launch} (hst9 : l.stackTraces = false) {D : va_G} {X : Nat → ClassId} {ad : Nat → Nat → Nat} {M : Nat → Nat → Bool} {post : Option VV → TT → Prop} {px : String → TT → Prop} (o0 : Nat) (a1 : Int32) (a2 : Int32) (t : TT) (h : P_X5_record M (fun r t1 => post (some (.inl r)) t1) px o0 a1 a2 t) : CT l yX5_record (Cond.code yX5_record cX5_record 3 (some .int) :: LT) ({ frames := 2, cells := 0, slots := 0, locals := 43 } : Room) D X ad M [.inr (.inl (20, o0)), .inl a1, .inl a2] t 0 0 post px := by
  refine met_of_wp (by decide +kernel) (Nat.le_of_ble_eq_true rfl) ?_
  intro p e s m args below meth c A hx hb hml hts hown hK hnt hlocks hr hA hE
  have hR9 : Ready p l e ({ frames := 2, cells := 0, slots := 0, locals := 43 } : Room) s m args below meth c D X ad A M 3 cX5_record 0 0 post px RX5 1 (fldOf F_X5) N_X5_record (Q_X5_record M) (tabOf T_X5_record) H_X5_record := by
    refine ⟨hx, hb, hts, hown, hK, hnt, hlocks, hr, F_X5_ok, ?_, fun pc en h => tabOf_ok T_X5_record_ok h, ?_⟩
    · intro v9 ix n mc1 ms1 as t k hn hl h
      unfold N_X5_record at hn
      split at hn
      · cases hn
        exact k_X5_in hx hb hml hts hown hK hA hE hst9 (by decide +kernel) ⟨Nat.le_of_ble_eq_true rfl, Nat.le_of_ble_eq_true rfl⟩ rfl rfl h
      · cases hn
        exact k_X5_isFine hx hb hml hts hown hK hA hE hst9 (by decide +kernel) ⟨Nat.le_of_ble_eq_true rfl, Nat.le_of_ble_eq_true rfl⟩ rfl rfl h
      · cases hn
        exact k_X5_isTrain hx hb hml hts hown hK hA hE hst9 (by decide +kernel) ⟨Nat.le_of_ble_eq_true rfl, Nat.le_of_ble_eq_true rfl⟩ rfl rfl h
      · cases hn
    · intro pc E hE9; cases hE9
  have W64 : ∀ (s0 : Int32) (t : TT), B_X5_record_64 M (fun r t1 => post (some (.inl r)) t1) px s0 t → Wat p l e ({ frames := 2, cells := 0, slots := 0, locals := 43 } : Room) s m args below meth c (QM below args s D X ad A M 0 0 post px) D X ad A M 3 64 [] [.inl s0] t 0 0 := by
    intro s0 t h
    refine wp_go hR9 (cs := S_X5_record) (Bk := (fun _ _ _ _ => False)) ?_ 400 64 _ _ _ _ _ h
    intro pc q vs ws t hc hk
    exact hk.elim
  have W30 : ∀ (o0 : Nat) (a1 : Int32) (a2 : Int32) (s0 : Int32) (u1 : Nat) (t : TT), B_X5_record_30 M (fun r t1 => post (some (.inl r)) t1) px o0 a1 a2 s0 u1 t → Wat p l e ({ frames := 2, cells := 0, slots := 0, locals := 43 } : Room) s m args below meth c (QM below args s D X ad A M 0 0 post px) D X ad A M 3 30 [(0, .inr (.inl (20, o0))), (1, .inl a1), (2, .inl a2)] [.inl s0, .inr (.inl (20, u1))] t 0 0 := by
    intro o0 a1 a2 s0 u1 t h
    refine wp_go hR9 (cs := S_X5_record) (Bk := (fun pc vs ws t => match pc with | 64 => (match vs, ws with | [], [.inl s0] => B_X5_record_64 M (fun r t1 => post (some (.inl r)) t1) px s0 t | _, _ => False) | _ => False)) ?_ 400 30 _ _ _ _ _ h
    intro pc q vs ws t hc hk
    split at hk
    · cases hc
      split at hk
      · exact W64 _ _ hk
      · exact hk.elim
    · exact hk.elim
  refine wp_go hR9 (cs := S_X5_record) (Bk := (fun pc vs ws t => match pc with | 30 => (match vs, ws with | [.inr (.inl (20, o0)), .inl a1, .inl a2], [.inl s0, .inr (.inl (20, u1))] => B_X5_record_30 M (fun r t1 => post (some (.inl r)) t1) px o0 a1 a2 s0 u1 t | _, _ => False) | _ => False)) ?_ 400 0 _ _ _ _ _ h
  intro pc q vs ws t hc hk
  split at hk
  · cases hc
    split at hk
    · exact W30 _ _ _ _ _ _ hk
    · exact hk.elim
  · exact hk.elim
theorem k_X5_record (hx : p.tables.exec = Jvm.exec) (hb : c.code = b) (hml : c.maxLocals = nL) (hts : ∀ w ∈ LT, w.before args s = true) {own : String} (hown : s.vm.findClass own = some m.cls) (hK : va_K D vwCl (TYX X) s) (hA : ∀ q, s.heap.size ≤ q → A q) (hE : EX A s) (hst9 : l.stackTraces = false) {ix : Nat} (hl9 : Cond.methodLink own ix yX5_record ∈ LT) (hR : 3 ≤ R.frames ∧ 65 ≤ R.locals) (hmc : R.cells = mc) (hms : R.slots = ms) (h : PC_X5_record M as t k kx) : CallOK p l e R s m args below meth c Q D X ad A M nL b mc ms (.invokevirtual ix) 0 0 as t k kx := by
  unfold PC_X5_record at h
  split at h
  · exact call_V hx hb hml hts hown hK hA hE (c_X5_record hst9 _ _ _ t h.2) ⟨hl9, ws_X5_record.1, ws_X5_record.2.1, ws_X5_record.2.2.1, ws_X5_record.2.2.2⟩ (n := 2) (by decide +kernel) hR rfl rfl hmc hms rfl ⟨20, _, rfl, h.1, Or.inr (Or.inr (Or.inr (Or.inr (Or.inr rfl)))), rfl⟩
  · exact CallOK.congr (by simp only [List.map_cons]; congr 1; exact (if_neg h.1).symm) (call_V hx hb hml hts hown hK hA hE (c_X5_record hst9 _ _ _ t h.2.2) ⟨hl9, ws_X5_record.1, ws_X5_record.2.1, ws_X5_record.2.2.1, ws_X5_record.2.2.2⟩ (n := 2) (by decide +kernel) hR rfl rfl hmc hms rfl ⟨20, _, rfl, h.2.1, Or.inr (Or.inr (Or.inr (Or.inr (Or.inr rfl)))), rfl⟩)
  · exact h.elim
def Q_X5_placeAnew (M : Nat → Nat → Bool) (ix : Nat) (as : List VV) (t : TT) (k : Option VV → TT → Prop) (kx : String → TT → Prop) : Prop := match ix with
  | 131 => PC_X5_isFine M as t k kx
  | 154 => PC_X5_isTrain M as t k kx
  | _ => False
def N_X5_placeAnew (v : Bool) (ix : Nat) : Option (Nat × Nat × Nat) := match v, ix with
  | true, 131 => some (2, 0, 0)
  | true, 154 => some (2, 0, 0)
  | _, _ => none
def S_X5_placeAnew (pc : Nat) : Option (List (Nat × Nat × Nat) × List (Nat × Nat) × Nat × Nat) := match pc with
  | 38 => some ([(0, 1, 20), (1, 0, 0), (2, 0, 0), (3, 0, 0)], [], 0, 0)
  | 14 => some ([(0, 1, 20), (1, 0, 0)], [(0, 0), (1, 20)], 0, 0)
  | _ => none
def H_X5_placeAnew (pc : Nat) : Option String := none
set_option maxRecDepth 100000 in
set_option maxHeartbeats 4000000 in
theorem c_X5_placeAnew {l : Launch} (hst9 : l.stackTraces = false) {D : va_G} {X : Nat → ClassId} {ad : Nat → Nat → Nat} {M : Nat → Nat → Bool} {post : Option VV → TT → Prop} {px : String → TT → Prop} (o0 : Nat) (a1 : Int32) (t : TT) (h : P_X5_placeAnew M (fun r t1 => post (some (.inl r)) t1) px o0 a1 t) : CT l yX5_placeAnew (Cond.code yX5_placeAnew cX5_placeAnew 4 (some .int) :: LT) ({ frames := 2, cells := 0, slots := 0, locals := 43 } : Room) D X ad M [.inr (.inl (20, o0)), .inl a1] t 0 0 post px := by
  refine met_of_wp (by decide +kernel) (Nat.le_of_ble_eq_true rfl) ?_
  intro p e s m args below meth c A hx hb hml hts hown hK hnt hlocks hr hA hE
  have hR9 : Ready p l e ({ frames := 2, cells := 0, slots := 0, locals := 43 } : Room) s m args below meth c D X ad A M 4 cX5_placeAnew 0 0 post px RX5 1 (fldOf F_X5) N_X5_placeAnew (Q_X5_placeAnew M) (tabOf T_X5_placeAnew) H_X5_placeAnew := by
    refine ⟨hx, hb, hts, hown, hK, hnt, hlocks, hr, F_X5_ok, ?_, fun pc en h => tabOf_ok T_X5_placeAnew_ok h, ?_⟩
    · intro v9 ix n mc1 ms1 as t k hn hl h
      unfold N_X5_placeAnew at hn
      split at hn
      · cases hn
        exact k_X5_isFine hx hb hml hts hown hK hA hE hst9 (by decide +kernel) ⟨Nat.le_of_ble_eq_true rfl, Nat.le_of_ble_eq_true rfl⟩ rfl rfl h
      · cases hn
        exact k_X5_isTrain hx hb hml hts hown hK hA hE hst9 (by decide +kernel) ⟨Nat.le_of_ble_eq_true rfl, Nat.le_of_ble_eq_true rfl⟩ rfl rfl h
      · cases hn
    · intro pc E hE9; cases hE9
  have W38 : ∀ (n : Nat) (o0 : Nat) (a1 : Int32) (a2 : Int32) (a3 : Int32) (t : TT), L_X5_placeAnew_38 M (fun r t1 => post (some (.inl r)) t1) px n o0 a1 a2 a3 t → Wat p l e ({ frames := 2, cells := 0, slots := 0, locals := 43 } : Room) s m args below meth c (QM below args s D X ad A M 0 0 post px) D X ad A M 4 38 [(0, .inr (.inl (20, o0))), (1, .inl a1), (2, .inl a2), (3, .inl a3)] [] t 0 0 := by
    intro n
    induction n with
    | zero =>
      intro o0 a1 a2 a3 t h
      exact h.elim
    | succ n ih =>
      intro o0 a1 a2 a3 t h
      refine wp_go hR9 (cs := S_X5_placeAnew) (Bk := (fun pc vs ws t => match pc with | 38 => (match vs, ws with | [.inr (.inl (20, o0)), .inl a1, .inl a2, .inl a3], [] => L_X5_placeAnew_38 M (fun r t1 => post (some (.inl r)) t1) px n o0 a1 a2 a3 t | _, _ => False) | _ => False)) ?_ 400 38 _ _ _ _ _ h
      intro pc q vs ws t hc hk
      split at hk
      · cases hc
        split at hk
        · exact ih _ _ _ _ _ hk
        · exact hk.elim
      · exact hk.elim
  have W14 : ∀ (o0 : Nat) (a1 : Int32) (s0 : Int32) (u1 : Nat) (t : TT), B_X5_placeAnew_14 M (fun r t1 => post (some (.inl r)) t1) px o0 a1 s0 u1 t → Wat p l e ({ frames := 2, cells := 0, slots := 0, locals := 43 } : Room) s m args below meth c (QM below args s D X ad A M 0 0 post px) D X ad A M 4 14 [(0, .inr (.inl (20, o0))), (1, .inl a1)] [.inl s0, .inr (.inl (20, u1))] t 0 0 := by
    intro o0 a1 s0 u1 t h
    refine wp_go hR9 (cs := S_X5_placeAnew) (Bk := (fun pc vs ws t => match pc with | 38 => (match vs, ws with | [.inr (.inl (20, o0)), .inl a1, .inl a2, .inl a3], [] => ∃ n9, L_X5_placeAnew_38 M (fun r t1 => post (some (.inl r)) t1) px n9 o0 a1 a2 a3 t | _, _ => False) | _ => False)) ?_ 400 14 _ _ _ _ _ h
    intro pc q vs ws t hc hk
    split at hk
    · cases hc
      split at hk
      · obtain ⟨n9, hk⟩ := hk
        exact W38 n9 _ _ _ _ _ hk
      · exact hk.elim
    · exact hk.elim
  refine wp_go hR9 (cs := S_X5_placeAnew) (Bk := (fun pc vs ws t => match pc with | 14 => (match vs, ws with | [.inr (.inl (20, o0)), .inl a1], [.inl s0, .inr (.inl (20, u1))] => B_X5_placeAnew_14 M (fun r t1 => post (some (.inl r)) t1) px o0 a1 s0 u1 t | _, _ => False) | _ => False)) ?_ 400 0 _ _ _ _ _ h
  intro pc q vs ws t hc hk
  split at hk
  · cases hc
    split at hk
    · exact W14 _ _ _ _ _ hk
    · exact hk.elim
  · exact hk.elim
theorem k_X5_placeAnew (hx : p.tables.exec = Jvm.exec) (hb : c.code = b) (hml : c.maxLocals = nL) (hts : ∀ w ∈ LT, w.before args s = true) {own : String} (hown : s.vm.findClass own = some m.cls) (hK : va_K D vwCl (TYX X) s) (hA : ∀ q, s.heap.size ≤ q → A q) (hE : EX A s) (hst9 : l.stackTraces = false) {ix : Nat} (hl9 : Cond.methodLink own ix yX5_placeAnew ∈ LT) (hR : 3 ≤ R.frames ∧ 66 ≤ R.locals) (hmc : R.cells = mc) (hms : R.slots = ms) (h : PC_X5_placeAnew M as t k kx) : CallOK p l e R s m args below meth c Q D X ad A M nL b mc ms (.invokevirtual ix) 0 0 as t k kx := by
  unfold PC_X5_placeAnew at h
  split at h
  · exact call_V hx hb hml hts hown hK hA hE (c_X5_placeAnew hst9 _ _ t h.2) ⟨hl9, ws_X5_placeAnew.1, ws_X5_placeAnew.2.1, ws_X5_placeAnew.2.2.1, ws_X5_placeAnew.2.2.2⟩ (n := 1) (by decide +kernel) hR rfl rfl hmc hms rfl ⟨20, _, rfl, h.1, Or.inr (Or.inr (Or.inr (Or.inr (Or.inr rfl)))), rfl⟩
  · exact CallOK.congr (by simp only [List.map_cons]; congr 1; exact (if_neg h.1).symm) (call_V hx hb hml hts hown hK hA hE (c_X5_placeAnew hst9 _ _ t h.2.2) ⟨hl9, ws_X5_placeAnew.1, ws_X5_placeAnew.2.1, ws_X5_placeAnew.2.2.1, ws_X5_placeAnew.2.2.2⟩ (n := 1) (by decide +kernel) hR rfl rfl hmc hms rfl ⟨20, _, rfl, h.2.1, Or.inr (Or.inr (Or.inr (Or.inr (Or.inr rfl)))), rfl⟩)
  · exact h.elim
def Q_X5_isSafe (M : Nat → Nat → Bool) (ix : Nat) (as : List VV) (t : TT) (k : Option VV → TT → Prop) (kx : String → TT → Prop) : Prop := False
def N_X5_isSafe (v : Bool) (ix : Nat) : Option (Nat × Nat × Nat) := none
def S_X5_isSafe (pc : Nat) : Option (List (Nat × Nat × Nat) × List (Nat × Nat) × Nat × Nat) := match pc with
  | 136 => some ([(0, 1, 20), (2, 0, 0), (3, 0, 0)], [(0, 0)], 0, 0)
  | 135 => some ([(0, 1, 20), (2, 0, 0), (3, 0, 0)], [], 0, 0)
  | 120 => some ([(0, 1, 20), (1, 0, 0), (2, 0, 0), (3, 0, 0)], [(0, 0)], 0, 0)
  | 115 => some ([(0, 1, 20), (1, 0, 0), (2, 0, 0), (3, 0, 0)], [], 0, 0)
  | 74 => some ([(0, 1, 20), (1, 0, 0), (2, 0, 0), (3, 0, 0)], [], 0, 0)
  | 71 => some ([(0, 1, 20), (2, 0, 0)], [(0, 0)], 0, 0)
  | 70 => some ([(0, 1, 20), (2, 0, 0)], [], 0, 0)
  | 9 => some ([(0, 1, 20), (1, 0, 0), (2, 0, 0)], [], 0, 0)
  | _ => none
def H_X5_isSafe (pc : Nat) : Option String := none
set_option maxRecDepth 100000 in
set_option maxHeartbeats 4000000 in
theorem c_X5_isSafe {l : Launch} (hst9 : l.stackTraces = false) {D : va_G} {X : Nat → ClassId} {ad : Nat → Nat → Nat} {M : Nat → Nat → Bool} {post : Option VV → TT → Prop} {px : String → TT → Prop} (o0 : Nat) (t : TT) (h : P_X5_isSafe M (fun r t1 => post (some (.inl r)) t1) px o0 t) : CT l yX5_isSafe (Cond.code yX5_isSafe cX5_isSafe 5 (some .boolean) :: LT) ({ frames := 0, cells := 0, slots := 0, locals := 0 } : Room) D X ad M [.inr (.inl (20, o0))] t 0 0 post px := by
  refine met_of_wp (by decide +kernel) (Nat.le_of_ble_eq_true rfl) ?_
  intro p e s m args below meth c A hx hb hml hts hown hK hnt hlocks hr hA hE
  have hR9 : Ready p l e ({ frames := 0, cells := 0, slots := 0, locals := 0 } : Room) s m args below meth c D X ad A M 5 cX5_isSafe 0 0 post px RX5 2 (fldOf F_X5) N_X5_isSafe (Q_X5_isSafe M) (tabOf T_X5_isSafe) H_X5_isSafe := by
    refine ⟨hx, hb, hts, hown, hK, hnt, hlocks, hr, F_X5_ok, ?_, fun pc en h => tabOf_ok T_X5_isSafe_ok h, ?_⟩
    · intro v9 ix n mc1 ms1 as t k hn hl h
      unfold N_X5_isSafe at hn
      cases hn
    · intro pc E hE9; cases hE9
  have W136 : ∀ (k9 : Nat → Int32 → Int32 → TT → Prop) (hk9 : ∀ (o0 : Nat) (a1 : Int32) (a2 : Int32) (t : TT), k9 o0 a1 a2 t → Wat p l e ({ frames := 0, cells := 0, slots := 0, locals := 0 } : Room) s m args below meth c (QM below args s D X ad A M 0 0 post px) D X ad A M 5 9 [(0, .inr (.inl (20, o0))), (1, .inl a1), (2, .inl a2)] [] t 0 0) (k74 : Nat → Int32 → Int32 → Int32 → TT → Prop) (hk74 : ∀ (o0 : Nat) (a1 : Int32) (a2 : Int32) (a3 : Int32) (t : TT), k74 o0 a1 a2 a3 t → Wat p l e ({ frames := 0, cells := 0, slots := 0, locals := 0 } : Room) s m args below meth c (QM below args s D X ad A M 0 0 post px) D X ad A M 5 74 [(0, .inr (.inl (20, o0))), (1, .inl a1), (2, .inl a2), (3, .inl a3)] [] t 0 0) (o0 : Nat) (a2 : Int32) (a3 : Int32) (s0 : Int32) (t : TT), B_X5_isSafe_136 M (fun r t1 => post (some (.inl r)) t1) px k9 k74 o0 a2 a3 s0 t → Wat p l e ({ frames := 0, cells := 0, slots := 0, locals := 0 } : Room) s m args below meth c (QM below args s D X ad A M 0 0 post px) D X ad A M 5 136 [(0, .inr (.inl (20, o0))), (2, .inl a2), (3, .inl a3)] [.inl s0] t 0 0 := by
    intro k9 hk9 k74 hk74 o0 a2 a3 s0 t h
    refine wp_go hR9 (cs := S_X5_isSafe) (Bk := (fun pc vs ws t => match pc with | 74 => (match vs, ws with | [.inr (.inl (20, o0)), .inl a1, .inl a2, .inl a3], [] => k74 o0 a1 a2 a3 t | _, _ => False) | _ => False)) ?_ 400 136 _ _ _ _ _ h
    intro pc q vs ws t hc hk
    split at hk
    · cases hc
      split at hk
      · exact hk74 _ _ _ _ _ hk
      · exact hk.elim
    · exact hk.elim
  have W135 : ∀ (k9 : Nat → Int32 → Int32 → TT → Prop) (hk9 : ∀ (o0 : Nat) (a1 : Int32) (a2 : Int32) (t : TT), k9 o0 a1 a2 t → Wat p l e ({ frames := 0, cells := 0, slots := 0, locals := 0 } : Room) s m args below meth c (QM below args s D X ad A M 0 0 post px) D X ad A M 5 9 [(0, .inr (.inl (20, o0))), (1, .inl a1), (2, .inl a2)] [] t 0 0) (k74 : Nat → Int32 → Int32 → Int32 → TT → Prop) (hk74 : ∀ (o0 : Nat) (a1 : Int32) (a2 : Int32) (a3 : Int32) (t : TT), k74 o0 a1 a2 a3 t → Wat p l e ({ frames := 0, cells := 0, slots := 0, locals := 0 } : Room) s m args below meth c (QM below args s D X ad A M 0 0 post px) D X ad A M 5 74 [(0, .inr (.inl (20, o0))), (1, .inl a1), (2, .inl a2), (3, .inl a3)] [] t 0 0) (o0 : Nat) (a2 : Int32) (a3 : Int32) (t : TT), B_X5_isSafe_135 M (fun r t1 => post (some (.inl r)) t1) px k9 k74 o0 a2 a3 t → Wat p l e ({ frames := 0, cells := 0, slots := 0, locals := 0 } : Room) s m args below meth c (QM below args s D X ad A M 0 0 post px) D X ad A M 5 135 [(0, .inr (.inl (20, o0))), (2, .inl a2), (3, .inl a3)] [] t 0 0 := by
    intro k9 hk9 k74 hk74 o0 a2 a3 t h
    refine wp_go hR9 (cs := S_X5_isSafe) (Bk := (fun pc vs ws t => match pc with | 136 => (match vs, ws with | [.inr (.inl (20, o0)), .inl a2, .inl a3], [.inl s0] => B_X5_isSafe_136 M (fun r t1 => post (some (.inl r)) t1) px k9 k74 o0 a2 a3 s0 t | _, _ => False) | _ => False)) ?_ 400 135 _ _ _ _ _ h
    intro pc q vs ws t hc hk
    split at hk
    · cases hc
      split at hk
      · exact W136 _ hk9 _ hk74 _ _ _ _ _ hk
      · exact hk.elim
    · exact hk.elim
  have W120 : ∀ (k9 : Nat → Int32 → Int32 → TT → Prop) (hk9 : ∀ (o0 : Nat) (a1 : Int32) (a2 : Int32) (t : TT), k9 o0 a1 a2 t → Wat p l e ({ frames := 0, cells := 0, slots := 0, locals := 0 } : Room) s m args below meth c (QM below args s D X ad A M 0 0 post px) D X ad A M 5 9 [(0, .inr (.inl (20, o0))), (1, .inl a1), (2, .inl a2)] [] t 0 0) (k74 : Nat → Int32 → Int32 → Int32 → TT → Prop) (hk74 : ∀ (o0 : Nat) (a1 : Int32) (a2 : Int32) (a3 : Int32) (t : TT), k74 o0 a1 a2 a3 t → Wat p l e ({ frames := 0, cells := 0, slots := 0, locals := 0 } : Room) s m args below meth c (QM below args s D X ad A M 0 0 post px) D X ad A M 5 74 [(0, .inr (.inl (20, o0))), (1, .inl a1), (2, .inl a2), (3, .inl a3)] [] t 0 0) (o0 : Nat) (a1 : Int32) (a2 : Int32) (a3 : Int32) (s0 : Int32) (t : TT), B_X5_isSafe_120 M (fun r t1 => post (some (.inl r)) t1) px k9 k74 o0 a1 a2 a3 s0 t → Wat p l e ({ frames := 0, cells := 0, slots := 0, locals := 0 } : Room) s m args below meth c (QM below args s D X ad A M 0 0 post px) D X ad A M 5 120 [(0, .inr (.inl (20, o0))), (1, .inl a1), (2, .inl a2), (3, .inl a3)] [.inl s0] t 0 0 := by
    intro k9 hk9 k74 hk74 o0 a1 a2 a3 s0 t h
    refine wp_go hR9 (cs := S_X5_isSafe) (Bk := (fun pc vs ws t => match pc with | 135 => (match vs, ws with | [.inr (.inl (20, o0)), .inl a2, .inl a3], [] => B_X5_isSafe_135 M (fun r t1 => post (some (.inl r)) t1) px k9 k74 o0 a2 a3 t | _, _ => False) | 136 => (match vs, ws with | [.inr (.inl (20, o0)), .inl a2, .inl a3], [.inl s0] => B_X5_isSafe_136 M (fun r t1 => post (some (.inl r)) t1) px k9 k74 o0 a2 a3 s0 t | _, _ => False) | _ => False)) ?_ 400 120 _ _ _ _ _ h
    intro pc q vs ws t hc hk
    split at hk
    · cases hc
      split at hk
      · exact W135 _ hk9 _ hk74 _ _ _ _ hk
      · exact hk.elim
    · cases hc
      split at hk
      · exact W136 _ hk9 _ hk74 _ _ _ _ _ hk
      · exact hk.elim
    · exact hk.elim
  have W115 : ∀ (k9 : Nat → Int32 → Int32 → TT → Prop) (hk9 : ∀ (o0 : Nat) (a1 : Int32) (a2 : Int32) (t : TT), k9 o0 a1 a2 t → Wat p l e ({ frames := 0, cells := 0, slots := 0, locals := 0 } : Room) s m args below meth c (QM below args s D X ad A M 0 0 post px) D X ad A M 5 9 [(0, .inr (.inl (20, o0))), (1, .inl a1), (2, .inl a2)] [] t 0 0) (k74 : Nat → Int32 → Int32 → Int32 → TT → Prop) (hk74 : ∀ (o0 : Nat) (a1 : Int32) (a2 : Int32) (a3 : Int32) (t : TT), k74 o0 a1 a2 a3 t → Wat p l e ({ frames := 0, cells := 0, slots := 0, locals := 0 } : Room) s m args below meth c (QM below args s D X ad A M 0 0 post px) D X ad A M 5 74 [(0, .inr (.inl (20, o0))), (1, .inl a1), (2, .inl a2), (3, .inl a3)] [] t 0 0) (o0 : Nat) (a1 : Int32) (a2 : Int32) (a3 : Int32) (t : TT), B_X5_isSafe_115 M (fun r t1 => post (some (.inl r)) t1) px k9 k74 o0 a1 a2 a3 t → Wat p l e ({ frames := 0, cells := 0, slots := 0, locals := 0 } : Room) s m args below meth c (QM below args s D X ad A M 0 0 post px) D X ad A M 5 115 [(0, .inr (.inl (20, o0))), (1, .inl a1), (2, .inl a2), (3, .inl a3)] [] t 0 0 := by
    intro k9 hk9 k74 hk74 o0 a1 a2 a3 t h
    refine wp_go hR9 (cs := S_X5_isSafe) (Bk := (fun pc vs ws t => match pc with | 120 => (match vs, ws with | [.inr (.inl (20, o0)), .inl a1, .inl a2, .inl a3], [.inl s0] => B_X5_isSafe_120 M (fun r t1 => post (some (.inl r)) t1) px k9 k74 o0 a1 a2 a3 s0 t | _, _ => False) | _ => False)) ?_ 400 115 _ _ _ _ _ h
    intro pc q vs ws t hc hk
    split at hk
    · cases hc
      split at hk
      · exact W120 _ hk9 _ hk74 _ _ _ _ _ _ hk
      · exact hk.elim
    · exact hk.elim
  have W74 : ∀ (k9 : Nat → Int32 → Int32 → TT → Prop) (hk9 : ∀ (o0 : Nat) (a1 : Int32) (a2 : Int32) (t : TT), k9 o0 a1 a2 t → Wat p l e ({ frames := 0, cells := 0, slots := 0, locals := 0 } : Room) s m args below meth c (QM below args s D X ad A M 0 0 post px) D X ad A M 5 9 [(0, .inr (.inl (20, o0))), (1, .inl a1), (2, .inl a2)] [] t 0 0) (n : Nat) (o0 : Nat) (a1 : Int32) (a2 : Int32) (a3 : Int32) (t : TT), L_X5_isSafe_74 M (fun r t1 => post (some (.inl r)) t1) px k9 n o0 a1 a2 a3 t → Wat p l e ({ frames := 0, cells := 0, slots := 0, locals := 0 } : Room) s m args below meth c (QM below args s D X ad A M 0 0 post px) D X ad A M 5 74 [(0, .inr (.inl (20, o0))), (1, .inl a1), (2, .inl a2), (3, .inl a3)] [] t 0 0 := by
    intro k9 hk9
    intro n
    induction n with
    | zero =>
      intro o0 a1 a2 a3 t h
      exact h.elim
    | succ n ih =>
      intro o0 a1 a2 a3 t h
      refine wp_go hR9 (cs := S_X5_isSafe) (Bk := (fun pc vs ws t => match pc with | 9 => (match vs, ws with | [.inr (.inl (20, o0)), .inl a1, .inl a2], [] => k9 o0 a1 a2 t | _, _ => False) | 115 => (match vs, ws with | [.inr (.inl (20, o0)), .inl a1, .inl a2, .inl a3], [] => B_X5_isSafe_115 M (fun r t1 => post (some (.inl r)) t1) px k9 (L_X5_isSafe_74 M (fun r t1 => post (some (.inl r)) t1) px k9 n) o0 a1 a2 a3 t | _, _ => False) | 120 => (match vs, ws with | [.inr (.inl (20, o0)), .inl a1, .inl a2, .inl a3], [.inl s0] => B_X5_isSafe_120 M (fun r t1 => post (some (.inl r)) t1) px k9 (L_X5_isSafe_74 M (fun r t1 => post (some (.inl r)) t1) px k9 n) o0 a1 a2 a3 s0 t | _, _ => False) | _ => False)) ?_ 400 74 _ _ _ _ _ h
      intro pc q vs ws t hc hk
      split at hk
      · cases hc
        split at hk
        · exact hk9 _ _ _ _ hk
        · exact hk.elim
      · cases hc
        split at hk
        · exact W115 _ hk9 _ ih _ _ _ _ _ hk
        · exact hk.elim
      · cases hc
        split at hk
        · exact W120 _ hk9 _ ih _ _ _ _ _ _ hk
        · exact hk.elim
      · exact hk.elim
  have W71 : ∀ (k9 : Nat → Int32 → Int32 → TT → Prop) (hk9 : ∀ (o0 : Nat) (a1 : Int32) (a2 : Int32) (t : TT), k9 o0 a1 a2 t → Wat p l e ({ frames := 0, cells := 0, slots := 0, locals := 0 } : Room) s m args below meth c (QM below args s D X ad A M 0 0 post px) D X ad A M 5 9 [(0, .inr (.inl (20, o0))), (1, .inl a1), (2, .inl a2)] [] t 0 0) (o0 : Nat) (a2 : Int32) (s0 : Int32) (t : TT), B_X5_isSafe_71 M (fun r t1 => post (some (.inl r)) t1) px k9 o0 a2 s0 t → Wat p l e ({ frames := 0, cells := 0, slots := 0, locals := 0 } : Room) s m args below meth c (QM below args s D X ad A M 0 0 post px) D X ad A M 5 71 [(0, .inr (.inl (20, o0))), (2, .inl a2)] [.inl s0] t 0 0 := by
    intro k9 hk9 o0 a2 s0 t h
    refine wp_go hR9 (cs := S_X5_isSafe) (Bk := (fun pc vs ws t => match pc with | 74 => (match vs, ws with | [.inr (.inl (20, o0)), .inl a1, .inl a2, .inl a3], [] => ∃ n9, L_X5_isSafe_74 M (fun r t1 => post (some (.inl r)) t1) px k9 n9 o0 a1 a2 a3 t | _, _ => False) | _ => False)) ?_ 400 71 _ _ _ _ _ h
    intro pc q vs ws t hc hk
    split at hk
    · cases hc
      split at hk
      · obtain ⟨n9, hk⟩ := hk
        exact W74 _ hk9 n9 _ _ _ _ _ hk
      · exact hk.elim
    · exact hk.elim
  have W70 : ∀ (k9 : Nat → Int32 → Int32 → TT → Prop) (hk9 : ∀ (o0 : Nat) (a1 : Int32) (a2 : Int32) (t : TT), k9 o0 a1 a2 t → Wat p l e ({ frames := 0, cells := 0, slots := 0, locals := 0 } : Room) s m args below meth c (QM below args s D X ad A M 0 0 post px) D X ad A M 5 9 [(0, .inr (.inl (20, o0))), (1, .inl a1), (2, .inl a2)] [] t 0 0) (o0 : Nat) (a2 : Int32) (t : TT), B_X5_isSafe_70 M (fun r t1 => post (some (.inl r)) t1) px k9 o0 a2 t → Wat p l e ({ frames := 0, cells := 0, slots := 0, locals := 0 } : Room) s m args below meth c (QM below args s D X ad A M 0 0 post px) D X ad A M 5 70 [(0, .inr (.inl (20, o0))), (2, .inl a2)] [] t 0 0 := by
    intro k9 hk9 o0 a2 t h
    refine wp_go hR9 (cs := S_X5_isSafe) (Bk := (fun pc vs ws t => match pc with | 71 => (match vs, ws with | [.inr (.inl (20, o0)), .inl a2], [.inl s0] => B_X5_isSafe_71 M (fun r t1 => post (some (.inl r)) t1) px k9 o0 a2 s0 t | _, _ => False) | _ => False)) ?_ 400 70 _ _ _ _ _ h
    intro pc q vs ws t hc hk
    split at hk
    · cases hc
      split at hk
      · exact W71 _ hk9 _ _ _ _ hk
      · exact hk.elim
    · exact hk.elim
  have W9 : ∀ (n : Nat) (o0 : Nat) (a1 : Int32) (a2 : Int32) (t : TT), L_X5_isSafe_9 M (fun r t1 => post (some (.inl r)) t1) px n o0 a1 a2 t → Wat p l e ({ frames := 0, cells := 0, slots := 0, locals := 0 } : Room) s m args below meth c (QM below args s D X ad A M 0 0 post px) D X ad A M 5 9 [(0, .inr (.inl (20, o0))), (1, .inl a1), (2, .inl a2)] [] t 0 0 := by
    intro n
    induction n with
    | zero =>
      intro o0 a1 a2 t h
      exact h.elim
    | succ n ih =>
      intro o0 a1 a2 t h
      refine wp_go hR9 (cs := S_X5_isSafe) (Bk := (fun pc vs ws t => match pc with | 70 => (match vs, ws with | [.inr (.inl (20, o0)), .inl a2], [] => B_X5_isSafe_70 M (fun r t1 => post (some (.inl r)) t1) px (L_X5_isSafe_9 M (fun r t1 => post (some (.inl r)) t1) px n) o0 a2 t | _, _ => False) | 71 => (match vs, ws with | [.inr (.inl (20, o0)), .inl a2], [.inl s0] => B_X5_isSafe_71 M (fun r t1 => post (some (.inl r)) t1) px (L_X5_isSafe_9 M (fun r t1 => post (some (.inl r)) t1) px n) o0 a2 s0 t | _, _ => False) | _ => False)) ?_ 400 9 _ _ _ _ _ h
      intro pc q vs ws t hc hk
      split at hk
      · cases hc
        split at hk
        · exact W70 _ ih _ _ _ hk
        · exact hk.elim
      · cases hc
        split at hk
        · exact W71 _ ih _ _ _ _ hk
        · exact hk.elim
      · exact hk.elim
  refine wp_go hR9 (cs := S_X5_isSafe) (Bk := (fun pc vs ws t => match pc with | 9 => (match vs, ws with | [.inr (.inl (20, o0)), .inl a1, .inl a2], [] => ∃ n9, L_X5_isSafe_9 M (fun r t1 => post (some (.inl r)) t1) px n9 o0 a1 a2 t | _, _ => False) | _ => False)) ?_ 400 0 _ _ _ _ _ h
  intro pc q vs ws t hc hk
  split at hk
  · cases hc
    split at hk
    · obtain ⟨n9, hk⟩ := hk
      exact W9 n9 _ _ _ _ hk
    · exact hk.elim
  · exact hk.elim
theorem k_X5_isSafe (hx : p.tables.exec = Jvm.exec) (hb : c.code = b) (hml : c.maxLocals = nL) (hts : ∀ w ∈ LT, w.before args s = true) {own : String} (hown : s.vm.findClass own = some m.cls) (hK : va_K D vwCl (TYX X) s) (hA : ∀ q, s.heap.size ≤ q → A q) (hE : EX A s) (hst9 : l.stackTraces = false) {ix : Nat} (hl9 : Cond.methodLink own ix yX5_isSafe ∈ LT) (hR : 1 ≤ R.frames ∧ 24 ≤ R.locals) (hmc : R.cells = mc) (hms : R.slots = ms) (h : PC_X5_isSafe M as t k kx) : CallOK p l e R s m args below meth c Q D X ad A M nL b mc ms (.invokevirtual ix) 0 0 as t k kx := by
  unfold PC_X5_isSafe at h
  split at h
  · exact call_V hx hb hml hts hown hK hA hE (c_X5_isSafe hst9 _ t h.2) ⟨hl9, ws_X5_isSafe.1, ws_X5_isSafe.2.1, ws_X5_isSafe.2.2.1, ws_X5_isSafe.2.2.2⟩ (n := 0) (by decide +kernel) hR rfl rfl hmc hms rfl ⟨20, _, rfl, h.1, Or.inr (Or.inr (Or.inr (Or.inr (Or.inr rfl)))), rfl⟩
  · exact CallOK.congr (by simp only [List.map_cons]; congr 1; exact (if_neg h.1).symm) (call_V hx hb hml hts hown hK hA hE (c_X5_isSafe hst9 _ t h.2.2) ⟨hl9, ws_X5_isSafe.1, ws_X5_isSafe.2.1, ws_X5_isSafe.2.2.1, ws_X5_isSafe.2.2.2⟩ (n := 0) (by decide +kernel) hR rfl rfl hmc hms rfl ⟨20, _, rfl, h.2.1, Or.inr (Or.inr (Or.inr (Or.inr (Or.inr rfl)))), rfl⟩)
  · exact h.elim
end K

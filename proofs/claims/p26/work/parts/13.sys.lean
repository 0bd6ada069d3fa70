/-! printed (wip/p26/gen26.py): contracts -/
section K
variable {p : Program} {l : Launch} {e : Env} {R : Room} {s : State} {m : MethodId} {args : Array Value} {below : List Frame} {meth : Method} {c : Code} {Q : State → Prop} {D : va_G} {X : Nat → ClassId} {ad : Nat → Nat → Nat} {A : Nat → Prop} {M : Nat → Nat → Bool} {nL : Nat} {b : ByteArray} {mc ms : Nat} {k : Option VV → TT → Prop} {kx : String → TT → Prop} {t : TT} {as : List VV}
def Q_X4_askNumber (M : Nat → Nat → Bool) (ix : Nat) (as : List VV) (t : TT) (k : Option VV → TT → Prop) (kx : String → TT → Prop) : Prop := False
def N_X4_askNumber (v : Bool) (ix : Nat) : Option (Nat × Nat × Nat) := none
def S_X4_askNumber (pc : Nat) : Option (List (Nat × Nat × Nat) × List (Nat × Nat) × Nat × Nat) := match pc with
  | 9 => some ([], [], 0, 0)
  | _ => none
def H_X4_askNumber (pc : Nat) : Option String := match pc with
  | 9 => some IOB
  | _ => none
set_option maxRecDepth 100000 in
set_option maxHeartbeats 4000000 in
theorem c_X4_askNumber {l : Launch} (hst9 : l.stackTraces = false) {D : va_G} {X : Nat → ClassId} {ad : Nat → Nat → Nat} {M : Nat → Nat → Bool} {post : Option VV → TT → Prop} {px : String → TT → Prop} (a0 : Int32) (a1 : Int32) (t : TT) (h : P_X4_askNumber M (fun t1 => post none t1) px a0 a1 t) : CT l yX4_askNumber (Cond.code yX4_askNumber cX4_askNumber 2 none :: LT) ({ frames := 0, cells := 0, slots := 0, locals := 0 } : Room) D X ad M [.inl a0, .inl a1] t 0 0 post px := by
  refine met_of_wp (by decide +kernel) (Nat.le_of_ble_eq_true rfl) ?_
  intro p e s m args below meth c A hx hb hml hts hown hK hnt hlocks hr hA hE
  have hR9 : Ready p l e ({ frames := 0, cells := 0, slots := 0, locals := 0 } : Room) s m args below meth c D X ad A M 2 cX4_askNumber 0 0 post px RX4 0 (fldOf F_X4) N_X4_askNumber (Q_X4_askNumber M) (tabOf T_X4_askNumber) H_X4_askNumber := by
    refine ⟨hx, hb, hts, hown, hK, hnt, hlocks, hr, F_X4_ok, ?_, fun pc en h => tabOf_ok T_X4_askNumber_ok h, ?_⟩
    · intro v9 ix n mc1 ms1 as t k hn hl h
      unfold N_X4_askNumber at hn
      cases hn
    · exact fun pc E hE9 loc st t cl sl hp h1 h2 h8 => absurd h1 (Nat.not_succ_le_zero _)
  have W9 : ∀ (t : TT), B_X4_askNumber_9 M (fun t1 => post none t1) px t → Wat p l e ({ frames := 0, cells := 0, slots := 0, locals := 0 } : Room) s m args below meth c (QM below args s D X ad A M 0 0 post px) D X ad A M 2 9 [] [] t 0 0 := by
    intro t h
    refine wp_go hR9 (cs := S_X4_askNumber) (Bk := (fun _ _ _ _ => False)) ?_ 400 9 _ _ _ _ _ h
    intro pc q vs ws t hc hk
    exact hk.elim
  refine wp_go hR9 (cs := S_X4_askNumber) (Bk := (fun pc vs ws t => match pc with | 9 => (match vs, ws with | [], [] => B_X4_askNumber_9 M (fun t1 => post none t1) px t | _, _ => False) | _ => False)) ?_ 400 0 _ _ _ _ _ h
  intro pc q vs ws t hc hk
  split at hk
  · cases hc
    split at hk
    · exact W9 _ hk
    · exact hk.elim
  · exact hk.elim
theorem k_X4_askNumber (hx : p.tables.exec = Jvm.exec) (hb : c.code = b) (hml : c.maxLocals = nL) (hts : ∀ w ∈ LT, w.before args s = true) {own : String} (hown : s.vm.findClass own = some m.cls) (hK : va_K D vwCl (TYX X) s) (hA : ∀ q, s.heap.size ≤ q → A q) (hE : EX A s) (hst9 : l.stackTraces = false) {ix : Nat} (hl9 : Cond.methodLink own ix yX4_askNumber ∈ LT) (hR : 1 ≤ R.frames ∧ 21 ≤ R.locals) (hmc : R.cells = mc) (hms : R.slots = ms) (h : PC_X4_askNumber M as t k kx) : CallOK p l e R s m args below meth c Q D X ad A M nL b mc ms (.invokestatic ix) 0 0 as t k kx := by
  unfold PC_X4_askNumber at h
  split at h
  · exact call_S hx hb hml hts hown hK hA hE (c_X4_askNumber hst9 _ _ t h) ⟨hl9, ws_X4_askNumber.1, ws_X4_askNumber.2.1, ws_X4_askNumber.2.2⟩ (n := 2) (by decide +kernel) hR rfl rfl hmc hms rfl
  · exact h.elim
def Q_X4_works (M : Nat → Nat → Bool) (ix : Nat) (as : List VV) (t : TT) (k : Option VV → TT → Prop) (kx : String → TT → Prop) : Prop := match ix with
  | 57 => PC_X4_askNumber M as t k kx
  | _ => False
def N_X4_works (v : Bool) (ix : Nat) : Option (Nat × Nat × Nat) := match v, ix with
  | false, 57 => some (2, 0, 0)
  | _, _ => none
def S_X4_works (pc : Nat) : Option (List (Nat × Nat × Nat) × List (Nat × Nat) × Nat × Nat) := none
def H_X4_works (pc : Nat) : Option String := none
set_option maxRecDepth 100000 in
set_option maxHeartbeats 4000000 in
theorem c_X4_works {l : Launch} (hst9 : l.stackTraces = false) {D : va_G} {X : Nat → ClassId} {ad : Nat → Nat → Nat} {M : Nat → Nat → Bool} {post : Option VV → TT → Prop} {px : String → TT → Prop} (o0 : Nat) (a1 : Int32) (a2 : Int32) (t : TT) (h : P_X4_works M (fun r t1 => post (some (.inl r)) t1) px o0 a1 a2 t) : CT l yX4_works (Cond.code yX4_works cX4_works 5 (some .boolean) :: LT) ({ frames := 1, cells := 0, slots := 0, locals := 21 } : Room) D X ad M [.inr (.inl (0, o0)), .inl a1, .inl a2] t 0 0 post px := by
  refine met_of_wp (by decide +kernel) (Nat.le_of_ble_eq_true rfl) ?_
  intro p e s m args below meth c A hx hb hml hts hown hK hnt hlocks hr hA hE
  have hR9 : Ready p l e ({ frames := 1, cells := 0, slots := 0, locals := 21 } : Room) s m args below meth c D X ad A M 5 cX4_works 0 0 post px RX4 2 (fldOf F_X4) N_X4_works (Q_X4_works M) (tabOf T_X4_works) H_X4_works := by
    refine ⟨hx, hb, hts, hown, hK, hnt, hlocks, hr, F_X4_ok, ?_, fun pc en h => tabOf_ok T_X4_works_ok h, ?_⟩
    · intro v9 ix n mc1 ms1 as t k hn hl h
      unfold N_X4_works at hn
      split at hn
      · cases hn
        exact k_X4_askNumber hx hb hml hts hown hK hA hE hst9 (by decide +kernel) ⟨Nat.le_of_ble_eq_true rfl, Nat.le_of_ble_eq_true rfl⟩ rfl rfl h
      · cases hn
    · intro pc E hE9; cases hE9
  refine wp_go hR9 (cs := S_X4_works) (Bk := (fun _ _ _ _ => False)) ?_ 400 0 _ _ _ _ _ h
  intro pc q vs ws t hc hk
  exact hk.elim
theorem k_X4_works (hx : p.tables.exec = Jvm.exec) (hb : c.code = b) (hml : c.maxLocals = nL) (hts : ∀ w ∈ LT, w.before args s = true) {own : String} (hown : s.vm.findClass own = some m.cls) (hK : va_K D vwCl (TYX X) s) (hA : ∀ q, s.heap.size ≤ q → A q) (hE : EX A s) (hst9 : l.stackTraces = false) {ix : Nat} (hl9 : Cond.methodLink own ix yX4_works ∈ LT) (hR : 2 ≤ R.frames ∧ 45 ≤ R.locals) (hmc : R.cells = mc) (hms : R.slots = ms) (h : PC_X4_works M as t k kx) : CallOK p l e R s m args below meth c Q D X ad A M nL b mc ms (.invokevirtual ix) 0 0 as t k kx := by
  unfold PC_X4_works at h
  split at h
  · exact call_V hx hb hml hts hown hK hA hE (c_X4_works hst9 _ _ _ t h.2) ⟨hl9, ws_X4_works.1, ws_X4_works.2.1, ws_X4_works.2.2.1, ws_X4_works.2.2.2⟩ (n := 2) (by decide +kernel) hR rfl rfl hmc hms rfl ⟨0, _, rfl, h.1, Or.inl rfl, rfl⟩
  · exact CallOK.congr (by simp only [List.map_cons]; congr 1; exact (if_neg h.1).symm) (call_V hx hb hml hts hown hK hA hE (c_X4_works hst9 _ _ _ t h.2.2) ⟨hl9, ws_X4_works.1, ws_X4_works.2.1, ws_X4_works.2.2.1, ws_X4_works.2.2.2⟩ (n := 2) (by decide +kernel) hR rfl rfl hmc hms rfl ⟨0, _, rfl, h.2.1, Or.inl rfl, rfl⟩)
  · exact h.elim
def Q_X4_askThat (M : Nat → Nat → Bool) (ix : Nat) (as : List VV) (t : TT) (k : Option VV → TT → Prop) (kx : String → TT → Prop) : Prop := False
def N_X4_askThat (v : Bool) (ix : Nat) : Option (Nat × Nat × Nat) := none
def S_X4_askThat (pc : Nat) : Option (List (Nat × Nat × Nat) × List (Nat × Nat) × Nat × Nat) := none
def H_X4_askThat (pc : Nat) : Option String := match pc with
  | 4 => some ISE9
  | _ => none
set_option maxRecDepth 100000 in
set_option maxHeartbeats 4000000 in
theorem c_X4_askThat {l : Launch} (hst9 : l.stackTraces = false) {D : va_G} {X : Nat → ClassId} {ad : Nat → Nat → Nat} {M : Nat → Nat → Bool} {post : Option VV → TT → Prop} {px : String → TT → Prop} (a0 : Int32) (t : TT) (h : P_X4_askThat M (fun t1 => post none t1) px a0 t) : CT l yX4_askThat (Cond.code yX4_askThat cX4_askThat 1 none :: LT) ({ frames := 0, cells := 0, slots := 0, locals := 0 } : Room) D X ad M [.inl a0] t 0 0 post px := by
  refine met_of_wp (by decide +kernel) (Nat.le_of_ble_eq_true rfl) ?_
  intro p e s m args below meth c A hx hb hml hts hown hK hnt hlocks hr hA hE
  have hR9 : Ready p l e ({ frames := 0, cells := 0, slots := 0, locals := 0 } : Room) s m args below meth c D X ad A M 1 cX4_askThat 0 0 post px RX4 0 (fldOf F_X4) N_X4_askThat (Q_X4_askThat M) (tabOf T_X4_askThat) H_X4_askThat := by
    refine ⟨hx, hb, hts, hown, hK, hnt, hlocks, hr, F_X4_ok, ?_, fun pc en h => tabOf_ok T_X4_askThat_ok h, ?_⟩
    · intro v9 ix n mc1 ms1 as t k hn hl h
      unfold N_X4_askThat at hn
      cases hn
    · exact fun pc E hE9 loc st t cl sl hp h1 h2 h8 => absurd h1 (Nat.not_succ_le_zero _)
  refine wp_go hR9 (cs := S_X4_askThat) (Bk := (fun _ _ _ _ => False)) ?_ 400 0 _ _ _ _ _ h
  intro pc q vs ws t hc hk
  exact hk.elim
theorem k_X4_askThat (hx : p.tables.exec = Jvm.exec) (hb : c.code = b) (hml : c.maxLocals = nL) (hts : ∀ w ∈ LT, w.before args s = true) {own : String} (hown : s.vm.findClass own = some m.cls) (hK : va_K D vwCl (TYX X) s) (hA : ∀ q, s.heap.size ≤ q → A q) (hE : EX A s) (hst9 : l.stackTraces = false) {ix : Nat} (hl9 : Cond.methodLink own ix yX4_askThat ∈ LT) (hR : 1 ≤ R.frames ∧ 20 ≤ R.locals) (hmc : R.cells = mc) (hms : R.slots = ms) (h : PC_X4_askThat M as t k kx) : CallOK p l e R s m args below meth c Q D X ad A M nL b mc ms (.invokestatic ix) 0 0 as t k kx := by
  unfold PC_X4_askThat at h
  split at h
  · exact call_S hx hb hml hts hown hK hA hE (c_X4_askThat hst9 _ t h) ⟨hl9, ws_X4_askThat.1, ws_X4_askThat.2.1, ws_X4_askThat.2.2⟩ (n := 1) (by decide +kernel) hR rfl rfl hmc hms rfl
  · exact h.elim
def Q_X4_canBeClosed (M : Nat → Nat → Bool) (ix : Nat) (as : List VV) (t : TT) (k : Option VV → TT → Prop) (kx : String → TT → Prop) : Prop := match ix with
  | 115 => PC_X2_keeps M as t k kx
  | 179 => PC_X2_mayCover M as t k kx
  | _ => False
def N_X4_canBeClosed (v : Bool) (ix : Nat) : Option (Nat × Nat × Nat) := match v, ix with
  | true, 115 => some (2, 0, 0)
  | true, 179 => some (3, 0, 0)
  | _, _ => none
def S_X4_canBeClosed (pc : Nat) : Option (List (Nat × Nat × Nat) × List (Nat × Nat) × Nat × Nat) := match pc with
  | 58 => some ([(0, 1, 0), (1, 1, 7), (2, 0, 0)], [], 0, 0)
  | 2 => some ([(0, 1, 0), (1, 1, 7), (2, 0, 0)], [], 0, 0)
  | _ => none
def H_X4_canBeClosed (pc : Nat) : Option String := none
set_option maxRecDepth 100000 in
set_option maxHeartbeats 4000000 in
theorem c_X4_canBeClosed {l : Launch} (hst9 : l.stackTraces = false) {D : va_G} {X : Nat → ClassId} {ad : Nat → Nat → Nat} {M : Nat → Nat → Bool} {post : Option VV → TT → Prop} {px : String → TT → Prop} (o0 : Nat) (o1 : Nat) (t : TT) (h : P_X4_canBeClosed M (fun r t1 => post (some (.inl r)) t1) px o0 o1 t) : CT l yX4_canBeClosed (Cond.code yX4_canBeClosed cX4_canBeClosed 4 (some .boolean) :: LT) ({ frames := 2, cells := 0, slots := 0, locals := 42 } : Room) D X ad M [.inr (.inl (0, o0)), .inr (.inl (7, o1))] t 0 0 post px := by
  refine met_of_wp (by decide +kernel) (Nat.le_of_ble_eq_true rfl) ?_
  intro p e s m args below meth c A hx hb hml hts hown hK hnt hlocks hr hA hE
  have hR9 : Ready p l e ({ frames := 2, cells := 0, slots := 0, locals := 42 } : Room) s m args below meth c D X ad A M 4 cX4_canBeClosed 0 0 post px RX4 2 (fldOf F_X4) N_X4_canBeClosed (Q_X4_canBeClosed M) (tabOf T_X4_canBeClosed) H_X4_canBeClosed := by
    refine ⟨hx, hb, hts, hown, hK, hnt, hlocks, hr, F_X4_ok, ?_, fun pc en h => tabOf_ok T_X4_canBeClosed_ok h, ?_⟩
    · intro v9 ix n mc1 ms1 as t k hn hl h
      unfold N_X4_canBeClosed at hn
      split at hn
      · cases hn
        exact k_X2_keeps hx hb hml hts hown hK hA hE hst9 (by decide +kernel) ⟨Nat.le_of_ble_eq_true rfl, Nat.le_of_ble_eq_true rfl⟩ rfl rfl h
      · cases hn
        exact k_X2_mayCover hx hb hml hts hown hK hA hE hst9 (by decide +kernel) ⟨Nat.le_of_ble_eq_true rfl, Nat.le_of_ble_eq_true rfl⟩ rfl rfl h
      · cases hn
    · intro pc E hE9; cases hE9
  have W58 : ∀ (k2 : Nat → Nat → Int32 → TT → Prop) (hk2 : ∀ (o0 : Nat) (o1 : Nat) (a2 : Int32) (t : TT), k2 o0 o1 a2 t → Wat p l e ({ frames := 2, cells := 0, slots := 0, locals := 42 } : Room) s m args below meth c (QM below args s D X ad A M 0 0 post px) D X ad A M 4 2 [(0, .inr (.inl (0, o0))), (1, .inr (.inl (7, o1))), (2, .inl a2)] [] t 0 0) (o0 : Nat) (o1 : Nat) (a2 : Int32) (t : TT), B_X4_canBeClosed_58 M (fun r t1 => post (some (.inl r)) t1) px k2 o0 o1 a2 t → Wat p l e ({ frames := 2, cells := 0, slots := 0, locals := 42 } : Room) s m args below meth c (QM below args s D X ad A M 0 0 post px) D X ad A M 4 58 [(0, .inr (.inl (0, o0))), (1, .inr (.inl (7, o1))), (2, .inl a2)] [] t 0 0 := by
    intro k2 hk2 o0 o1 a2 t h
    refine wp_go hR9 (cs := S_X4_canBeClosed) (Bk := (fun pc vs ws t => match pc with | 2 => (match vs, ws with | [.inr (.inl (0, o0)), .inr (.inl (7, o1)), .inl a2], [] => k2 o0 o1 a2 t | _, _ => False) | _ => False)) ?_ 400 58 _ _ _ _ _ h
    intro pc q vs ws t hc hk
    split at hk
    · cases hc
      split at hk
      · exact hk2 _ _ _ _ hk
      · exact hk.elim
    · exact hk.elim
  have W2 : ∀ (n : Nat) (o0 : Nat) (o1 : Nat) (a2 : Int32) (t : TT), L_X4_canBeClosed_2 M (fun r t1 => post (some (.inl r)) t1) px n o0 o1 a2 t → Wat p l e ({ frames := 2, cells := 0, slots := 0, locals := 42 } : Room) s m args below meth c (QM below args s D X ad A M 0 0 post px) D X ad A M 4 2 [(0, .inr (.inl (0, o0))), (1, .inr (.inl (7, o1))), (2, .inl a2)] [] t 0 0 := by
    intro n
    induction n with
    | zero =>
      intro o0 o1 a2 t h
      exact h.elim
    | succ n ih =>
      intro o0 o1 a2 t h
      refine wp_go hR9 (cs := S_X4_canBeClosed) (Bk := (fun pc vs ws t => match pc with | 58 => (match vs, ws with | [.inr (.inl (0, o0)), .inr (.inl (7, o1)), .inl a2], [] => B_X4_canBeClosed_58 M (fun r t1 => post (some (.inl r)) t1) px (L_X4_canBeClosed_2 M (fun r t1 => post (some (.inl r)) t1) px n) o0 o1 a2 t | _, _ => False) | _ => False)) ?_ 400 2 _ _ _ _ _ h
      intro pc q vs ws t hc hk
      split at hk
      · cases hc
        split at hk
        · exact W58 _ ih _ _ _ _ hk
        · exact hk.elim
      · exact hk.elim
  refine wp_go hR9 (cs := S_X4_canBeClosed) (Bk := (fun pc vs ws t => match pc with | 2 => (match vs, ws with | [.inr (.inl (0, o0)), .inr (.inl (7, o1)), .inl a2], [] => ∃ n9, L_X4_canBeClosed_2 M (fun r t1 => post (some (.inl r)) t1) px n9 o0 o1 a2 t | _, _ => False) | _ => False)) ?_ 400 0 _ _ _ _ _ h
  intro pc q vs ws t hc hk
  split at hk
  · cases hc
    split at hk
    · obtain ⟨n9, hk⟩ := hk
      exact W2 n9 _ _ _ _ hk
    · exact hk.elim
  · exact hk.elim
theorem k_X4_canBeClosed (hx : p.tables.exec = Jvm.exec) (hb : c.code = b) (hml : c.maxLocals = nL) (hts : ∀ w ∈ LT, w.before args s = true) {own : String} (hown : s.vm.findClass own = some m.cls) (hK : va_K D vwCl (TYX X) s) (hA : ∀ q, s.heap.size ≤ q → A q) (hE : EX A s) (hst9 : l.stackTraces = false) {ix : Nat} (hl9 : Cond.methodLink own ix yX4_canBeClosed ∈ LT) (hR : 3 ≤ R.frames ∧ 65 ≤ R.locals) (hmc : R.cells = mc) (hms : R.slots = ms) (h : PC_X4_canBeClosed M as t k kx) : CallOK p l e R s m args below meth c Q D X ad A M nL b mc ms (.invokevirtual ix) 0 0 as t k kx := by
  unfold PC_X4_canBeClosed at h
  split at h
  · exact call_V hx hb hml hts hown hK hA hE (c_X4_canBeClosed hst9 _ _ t h.2) ⟨hl9, ws_X4_canBeClosed.1, ws_X4_canBeClosed.2.1, ws_X4_canBeClosed.2.2.1, ws_X4_canBeClosed.2.2.2⟩ (n := 1) (by decide +kernel) hR rfl rfl hmc hms rfl ⟨0, _, rfl, h.1, Or.inl rfl, rfl⟩
  · exact CallOK.congr (by simp only [List.map_cons]; congr 1; exact (if_neg h.1).symm) (call_V hx hb hml hts hown hK hA hE (c_X4_canBeClosed hst9 _ _ t h.2.2) ⟨hl9, ws_X4_canBeClosed.1, ws_X4_canBeClosed.2.1, ws_X4_canBeClosed.2.2.1, ws_X4_canBeClosed.2.2.2⟩ (n := 1) (by decide +kernel) hR rfl rfl hmc hms rfl ⟨0, _, rfl, h.2.1, Or.inl rfl, rfl⟩)
  · exact h.elim
def Q_X4_oneAheadOf (M : Nat → Nat → Bool) (ix : Nat) (as : List VV) (t : TT) (k : Option VV → TT → Prop) (kx : String → TT → Prop) : Prop := False
def N_X4_oneAheadOf (v : Bool) (ix : Nat) : Option (Nat × Nat × Nat) := none
def S_X4_oneAheadOf (pc : Nat) : Option (List (Nat × Nat × Nat) × List (Nat × Nat) × Nat × Nat) := match pc with
  | 51 => some ([(0, 1, 0), (1, 1, 8), (2, 2, 8), (3, 0, 0)], [], 0, 0)
  | 48 => some ([(0, 1, 0), (1, 1, 8), (3, 0, 0), (4, 1, 8)], [], 0, 0)
  | 4 => some ([(0, 1, 0), (1, 1, 8), (2, 2, 8), (3, 0, 0)], [], 0, 0)
  | _ => none
def H_X4_oneAheadOf (pc : Nat) : Option String := none
set_option maxRecDepth 100000 in
set_option maxHeartbeats 4000000 in
theorem c_X4_oneAheadOf {l : Launch} (hst9 : l.stackTraces = false) {D : va_G} {X : Nat → ClassId} {ad : Nat → Nat → Nat} {M : Nat → Nat → Bool} {post : Option VV → TT → Prop} {px : String → TT → Prop} (o0 : Nat) (o1 : Nat) (t : TT) (h : P_X4_oneAheadOf M (fun r t1 => post (some (.inr (.inr (8, r)))) t1) px o0 o1 t) : CT l yX4_oneAheadOf (Cond.code yX4_oneAheadOf cX4_oneAheadOf 5 (some (.object "HeadwayDeep$Train")) :: LT) ({ frames := 0, cells := 0, slots := 0, locals := 0 } : Room) D X ad M [.inr (.inl (0, o0)), .inr (.inl (8, o1))] t 0 0 post px := by
  refine met_of_wp (by decide +kernel) (Nat.le_of_ble_eq_true rfl) ?_
  intro p e s m args below meth c A hx hb hml hts hown hK hnt hlocks hr hA hE
  have hR9 : Ready p l e ({ frames := 0, cells := 0, slots := 0, locals := 0 } : Room) s m args below meth c D X ad A M 5 cX4_oneAheadOf 0 0 post px RX4 3 (fldOf F_X4) N_X4_oneAheadOf (Q_X4_oneAheadOf M) (tabOf T_X4_oneAheadOf) H_X4_oneAheadOf := by
    refine ⟨hx, hb, hts, hown, hK, hnt, hlocks, hr, F_X4_ok, ?_, fun pc en h => tabOf_ok T_X4_oneAheadOf_ok h, ?_⟩
    · intro v9 ix n mc1 ms1 as t k hn hl h
      unfold N_X4_oneAheadOf at hn
      cases hn
    · intro pc E hE9; cases hE9
  have W51 : ∀ (k4 : Nat → Nat → Int32 → Int32 → TT → Prop) (hk4 : ∀ (o0 : Nat) (o1 : Nat) (q2 : Int32) (a3 : Int32) (t : TT), k4 o0 o1 q2 a3 t → Wat p l e ({ frames := 0, cells := 0, slots := 0, locals := 0 } : Room) s m args below meth c (QM below args s D X ad A M 0 0 post px) D X ad A M 5 4 [(0, .inr (.inl (0, o0))), (1, .inr (.inl (8, o1))), (2, .inr (.inr (8, q2))), (3, .inl a3)] [] t 0 0) (o0 : Nat) (o1 : Nat) (q2 : Int32) (a3 : Int32) (t : TT), B_X4_oneAheadOf_51 M (fun r t1 => post (some (.inr (.inr (8, r)))) t1) px k4 o0 o1 q2 a3 t → Wat p l e ({ frames := 0, cells := 0, slots := 0, locals := 0 } : Room) s m args below meth c (QM below args s D X ad A M 0 0 post px) D X ad A M 5 51 [(0, .inr (.inl (0, o0))), (1, .inr (.inl (8, o1))), (2, .inr (.inr (8, q2))), (3, .inl a3)] [] t 0 0 := by
    intro k4 hk4 o0 o1 q2 a3 t h
    refine wp_go hR9 (cs := S_X4_oneAheadOf) (Bk := (fun pc vs ws t => match pc with | 4 => (match vs, ws with | [.inr (.inl (0, o0)), .inr (.inl (8, o1)), .inr (.inr (8, q2)), .inl a3], [] => k4 o0 o1 q2 a3 t | _, _ => False) | _ => False)) ?_ 400 51 _ _ _ _ _ h
    intro pc q vs ws t hc hk
    split at hk
    · cases hc
      split at hk
      · exact hk4 _ _ _ _ _ hk
      · exact hk.elim
    · exact hk.elim
  have W48 : ∀ (k4 : Nat → Nat → Int32 → Int32 → TT → Prop) (hk4 : ∀ (o0 : Nat) (o1 : Nat) (q2 : Int32) (a3 : Int32) (t : TT), k4 o0 o1 q2 a3 t → Wat p l e ({ frames := 0, cells := 0, slots := 0, locals := 0 } : Room) s m args below meth c (QM below args s D X ad A M 0 0 post px) D X ad A M 5 4 [(0, .inr (.inl (0, o0))), (1, .inr (.inl (8, o1))), (2, .inr (.inr (8, q2))), (3, .inl a3)] [] t 0 0) (o0 : Nat) (o1 : Nat) (a3 : Int32) (o4 : Nat) (t : TT), B_X4_oneAheadOf_48 M (fun r t1 => post (some (.inr (.inr (8, r)))) t1) px k4 o0 o1 a3 o4 t → Wat p l e ({ frames := 0, cells := 0, slots := 0, locals := 0 } : Room) s m args below meth c (QM below args s D X ad A M 0 0 post px) D X ad A M 5 48 [(0, .inr (.inl (0, o0))), (1, .inr (.inl (8, o1))), (3, .inl a3), (4, .inr (.inl (8, o4)))] [] t 0 0 := by
    intro k4 hk4 o0 o1 a3 o4 t h
    refine wp_go hR9 (cs := S_X4_oneAheadOf) (Bk := (fun pc vs ws t => match pc with | 51 => (match vs, ws with | [.inr (.inl (0, o0)), .inr (.inl (8, o1)), .inr (.inr (8, q2)), .inl a3], [] => B_X4_oneAheadOf_51 M (fun r t1 => post (some (.inr (.inr (8, r)))) t1) px k4 o0 o1 q2 a3 t | _, _ => False) | _ => False)) ?_ 400 48 _ _ _ _ _ h
    intro pc q vs ws t hc hk
    split at hk
    · cases hc
      split at hk
      · exact W51 _ hk4 _ _ _ _ _ hk
      · exact hk.elim
    · exact hk.elim
  have W4 : ∀ (n : Nat) (o0 : Nat) (o1 : Nat) (q2 : Int32) (a3 : Int32) (t : TT), L_X4_oneAheadOf_4 M (fun r t1 => post (some (.inr (.inr (8, r)))) t1) px n o0 o1 q2 a3 t → Wat p l e ({ frames := 0, cells := 0, slots := 0, locals := 0 } : Room) s m args below meth c (QM below args s D X ad A M 0 0 post px) D X ad A M 5 4 [(0, .inr (.inl (0, o0))), (1, .inr (.inl (8, o1))), (2, .inr (.inr (8, q2))), (3, .inl a3)] [] t 0 0 := by
    intro n
    induction n with
    | zero =>
      intro o0 o1 q2 a3 t h
      exact h.elim
    | succ n ih =>
      intro o0 o1 q2 a3 t h
      refine wp_go hR9 (cs := S_X4_oneAheadOf) (Bk := (fun pc vs ws t => match pc with | 48 => (match vs, ws with | [.inr (.inl (0, o0)), .inr (.inl (8, o1)), .inl a3, .inr (.inl (8, o4))], [] => B_X4_oneAheadOf_48 M (fun r t1 => post (some (.inr (.inr (8, r)))) t1) px (L_X4_oneAheadOf_4 M (fun r t1 => post (some (.inr (.inr (8, r)))) t1) px n) o0 o1 a3 o4 t | _, _ => False) | 51 => (match vs, ws with | [.inr (.inl (0, o0)), .inr (.inl (8, o1)), .inr (.inr (8, q2)), .inl a3], [] => B_X4_oneAheadOf_51 M (fun r t1 => post (some (.inr (.inr (8, r)))) t1) px (L_X4_oneAheadOf_4 M (fun r t1 => post (some (.inr (.inr (8, r)))) t1) px n) o0 o1 q2 a3 t | _, _ => False) | _ => False)) ?_ 400 4 _ _ _ _ _ h
      intro pc q vs ws t hc hk
      split at hk
      · cases hc
        split at hk
        · exact W48 _ ih _ _ _ _ _ hk
        · exact hk.elim
      · cases hc
        split at hk
        · exact W51 _ ih _ _ _ _ _ hk
        · exact hk.elim
      · exact hk.elim
  refine wp_go hR9 (cs := S_X4_oneAheadOf) (Bk := (fun pc vs ws t => match pc with | 4 => (match vs, ws with | [.inr (.inl (0, o0)), .inr (.inl (8, o1)), .inr (.inr (8, q2)), .inl a3], [] => ∃ n9, L_X4_oneAheadOf_4 M (fun r t1 => post (some (.inr (.inr (8, r)))) t1) px n9 o0 o1 q2 a3 t | _, _ => False) | _ => False)) ?_ 400 0 _ _ _ _ _ h
  intro pc q vs ws t hc hk
  split at hk
  · cases hc
    split at hk
    · obtain ⟨n9, hk⟩ := hk
      exact W4 n9 _ _ _ _ _ hk
    · exact hk.elim
  · exact hk.elim
theorem k_X4_oneAheadOf (hx : p.tables.exec = Jvm.exec) (hb : c.code = b) (hml : c.maxLocals = nL) (hts : ∀ w ∈ LT, w.before args s = true) {own : String} (hown : s.vm.findClass own = some m.cls) (hK : va_K D vwCl (TYX X) s) (hA : ∀ q, s.heap.size ≤ q → A q) (hE : EX A s) (hst9 : l.stackTraces = false) {ix : Nat} (hl9 : Cond.methodLink own ix yX4_oneAheadOf ∈ LT) (hR : 1 ≤ R.frames ∧ 24 ≤ R.locals) (hmc : R.cells = mc) (hms : R.slots = ms) (h : PC_X4_oneAheadOf M as t k kx) : CallOK p l e R s m args below meth c Q D X ad A M nL b mc ms (.invokevirtual ix) 0 0 as t k kx := by
  unfold PC_X4_oneAheadOf at h
  split at h
  · exact call_V hx hb hml hts hown hK hA hE (c_X4_oneAheadOf hst9 _ _ t h.2) ⟨hl9, ws_X4_oneAheadOf.1, ws_X4_oneAheadOf.2.1, ws_X4_oneAheadOf.2.2.1, ws_X4_oneAheadOf.2.2.2⟩ (n := 1) (by decide +kernel) hR rfl rfl hmc hms rfl ⟨0, _, rfl, h.1, Or.inl rfl, rfl⟩
  · exact CallOK.congr (by simp only [List.map_cons]; congr 1; exact (if_neg h.1).symm) (call_V hx hb hml hts hown hK hA hE (c_X4_oneAheadOf hst9 _ _ t h.2.2) ⟨hl9, ws_X4_oneAheadOf.1, ws_X4_oneAheadOf.2.1, ws_X4_oneAheadOf.2.2.1, ws_X4_oneAheadOf.2.2.2⟩ (n := 1) (by decide +kernel) hR rfl rfl hmc hms rfl ⟨0, _, rfl, h.2.1, Or.inl rfl, rfl⟩)
  · exact h.elim
def Q_X4_limitFor (M : Nat → Nat → Bool) (ix : Nat) (as : List VV) (t : TT) (k : Option VV → TT → Prop) (kx : String → TT → Prop) : Prop := match ix with
  | 138 => PC_mmin as t k
  | 214 => PC_X4_oneAheadOf M as t k kx
  | _ => False
def N_X4_limitFor (v : Bool) (ix : Nat) : Option (Nat × Nat × Nat) := match v, ix with
  | false, 138 => some (2, 0, 0)
  | true, 214 => some (2, 0, 0)
  | _, _ => none
def S_X4_limitFor (pc : Nat) : Option (List (Nat × Nat × Nat) × List (Nat × Nat) × Nat × Nat) := match pc with
  | 77 => some ([(0, 1, 0), (1, 1, 8), (2, 0, 0), (4, 0, 0)], [], 0, 0)
  | 29 => some ([(0, 1, 0), (1, 1, 8), (2, 0, 0), (4, 0, 0)], [], 0, 0)
  | 26 => some ([(0, 1, 0), (1, 1, 8), (2, 0, 0)], [], 0, 0)
  | _ => none
def H_X4_limitFor (pc : Nat) : Option String := none
set_option maxRecDepth 100000 in
set_option maxHeartbeats 4000000 in
theorem c_X4_limitFor {l : Launch} (hst9 : l.stackTraces = false) {D : va_G} {X : Nat → ClassId} {ad : Nat → Nat → Nat} {M : Nat → Nat → Bool} {post : Option VV → TT → Prop} {px : String → TT → Prop} (o0 : Nat) (o1 : Nat) (t : TT) (h : P_X4_limitFor M (fun r t1 => post (some (.inl r)) t1) px o0 o1 t) : CT l yX4_limitFor (Cond.code yX4_limitFor cX4_limitFor 6 (some .int) :: LT) ({ frames := 1, cells := 0, slots := 0, locals := 24 } : Room) D X ad M [.inr (.inl (0, o0)), .inr (.inl (8, o1))] t 0 0 post px := by
  refine met_of_wp (by decide +kernel) (Nat.le_of_ble_eq_true rfl) ?_
  intro p e s m args below meth c A hx hb hml hts hown hK hnt hlocks hr hA hE
  have hR9 : Ready p l e ({ frames := 1, cells := 0, slots := 0, locals := 24 } : Room) s m args below meth c D X ad A M 6 cX4_limitFor 0 0 post px RX4 1 (fldOf F_X4) N_X4_limitFor (Q_X4_limitFor M) (tabOf T_X4_limitFor) H_X4_limitFor := by
    refine ⟨hx, hb, hts, hown, hK, hnt, hlocks, hr, F_X4_ok, ?_, fun pc en h => tabOf_ok T_X4_limitFor_ok h, ?_⟩
    · intro v9 ix n mc1 ms1 as t k hn hl h
      unfold N_X4_limitFor at hn
      split at hn
      · cases hn
        exact k_mmin hx hb hml hts hown (by decide +kernel) ⟨Nat.le_of_ble_eq_true rfl, Nat.le_of_ble_eq_true rfl⟩ rfl rfl h
      · cases hn
        exact k_X4_oneAheadOf hx hb hml hts hown hK hA hE hst9 (by decide +kernel) ⟨Nat.le_of_ble_eq_true rfl, Nat.le_of_ble_eq_true rfl⟩ rfl rfl h
      · cases hn
    · intro pc E hE9; cases hE9
  have W77 : ∀ (k29 : Nat → Nat → Int32 → Int32 → TT → Prop) (hk29 : ∀ (o0 : Nat) (o1 : Nat) (a2 : Int32) (a4 : Int32) (t : TT), k29 o0 o1 a2 a4 t → Wat p l e ({ frames := 1, cells := 0, slots := 0, locals := 24 } : Room) s m args below meth c (QM below args s D X ad A M 0 0 post px) D X ad A M 6 29 [(0, .inr (.inl (0, o0))), (1, .inr (.inl (8, o1))), (2, .inl a2), (4, .inl a4)] [] t 0 0) (o0 : Nat) (o1 : Nat) (a2 : Int32) (a4 : Int32) (t : TT), B_X4_limitFor_77 M (fun r t1 => post (some (.inl r)) t1) px k29 o0 o1 a2 a4 t → Wat p l e ({ frames := 1, cells := 0, slots := 0, locals := 24 } : Room) s m args below meth c (QM below args s D X ad A M 0 0 post px) D X ad A M 6 77 [(0, .inr (.inl (0, o0))), (1, .inr (.inl (8, o1))), (2, .inl a2), (4, .inl a4)] [] t 0 0 := by
    intro k29 hk29 o0 o1 a2 a4 t h
    refine wp_go hR9 (cs := S_X4_limitFor) (Bk := (fun pc vs ws t => match pc with | 29 => (match vs, ws with | [.inr (.inl (0, o0)), .inr (.inl (8, o1)), .inl a2, .inl a4], [] => k29 o0 o1 a2 a4 t | _, _ => False) | _ => False)) ?_ 400 77 _ _ _ _ _ h
    intro pc q vs ws t hc hk
    split at hk
    · cases hc
      split at hk
      · exact hk29 _ _ _ _ _ hk
      · exact hk.elim
    · exact hk.elim
  have W29 : ∀ (n : Nat) (o0 : Nat) (o1 : Nat) (a2 : Int32) (a4 : Int32) (t : TT), L_X4_limitFor_29 M (fun r t1 => post (some (.inl r)) t1) px n o0 o1 a2 a4 t → Wat p l e ({ frames := 1, cells := 0, slots := 0, locals := 24 } : Room) s m args below meth c (QM below args s D X ad A M 0 0 post px) D X ad A M 6 29 [(0, .inr (.inl (0, o0))), (1, .inr (.inl (8, o1))), (2, .inl a2), (4, .inl a4)] [] t 0 0 := by
    intro n
    induction n with
    | zero =>
      intro o0 o1 a2 a4 t h
      exact h.elim
    | succ n ih =>
      intro o0 o1 a2 a4 t h
      refine wp_go hR9 (cs := S_X4_limitFor) (Bk := (fun pc vs ws t => match pc with | 77 => (match vs, ws with | [.inr (.inl (0, o0)), .inr (.inl (8, o1)), .inl a2, .inl a4], [] => B_X4_limitFor_77 M (fun r t1 => post (some (.inl r)) t1) px (L_X4_limitFor_29 M (fun r t1 => post (some (.inl r)) t1) px n) o0 o1 a2 a4 t | _, _ => False) | _ => False)) ?_ 400 29 _ _ _ _ _ h
      intro pc q vs ws t hc hk
      split at hk
      · cases hc
        split at hk
        · exact W77 _ ih _ _ _ _ _ hk
        · exact hk.elim
      · exact hk.elim
  have W26 : ∀ (o0 : Nat) (o1 : Nat) (a2 : Int32) (t : TT), B_X4_limitFor_26 M (fun r t1 => post (some (.inl r)) t1) px o0 o1 a2 t → Wat p l e ({ frames := 1, cells := 0, slots := 0, locals := 24 } : Room) s m args below meth c (QM below args s D X ad A M 0 0 post px) D X ad A M 6 26 [(0, .inr (.inl (0, o0))), (1, .inr (.inl (8, o1))), (2, .inl a2)] [] t 0 0 := by
    intro o0 o1 a2 t h
    refine wp_go hR9 (cs := S_X4_limitFor) (Bk := (fun pc vs ws t => match pc with | 29 => (match vs, ws with | [.inr (.inl (0, o0)), .inr (.inl (8, o1)), .inl a2, .inl a4], [] => ∃ n9, L_X4_limitFor_29 M (fun r t1 => post (some (.inl r)) t1) px n9 o0 o1 a2 a4 t | _, _ => False) | _ => False)) ?_ 400 26 _ _ _ _ _ h
    intro pc q vs ws t hc hk
    split at hk
    · cases hc
      split at hk
      · obtain ⟨n9, hk⟩ := hk
        exact W29 n9 _ _ _ _ _ hk
      · exact hk.elim
    · exact hk.elim
  refine wp_go hR9 (cs := S_X4_limitFor) (Bk := (fun pc vs ws t => match pc with | 26 => (match vs, ws with | [.inr (.inl (0, o0)), .inr (.inl (8, o1)), .inl a2], [] => B_X4_limitFor_26 M (fun r t1 => post (some (.inl r)) t1) px o0 o1 a2 t | _, _ => False) | _ => False)) ?_ 400 0 _ _ _ _ _ h
  intro pc q vs ws t hc hk
  split at hk
  · cases hc
    split at hk
    · exact W26 _ _ _ _ hk
    · exact hk.elim
  · exact hk.elim
theorem k_X4_limitFor (hx : p.tables.exec = Jvm.exec) (hb : c.code = b) (hml : c.maxLocals = nL) (hts : ∀ w ∈ LT, w.before args s = true) {own : String} (hown : s.vm.findClass own = some m.cls) (hK : va_K D vwCl (TYX X) s) (hA : ∀ q, s.heap.size ≤ q → A q) (hE : EX A s) (hst9 : l.stackTraces = false) {ix : Nat} (hl9 : Cond.methodLink own ix yX4_limitFor ∈ LT) (hR : 2 ≤ R.frames ∧ 49 ≤ R.locals) (hmc : R.cells = mc) (hms : R.slots = ms) (h : PC_X4_limitFor M as t k kx) : CallOK p l e R s m args below meth c Q D X ad A M nL b mc ms (.invokevirtual ix) 0 0 as t k kx := by
  unfold PC_X4_limitFor at h
  split at h
  · exact call_V hx hb hml hts hown hK hA hE (c_X4_limitFor hst9 _ _ t h.2) ⟨hl9, ws_X4_limitFor.1, ws_X4_limitFor.2.1, ws_X4_limitFor.2.2.1, ws_X4_limitFor.2.2.2⟩ (n := 1) (by decide +kernel) hR rfl rfl hmc hms rfl ⟨0, _, rfl, h.1, Or.inl rfl, rfl⟩
  · exact CallOK.congr (by simp only [List.map_cons]; congr 1; exact (if_neg h.1).symm) (call_V hx hb hml hts hown hK hA hE (c_X4_limitFor hst9 _ _ t h.2.2) ⟨hl9, ws_X4_limitFor.1, ws_X4_limitFor.2.1, ws_X4_limitFor.2.2.1, ws_X4_limitFor.2.2.2⟩ (n := 1) (by decide +kernel) hR rfl rfl hmc hms rfl ⟨0, _, rfl, h.2.1, Or.inl rfl, rfl⟩)
  · exact h.elim
def Q_X4_dealLimits (M : Nat → Nat → Bool) (ix : Nat) (as : List VV) (t : TT) (k : Option VV → TT → Prop) (kx : String → TT → Prop) : Prop := match ix with
  | 207 => PC_X4_limitFor M as t k kx
  | _ => False
def N_X4_dealLimits (v : Bool) (ix : Nat) : Option (Nat × Nat × Nat) := match v, ix with
  | true, 207 => some (2, 0, 0)
  | _, _ => none
def S_X4_dealLimits (pc : Nat) : Option (List (Nat × Nat × Nat) × List (Nat × Nat) × Nat × Nat) := match pc with
  | 33 => some ([(0, 1, 0), (1, 0, 0)], [], 0, 0)
  | 2 => some ([(0, 1, 0), (1, 0, 0)], [], 0, 0)
  | _ => none
def H_X4_dealLimits (pc : Nat) : Option String := none
set_option maxRecDepth 100000 in
set_option maxHeartbeats 4000000 in
theorem c_X4_dealLimits {l : Launch} (hst9 : l.stackTraces = false) {D : va_G} {X : Nat → ClassId} {ad : Nat → Nat → Nat} {M : Nat → Nat → Bool} {post : Option VV → TT → Prop} {px : String → TT → Prop} (o0 : Nat) (t : TT) (h : P_X4_dealLimits M (fun t1 => post none t1) px o0 t) : CT l yX4_dealLimits (Cond.code yX4_dealLimits cX4_dealLimits 3 none :: LT) ({ frames := 2, cells := 0, slots := 0, locals := 49 } : Room) D X ad M [.inr (.inl (0, o0))] t 0 0 post px := by
  refine met_of_wp (by decide +kernel) (Nat.le_of_ble_eq_true rfl) ?_
  intro p e s m args below meth c A hx hb hml hts hown hK hnt hlocks hr hA hE
  have hR9 : Ready p l e ({ frames := 2, cells := 0, slots := 0, locals := 49 } : Room) s m args below meth c D X ad A M 3 cX4_dealLimits 0 0 post px RX4 0 (fldOf F_X4) N_X4_dealLimits (Q_X4_dealLimits M) (tabOf T_X4_dealLimits) H_X4_dealLimits := by
    refine ⟨hx, hb, hts, hown, hK, hnt, hlocks, hr, F_X4_ok, ?_, fun pc en h => tabOf_ok T_X4_dealLimits_ok h, ?_⟩
    · intro v9 ix n mc1 ms1 as t k hn hl h
      unfold N_X4_dealLimits at hn
      split at hn
      · cases hn
        exact k_X4_limitFor hx hb hml hts hown hK hA hE hst9 (by decide +kernel) ⟨Nat.le_of_ble_eq_true rfl, Nat.le_of_ble_eq_true rfl⟩ rfl rfl h
      · cases hn
    · intro pc E hE9; cases hE9
  have W33 : ∀ (k2 : Nat → Int32 → TT → Prop) (hk2 : ∀ (o0 : Nat) (a1 : Int32) (t : TT), k2 o0 a1 t → Wat p l e ({ frames := 2, cells := 0, slots := 0, locals := 49 } : Room) s m args below meth c (QM below args s D X ad A M 0 0 post px) D X ad A M 3 2 [(0, .inr (.inl (0, o0))), (1, .inl a1)] [] t 0 0) (o0 : Nat) (a1 : Int32) (t : TT), B_X4_dealLimits_33 M (fun t1 => post none t1) px k2 o0 a1 t → Wat p l e ({ frames := 2, cells := 0, slots := 0, locals := 49 } : Room) s m args below meth c (QM below args s D X ad A M 0 0 post px) D X ad A M 3 33 [(0, .inr (.inl (0, o0))), (1, .inl a1)] [] t 0 0 := by
    intro k2 hk2 o0 a1 t h
    refine wp_go hR9 (cs := S_X4_dealLimits) (Bk := (fun pc vs ws t => match pc with | 2 => (match vs, ws with | [.inr (.inl (0, o0)), .inl a1], [] => k2 o0 a1 t | _, _ => False) | _ => False)) ?_ 400 33 _ _ _ _ _ h
    intro pc q vs ws t hc hk
    split at hk
    · cases hc
      split at hk
      · exact hk2 _ _ _ hk
      · exact hk.elim
    · exact hk.elim
  have W2 : ∀ (n : Nat) (o0 : Nat) (a1 : Int32) (t : TT), L_X4_dealLimits_2 M (fun t1 => post none t1) px n o0 a1 t → Wat p l e ({ frames := 2, cells := 0, slots := 0, locals := 49 } : Room) s m args below meth c (QM below args s D X ad A M 0 0 post px) D X ad A M 3 2 [(0, .inr (.inl (0, o0))), (1, .inl a1)] [] t 0 0 := by
    intro n
    induction n with
    | zero =>
      intro o0 a1 t h
      exact h.elim
    | succ n ih =>
      intro o0 a1 t h
      refine wp_go hR9 (cs := S_X4_dealLimits) (Bk := (fun pc vs ws t => match pc with | 33 => (match vs, ws with | [.inr (.inl (0, o0)), .inl a1], [] => B_X4_dealLimits_33 M (fun t1 => post none t1) px (L_X4_dealLimits_2 M (fun t1 => post none t1) px n) o0 a1 t | _, _ => False) | _ => False)) ?_ 400 2 _ _ _ _ _ h
      intro pc q vs ws t hc hk
      split at hk
      · cases hc
        split at hk
        · exact W33 _ ih _ _ _ hk
        · exact hk.elim
      · exact hk.elim
  refine wp_go hR9 (cs := S_X4_dealLimits) (Bk := (fun pc vs ws t => match pc with | 2 => (match vs, ws with | [.inr (.inl (0, o0)), .inl a1], [] => ∃ n9, L_X4_dealLimits_2 M (fun t1 => post none t1) px n9 o0 a1 t | _, _ => False) | _ => False)) ?_ 400 0 _ _ _ _ _ h
  intro pc q vs ws t hc hk
  split at hk
  · cases hc
    split at hk
    · obtain ⟨n9, hk⟩ := hk
      exact W2 n9 _ _ _ hk
    · exact hk.elim
  · exact hk.elim
theorem k_X4_dealLimits (hx : p.tables.exec = Jvm.exec) (hb : c.code = b) (hml : c.maxLocals = nL) (hts : ∀ w ∈ LT, w.before args s = true) {own : String} (hown : s.vm.findClass own = some m.cls) (hK : va_K D vwCl (TYX X) s) (hA : ∀ q, s.heap.size ≤ q → A q) (hE : EX A s) (hst9 : l.stackTraces = false) {ix : Nat} (hl9 : Cond.methodLink own ix yX4_dealLimits ∈ LT) (hR : 3 ≤ R.frames ∧ 71 ≤ R.locals) (hmc : R.cells = mc) (hms : R.slots = ms) (h : PC_X4_dealLimits M as t k kx) : CallOK p l e R s m args below meth c Q D X ad A M nL b mc ms (.invokevirtual ix) 0 0 as t k kx := by
  unfold PC_X4_dealLimits at h
  split at h
  · exact call_V hx hb hml hts hown hK hA hE (c_X4_dealLimits hst9 _ t h.2) ⟨hl9, ws_X4_dealLimits.1, ws_X4_dealLimits.2.1, ws_X4_dealLimits.2.2.1, ws_X4_dealLimits.2.2.2⟩ (n := 0) (by decide +kernel) hR rfl rfl hmc hms rfl ⟨0, _, rfl, h.1, Or.inl rfl, rfl⟩
  · exact CallOK.congr (by simp only [List.map_cons]; congr 1; exact (if_neg h.1).symm) (call_V hx hb hml hts hown hK hA hE (c_X4_dealLimits hst9 _ t h.2.2) ⟨hl9, ws_X4_dealLimits.1, ws_X4_dealLimits.2.1, ws_X4_dealLimits.2.2.1, ws_X4_dealLimits.2.2.2⟩ (n := 0) (by decide +kernel) hR rfl rfl hmc hms rfl ⟨0, _, rfl, h.2.1, Or.inl rfl, rfl⟩)
  · exact h.elim
def Q_X4_close (M : Nat → Nat → Bool) (ix : Nat) (as : List VV) (t : TT) (k : Option VV → TT → Prop) (kx : String → TT → Prop) : Prop := match ix with
  | 44 => PC_X4_askThat M as t k kx
  | 57 => PC_X4_askNumber M as t k kx
  | 71 => PC_X4_canBeClosed M as t k kx
  | 75 => PC_X4_dealLimits M as t k kx
  | _ => False
def N_X4_close (v : Bool) (ix : Nat) : Option (Nat × Nat × Nat) := match v, ix with
  | false, 44 => some (1, 0, 0)
  | false, 57 => some (2, 0, 0)
  | true, 71 => some (2, 0, 0)
  | true, 75 => some (1, 0, 0)
  | _, _ => none
def S_X4_close (pc : Nat) : Option (List (Nat × Nat × Nat) × List (Nat × Nat) × Nat × Nat) := match pc with
  | 43 => some ([(0, 1, 0), (2, 0, 0), (3, 1, 7), (4, 0, 0)], [(0, 0)], 0, 0)
  | 38 => some ([(0, 1, 0), (2, 0, 0), (3, 1, 7), (4, 0, 0)], [], 0, 0)
  | _ => none
def H_X4_close (pc : Nat) : Option String := none
set_option maxRecDepth 100000 in
set_option maxHeartbeats 4000000 in
theorem c_X4_close {l : Launch} (hst9 : l.stackTraces = false) {D : va_G} {X : Nat → ClassId} {ad : Nat → Nat → Nat} {M : Nat → Nat → Bool} {post : Option VV → TT → Prop} {px : String → TT → Prop} (o0 : Nat) (a1 : Int32) (a2 : Int32) (t : TT) (h : P_X4_close M (fun r t1 => post (some (.inl r)) t1) px o0 a1 a2 t) : CT l yX4_close (Cond.code yX4_close cX4_close 5 (some .boolean) :: LT) ({ frames := 3, cells := 0, slots := 0, locals := 71 } : Room) D X ad M [.inr (.inl (0, o0)), .inl a1, .inl a2] t 0 0 post px := by
  refine met_of_wp (by decide +kernel) (Nat.le_of_ble_eq_true rfl) ?_
  intro p e s m args below meth c A hx hb hml hts hown hK hnt hlocks hr hA hE
  have hR9 : Ready p l e ({ frames := 3, cells := 0, slots := 0, locals := 71 } : Room) s m args below meth c D X ad A M 5 cX4_close 0 0 post px RX4 2 (fldOf F_X4) N_X4_close (Q_X4_close M) (tabOf T_X4_close) H_X4_close := by
    refine ⟨hx, hb, hts, hown, hK, hnt, hlocks, hr, F_X4_ok, ?_, fun pc en h => tabOf_ok T_X4_close_ok h, ?_⟩
    · intro v9 ix n mc1 ms1 as t k hn hl h
      unfold N_X4_close at hn
      split at hn
      · cases hn
        exact k_X4_askThat hx hb hml hts hown hK hA hE hst9 (by decide +kernel) ⟨Nat.le_of_ble_eq_true rfl, Nat.le_of_ble_eq_true rfl⟩ rfl rfl h
      · cases hn
        exact k_X4_askNumber hx hb hml hts hown hK hA hE hst9 (by decide +kernel) ⟨Nat.le_of_ble_eq_true rfl, Nat.le_of_ble_eq_true rfl⟩ rfl rfl h
      · cases hn
        exact k_X4_canBeClosed hx hb hml hts hown hK hA hE hst9 (by decide +kernel) ⟨Nat.le_of_ble_eq_true rfl, Nat.le_of_ble_eq_true rfl⟩ rfl rfl h
      · cases hn
        exact k_X4_dealLimits hx hb hml hts hown hK hA hE hst9 (by decide +kernel) ⟨Nat.le_of_ble_eq_true rfl, Nat.le_of_ble_eq_true rfl⟩ rfl rfl h
      · cases hn
    · intro pc E hE9; cases hE9
  have W43 : ∀ (o0 : Nat) (a2 : Int32) (o3 : Nat) (a4 : Int32) (s0 : Int32) (t : TT), B_X4_close_43 M (fun r t1 => post (some (.inl r)) t1) px o0 a2 o3 a4 s0 t → Wat p l e ({ frames := 3, cells := 0, slots := 0, locals := 71 } : Room) s m args below meth c (QM below args s D X ad A M 0 0 post px) D X ad A M 5 43 [(0, .inr (.inl (0, o0))), (2, .inl a2), (3, .inr (.inl (7, o3))), (4, .inl a4)] [.inl s0] t 0 0 := by
    intro o0 a2 o3 a4 s0 t h
    refine wp_go hR9 (cs := S_X4_close) (Bk := (fun _ _ _ _ => False)) ?_ 400 43 _ _ _ _ _ h
    intro pc q vs ws t hc hk
    exact hk.elim
  have W38 : ∀ (o0 : Nat) (a2 : Int32) (o3 : Nat) (a4 : Int32) (t : TT), B_X4_close_38 M (fun r t1 => post (some (.inl r)) t1) px o0 a2 o3 a4 t → Wat p l e ({ frames := 3, cells := 0, slots := 0, locals := 71 } : Room) s m args below meth c (QM below args s D X ad A M 0 0 post px) D X ad A M 5 38 [(0, .inr (.inl (0, o0))), (2, .inl a2), (3, .inr (.inl (7, o3))), (4, .inl a4)] [] t 0 0 := by
    intro o0 a2 o3 a4 t h
    refine wp_go hR9 (cs := S_X4_close) (Bk := (fun pc vs ws t => match pc with | 43 => (match vs, ws with | [.inr (.inl (0, o0)), .inl a2, .inr (.inl (7, o3)), .inl a4], [.inl s0] => B_X4_close_43 M (fun r t1 => post (some (.inl r)) t1) px o0 a2 o3 a4 s0 t | _, _ => False) | _ => False)) ?_ 400 38 _ _ _ _ _ h
    intro pc q vs ws t hc hk
    split at hk
    · cases hc
      split at hk
      · exact W43 _ _ _ _ _ _ hk
      · exact hk.elim
    · exact hk.elim
  refine wp_go hR9 (cs := S_X4_close) (Bk := (fun pc vs ws t => match pc with | 38 => (match vs, ws with | [.inr (.inl (0, o0)), .inl a2, .inr (.inl (7, o3)), .inl a4], [] => B_X4_close_38 M (fun r t1 => post (some (.inl r)) t1) px o0 a2 o3 a4 t | _, _ => False) | 43 => (match vs, ws with | [.inr (.inl (0, o0)), .inl a2, .inr (.inl (7, o3)), .inl a4], [.inl s0] => B_X4_close_43 M (fun r t1 => post (some (.inl r)) t1) px o0 a2 o3 a4 s0 t | _, _ => False) | _ => False)) ?_ 400 0 _ _ _ _ _ h
  intro pc q vs ws t hc hk
  split at hk
  · cases hc
    split at hk
    · exact W38 _ _ _ _ _ hk
    · exact hk.elim
  · cases hc
    split at hk
    · exact W43 _ _ _ _ _ _ hk
    · exact hk.elim
  · exact hk.elim
theorem k_X4_close (hx : p.tables.exec = Jvm.exec) (hb : c.code = b) (hml : c.maxLocals = nL) (hts : ∀ w ∈ LT, w.before args s = true) {own : String} (hown : s.vm.findClass own = some m.cls) (hK : va_K D vwCl (TYX X) s) (hA : ∀ q, s.heap.size ≤ q → A q) (hE : EX A s) (hst9 : l.stackTraces = false) {ix : Nat} (hl9 : Cond.methodLink own ix yX4_close ∈ LT) (hR : 4 ≤ R.frames ∧ 95 ≤ R.locals) (hmc : R.cells = mc) (hms : R.slots = ms) (h : PC_X4_close M as t k kx) : CallOK p l e R s m args below meth c Q D X ad A M nL b mc ms (.invokevirtual ix) 0 0 as t k kx := by
  unfold PC_X4_close at h
  split at h
  · exact call_V hx hb hml hts hown hK hA hE (c_X4_close hst9 _ _ _ t h.2) ⟨hl9, ws_X4_close.1, ws_X4_close.2.1, ws_X4_close.2.2.1, ws_X4_close.2.2.2⟩ (n := 2) (by decide +kernel) hR rfl rfl hmc hms rfl ⟨0, _, rfl, h.1, Or.inl rfl, rfl⟩
  · exact CallOK.congr (by simp only [List.map_cons]; congr 1; exact (if_neg h.1).symm) (call_V hx hb hml hts hown hK hA hE (c_X4_close hst9 _ _ _ t h.2.2) ⟨hl9, ws_X4_close.1, ws_X4_close.2.1, ws_X4_close.2.2.1, ws_X4_close.2.2.2⟩ (n := 2) (by decide +kernel) hR rfl rfl hmc hms rfl ⟨0, _, rfl, h.2.1, Or.inl rfl, rfl⟩)
  · exact h.elim
def Q_X4_askRange (M : Nat → Nat → Bool) (ix : Nat) (as : List VV) (t : TT) (k : Option VV → TT → Prop) (kx : String → TT → Prop) : Prop := False
def N_X4_askRange (v : Bool) (ix : Nat) : Option (Nat × Nat × Nat) := none
def S_X4_askRange (pc : Nat) : Option (List (Nat × Nat × Nat) × List (Nat × Nat) × Nat × Nat) := match pc with
  | 10 => some ([], [], 0, 0)
  | _ => none
def H_X4_askRange (pc : Nat) : Option String := match pc with
  | 10 => some IAE9
  | _ => none
set_option maxRecDepth 100000 in
set_option maxHeartbeats 4000000 in
theorem c_X4_askRange {l : Launch} (hst9 : l.stackTraces = false) {D : va_G} {X : Nat → ClassId} {ad : Nat → Nat → Nat} {M : Nat → Nat → Bool} {post : Option VV → TT → Prop} {px : String → TT → Prop} (a0 : Int32) (a1 : Int32) (a2 : Int32) (t : TT) (h : P_X4_askRange M (fun t1 => post none t1) px a0 a1 a2 t) : CT l yX4_askRange (Cond.code yX4_askRange cX4_askRange 3 none :: LT) ({ frames := 0, cells := 0, slots := 0, locals := 0 } : Room) D X ad M [.inl a0, .inl a1, .inl a2] t 0 0 post px := by
  refine met_of_wp (by decide +kernel) (Nat.le_of_ble_eq_true rfl) ?_
  intro p e s m args below meth c A hx hb hml hts hown hK hnt hlocks hr hA hE
  have hR9 : Ready p l e ({ frames := 0, cells := 0, slots := 0, locals := 0 } : Room) s m args below meth c D X ad A M 3 cX4_askRange 0 0 post px RX4 0 (fldOf F_X4) N_X4_askRange (Q_X4_askRange M) (tabOf T_X4_askRange) H_X4_askRange := by
    refine ⟨hx, hb, hts, hown, hK, hnt, hlocks, hr, F_X4_ok, ?_, fun pc en h => tabOf_ok T_X4_askRange_ok h, ?_⟩
    · intro v9 ix n mc1 ms1 as t k hn hl h
      unfold N_X4_askRange at hn
      cases hn
    · exact fun pc E hE9 loc st t cl sl hp h1 h2 h8 => absurd h1 (Nat.not_succ_le_zero _)
  have W10 : ∀ (t : TT), B_X4_askRange_10 M (fun t1 => post none t1) px t → Wat p l e ({ frames := 0, cells := 0, slots := 0, locals := 0 } : Room) s m args below meth c (QM below args s D X ad A M 0 0 post px) D X ad A M 3 10 [] [] t 0 0 := by
    intro t h
    refine wp_go hR9 (cs := S_X4_askRange) (Bk := (fun _ _ _ _ => False)) ?_ 400 10 _ _ _ _ _ h
    intro pc q vs ws t hc hk
    exact hk.elim
  refine wp_go hR9 (cs := S_X4_askRange) (Bk := (fun pc vs ws t => match pc with | 10 => (match vs, ws with | [], [] => B_X4_askRange_10 M (fun t1 => post none t1) px t | _, _ => False) | _ => False)) ?_ 400 0 _ _ _ _ _ h
  intro pc q vs ws t hc hk
  split at hk
  · cases hc
    split at hk
    · exact W10 _ hk
    · exact hk.elim
  · exact hk.elim
theorem k_X4_askRange (hx : p.tables.exec = Jvm.exec) (hb : c.code = b) (hml : c.maxLocals = nL) (hts : ∀ w ∈ LT, w.before args s = true) {own : String} (hown : s.vm.findClass own = some m.cls) (hK : va_K D vwCl (TYX X) s) (hA : ∀ q, s.heap.size ≤ q → A q) (hE : EX A s) (hst9 : l.stackTraces = false) {ix : Nat} (hl9 : Cond.methodLink own ix yX4_askRange ∈ LT) (hR : 1 ≤ R.frames ∧ 22 ≤ R.locals) (hmc : R.cells = mc) (hms : R.slots = ms) (h : PC_X4_askRange M as t k kx) : CallOK p l e R s m args below meth c Q D X ad A M nL b mc ms (.invokestatic ix) 0 0 as t k kx := by
  unfold PC_X4_askRange at h
  split at h
  · exact call_S hx hb hml hts hown hK hA hE (c_X4_askRange hst9 _ _ _ t h) ⟨hl9, ws_X4_askRange.1, ws_X4_askRange.2.1, ws_X4_askRange.2.2⟩ (n := 3) (by decide +kernel) hR rfl rfl hmc hms rfl
  · exact h.elim
def Q_X4_speed (M : Nat → Nat → Bool) (ix : Nat) (as : List VV) (t : TT) (k : Option VV → TT → Prop) (kx : String → TT → Prop) : Prop := match ix with
  | 37 => PC_X4_askRange M as t k kx
  | _ => False
def N_X4_speed (v : Bool) (ix : Nat) : Option (Nat × Nat × Nat) := match v, ix with
  | false, 37 => some (3, 0, 0)
  | _, _ => none
def S_X4_speed (pc : Nat) : Option (List (Nat × Nat × Nat) × List (Nat × Nat) × Nat × Nat) := none
def H_X4_speed (pc : Nat) : Option String := none
set_option maxRecDepth 100000 in
set_option maxHeartbeats 4000000 in
theorem c_X4_speed {l : Launch} (hst9 : l.stackTraces = false) {D : va_G} {X : Nat → ClassId} {ad : Nat → Nat → Nat} {M : Nat → Nat → Bool} {post : Option VV → TT → Prop} {px : String → TT → Prop} (o0 : Nat) (a1 : Int32) (t : TT) (h : P_X4_speed M (fun r t1 => post (some (.inl r)) t1) px o0 a1 t) : CT l yX4_speed (Cond.code yX4_speed cX4_speed 3 (some .int) :: LT) ({ frames := 1, cells := 0, slots := 0, locals := 22 } : Room) D X ad M [.inr (.inl (0, o0)), .inl a1] t 0 0 post px := by
  refine met_of_wp (by decide +kernel) (Nat.le_of_ble_eq_true rfl) ?_
  intro p e s m args below meth c A hx hb hml hts hown hK hnt hlocks hr hA hE
  have hR9 : Ready p l e ({ frames := 1, cells := 0, slots := 0, locals := 22 } : Room) s m args below meth c D X ad A M 3 cX4_speed 0 0 post px RX4 1 (fldOf F_X4) N_X4_speed (Q_X4_speed M) (tabOf T_X4_speed) H_X4_speed := by
    refine ⟨hx, hb, hts, hown, hK, hnt, hlocks, hr, F_X4_ok, ?_, fun pc en h => tabOf_ok T_X4_speed_ok h, ?_⟩
    · intro v9 ix n mc1 ms1 as t k hn hl h
      unfold N_X4_speed at hn
      split at hn
      · cases hn
        exact k_X4_askRange hx hb hml hts hown hK hA hE hst9 (by decide +kernel) ⟨Nat.le_of_ble_eq_true rfl, Nat.le_of_ble_eq_true rfl⟩ rfl rfl h
      · cases hn
    · intro pc E hE9; cases hE9
  refine wp_go hR9 (cs := S_X4_speed) (Bk := (fun _ _ _ _ => False)) ?_ 400 0 _ _ _ _ _ h
  intro pc q vs ws t hc hk
  exact hk.elim
theorem k_X4_speed (hx : p.tables.exec = Jvm.exec) (hb : c.code = b) (hml : c.maxLocals = nL) (hts : ∀ w ∈ LT, w.before args s = true) {own : String} (hown : s.vm.findClass own = some m.cls) (hK : va_K D vwCl (TYX X) s) (hA : ∀ q, s.heap.size ≤ q → A q) (hE : EX A s) (hst9 : l.stackTraces = false) {ix : Nat} (hl9 : Cond.methodLink own ix yX4_speed ∈ LT) (hR : 2 ≤ R.frames ∧ 44 ≤ R.locals) (hmc : R.cells = mc) (hms : R.slots = ms) (h : PC_X4_speed M as t k kx) : CallOK p l e R s m args below meth c Q D X ad A M nL b mc ms (.invokevirtual ix) 0 0 as t k kx := by
  unfold PC_X4_speed at h
  split at h
  · exact call_V hx hb hml hts hown hK hA hE (c_X4_speed hst9 _ _ t h.2) ⟨hl9, ws_X4_speed.1, ws_X4_speed.2.1, ws_X4_speed.2.2.1, ws_X4_speed.2.2.2⟩ (n := 1) (by decide +kernel) hR rfl rfl hmc hms rfl ⟨0, _, rfl, h.1, Or.inl rfl, rfl⟩
  · exact CallOK.congr (by simp only [List.map_cons]; congr 1; exact (if_neg h.1).symm) (call_V hx hb hml hts hown hK hA hE (c_X4_speed hst9 _ _ t h.2.2) ⟨hl9, ws_X4_speed.1, ws_X4_speed.2.1, ws_X4_speed.2.2.1, ws_X4_speed.2.2.2⟩ (n := 1) (by decide +kernel) hR rfl rfl hmc hms rfl ⟨0, _, rfl, h.2.1, Or.inl rfl, rfl⟩)
  · exact h.elim
def Q_X4_trainIs (M : Nat → Nat → Bool) (ix : Nat) (as : List VV) (t : TT) (k : Option VV → TT → Prop) (kx : String → TT → Prop) : Prop := match ix with
  | 37 => PC_X4_askRange M as t k kx
  | 57 => PC_X4_askNumber M as t k kx
  | 89 => PC_X2_tell M as t k kx
  | _ => False
def N_X4_trainIs (v : Bool) (ix : Nat) : Option (Nat × Nat × Nat) := match v, ix with
  | false, 37 => some (3, 0, 0)
  | false, 57 => some (2, 0, 0)
  | true, 89 => some (2, 0, 0)
  | _, _ => none
def S_X4_trainIs (pc : Nat) : Option (List (Nat × Nat × Nat) × List (Nat × Nat) × Nat × Nat) := none
def H_X4_trainIs (pc : Nat) : Option String := none
set_option maxRecDepth 100000 in
set_option maxHeartbeats 4000000 in
theorem c_X4_trainIs {l : Launch} (hst9 : l.stackTraces = false) {D : va_G} {X : Nat → ClassId} {ad : Nat → Nat → Nat} {M : Nat → Nat → Bool} {post : Option VV → TT → Prop} {px : String → TT → Prop} (o0 : Nat) (a1 : Int32) (a2 : Int32) (t : TT) (h : P_X4_trainIs M (fun r t1 => post (some (.inl r)) t1) px o0 a1 a2 t) : CT l yX4_trainIs (Cond.code yX4_trainIs cX4_trainIs 3 (some .int) :: LT) ({ frames := 1, cells := 0, slots := 0, locals := 22 } : Room) D X ad M [.inr (.inl (0, o0)), .inl a1, .inl a2] t 0 0 post px := by
  refine met_of_wp (by decide +kernel) (Nat.le_of_ble_eq_true rfl) ?_
  intro p e s m args below meth c A hx hb hml hts hown hK hnt hlocks hr hA hE
  have hR9 : Ready p l e ({ frames := 1, cells := 0, slots := 0, locals := 22 } : Room) s m args below meth c D X ad A M 3 cX4_trainIs 0 0 post px RX4 1 (fldOf F_X4) N_X4_trainIs (Q_X4_trainIs M) (tabOf T_X4_trainIs) H_X4_trainIs := by
    refine ⟨hx, hb, hts, hown, hK, hnt, hlocks, hr, F_X4_ok, ?_, fun pc en h => tabOf_ok T_X4_trainIs_ok h, ?_⟩
    · intro v9 ix n mc1 ms1 as t k hn hl h
      unfold N_X4_trainIs at hn
      split at hn
      · cases hn
        exact k_X4_askRange hx hb hml hts hown hK hA hE hst9 (by decide +kernel) ⟨Nat.le_of_ble_eq_true rfl, Nat.le_of_ble_eq_true rfl⟩ rfl rfl h
      · cases hn
        exact k_X4_askNumber hx hb hml hts hown hK hA hE hst9 (by decide +kernel) ⟨Nat.le_of_ble_eq_true rfl, Nat.le_of_ble_eq_true rfl⟩ rfl rfl h
      · cases hn
        exact k_X2_tell hx hb hml hts hown hK hA hE hst9 (by decide +kernel) ⟨Nat.le_of_ble_eq_true rfl, Nat.le_of_ble_eq_true rfl⟩ rfl rfl h
      · cases hn
    · intro pc E hE9; cases hE9
  refine wp_go hR9 (cs := S_X4_trainIs) (Bk := (fun _ _ _ _ => False)) ?_ 400 0 _ _ _ _ _ h
  intro pc q vs ws t hc hk
  exact hk.elim
theorem k_X4_trainIs (hx : p.tables.exec = Jvm.exec) (hb : c.code = b) (hml : c.maxLocals = nL) (hts : ∀ w ∈ LT, w.before args s = true) {own : String} (hown : s.vm.findClass own = some m.cls) (hK : va_K D vwCl (TYX X) s) (hA : ∀ q, s.heap.size ≤ q → A q) (hE : EX A s) (hst9 : l.stackTraces = false) {ix : Nat} (hl9 : Cond.methodLink own ix yX4_trainIs ∈ LT) (hR : 2 ≤ R.frames ∧ 44 ≤ R.locals) (hmc : R.cells = mc) (hms : R.slots = ms) (h : PC_X4_trainIs M as t k kx) : CallOK p l e R s m args below meth c Q D X ad A M nL b mc ms (.invokevirtual ix) 0 0 as t k kx := by
  unfold PC_X4_trainIs at h
  split at h
  · exact call_V hx hb hml hts hown hK hA hE (c_X4_trainIs hst9 _ _ _ t h.2) ⟨hl9, ws_X4_trainIs.1, ws_X4_trainIs.2.1, ws_X4_trainIs.2.2.1, ws_X4_trainIs.2.2.2⟩ (n := 2) (by decide +kernel) hR rfl rfl hmc hms rfl ⟨0, _, rfl, h.1, Or.inl rfl, rfl⟩
  · exact CallOK.congr (by simp only [List.map_cons]; congr 1; exact (if_neg h.1).symm) (call_V hx hb hml hts hown hK hA hE (c_X4_trainIs hst9 _ _ _ t h.2.2) ⟨hl9, ws_X4_trainIs.1, ws_X4_trainIs.2.1, ws_X4_trainIs.2.2.1, ws_X4_trainIs.2.2.2⟩ (n := 2) (by decide +kernel) hR rfl rfl hmc hms rfl ⟨0, _, rfl, h.2.1, Or.inl rfl, rfl⟩)
  · exact h.elim
def Q_X4_slip (M : Nat → Nat → Bool) (ix : Nat) (as : List VV) (t : TT) (k : Option VV → TT → Prop) (kx : String → TT → Prop) : Prop := match ix with
  | 37 => PC_X4_askRange M as t k kx
  | 57 => PC_X4_askNumber M as t k kx
  | _ => False
def N_X4_slip (v : Bool) (ix : Nat) : Option (Nat × Nat × Nat) := match v, ix with
  | false, 37 => some (3, 0, 0)
  | false, 57 => some (2, 0, 0)
  | _, _ => none
def S_X4_slip (pc : Nat) : Option (List (Nat × Nat × Nat) × List (Nat × Nat) × Nat × Nat) := none
def H_X4_slip (pc : Nat) : Option String := none
set_option maxRecDepth 100000 in
set_option maxHeartbeats 4000000 in
theorem c_X4_slip {l : Launch} (hst9 : l.stackTraces = false) {D : va_G} {X : Nat → ClassId} {ad : Nat → Nat → Nat} {M : Nat → Nat → Bool} {post : Option VV → TT → Prop} {px : String → TT → Prop} (o0 : Nat) (a1 : Int32) (a2 : Int32) (t : TT) (h : P_X4_slip M (fun r t1 => post (some (.inl r)) t1) px o0 a1 a2 t) : CT l yX4_slip (Cond.code yX4_slip cX4_slip 5 (some .int) :: LT) ({ frames := 1, cells := 0, slots := 0, locals := 22 } : Room) D X ad M [.inr (.inl (0, o0)), .inl a1, .inl a2] t 0 0 post px := by
  refine met_of_wp (by decide +kernel) (Nat.le_of_ble_eq_true rfl) ?_
  intro p e s m args below meth c A hx hb hml hts hown hK hnt hlocks hr hA hE
  have hR9 : Ready p l e ({ frames := 1, cells := 0, slots := 0, locals := 22 } : Room) s m args below meth c D X ad A M 5 cX4_slip 0 0 post px RX4 1 (fldOf F_X4) N_X4_slip (Q_X4_slip M) (tabOf T_X4_slip) H_X4_slip := by
    refine ⟨hx, hb, hts, hown, hK, hnt, hlocks, hr, F_X4_ok, ?_, fun pc en h => tabOf_ok T_X4_slip_ok h, ?_⟩
    · intro v9 ix n mc1 ms1 as t k hn hl h
      unfold N_X4_slip at hn
      split at hn
      · cases hn
        exact k_X4_askRange hx hb hml hts hown hK hA hE hst9 (by decide +kernel) ⟨Nat.le_of_ble_eq_true rfl, Nat.le_of_ble_eq_true rfl⟩ rfl rfl h
      · cases hn
        exact k_X4_askNumber hx hb hml hts hown hK hA hE hst9 (by decide +kernel) ⟨Nat.le_of_ble_eq_true rfl, Nat.le_of_ble_eq_true rfl⟩ rfl rfl h
      · cases hn
    · intro pc E hE9; cases hE9
  refine wp_go hR9 (cs := S_X4_slip) (Bk := (fun _ _ _ _ => False)) ?_ 400 0 _ _ _ _ _ h
  intro pc q vs ws t hc hk
  exact hk.elim
theorem k_X4_slip (hx : p.tables.exec = Jvm.exec) (hb : c.code = b) (hml : c.maxLocals = nL) (hts : ∀ w ∈ LT, w.before args s = true) {own : String} (hown : s.vm.findClass own = some m.cls) (hK : va_K D vwCl (TYX X) s) (hA : ∀ q, s.heap.size ≤ q → A q) (hE : EX A s) (hst9 : l.stackTraces = false) {ix : Nat} (hl9 : Cond.methodLink own ix yX4_slip ∈ LT) (hR : 2 ≤ R.frames ∧ 46 ≤ R.locals) (hmc : R.cells = mc) (hms : R.slots = ms) (h : PC_X4_slip M as t k kx) : CallOK p l e R s m args below meth c Q D X ad A M nL b mc ms (.invokevirtual ix) 0 0 as t k kx := by
  unfold PC_X4_slip at h
  split at h
  · exact call_V hx hb hml hts hown hK hA hE (c_X4_slip hst9 _ _ _ t h.2) ⟨hl9, ws_X4_slip.1, ws_X4_slip.2.1, ws_X4_slip.2.2.1, ws_X4_slip.2.2.2⟩ (n := 2) (by decide +kernel) hR rfl rfl hmc hms rfl ⟨0, _, rfl, h.1, Or.inl rfl, rfl⟩
  · exact CallOK.congr (by simp only [List.map_cons]; congr 1; exact (if_neg h.1).symm) (call_V hx hb hml hts hown hK hA hE (c_X4_slip hst9 _ _ _ t h.2.2) ⟨hl9, ws_X4_slip.1, ws_X4_slip.2.1, ws_X4_slip.2.2.1, ws_X4_slip.2.2.2⟩ (n := 2) (by decide +kernel) hR rfl rfl hmc hms rfl ⟨0, _, rfl, h.2.1, Or.inl rfl, rfl⟩)
  · exact h.elim
def Q_X4_silent (M : Nat → Nat → Bool) (ix : Nat) (as : List VV) (t : TT) (k : Option VV → TT → Prop) (kx : String → TT → Prop) : Prop := match ix with
  | 57 => PC_X4_askNumber M as t k kx
  | _ => False
def N_X4_silent (v : Bool) (ix : Nat) : Option (Nat × Nat × Nat) := match v, ix with
  | false, 57 => some (2, 0, 0)
  | _, _ => none
def S_X4_silent (pc : Nat) : Option (List (Nat × Nat × Nat) × List (Nat × Nat) × Nat × Nat) := none
def H_X4_silent (pc : Nat) : Option String := none
set_option maxRecDepth 100000 in
set_option maxHeartbeats 4000000 in
theorem c_X4_silent {l : Launch} (hst9 : l.stackTraces = false) {D : va_G} {X : Nat → ClassId} {ad : Nat → Nat → Nat} {M : Nat → Nat → Bool} {post : Option VV → TT → Prop} {px : String → TT → Prop} (o0 : Nat) (a1 : Int32) (a2 : Int32) (t : TT) (h : P_X4_silent M (fun r t1 => post (some (.inl r)) t1) px o0 a1 a2 t) : CT l yX4_silent (Cond.code yX4_silent cX4_silent 5 (some .boolean) :: LT) ({ frames := 1, cells := 0, slots := 0, locals := 21 } : Room) D X ad M [.inr (.inl (0, o0)), .inl a1, .inl a2] t 0 0 post px := by
  refine met_of_wp (by decide +kernel) (Nat.le_of_ble_eq_true rfl) ?_
  intro p e s m args below meth c A hx hb hml hts hown hK hnt hlocks hr hA hE
  have hR9 : Ready p l e ({ frames := 1, cells := 0, slots := 0, locals := 21 } : Room) s m args below meth c D X ad A M 5 cX4_silent 0 0 post px RX4 2 (fldOf F_X4) N_X4_silent (Q_X4_silent M) (tabOf T_X4_silent) H_X4_silent := by
    refine ⟨hx, hb, hts, hown, hK, hnt, hlocks, hr, F_X4_ok, ?_, fun pc en h => tabOf_ok T_X4_silent_ok h, ?_⟩
    · intro v9 ix n mc1 ms1 as t k hn hl h
      unfold N_X4_silent at hn
      split at hn
      · cases hn
        exact k_X4_askNumber hx hb hml hts hown hK hA hE hst9 (by decide +kernel) ⟨Nat.le_of_ble_eq_true rfl, Nat.le_of_ble_eq_true rfl⟩ rfl rfl h
      · cases hn
    · intro pc E hE9; cases hE9
  refine wp_go hR9 (cs := S_X4_silent) (Bk := (fun _ _ _ _ => False)) ?_ 400 0 _ _ _ _ _ h
  intro pc q vs ws t hc hk
  exact hk.elim
theorem k_X4_silent (hx : p.tables.exec = Jvm.exec) (hb : c.code = b) (hml : c.maxLocals = nL) (hts : ∀ w ∈ LT, w.before args s = true) {own : String} (hown : s.vm.findClass own = some m.cls) (hK : va_K D vwCl (TYX X) s) (hA : ∀ q, s.heap.size ≤ q → A q) (hE : EX A s) (hst9 : l.stackTraces = false) {ix : Nat} (hl9 : Cond.methodLink own ix yX4_silent ∈ LT) (hR : 2 ≤ R.frames ∧ 45 ≤ R.locals) (hmc : R.cells = mc) (hms : R.slots = ms) (h : PC_X4_silent M as t k kx) : CallOK p l e R s m args below meth c Q D X ad A M nL b mc ms (.invokevirtual ix) 0 0 as t k kx := by
  unfold PC_X4_silent at h
  split at h
  · exact call_V hx hb hml hts hown hK hA hE (c_X4_silent hst9 _ _ _ t h.2) ⟨hl9, ws_X4_silent.1, ws_X4_silent.2.1, ws_X4_silent.2.2.1, ws_X4_silent.2.2.2⟩ (n := 2) (by decide +kernel) hR rfl rfl hmc hms rfl ⟨0, _, rfl, h.1, Or.inl rfl, rfl⟩
  · exact CallOK.congr (by simp only [List.map_cons]; congr 1; exact (if_neg h.1).symm) (call_V hx hb hml hts hown hK hA hE (c_X4_silent hst9 _ _ _ t h.2.2) ⟨hl9, ws_X4_silent.1, ws_X4_silent.2.1, ws_X4_silent.2.2.1, ws_X4_silent.2.2.2⟩ (n := 2) (by decide +kernel) hR rfl rfl hmc hms rfl ⟨0, _, rfl, h.2.1, Or.inl rfl, rfl⟩)
  · exact h.elim
def Q_X4_emergency (M : Nat → Nat → Bool) (ix : Nat) (as : List VV) (t : TT) (k : Option VV → TT → Prop) (kx : String → TT → Prop) : Prop := match ix with
  | 57 => PC_X4_askNumber M as t k kx
  | _ => False
def N_X4_emergency (v : Bool) (ix : Nat) : Option (Nat × Nat × Nat) := match v, ix with
  | false, 57 => some (2, 0, 0)
  | _, _ => none
def S_X4_emergency (pc : Nat) : Option (List (Nat × Nat × Nat) × List (Nat × Nat) × Nat × Nat) := match pc with
  | 27 => some ([(2, 1, 8)], [], 0, 0)
  | _ => none
def H_X4_emergency (pc : Nat) : Option String := none
set_option maxRecDepth 100000 in
set_option maxHeartbeats 4000000 in
theorem c_X4_emergency {l : Launch} (hst9 : l.stackTraces = false) {D : va_G} {X : Nat → ClassId} {ad : Nat → Nat → Nat} {M : Nat → Nat → Bool} {post : Option VV → TT → Prop} {px : String → TT → Prop} (o0 : Nat) (a1 : Int32) (t : TT) (h : P_X4_emergency M (fun r t1 => post (some (.inl r)) t1) px o0 a1 t) : CT l yX4_emergency (Cond.code yX4_emergency cX4_emergency 3 (some .boolean) :: LT) ({ frames := 1, cells := 0, slots := 0, locals := 21 } : Room) D X ad M [.inr (.inl (0, o0)), .inl a1] t 0 0 post px := by
  refine met_of_wp (by decide +kernel) (Nat.le_of_ble_eq_true rfl) ?_
  intro p e s m args below meth c A hx hb hml hts hown hK hnt hlocks hr hA hE
  have hR9 : Ready p l e ({ frames := 1, cells := 0, slots := 0, locals := 21 } : Room) s m args below meth c D X ad A M 3 cX4_emergency 0 0 post px RX4 2 (fldOf F_X4) N_X4_emergency (Q_X4_emergency M) (tabOf T_X4_emergency) H_X4_emergency := by
    refine ⟨hx, hb, hts, hown, hK, hnt, hlocks, hr, F_X4_ok, ?_, fun pc en h => tabOf_ok T_X4_emergency_ok h, ?_⟩
    · intro v9 ix n mc1 ms1 as t k hn hl h
      unfold N_X4_emergency at hn
      split at hn
      · cases hn
        exact k_X4_askNumber hx hb hml hts hown hK hA hE hst9 (by decide +kernel) ⟨Nat.le_of_ble_eq_true rfl, Nat.le_of_ble_eq_true rfl⟩ rfl rfl h
      · cases hn
    · intro pc E hE9; cases hE9
  have W27 : ∀ (o2 : Nat) (t : TT), B_X4_emergency_27 M (fun r t1 => post (some (.inl r)) t1) px o2 t → Wat p l e ({ frames := 1, cells := 0, slots := 0, locals := 21 } : Room) s m args below meth c (QM below args s D X ad A M 0 0 post px) D X ad A M 3 27 [(2, .inr (.inl (8, o2)))] [] t 0 0 := by
    intro o2 t h
    refine wp_go hR9 (cs := S_X4_emergency) (Bk := (fun _ _ _ _ => False)) ?_ 400 27 _ _ _ _ _ h
    intro pc q vs ws t hc hk
    exact hk.elim
  refine wp_go hR9 (cs := S_X4_emergency) (Bk := (fun pc vs ws t => match pc with | 27 => (match vs, ws with | [.inr (.inl (8, o2))], [] => B_X4_emergency_27 M (fun r t1 => post (some (.inl r)) t1) px o2 t | _, _ => False) | _ => False)) ?_ 400 0 _ _ _ _ _ h
  intro pc q vs ws t hc hk
  split at hk
  · cases hc
    split at hk
    · exact W27 _ _ hk
    · exact hk.elim
  · exact hk.elim
theorem k_X4_emergency (hx : p.tables.exec = Jvm.exec) (hb : c.code = b) (hml : c.maxLocals = nL) (hts : ∀ w ∈ LT, w.before args s = true) {own : String} (hown : s.vm.findClass own = some m.cls) (hK : va_K D vwCl (TYX X) s) (hA : ∀ q, s.heap.size ≤ q → A q) (hE : EX A s) (hst9 : l.stackTraces = false) {ix : Nat} (hl9 : Cond.methodLink own ix yX4_emergency ∈ LT) (hR : 2 ≤ R.frames ∧ 43 ≤ R.locals) (hmc : R.cells = mc) (hms : R.slots = ms) (h : PC_X4_emergency M as t k kx) : CallOK p l e R s m args below meth c Q D X ad A M nL b mc ms (.invokevirtual ix) 0 0 as t k kx := by
  unfold PC_X4_emergency at h
  split at h
  · exact call_V hx hb hml hts hown hK hA hE (c_X4_emergency hst9 _ _ t h.2) ⟨hl9, ws_X4_emergency.1, ws_X4_emergency.2.1, ws_X4_emergency.2.2.1, ws_X4_emergency.2.2.2⟩ (n := 1) (by decide +kernel) hR rfl rfl hmc hms rfl ⟨0, _, rfl, h.1, Or.inl rfl, rfl⟩
  · exact CallOK.congr (by simp only [List.map_cons]; congr 1; exact (if_neg h.1).symm) (call_V hx hb hml hts hown hK hA hE (c_X4_emergency hst9 _ _ t h.2.2) ⟨hl9, ws_X4_emergency.1, ws_X4_emergency.2.1, ws_X4_emergency.2.2.1, ws_X4_emergency.2.2.2⟩ (n := 1) (by decide +kernel) hR rfl rfl hmc hms rfl ⟨0, _, rfl, h.2.1, Or.inl rfl, rfl⟩)
  · exact h.elim
def Q_X4_countHolding (M : Nat → Nat → Bool) (ix : Nat) (as : List VV) (t : TT) (k : Option VV → TT → Prop) (kx : String → TT → Prop) : Prop := match ix with
  | 246 => PC_mmax as t k
  | _ => False
def N_X4_countHolding (v : Bool) (ix : Nat) : Option (Nat × Nat × Nat) := match v, ix with
  | false, 246 => some (2, 0, 0)
  | _, _ => none
def S_X4_countHolding (pc : Nat) : Option (List (Nat × Nat × Nat) × List (Nat × Nat) × Nat × Nat) := match pc with
  | 2 => some ([(0, 1, 0), (1, 0, 0)], [], 0, 0)
  | _ => none
def H_X4_countHolding (pc : Nat) : Option String := none
set_option maxRecDepth 100000 in
set_option maxHeartbeats 4000000 in
theorem c_X4_countHolding {l : Launch} (hst9 : l.stackTraces = false) {D : va_G} {X : Nat → ClassId} {ad : Nat → Nat → Nat} {M : Nat → Nat → Bool} {post : Option VV → TT → Prop} {px : String → TT → Prop} (o0 : Nat) (t : TT) (h : P_X4_countHolding M (fun t1 => post none t1) px o0 t) : CT l yX4_countHolding (Cond.code yX4_countHolding cX4_countHolding 2 none :: LT) ({ frames := 1, cells := 0, slots := 0, locals := 21 } : Room) D X ad M [.inr (.inl (0, o0))] t 0 0 post px := by
  refine met_of_wp (by decide +kernel) (Nat.le_of_ble_eq_true rfl) ?_
  intro p e s m args below meth c A hx hb hml hts hown hK hnt hlocks hr hA hE
  have hR9 : Ready p l e ({ frames := 1, cells := 0, slots := 0, locals := 21 } : Room) s m args below meth c D X ad A M 2 cX4_countHolding 0 0 post px RX4 0 (fldOf F_X4) N_X4_countHolding (Q_X4_countHolding M) (tabOf T_X4_countHolding) H_X4_countHolding := by
    refine ⟨hx, hb, hts, hown, hK, hnt, hlocks, hr, F_X4_ok, ?_, fun pc en h => tabOf_ok T_X4_countHolding_ok h, ?_⟩
    · intro v9 ix n mc1 ms1 as t k hn hl h
      unfold N_X4_countHolding at hn
      split at hn
      · cases hn
        exact k_mmax hx hb hml hts hown (by decide +kernel) ⟨Nat.le_of_ble_eq_true rfl, Nat.le_of_ble_eq_true rfl⟩ rfl rfl h
      · cases hn
    · intro pc E hE9; cases hE9
  have W2 : ∀ (n : Nat) (o0 : Nat) (a1 : Int32) (t : TT), L_X4_countHolding_2 M (fun t1 => post none t1) px n o0 a1 t → Wat p l e ({ frames := 1, cells := 0, slots := 0, locals := 21 } : Room) s m args below meth c (QM below args s D X ad A M 0 0 post px) D X ad A M 2 2 [(0, .inr (.inl (0, o0))), (1, .inl a1)] [] t 0 0 := by
    intro n
    induction n with
    | zero =>
      intro o0 a1 t h
      exact h.elim
    | succ n ih =>
      intro o0 a1 t h
      refine wp_go hR9 (cs := S_X4_countHolding) (Bk := (fun pc vs ws t => match pc with | 2 => (match vs, ws with | [.inr (.inl (0, o0)), .inl a1], [] => L_X4_countHolding_2 M (fun t1 => post none t1) px n o0 a1 t | _, _ => False) | _ => False)) ?_ 400 2 _ _ _ _ _ h
      intro pc q vs ws t hc hk
      split at hk
      · cases hc
        split at hk
        · exact ih _ _ _ hk
        · exact hk.elim
      · exact hk.elim
  refine wp_go hR9 (cs := S_X4_countHolding) (Bk := (fun pc vs ws t => match pc with | 2 => (match vs, ws with | [.inr (.inl (0, o0)), .inl a1], [] => ∃ n9, L_X4_countHolding_2 M (fun t1 => post none t1) px n9 o0 a1 t | _, _ => False) | _ => False)) ?_ 400 0 _ _ _ _ _ h
  intro pc q vs ws t hc hk
  split at hk
  · cases hc
    split at hk
    · obtain ⟨n9, hk⟩ := hk
      exact W2 n9 _ _ _ hk
    · exact hk.elim
  · exact hk.elim
theorem k_X4_countHolding (hx : p.tables.exec = Jvm.exec) (hb : c.code = b) (hml : c.maxLocals = nL) (hts : ∀ w ∈ LT, w.before args s = true) {own : String} (hown : s.vm.findClass own = some m.cls) (hK : va_K D vwCl (TYX X) s) (hA : ∀ q, s.heap.size ≤ q → A q) (hE : EX A s) (hst9 : l.stackTraces = false) {ix : Nat} (hl9 : Cond.methodLink own ix yX4_countHolding ∈ LT) (hR : 2 ≤ R.frames ∧ 42 ≤ R.locals) (hmc : R.cells = mc) (hms : R.slots = ms) (h : PC_X4_countHolding M as t k kx) : CallOK p l e R s m args below meth c Q D X ad A M nL b mc ms (.invokevirtual ix) 0 0 as t k kx := by
  unfold PC_X4_countHolding at h
  split at h
  · exact call_V hx hb hml hts hown hK hA hE (c_X4_countHolding hst9 _ t h.2) ⟨hl9, ws_X4_countHolding.1, ws_X4_countHolding.2.1, ws_X4_countHolding.2.2.1, ws_X4_countHolding.2.2.2⟩ (n := 0) (by decide +kernel) hR rfl rfl hmc hms rfl ⟨0, _, rfl, h.1, Or.inl rfl, rfl⟩
  · exact CallOK.congr (by simp only [List.map_cons]; congr 1; exact (if_neg h.1).symm) (call_V hx hb hml hts hown hK hA hE (c_X4_countHolding hst9 _ t h.2.2) ⟨hl9, ws_X4_countHolding.1, ws_X4_countHolding.2.1, ws_X4_countHolding.2.2.1, ws_X4_countHolding.2.2.2⟩ (n := 0) (by decide +kernel) hR rfl rfl hmc hms rfl ⟨0, _, rfl, h.2.1, Or.inl rfl, rfl⟩)
  · exact h.elim
def Q_X4_letPeopleBoard (M : Nat → Nat → Bool) (ix : Nat) (as : List VV) (t : TT) (k : Option VV → TT → Prop) (kx : String → TT → Prop) : Prop := match ix with
  | 252 => PC_X2_takePeople M as t k kx
  | _ => False
def N_X4_letPeopleBoard (v : Bool) (ix : Nat) : Option (Nat × Nat × Nat) := match v, ix with
  | true, 252 => some (1, 0, 0)
  | _, _ => none
def S_X4_letPeopleBoard (pc : Nat) : Option (List (Nat × Nat × Nat) × List (Nat × Nat) × Nat × Nat) := match pc with
  | 2 => some ([(0, 1, 0), (1, 0, 0)], [], 0, 0)
  | _ => none
def H_X4_letPeopleBoard (pc : Nat) : Option String := none
set_option maxRecDepth 100000 in
set_option maxHeartbeats 4000000 in
theorem c_X4_letPeopleBoard {l : Launch} (hst9 : l.stackTraces = false) {D : va_G} {X : Nat → ClassId} {ad : Nat → Nat → Nat} {M : Nat → Nat → Bool} {post : Option VV → TT → Prop} {px : String → TT → Prop} (o0 : Nat) (t : TT) (h : P_X4_letPeopleBoard M (fun t1 => post none t1) px o0 t) : CT l yX4_letPeopleBoard (Cond.code yX4_letPeopleBoard cX4_letPeopleBoard 2 none :: LT) ({ frames := 2, cells := 0, slots := 0, locals := 43 } : Room) D X ad M [.inr (.inl (0, o0))] t 0 0 post px := by
  refine met_of_wp (by decide +kernel) (Nat.le_of_ble_eq_true rfl) ?_
  intro p e s m args below meth c A hx hb hml hts hown hK hnt hlocks hr hA hE
  have hR9 : Ready p l e ({ frames := 2, cells := 0, slots := 0, locals := 43 } : Room) s m args below meth c D X ad A M 2 cX4_letPeopleBoard 0 0 post px RX4 0 (fldOf F_X4) N_X4_letPeopleBoard (Q_X4_letPeopleBoard M) (tabOf T_X4_letPeopleBoard) H_X4_letPeopleBoard := by
    refine ⟨hx, hb, hts, hown, hK, hnt, hlocks, hr, F_X4_ok, ?_, fun pc en h => tabOf_ok T_X4_letPeopleBoard_ok h, ?_⟩
    · intro v9 ix n mc1 ms1 as t k hn hl h
      unfold N_X4_letPeopleBoard at hn
      split at hn
      · cases hn
        exact k_X2_takePeople hx hb hml hts hown hK hA hE hst9 (by decide +kernel) ⟨Nat.le_of_ble_eq_true rfl, Nat.le_of_ble_eq_true rfl⟩ rfl rfl h
      · cases hn
    · intro pc E hE9; cases hE9
  have W2 : ∀ (n : Nat) (o0 : Nat) (a1 : Int32) (t : TT), L_X4_letPeopleBoard_2 M (fun t1 => post none t1) px n o0 a1 t → Wat p l e ({ frames := 2, cells := 0, slots := 0, locals := 43 } : Room) s m args below meth c (QM below args s D X ad A M 0 0 post px) D X ad A M 2 2 [(0, .inr (.inl (0, o0))), (1, .inl a1)] [] t 0 0 := by
    intro n
    induction n with
    | zero =>
      intro o0 a1 t h
      exact h.elim
    | succ n ih =>
      intro o0 a1 t h
      refine wp_go hR9 (cs := S_X4_letPeopleBoard) (Bk := (fun pc vs ws t => match pc with | 2 => (match vs, ws with | [.inr (.inl (0, o0)), .inl a1], [] => L_X4_letPeopleBoard_2 M (fun t1 => post none t1) px n o0 a1 t | _, _ => False) | _ => False)) ?_ 400 2 _ _ _ _ _ h
      intro pc q vs ws t hc hk
      split at hk
      · cases hc
        split at hk
        · exact ih _ _ _ hk
        · exact hk.elim
      · exact hk.elim
  refine wp_go hR9 (cs := S_X4_letPeopleBoard) (Bk := (fun pc vs ws t => match pc with | 2 => (match vs, ws with | [.inr (.inl (0, o0)), .inl a1], [] => ∃ n9, L_X4_letPeopleBoard_2 M (fun t1 => post none t1) px n9 o0 a1 t | _, _ => False) | _ => False)) ?_ 400 0 _ _ _ _ _ h
  intro pc q vs ws t hc hk
  split at hk
  · cases hc
    split at hk
    · obtain ⟨n9, hk⟩ := hk
      exact W2 n9 _ _ _ hk
    · exact hk.elim
  · exact hk.elim
theorem k_X4_letPeopleBoard (hx : p.tables.exec = Jvm.exec) (hb : c.code = b) (hml : c.maxLocals = nL) (hts : ∀ w ∈ LT, w.before args s = true) {own : String} (hown : s.vm.findClass own = some m.cls) (hK : va_K D vwCl (TYX X) s) (hA : ∀ q, s.heap.size ≤ q → A q) (hE : EX A s) (hst9 : l.stackTraces = false) {ix : Nat} (hl9 : Cond.methodLink own ix yX4_letPeopleBoard ∈ LT) (hR : 3 ≤ R.frames ∧ 64 ≤ R.locals) (hmc : R.cells = mc) (hms : R.slots = ms) (h : PC_X4_letPeopleBoard M as t k kx) : CallOK p l e R s m args below meth c Q D X ad A M nL b mc ms (.invokevirtual ix) 0 0 as t k kx := by
  unfold PC_X4_letPeopleBoard at h
  split at h
  · exact call_V hx hb hml hts hown hK hA hE (c_X4_letPeopleBoard hst9 _ t h.2) ⟨hl9, ws_X4_letPeopleBoard.1, ws_X4_letPeopleBoard.2.1, ws_X4_letPeopleBoard.2.2.1, ws_X4_letPeopleBoard.2.2.2⟩ (n := 0) (by decide +kernel) hR rfl rfl hmc hms rfl ⟨0, _, rfl, h.1, Or.inl rfl, rfl⟩
  · exact CallOK.congr (by simp only [List.map_cons]; congr 1; exact (if_neg h.1).symm) (call_V hx hb hml hts hown hK hA hE (c_X4_letPeopleBoard hst9 _ t h.2.2) ⟨hl9, ws_X4_letPeopleBoard.1, ws_X4_letPeopleBoard.2.1, ws_X4_letPeopleBoard.2.2.1, ws_X4_letPeopleBoard.2.2.2⟩ (n := 0) (by decide +kernel) hR rfl rfl hmc hms rfl ⟨0, _, rfl, h.2.1, Or.inl rfl, rfl⟩)
  · exact h.elim
def Q_X4_letPeopleCome (M : Nat → Nat → Bool) (ix : Nat) (as : List VV) (t : TT) (k : Option VV → TT → Prop) (kx : String → TT → Prop) : Prop := match ix with
  | 138 => PC_mmin as t k
  | _ => False
def N_X4_letPeopleCome (v : Bool) (ix : Nat) : Option (Nat × Nat × Nat) := match v, ix with
  | false, 138 => some (2, 0, 0)
  | _, _ => none
def S_X4_letPeopleCome (pc : Nat) : Option (List (Nat × Nat × Nat) × List (Nat × Nat) × Nat × Nat) := match pc with
  | 2 => some ([(0, 1, 0), (1, 0, 0)], [], 0, 0)
  | _ => none
def H_X4_letPeopleCome (pc : Nat) : Option String := none
set_option maxRecDepth 100000 in
set_option maxHeartbeats 4000000 in
theorem c_X4_letPeopleCome {l : Launch} (hst9 : l.stackTraces = false) {D : va_G} {X : Nat → ClassId} {ad : Nat → Nat → Nat} {M : Nat → Nat → Bool} {post : Option VV → TT → Prop} {px : String → TT → Prop} (o0 : Nat) (t : TT) (h : P_X4_letPeopleCome M (fun t1 => post none t1) px o0 t) : CT l yX4_letPeopleCome (Cond.code yX4_letPeopleCome cX4_letPeopleCome 3 none :: LT) ({ frames := 1, cells := 0, slots := 0, locals := 21 } : Room) D X ad M [.inr (.inl (0, o0))] t 0 0 post px := by
  refine met_of_wp (by decide +kernel) (Nat.le_of_ble_eq_true rfl) ?_
  intro p e s m args below meth c A hx hb hml hts hown hK hnt hlocks hr hA hE
  have hR9 : Ready p l e ({ frames := 1, cells := 0, slots := 0, locals := 21 } : Room) s m args below meth c D X ad A M 3 cX4_letPeopleCome 0 0 post px RX4 0 (fldOf F_X4) N_X4_letPeopleCome (Q_X4_letPeopleCome M) (tabOf T_X4_letPeopleCome) H_X4_letPeopleCome := by
    refine ⟨hx, hb, hts, hown, hK, hnt, hlocks, hr, F_X4_ok, ?_, fun pc en h => tabOf_ok T_X4_letPeopleCome_ok h, ?_⟩
    · intro v9 ix n mc1 ms1 as t k hn hl h
      unfold N_X4_letPeopleCome at hn
      split at hn
      · cases hn
        exact k_mmin hx hb hml hts hown (by decide +kernel) ⟨Nat.le_of_ble_eq_true rfl, Nat.le_of_ble_eq_true rfl⟩ rfl rfl h
      · cases hn
    · intro pc E hE9; cases hE9
  have W2 : ∀ (n : Nat) (o0 : Nat) (a1 : Int32) (t : TT), L_X4_letPeopleCome_2 M (fun t1 => post none t1) px n o0 a1 t → Wat p l e ({ frames := 1, cells := 0, slots := 0, locals := 21 } : Room) s m args below meth c (QM below args s D X ad A M 0 0 post px) D X ad A M 3 2 [(0, .inr (.inl (0, o0))), (1, .inl a1)] [] t 0 0 := by
    intro n
    induction n with
    | zero =>
      intro o0 a1 t h
      exact h.elim
    | succ n ih =>
      intro o0 a1 t h
      refine wp_go hR9 (cs := S_X4_letPeopleCome) (Bk := (fun pc vs ws t => match pc with | 2 => (match vs, ws with | [.inr (.inl (0, o0)), .inl a1], [] => L_X4_letPeopleCome_2 M (fun t1 => post none t1) px n o0 a1 t | _, _ => False) | _ => False)) ?_ 400 2 _ _ _ _ _ h
      intro pc q vs ws t hc hk
      split at hk
      · cases hc
        split at hk
        · exact ih _ _ _ hk
        · exact hk.elim
      · exact hk.elim
  refine wp_go hR9 (cs := S_X4_letPeopleCome) (Bk := (fun pc vs ws t => match pc with | 2 => (match vs, ws with | [.inr (.inl (0, o0)), .inl a1], [] => ∃ n9, L_X4_letPeopleCome_2 M (fun t1 => post none t1) px n9 o0 a1 t | _, _ => False) | _ => False)) ?_ 400 0 _ _ _ _ _ h
  intro pc q vs ws t hc hk
  split at hk
  · cases hc
    split at hk
    · obtain ⟨n9, hk⟩ := hk
      exact W2 n9 _ _ _ hk
    · exact hk.elim
  · exact hk.elim
theorem k_X4_letPeopleCome (hx : p.tables.exec = Jvm.exec) (hb : c.code = b) (hml : c.maxLocals = nL) (hts : ∀ w ∈ LT, w.before args s = true) {own : String} (hown : s.vm.findClass own = some m.cls) (hK : va_K D vwCl (TYX X) s) (hA : ∀ q, s.heap.size ≤ q → A q) (hE : EX A s) (hst9 : l.stackTraces = false) {ix : Nat} (hl9 : Cond.methodLink own ix yX4_letPeopleCome ∈ LT) (hR : 2 ≤ R.frames ∧ 43 ≤ R.locals) (hmc : R.cells = mc) (hms : R.slots = ms) (h : PC_X4_letPeopleCome M as t k kx) : CallOK p l e R s m args below meth c Q D X ad A M nL b mc ms (.invokevirtual ix) 0 0 as t k kx := by
  unfold PC_X4_letPeopleCome at h
  split at h
  · exact call_V hx hb hml hts hown hK hA hE (c_X4_letPeopleCome hst9 _ t h.2) ⟨hl9, ws_X4_letPeopleCome.1, ws_X4_letPeopleCome.2.1, ws_X4_letPeopleCome.2.2.1, ws_X4_letPeopleCome.2.2.2⟩ (n := 0) (by decide +kernel) hR rfl rfl hmc hms rfl ⟨0, _, rfl, h.1, Or.inl rfl, rfl⟩
  · exact CallOK.congr (by simp only [List.map_cons]; congr 1; exact (if_neg h.1).symm) (call_V hx hb hml hts hown hK hA hE (c_X4_letPeopleCome hst9 _ t h.2.2) ⟨hl9, ws_X4_letPeopleCome.1, ws_X4_letPeopleCome.2.1, ws_X4_letPeopleCome.2.2.1, ws_X4_letPeopleCome.2.2.2⟩ (n := 0) (by decide +kernel) hR rfl rfl hmc hms rfl ⟨0, _, rfl, h.2.1, Or.inl rfl, rfl⟩)
  · exact h.elim
def Q_X4_meetsBeacon (M : Nat → Nat → Bool) (ix : Nat) (as : List VV) (t : TT) (k : Option VV → TT → Prop) (kx : String → TT → Prop) : Prop := False
def N_X4_meetsBeacon (v : Bool) (ix : Nat) : Option (Nat × Nat × Nat) := none
def S_X4_meetsBeacon (pc : Nat) : Option (List (Nat × Nat × Nat) × List (Nat × Nat) × Nat × Nat) := match pc with
  | 46 => some ([(0, 1, 0), (1, 0, 0), (2, 0, 0), (3, 0, 0)], [], 0, 0)
  | 2 => some ([(0, 1, 0), (1, 0, 0), (2, 0, 0), (3, 0, 0)], [], 0, 0)
  | _ => none
def H_X4_meetsBeacon (pc : Nat) : Option String := none
set_option maxRecDepth 100000 in
set_option maxHeartbeats 4000000 in
theorem c_X4_meetsBeacon {l : Launch} (hst9 : l.stackTraces = false) {D : va_G} {X : Nat → ClassId} {ad : Nat → Nat → Nat} {M : Nat → Nat → Bool} {post : Option VV → TT → Prop} {px : String → TT → Prop} (o0 : Nat) (a1 : Int32) (a2 : Int32) (t : TT) (h : P_X4_meetsBeacon M (fun r t1 => post (some (.inl r)) t1) px o0 a1 a2 t) : CT l yX4_meetsBeacon (Cond.code yX4_meetsBeacon cX4_meetsBeacon 5 (some .boolean) :: LT) ({ frames := 0, cells := 0, slots := 0, locals := 0 } : Room) D X ad M [.inr (.inl (0, o0)), .inl a1, .inl a2] t 0 0 post px := by
  refine met_of_wp (by decide +kernel) (Nat.le_of_ble_eq_true rfl) ?_
  intro p e s m args below meth c A hx hb hml hts hown hK hnt hlocks hr hA hE
  have hR9 : Ready p l e ({ frames := 0, cells := 0, slots := 0, locals := 0 } : Room) s m args below meth c D X ad A M 5 cX4_meetsBeacon 0 0 post px RX4 2 (fldOf F_X4) N_X4_meetsBeacon (Q_X4_meetsBeacon M) (tabOf T_X4_meetsBeacon) H_X4_meetsBeacon := by
    refine ⟨hx, hb, hts, hown, hK, hnt, hlocks, hr, F_X4_ok, ?_, fun pc en h => tabOf_ok T_X4_meetsBeacon_ok h, ?_⟩
    · intro v9 ix n mc1 ms1 as t k hn hl h
      unfold N_X4_meetsBeacon at hn
      cases hn
    · intro pc E hE9; cases hE9
  have W46 : ∀ (k2 : Nat → Int32 → Int32 → Int32 → TT → Prop) (hk2 : ∀ (o0 : Nat) (a1 : Int32) (a2 : Int32) (a3 : Int32) (t : TT), k2 o0 a1 a2 a3 t → Wat p l e ({ frames := 0, cells := 0, slots := 0, locals := 0 } : Room) s m args below meth c (QM below args s D X ad A M 0 0 post px) D X ad A M 5 2 [(0, .inr (.inl (0, o0))), (1, .inl a1), (2, .inl a2), (3, .inl a3)] [] t 0 0) (o0 : Nat) (a1 : Int32) (a2 : Int32) (a3 : Int32) (t : TT), B_X4_meetsBeacon_46 M (fun r t1 => post (some (.inl r)) t1) px k2 o0 a1 a2 a3 t → Wat p l e ({ frames := 0, cells := 0, slots := 0, locals := 0 } : Room) s m args below meth c (QM below args s D X ad A M 0 0 post px) D X ad A M 5 46 [(0, .inr (.inl (0, o0))), (1, .inl a1), (2, .inl a2), (3, .inl a3)] [] t 0 0 := by
    intro k2 hk2 o0 a1 a2 a3 t h
    refine wp_go hR9 (cs := S_X4_meetsBeacon) (Bk := (fun pc vs ws t => match pc with | 2 => (match vs, ws with | [.inr (.inl (0, o0)), .inl a1, .inl a2, .inl a3], [] => k2 o0 a1 a2 a3 t | _, _ => False) | _ => False)) ?_ 400 46 _ _ _ _ _ h
    intro pc q vs ws t hc hk
    split at hk
    · cases hc
      split at hk
      · exact hk2 _ _ _ _ _ hk
      · exact hk.elim
    · exact hk.elim
  have W2 : ∀ (n : Nat) (o0 : Nat) (a1 : Int32) (a2 : Int32) (a3 : Int32) (t : TT), L_X4_meetsBeacon_2 M (fun r t1 => post (some (.inl r)) t1) px n o0 a1 a2 a3 t → Wat p l e ({ frames := 0, cells := 0, slots := 0, locals := 0 } : Room) s m args below meth c (QM below args s D X ad A M 0 0 post px) D X ad A M 5 2 [(0, .inr (.inl (0, o0))), (1, .inl a1), (2, .inl a2), (3, .inl a3)] [] t 0 0 := by
    intro n
    induction n with
    | zero =>
      intro o0 a1 a2 a3 t h
      exact h.elim
    | succ n ih =>
      intro o0 a1 a2 a3 t h
      refine wp_go hR9 (cs := S_X4_meetsBeacon) (Bk := (fun pc vs ws t => match pc with | 46 => (match vs, ws with | [.inr (.inl (0, o0)), .inl a1, .inl a2, .inl a3], [] => B_X4_meetsBeacon_46 M (fun r t1 => post (some (.inl r)) t1) px (L_X4_meetsBeacon_2 M (fun r t1 => post (some (.inl r)) t1) px n) o0 a1 a2 a3 t | _, _ => False) | _ => False)) ?_ 400 2 _ _ _ _ _ h
      intro pc q vs ws t hc hk
      split at hk
      · cases hc
        split at hk
        · exact W46 _ ih _ _ _ _ _ hk
        · exact hk.elim
      · exact hk.elim
  refine wp_go hR9 (cs := S_X4_meetsBeacon) (Bk := (fun pc vs ws t => match pc with | 2 => (match vs, ws with | [.inr (.inl (0, o0)), .inl a1, .inl a2, .inl a3], [] => ∃ n9, L_X4_meetsBeacon_2 M (fun r t1 => post (some (.inl r)) t1) px n9 o0 a1 a2 a3 t | _, _ => False) | _ => False)) ?_ 400 0 _ _ _ _ _ h
  intro pc q vs ws t hc hk
  split at hk
  · cases hc
    split at hk
    · obtain ⟨n9, hk⟩ := hk
      exact W2 n9 _ _ _ _ _ hk
    · exact hk.elim
  · exact hk.elim
theorem k_X4_meetsBeacon (hx : p.tables.exec = Jvm.exec) (hb : c.code = b) (hml : c.maxLocals = nL) (hts : ∀ w ∈ LT, w.before args s = true) {own : String} (hown : s.vm.findClass own = some m.cls) (hK : va_K D vwCl (TYX X) s) (hA : ∀ q, s.heap.size ≤ q → A q) (hE : EX A s) (hst9 : l.stackTraces = false) {ix : Nat} (hl9 : Cond.methodLink own ix yX4_meetsBeacon ∈ LT) (hR : 1 ≤ R.frames ∧ 24 ≤ R.locals) (hmc : R.cells = mc) (hms : R.slots = ms) (h : PC_X4_meetsBeacon M as t k kx) : CallOK p l e R s m args below meth c Q D X ad A M nL b mc ms (.invokevirtual ix) 0 0 as t k kx := by
  unfold PC_X4_meetsBeacon at h
  split at h
  · exact call_V hx hb hml hts hown hK hA hE (c_X4_meetsBeacon hst9 _ _ _ t h.2) ⟨hl9, ws_X4_meetsBeacon.1, ws_X4_meetsBeacon.2.1, ws_X4_meetsBeacon.2.2.1, ws_X4_meetsBeacon.2.2.2⟩ (n := 2) (by decide +kernel) hR rfl rfl hmc hms rfl ⟨0, _, rfl, h.1, Or.inl rfl, rfl⟩
  · exact CallOK.congr (by simp only [List.map_cons]; congr 1; exact (if_neg h.1).symm) (call_V hx hb hml hts hown hK hA hE (c_X4_meetsBeacon hst9 _ _ _ t h.2.2) ⟨hl9, ws_X4_meetsBeacon.1, ws_X4_meetsBeacon.2.1, ws_X4_meetsBeacon.2.2.1, ws_X4_meetsBeacon.2.2.2⟩ (n := 2) (by decide +kernel) hR rfl rfl hmc hms rfl ⟨0, _, rfl, h.2.1, Or.inl rfl, rfl⟩)
  · exact h.elim
def Q_X4_move (M : Nat → Nat → Bool) (ix : Nat) (as : List VV) (t : TT) (k : Option VV → TT → Prop) (kx : String → TT → Prop) : Prop := match ix with
  | 237 => PC_X2_go M as t k kx
  | 240 => PC_X4_meetsBeacon M as t k kx
  | _ => False
def N_X4_move (v : Bool) (ix : Nat) : Option (Nat × Nat × Nat) := match v, ix with
  | true, 237 => some (2, 0, 0)
  | true, 240 => some (3, 0, 0)
  | _, _ => none
def S_X4_move (pc : Nat) : Option (List (Nat × Nat × Nat) × List (Nat × Nat) × Nat × Nat) := match pc with
  | 41 => some ([], [], 0, 0)
  | _ => none
def H_X4_move (pc : Nat) : Option String := none
set_option maxRecDepth 100000 in
set_option maxHeartbeats 4000000 in
theorem c_X4_move {l : Launch} (hst9 : l.stackTraces = false) {D : va_G} {X : Nat → ClassId} {ad : Nat → Nat → Nat} {M : Nat → Nat → Bool} {post : Option VV → TT → Prop} {px : String → TT → Prop} (o0 : Nat) (o1 : Nat) (t : TT) (h : P_X4_move M (fun t1 => post none t1) px o0 o1 t) : CT l yX4_move (Cond.code yX4_move cX4_move 3 none :: LT) ({ frames := 1, cells := 0, slots := 0, locals := 24 } : Room) D X ad M [.inr (.inl (0, o0)), .inr (.inl (8, o1))] t 0 0 post px := by
  refine met_of_wp (by decide +kernel) (Nat.le_of_ble_eq_true rfl) ?_
  intro p e s m args below meth c A hx hb hml hts hown hK hnt hlocks hr hA hE
  have hR9 : Ready p l e ({ frames := 1, cells := 0, slots := 0, locals := 24 } : Room) s m args below meth c D X ad A M 3 cX4_move 0 0 post px RX4 0 (fldOf F_X4) N_X4_move (Q_X4_move M) (tabOf T_X4_move) H_X4_move := by
    refine ⟨hx, hb, hts, hown, hK, hnt, hlocks, hr, F_X4_ok, ?_, fun pc en h => tabOf_ok T_X4_move_ok h, ?_⟩
    · intro v9 ix n mc1 ms1 as t k hn hl h
      unfold N_X4_move at hn
      split at hn
      · cases hn
        exact k_X2_go hx hb hml hts hown hK hA hE hst9 (by decide +kernel) ⟨Nat.le_of_ble_eq_true rfl, Nat.le_of_ble_eq_true rfl⟩ rfl rfl h
      · cases hn
        exact k_X4_meetsBeacon hx hb hml hts hown hK hA hE hst9 (by decide +kernel) ⟨Nat.le_of_ble_eq_true rfl, Nat.le_of_ble_eq_true rfl⟩ rfl rfl h
      · cases hn
    · intro pc E hE9; cases hE9
  have W41 : ∀ (t : TT), B_X4_move_41 M (fun t1 => post none t1) px t → Wat p l e ({ frames := 1, cells := 0, slots := 0, locals := 24 } : Room) s m args below meth c (QM below args s D X ad A M 0 0 post px) D X ad A M 3 41 [] [] t 0 0 := by
    intro t h
    refine wp_go hR9 (cs := S_X4_move) (Bk := (fun _ _ _ _ => False)) ?_ 400 41 _ _ _ _ _ h
    intro pc q vs ws t hc hk
    exact hk.elim
  refine wp_go hR9 (cs := S_X4_move) (Bk := (fun pc vs ws t => match pc with | 41 => (match vs, ws with | [], [] => B_X4_move_41 M (fun t1 => post none t1) px t | _, _ => False) | _ => False)) ?_ 400 0 _ _ _ _ _ h
  intro pc q vs ws t hc hk
  split at hk
  · cases hc
    split at hk
    · exact W41 _ hk
    · exact hk.elim
  · exact hk.elim
theorem k_X4_move (hx : p.tables.exec = Jvm.exec) (hb : c.code = b) (hml : c.maxLocals = nL) (hts : ∀ w ∈ LT, w.before args s = true) {own : String} (hown : s.vm.findClass own = some m.cls) (hK : va_K D vwCl (TYX X) s) (hA : ∀ q, s.heap.size ≤ q → A q) (hE : EX A s) (hst9 : l.stackTraces = false) {ix : Nat} (hl9 : Cond.methodLink own ix yX4_move ∈ LT) (hR : 2 ≤ R.frames ∧ 46 ≤ R.locals) (hmc : R.cells = mc) (hms : R.slots = ms) (h : PC_X4_move M as t k kx) : CallOK p l e R s m args below meth c Q D X ad A M nL b mc ms (.invokevirtual ix) 0 0 as t k kx := by
  unfold PC_X4_move at h
  split at h
  · exact call_V hx hb hml hts hown hK hA hE (c_X4_move hst9 _ _ t h.2) ⟨hl9, ws_X4_move.1, ws_X4_move.2.1, ws_X4_move.2.2.1, ws_X4_move.2.2.2⟩ (n := 1) (by decide +kernel) hR rfl rfl hmc hms rfl ⟨0, _, rfl, h.1, Or.inl rfl, rfl⟩
  · exact CallOK.congr (by simp only [List.map_cons]; congr 1; exact (if_neg h.1).symm) (call_V hx hb hml hts hown hK hA hE (c_X4_move hst9 _ _ t h.2.2) ⟨hl9, ws_X4_move.1, ws_X4_move.2.1, ws_X4_move.2.2.1, ws_X4_move.2.2.2⟩ (n := 1) (by decide +kernel) hR rfl rfl hmc hms rfl ⟨0, _, rfl, h.2.1, Or.inl rfl, rfl⟩)
  · exact h.elim
def Q_X4_takeReports (M : Nat → Nat → Bool) (ix : Nat) (as : List VV) (t : TT) (k : Option VV → TT → Prop) (kx : String → TT → Prop) : Prop := False
def N_X4_takeReports (v : Bool) (ix : Nat) : Option (Nat × Nat × Nat) := none
def S_X4_takeReports (pc : Nat) : Option (List (Nat × Nat × Nat) × List (Nat × Nat) × Nat × Nat) := match pc with
  | 32 => some ([(0, 1, 0), (1, 0, 0)], [], 0, 0)
  | 2 => some ([(0, 1, 0), (1, 0, 0)], [], 0, 0)
  | _ => none
def H_X4_takeReports (pc : Nat) : Option String := none
set_option maxRecDepth 100000 in
set_option maxHeartbeats 4000000 in
theorem c_X4_takeReports {l : Launch} (hst9 : l.stackTraces = false) {D : va_G} {X : Nat → ClassId} {ad : Nat → Nat → Nat} {M : Nat → Nat → Bool} {post : Option VV → TT → Prop} {px : String → TT → Prop} (o0 : Nat) (t : TT) (h : P_X4_takeReports M (fun t1 => post none t1) px o0 t) : CT l yX4_takeReports (Cond.code yX4_takeReports cX4_takeReports 3 none :: LT) ({ frames := 0, cells := 0, slots := 0, locals := 0 } : Room) D X ad M [.inr (.inl (0, o0))] t 0 0 post px := by
  refine met_of_wp (by decide +kernel) (Nat.le_of_ble_eq_true rfl) ?_
  intro p e s m args below meth c A hx hb hml hts hown hK hnt hlocks hr hA hE
  have hR9 : Ready p l e ({ frames := 0, cells := 0, slots := 0, locals := 0 } : Room) s m args below meth c D X ad A M 3 cX4_takeReports 0 0 post px RX4 0 (fldOf F_X4) N_X4_takeReports (Q_X4_takeReports M) (tabOf T_X4_takeReports) H_X4_takeReports := by
    refine ⟨hx, hb, hts, hown, hK, hnt, hlocks, hr, F_X4_ok, ?_, fun pc en h => tabOf_ok T_X4_takeReports_ok h, ?_⟩
    · intro v9 ix n mc1 ms1 as t k hn hl h
      unfold N_X4_takeReports at hn
      cases hn
    · intro pc E hE9; cases hE9
  have W32 : ∀ (k2 : Nat → Int32 → TT → Prop) (hk2 : ∀ (o0 : Nat) (a1 : Int32) (t : TT), k2 o0 a1 t → Wat p l e ({ frames := 0, cells := 0, slots := 0, locals := 0 } : Room) s m args below meth c (QM below args s D X ad A M 0 0 post px) D X ad A M 3 2 [(0, .inr (.inl (0, o0))), (1, .inl a1)] [] t 0 0) (o0 : Nat) (a1 : Int32) (t : TT), B_X4_takeReports_32 M (fun t1 => post none t1) px k2 o0 a1 t → Wat p l e ({ frames := 0, cells := 0, slots := 0, locals := 0 } : Room) s m args below meth c (QM below args s D X ad A M 0 0 post px) D X ad A M 3 32 [(0, .inr (.inl (0, o0))), (1, .inl a1)] [] t 0 0 := by
    intro k2 hk2 o0 a1 t h
    refine wp_go hR9 (cs := S_X4_takeReports) (Bk := (fun pc vs ws t => match pc with | 2 => (match vs, ws with | [.inr (.inl (0, o0)), .inl a1], [] => k2 o0 a1 t | _, _ => False) | _ => False)) ?_ 400 32 _ _ _ _ _ h
    intro pc q vs ws t hc hk
    split at hk
    · cases hc
      split at hk
      · exact hk2 _ _ _ hk
      · exact hk.elim
    · exact hk.elim
  have W2 : ∀ (n : Nat) (o0 : Nat) (a1 : Int32) (t : TT), L_X4_takeReports_2 M (fun t1 => post none t1) px n o0 a1 t → Wat p l e ({ frames := 0, cells := 0, slots := 0, locals := 0 } : Room) s m args below meth c (QM below args s D X ad A M 0 0 post px) D X ad A M 3 2 [(0, .inr (.inl (0, o0))), (1, .inl a1)] [] t 0 0 := by
    intro n
    induction n with
    | zero =>
      intro o0 a1 t h
      exact h.elim
    | succ n ih =>
      intro o0 a1 t h
      refine wp_go hR9 (cs := S_X4_takeReports) (Bk := (fun pc vs ws t => match pc with | 32 => (match vs, ws with | [.inr (.inl (0, o0)), .inl a1], [] => B_X4_takeReports_32 M (fun t1 => post none t1) px (L_X4_takeReports_2 M (fun t1 => post none t1) px n) o0 a1 t | _, _ => False) | _ => False)) ?_ 400 2 _ _ _ _ _ h
      intro pc q vs ws t hc hk
      split at hk
      · cases hc
        split at hk
        · exact W32 _ ih _ _ _ hk
        · exact hk.elim
      · exact hk.elim
  refine wp_go hR9 (cs := S_X4_takeReports) (Bk := (fun pc vs ws t => match pc with | 2 => (match vs, ws with | [.inr (.inl (0, o0)), .inl a1], [] => ∃ n9, L_X4_takeReports_2 M (fun t1 => post none t1) px n9 o0 a1 t | _, _ => False) | _ => False)) ?_ 400 0 _ _ _ _ _ h
  intro pc q vs ws t hc hk
  split at hk
  · cases hc
    split at hk
    · obtain ⟨n9, hk⟩ := hk
      exact W2 n9 _ _ _ hk
    · exact hk.elim
  · exact hk.elim
theorem k_X4_takeReports (hx : p.tables.exec = Jvm.exec) (hb : c.code = b) (hml : c.maxLocals = nL) (hts : ∀ w ∈ LT, w.before args s = true) {own : String} (hown : s.vm.findClass own = some m.cls) (hK : va_K D vwCl (TYX X) s) (hA : ∀ q, s.heap.size ≤ q → A q) (hE : EX A s) (hst9 : l.stackTraces = false) {ix : Nat} (hl9 : Cond.methodLink own ix yX4_takeReports ∈ LT) (hR : 1 ≤ R.frames ∧ 22 ≤ R.locals) (hmc : R.cells = mc) (hms : R.slots = ms) (h : PC_X4_takeReports M as t k kx) : CallOK p l e R s m args below meth c Q D X ad A M nL b mc ms (.invokevirtual ix) 0 0 as t k kx := by
  unfold PC_X4_takeReports at h
  split at h
  · exact call_V hx hb hml hts hown hK hA hE (c_X4_takeReports hst9 _ t h.2) ⟨hl9, ws_X4_takeReports.1, ws_X4_takeReports.2.1, ws_X4_takeReports.2.2.1, ws_X4_takeReports.2.2.2⟩ (n := 0) (by decide +kernel) hR rfl rfl hmc hms rfl ⟨0, _, rfl, h.1, Or.inl rfl, rfl⟩
  · exact CallOK.congr (by simp only [List.map_cons]; congr 1; exact (if_neg h.1).symm) (call_V hx hb hml hts hown hK hA hE (c_X4_takeReports hst9 _ t h.2.2) ⟨hl9, ws_X4_takeReports.1, ws_X4_takeReports.2.1, ws_X4_takeReports.2.2.1, ws_X4_takeReports.2.2.2⟩ (n := 0) (by decide +kernel) hR rfl rfl hmc hms rfl ⟨0, _, rfl, h.2.1, Or.inl rfl, rfl⟩)
  · exact h.elim
def Q_X4_passOne (M : Nat → Nat → Bool) (ix : Nat) (as : List VV) (t : TT) (k : Option VV → TT → Prop) (kx : String → TT → Prop) : Prop := match ix with
  | 75 => PC_X4_dealLimits M as t k kx
  | 218 => PC_X4_takeReports M as t k kx
  | 221 => PC_X2_findSpeed M as t k kx
  | 224 => PC_X4_move M as t k kx
  | 228 => PC_X4_countHolding M as t k kx
  | 231 => PC_X4_letPeopleCome M as t k kx
  | 234 => PC_X4_letPeopleBoard M as t k kx
  | _ => False
def N_X4_passOne (v : Bool) (ix : Nat) : Option (Nat × Nat × Nat) := match v, ix with
  | true, 75 => some (1, 0, 0)
  | true, 218 => some (1, 0, 0)
  | true, 221 => some (2, 0, 0)
  | true, 224 => some (2, 0, 0)
  | true, 228 => some (1, 0, 0)
  | true, 231 => some (1, 0, 0)
  | true, 234 => some (1, 0, 0)
  | _, _ => none
def S_X4_passOne (pc : Nat) : Option (List (Nat × Nat × Nat) × List (Nat × Nat) × Nat × Nat) := match pc with
  | 49 => some ([(0, 1, 0), (1, 0, 0)], [], 0, 0)
  | 20 => some ([(0, 1, 0), (1, 0, 0)], [], 0, 0)
  | _ => none
def H_X4_passOne (pc : Nat) : Option String := none
set_option maxRecDepth 100000 in
set_option maxHeartbeats 4000000 in
theorem c_X4_passOne {l : Launch} (hst9 : l.stackTraces = false) {D : va_G} {X : Nat → ClassId} {ad : Nat → Nat → Nat} {M : Nat → Nat → Bool} {post : Option VV → TT → Prop} {px : String → TT → Prop} (o0 : Nat) (t : TT) (h : P_X4_passOne M (fun t1 => post none t1) px o0 t) : CT l yX4_passOne (Cond.code yX4_passOne cX4_passOne 2 none :: LT) ({ frames := 3, cells := 0, slots := 0, locals := 71 } : Room) D X ad M [.inr (.inl (0, o0))] t 0 0 post px := by
  refine met_of_wp (by decide +kernel) (Nat.le_of_ble_eq_true rfl) ?_
  intro p e s m args below meth c A hx hb hml hts hown hK hnt hlocks hr hA hE
  have hR9 : Ready p l e ({ frames := 3, cells := 0, slots := 0, locals := 71 } : Room) s m args below meth c D X ad A M 2 cX4_passOne 0 0 post px RX4 0 (fldOf F_X4) N_X4_passOne (Q_X4_passOne M) (tabOf T_X4_passOne) H_X4_passOne := by
    refine ⟨hx, hb, hts, hown, hK, hnt, hlocks, hr, F_X4_ok, ?_, fun pc en h => tabOf_ok T_X4_passOne_ok h, ?_⟩
    · intro v9 ix n mc1 ms1 as t k hn hl h
      unfold N_X4_passOne at hn
      split at hn
      · cases hn
        exact k_X4_dealLimits hx hb hml hts hown hK hA hE hst9 (by decide +kernel) ⟨Nat.le_of_ble_eq_true rfl, Nat.le_of_ble_eq_true rfl⟩ rfl rfl h
      · cases hn
        exact k_X4_takeReports hx hb hml hts hown hK hA hE hst9 (by decide +kernel) ⟨Nat.le_of_ble_eq_true rfl, Nat.le_of_ble_eq_true rfl⟩ rfl rfl h
      · cases hn
        exact k_X2_findSpeed hx hb hml hts hown hK hA hE hst9 (by decide +kernel) ⟨Nat.le_of_ble_eq_true rfl, Nat.le_of_ble_eq_true rfl⟩ rfl rfl h
      · cases hn
        exact k_X4_move hx hb hml hts hown hK hA hE hst9 (by decide +kernel) ⟨Nat.le_of_ble_eq_true rfl, Nat.le_of_ble_eq_true rfl⟩ rfl rfl h
      · cases hn
        exact k_X4_countHolding hx hb hml hts hown hK hA hE hst9 (by decide +kernel) ⟨Nat.le_of_ble_eq_true rfl, Nat.le_of_ble_eq_true rfl⟩ rfl rfl h
      · cases hn
        exact k_X4_letPeopleCome hx hb hml hts hown hK hA hE hst9 (by decide +kernel) ⟨Nat.le_of_ble_eq_true rfl, Nat.le_of_ble_eq_true rfl⟩ rfl rfl h
      · cases hn
        exact k_X4_letPeopleBoard hx hb hml hts hown hK hA hE hst9 (by decide +kernel) ⟨Nat.le_of_ble_eq_true rfl, Nat.le_of_ble_eq_true rfl⟩ rfl rfl h
      · cases hn
    · intro pc E hE9; cases hE9
  have W49 : ∀ (n : Nat) (o0 : Nat) (a1 : Int32) (t : TT), L_X4_passOne_49 M (fun t1 => post none t1) px n o0 a1 t → Wat p l e ({ frames := 3, cells := 0, slots := 0, locals := 71 } : Room) s m args below meth c (QM below args s D X ad A M 0 0 post px) D X ad A M 2 49 [(0, .inr (.inl (0, o0))), (1, .inl a1)] [] t 0 0 := by
    intro n
    induction n with
    | zero =>
      intro o0 a1 t h
      exact h.elim
    | succ n ih =>
      intro o0 a1 t h
      refine wp_go hR9 (cs := S_X4_passOne) (Bk := (fun pc vs ws t => match pc with | 49 => (match vs, ws with | [.inr (.inl (0, o0)), .inl a1], [] => L_X4_passOne_49 M (fun t1 => post none t1) px n o0 a1 t | _, _ => False) | _ => False)) ?_ 400 49 _ _ _ _ _ h
      intro pc q vs ws t hc hk
      split at hk
      · cases hc
        split at hk
        · exact ih _ _ _ hk
        · exact hk.elim
      · exact hk.elim
  have W20 : ∀ (n : Nat) (o0 : Nat) (a1 : Int32) (t : TT), L_X4_passOne_20 M (fun t1 => post none t1) px n o0 a1 t → Wat p l e ({ frames := 3, cells := 0, slots := 0, locals := 71 } : Room) s m args below meth c (QM below args s D X ad A M 0 0 post px) D X ad A M 2 20 [(0, .inr (.inl (0, o0))), (1, .inl a1)] [] t 0 0 := by
    intro n
    induction n with
    | zero =>
      intro o0 a1 t h
      exact h.elim
    | succ n ih =>
      intro o0 a1 t h
      refine wp_go hR9 (cs := S_X4_passOne) (Bk := (fun pc vs ws t => match pc with | 20 => (match vs, ws with | [.inr (.inl (0, o0)), .inl a1], [] => L_X4_passOne_20 M (fun t1 => post none t1) px n o0 a1 t | _, _ => False) | 49 => (match vs, ws with | [.inr (.inl (0, o0)), .inl a1], [] => ∃ n9, L_X4_passOne_49 M (fun t1 => post none t1) px n9 o0 a1 t | _, _ => False) | _ => False)) ?_ 400 20 _ _ _ _ _ h
      intro pc q vs ws t hc hk
      split at hk
      · cases hc
        split at hk
        · exact ih _ _ _ hk
        · exact hk.elim
      · cases hc
        split at hk
        · obtain ⟨n9, hk⟩ := hk
          exact W49 n9 _ _ _ hk
        · exact hk.elim
      · exact hk.elim
  refine wp_go hR9 (cs := S_X4_passOne) (Bk := (fun pc vs ws t => match pc with | 20 => (match vs, ws with | [.inr (.inl (0, o0)), .inl a1], [] => ∃ n9, L_X4_passOne_20 M (fun t1 => post none t1) px n9 o0 a1 t | _, _ => False) | _ => False)) ?_ 400 0 _ _ _ _ _ h
  intro pc q vs ws t hc hk
  split at hk
  · cases hc
    split at hk
    · obtain ⟨n9, hk⟩ := hk
      exact W20 n9 _ _ _ hk
    · exact hk.elim
  · exact hk.elim
theorem k_X4_passOne (hx : p.tables.exec = Jvm.exec) (hb : c.code = b) (hml : c.maxLocals = nL) (hts : ∀ w ∈ LT, w.before args s = true) {own : String} (hown : s.vm.findClass own = some m.cls) (hK : va_K D vwCl (TYX X) s) (hA : ∀ q, s.heap.size ≤ q → A q) (hE : EX A s) (hst9 : l.stackTraces = false) {ix : Nat} (hl9 : Cond.methodLink own ix yX4_passOne ∈ LT) (hR : 4 ≤ R.frames ∧ 92 ≤ R.locals) (hmc : R.cells = mc) (hms : R.slots = ms) (h : PC_X4_passOne M as t k kx) : CallOK p l e R s m args below meth c Q D X ad A M nL b mc ms (.invokevirtual ix) 0 0 as t k kx := by
  unfold PC_X4_passOne at h
  split at h
  · exact call_V hx hb hml hts hown hK hA hE (c_X4_passOne hst9 _ t h.2) ⟨hl9, ws_X4_passOne.1, ws_X4_passOne.2.1, ws_X4_passOne.2.2.1, ws_X4_passOne.2.2.2⟩ (n := 0) (by decide +kernel) hR rfl rfl hmc hms rfl ⟨0, _, rfl, h.1, Or.inl rfl, rfl⟩
  · exact CallOK.congr (by simp only [List.map_cons]; congr 1; exact (if_neg h.1).symm) (call_V hx hb hml hts hown hK hA hE (c_X4_passOne hst9 _ t h.2.2) ⟨hl9, ws_X4_passOne.1, ws_X4_passOne.2.1, ws_X4_passOne.2.2.1, ws_X4_passOne.2.2.2⟩ (n := 0) (by decide +kernel) hR rfl rfl hmc hms rfl ⟨0, _, rfl, h.2.1, Or.inl rfl, rfl⟩)
  · exact h.elim
def Q_X4_pass (M : Nat → Nat → Bool) (ix : Nat) (as : List VV) (t : TT) (k : Option VV → TT → Prop) (kx : String → TT → Prop) : Prop := match ix with
  | 37 => PC_X4_askRange M as t k kx
  | 44 => PC_X4_askThat M as t k kx
  | 105 => PC_X4_passOne M as t k kx
  | _ => False
def N_X4_pass (v : Bool) (ix : Nat) : Option (Nat × Nat × Nat) := match v, ix with
  | false, 37 => some (3, 0, 0)
  | false, 44 => some (1, 0, 0)
  | true, 105 => some (1, 0, 0)
  | _, _ => none
def S_X4_pass (pc : Nat) : Option (List (Nat × Nat × Nat) × List (Nat × Nat) × Nat × Nat) := match pc with
  | 29 => some ([(0, 1, 0), (1, 0, 0), (2, 0, 0)], [], 0, 0)
  | 24 => some ([(0, 1, 0), (1, 0, 0)], [(0, 0)], 0, 0)
  | _ => none
def H_X4_pass (pc : Nat) : Option String := none
set_option maxRecDepth 100000 in
set_option maxHeartbeats 4000000 in
theorem c_X4_pass {l : Launch} (hst9 : l.stackTraces = false) {D : va_G} {X : Nat → ClassId} {ad : Nat → Nat → Nat} {M : Nat → Nat → Bool} {post : Option VV → TT → Prop} {px : String → TT → Prop} (o0 : Nat) (a1 : Int32) (t : TT) (h : P_X4_pass M (fun r t1 => post (some (.inl r)) t1) px o0 a1 t) : CT l yX4_pass (Cond.code yX4_pass cX4_pass 3 (some .int) :: LT) ({ frames := 4, cells := 0, slots := 0, locals := 92 } : Room) D X ad M [.inr (.inl (0, o0)), .inl a1] t 0 0 post px := by
  refine met_of_wp (by decide +kernel) (Nat.le_of_ble_eq_true rfl) ?_
  intro p e s m args below meth c A hx hb hml hts hown hK hnt hlocks hr hA hE
  have hR9 : Ready p l e ({ frames := 4, cells := 0, slots := 0, locals := 92 } : Room) s m args below meth c D X ad A M 3 cX4_pass 0 0 post px RX4 1 (fldOf F_X4) N_X4_pass (Q_X4_pass M) (tabOf T_X4_pass) H_X4_pass := by
    refine ⟨hx, hb, hts, hown, hK, hnt, hlocks, hr, F_X4_ok, ?_, fun pc en h => tabOf_ok T_X4_pass_ok h, ?_⟩
    · intro v9 ix n mc1 ms1 as t k hn hl h
      unfold N_X4_pass at hn
      split at hn
      · cases hn
        exact k_X4_askRange hx hb hml hts hown hK hA hE hst9 (by decide +kernel) ⟨Nat.le_of_ble_eq_true rfl, Nat.le_of_ble_eq_true rfl⟩ rfl rfl h
      · cases hn
        exact k_X4_askThat hx hb hml hts hown hK hA hE hst9 (by decide +kernel) ⟨Nat.le_of_ble_eq_true rfl, Nat.le_of_ble_eq_true rfl⟩ rfl rfl h
      · cases hn
        exact k_X4_passOne hx hb hml hts hown hK hA hE hst9 (by decide +kernel) ⟨Nat.le_of_ble_eq_true rfl, Nat.le_of_ble_eq_true rfl⟩ rfl rfl h
      · cases hn
    · intro pc E hE9; cases hE9
  have W29 : ∀ (n : Nat) (o0 : Nat) (a1 : Int32) (a2 : Int32) (t : TT), L_X4_pass_29 M (fun r t1 => post (some (.inl r)) t1) px n o0 a1 a2 t → Wat p l e ({ frames := 4, cells := 0, slots := 0, locals := 92 } : Room) s m args below meth c (QM below args s D X ad A M 0 0 post px) D X ad A M 3 29 [(0, .inr (.inl (0, o0))), (1, .inl a1), (2, .inl a2)] [] t 0 0 := by
    intro n
    induction n with
    | zero =>
      intro o0 a1 a2 t h
      exact h.elim
    | succ n ih =>
      intro o0 a1 a2 t h
      refine wp_go hR9 (cs := S_X4_pass) (Bk := (fun pc vs ws t => match pc with | 29 => (match vs, ws with | [.inr (.inl (0, o0)), .inl a1, .inl a2], [] => L_X4_pass_29 M (fun r t1 => post (some (.inl r)) t1) px n o0 a1 a2 t | _, _ => False) | _ => False)) ?_ 400 29 _ _ _ _ _ h
      intro pc q vs ws t hc hk
      split at hk
      · cases hc
        split at hk
        · exact ih _ _ _ _ hk
        · exact hk.elim
      · exact hk.elim
  have W24 : ∀ (o0 : Nat) (a1 : Int32) (s0 : Int32) (t : TT), B_X4_pass_24 M (fun r t1 => post (some (.inl r)) t1) px o0 a1 s0 t → Wat p l e ({ frames := 4, cells := 0, slots := 0, locals := 92 } : Room) s m args below meth c (QM below args s D X ad A M 0 0 post px) D X ad A M 3 24 [(0, .inr (.inl (0, o0))), (1, .inl a1)] [.inl s0] t 0 0 := by
    intro o0 a1 s0 t h
    refine wp_go hR9 (cs := S_X4_pass) (Bk := (fun pc vs ws t => match pc with | 29 => (match vs, ws with | [.inr (.inl (0, o0)), .inl a1, .inl a2], [] => ∃ n9, L_X4_pass_29 M (fun r t1 => post (some (.inl r)) t1) px n9 o0 a1 a2 t | _, _ => False) | _ => False)) ?_ 400 24 _ _ _ _ _ h
    intro pc q vs ws t hc hk
    split at hk
    · cases hc
      split at hk
      · obtain ⟨n9, hk⟩ := hk
        exact W29 n9 _ _ _ _ hk
      · exact hk.elim
    · exact hk.elim
  refine wp_go hR9 (cs := S_X4_pass) (Bk := (fun pc vs ws t => match pc with | 24 => (match vs, ws with | [.inr (.inl (0, o0)), .inl a1], [.inl s0] => B_X4_pass_24 M (fun r t1 => post (some (.inl r)) t1) px o0 a1 s0 t | _, _ => False) | _ => False)) ?_ 400 0 _ _ _ _ _ h
  intro pc q vs ws t hc hk
  split at hk
  · cases hc
    split at hk
    · exact W24 _ _ _ _ hk
    · exact hk.elim
  · exact hk.elim
theorem k_X4_pass (hx : p.tables.exec = Jvm.exec) (hb : c.code = b) (hml : c.maxLocals = nL) (hts : ∀ w ∈ LT, w.before args s = true) {own : String} (hown : s.vm.findClass own = some m.cls) (hK : va_K D vwCl (TYX X) s) (hA : ∀ q, s.heap.size ≤ q → A q) (hE : EX A s) (hst9 : l.stackTraces = false) {ix : Nat} (hl9 : Cond.methodLink own ix yX4_pass ∈ LT) (hR : 5 ≤ R.frames ∧ 114 ≤ R.locals) (hmc : R.cells = mc) (hms : R.slots = ms) (h : PC_X4_pass M as t k kx) : CallOK p l e R s m args below meth c Q D X ad A M nL b mc ms (.invokevirtual ix) 0 0 as t k kx := by
  unfold PC_X4_pass at h
  split at h
  · exact call_V hx hb hml hts hown hK hA hE (c_X4_pass hst9 _ _ t h.2) ⟨hl9, ws_X4_pass.1, ws_X4_pass.2.1, ws_X4_pass.2.2.1, ws_X4_pass.2.2.2⟩ (n := 1) (by decide +kernel) hR rfl rfl hmc hms rfl ⟨0, _, rfl, h.1, Or.inl rfl, rfl⟩
  · exact CallOK.congr (by simp only [List.map_cons]; congr 1; exact (if_neg h.1).symm) (call_V hx hb hml hts hown hK hA hE (c_X4_pass hst9 _ _ t h.2.2) ⟨hl9, ws_X4_pass.1, ws_X4_pass.2.1, ws_X4_pass.2.2.1, ws_X4_pass.2.2.2⟩ (n := 1) (by decide +kernel) hR rfl rfl hmc hms rfl ⟨0, _, rfl, h.2.1, Or.inl rfl, rfl⟩)
  · exact h.elim
def Q_X4_stop (M : Nat → Nat → Bool) (ix : Nat) (as : List VV) (t : TT) (k : Option VV → TT → Prop) (kx : String → TT → Prop) : Prop := match ix with
  | 44 => PC_X4_askThat M as t k kx
  | 57 => PC_X4_askNumber M as t k kx
  | 108 => PC_X2_hasOpenDoors M as t k kx
  | 115 => PC_X2_keeps M as t k kx
  | _ => False
def N_X4_stop (v : Bool) (ix : Nat) : Option (Nat × Nat × Nat) := match v, ix with
  | false, 44 => some (1, 0, 0)
  | false, 57 => some (2, 0, 0)
  | true, 108 => some (1, 0, 0)
  | true, 115 => some (2, 0, 0)
  | _, _ => none
def S_X4_stop (pc : Nat) : Option (List (Nat × Nat × Nat) × List (Nat × Nat) × Nat × Nat) := match pc with
  | 64 => some ([(3, 1, 8), (4, 1, 5)], [(0, 0)], 0, 0)
  | 63 => some ([(3, 1, 8), (4, 1, 5)], [], 0, 0)
  | _ => none
def H_X4_stop (pc : Nat) : Option String := none
set_option maxRecDepth 100000 in
set_option maxHeartbeats 4000000 in
theorem c_X4_stop {l : Launch} (hst9 : l.stackTraces = false) {D : va_G} {X : Nat → ClassId} {ad : Nat → Nat → Nat} {M : Nat → Nat → Bool} {post : Option VV → TT → Prop} {px : String → TT → Prop} (o0 : Nat) (a1 : Int32) (a2 : Int32) (t : TT) (h : P_X4_stop M (fun t1 => post none t1) px o0 a1 a2 t) : CT l yX4_stop (Cond.code yX4_stop cX4_stop 5 none :: LT) ({ frames := 2, cells := 0, slots := 0, locals := 42 } : Room) D X ad M [.inr (.inl (0, o0)), .inl a1, .inl a2] t 0 0 post px := by
  refine met_of_wp (by decide +kernel) (Nat.le_of_ble_eq_true rfl) ?_
  intro p e s m args below meth c A hx hb hml hts hown hK hnt hlocks hr hA hE
  have hR9 : Ready p l e ({ frames := 2, cells := 0, slots := 0, locals := 42 } : Room) s m args below meth c D X ad A M 5 cX4_stop 0 0 post px RX4 0 (fldOf F_X4) N_X4_stop (Q_X4_stop M) (tabOf T_X4_stop) H_X4_stop := by
    refine ⟨hx, hb, hts, hown, hK, hnt, hlocks, hr, F_X4_ok, ?_, fun pc en h => tabOf_ok T_X4_stop_ok h, ?_⟩
    · intro v9 ix n mc1 ms1 as t k hn hl h
      unfold N_X4_stop at hn
      split at hn
      · cases hn
        exact k_X4_askThat hx hb hml hts hown hK hA hE hst9 (by decide +kernel) ⟨Nat.le_of_ble_eq_true rfl, Nat.le_of_ble_eq_true rfl⟩ rfl rfl h
      · cases hn
        exact k_X4_askNumber hx hb hml hts hown hK hA hE hst9 (by decide +kernel) ⟨Nat.le_of_ble_eq_true rfl, Nat.le_of_ble_eq_true rfl⟩ rfl rfl h
      · cases hn
        exact k_X2_hasOpenDoors hx hb hml hts hown hK hA hE hst9 (by decide +kernel) ⟨Nat.le_of_ble_eq_true rfl, Nat.le_of_ble_eq_true rfl⟩ rfl rfl h
      · cases hn
        exact k_X2_keeps hx hb hml hts hown hK hA hE hst9 (by decide +kernel) ⟨Nat.le_of_ble_eq_true rfl, Nat.le_of_ble_eq_true rfl⟩ rfl rfl h
      · cases hn
    · intro pc E hE9; cases hE9
  have W64 : ∀ (o3 : Nat) (o4 : Nat) (s0 : Int32) (t : TT), B_X4_stop_64 M (fun t1 => post none t1) px o3 o4 s0 t → Wat p l e ({ frames := 2, cells := 0, slots := 0, locals := 42 } : Room) s m args below meth c (QM below args s D X ad A M 0 0 post px) D X ad A M 5 64 [(3, .inr (.inl (8, o3))), (4, .inr (.inl (5, o4)))] [.inl s0] t 0 0 := by
    intro o3 o4 s0 t h
    refine wp_go hR9 (cs := S_X4_stop) (Bk := (fun _ _ _ _ => False)) ?_ 400 64 _ _ _ _ _ h
    intro pc q vs ws t hc hk
    exact hk.elim
  have W63 : ∀ (o3 : Nat) (o4 : Nat) (t : TT), B_X4_stop_63 M (fun t1 => post none t1) px o3 o4 t → Wat p l e ({ frames := 2, cells := 0, slots := 0, locals := 42 } : Room) s m args below meth c (QM below args s D X ad A M 0 0 post px) D X ad A M 5 63 [(3, .inr (.inl (8, o3))), (4, .inr (.inl (5, o4)))] [] t 0 0 := by
    intro o3 o4 t h
    refine wp_go hR9 (cs := S_X4_stop) (Bk := (fun pc vs ws t => match pc with | 64 => (match vs, ws with | [.inr (.inl (8, o3)), .inr (.inl (5, o4))], [.inl s0] => B_X4_stop_64 M (fun t1 => post none t1) px o3 o4 s0 t | _, _ => False) | _ => False)) ?_ 400 63 _ _ _ _ _ h
    intro pc q vs ws t hc hk
    split at hk
    · cases hc
      split at hk
      · exact W64 _ _ _ _ hk
      · exact hk.elim
    · exact hk.elim
  refine wp_go hR9 (cs := S_X4_stop) (Bk := (fun pc vs ws t => match pc with | 63 => (match vs, ws with | [.inr (.inl (8, o3)), .inr (.inl (5, o4))], [] => B_X4_stop_63 M (fun t1 => post none t1) px o3 o4 t | _, _ => False) | 64 => (match vs, ws with | [.inr (.inl (8, o3)), .inr (.inl (5, o4))], [.inl s0] => B_X4_stop_64 M (fun t1 => post none t1) px o3 o4 s0 t | _, _ => False) | _ => False)) ?_ 400 0 _ _ _ _ _ h
  intro pc q vs ws t hc hk
  split at hk
  · cases hc
    split at hk
    · exact W63 _ _ _ hk
    · exact hk.elim
  · cases hc
    split at hk
    · exact W64 _ _ _ _ hk
    · exact hk.elim
  · exact hk.elim
theorem k_X4_stop (hx : p.tables.exec = Jvm.exec) (hb : c.code = b) (hml : c.maxLocals = nL) (hts : ∀ w ∈ LT, w.before args s = true) {own : String} (hown : s.vm.findClass own = some m.cls) (hK : va_K D vwCl (TYX X) s) (hA : ∀ q, s.heap.size ≤ q → A q) (hE : EX A s) (hst9 : l.stackTraces = false) {ix : Nat} (hl9 : Cond.methodLink own ix yX4_stop ∈ LT) (hR : 3 ≤ R.frames ∧ 66 ≤ R.locals) (hmc : R.cells = mc) (hms : R.slots = ms) (h : PC_X4_stop M as t k kx) : CallOK p l e R s m args below meth c Q D X ad A M nL b mc ms (.invokevirtual ix) 0 0 as t k kx := by
  unfold PC_X4_stop at h
  split at h
  · exact call_V hx hb hml hts hown hK hA hE (c_X4_stop hst9 _ _ _ t h.2) ⟨hl9, ws_X4_stop.1, ws_X4_stop.2.1, ws_X4_stop.2.2.1, ws_X4_stop.2.2.2⟩ (n := 2) (by decide +kernel) hR rfl rfl hmc hms rfl ⟨0, _, rfl, h.1, Or.inl rfl, rfl⟩
  · exact CallOK.congr (by simp only [List.map_cons]; congr 1; exact (if_neg h.1).symm) (call_V hx hb hml hts hown hK hA hE (c_X4_stop hst9 _ _ _ t h.2.2) ⟨hl9, ws_X4_stop.1, ws_X4_stop.2.1, ws_X4_stop.2.2.1, ws_X4_stop.2.2.2⟩ (n := 2) (by decide +kernel) hR rfl rfl hmc hms rfl ⟨0, _, rfl, h.2.1, Or.inl rfl, rfl⟩)
  · exact h.elim
def Q_X4_open (M : Nat → Nat → Bool) (ix : Nat) (as : List VV) (t : TT) (k : Option VV → TT → Prop) (kx : String → TT → Prop) : Prop := match ix with
  | 37 => PC_X4_askRange M as t k kx
  | 44 => PC_X4_askThat M as t k kx
  | 57 => PC_X4_askNumber M as t k kx
  | 108 => PC_X2_hasOpenDoors M as t k kx
  | 126 => PC_X2_isAtStop M as t k kx
  | 129 => PC_X2_openDoors M as t k kx
  | _ => False
def N_X4_open (v : Bool) (ix : Nat) : Option (Nat × Nat × Nat) := match v, ix with
  | false, 37 => some (3, 0, 0)
  | false, 44 => some (1, 0, 0)
  | false, 57 => some (2, 0, 0)
  | true, 108 => some (1, 0, 0)
  | true, 126 => some (1, 0, 0)
  | true, 129 => some (2, 0, 0)
  | _, _ => none
def S_X4_open (pc : Nat) : Option (List (Nat × Nat × Nat) × List (Nat × Nat) × Nat × Nat) := match pc with
  | 41 => some ([(2, 0, 0), (3, 1, 8)], [(0, 0)], 0, 0)
  | 40 => some ([(2, 0, 0), (3, 1, 8)], [], 0, 0)
  | _ => none
def H_X4_open (pc : Nat) : Option String := none
set_option maxRecDepth 100000 in
set_option maxHeartbeats 4000000 in
theorem c_X4_open {l : Launch} (hst9 : l.stackTraces = false) {D : va_G} {X : Nat → ClassId} {ad : Nat → Nat → Nat} {M : Nat → Nat → Bool} {post : Option VV → TT → Prop} {px : String → TT → Prop} (o0 : Nat) (a1 : Int32) (a2 : Int32) (t : TT) (h : P_X4_open M (fun r t1 => post (some (.inl r)) t1) px o0 a1 a2 t) : CT l yX4_open (Cond.code yX4_open cX4_open 4 (some .int) :: LT) ({ frames := 2, cells := 0, slots := 0, locals := 43 } : Room) D X ad M [.inr (.inl (0, o0)), .inl a1, .inl a2] t 0 0 post px := by
  refine met_of_wp (by decide +kernel) (Nat.le_of_ble_eq_true rfl) ?_
  intro p e s m args below meth c A hx hb hml hts hown hK hnt hlocks hr hA hE
  have hR9 : Ready p l e ({ frames := 2, cells := 0, slots := 0, locals := 43 } : Room) s m args below meth c D X ad A M 4 cX4_open 0 0 post px RX4 1 (fldOf F_X4) N_X4_open (Q_X4_open M) (tabOf T_X4_open) H_X4_open := by
    refine ⟨hx, hb, hts, hown, hK, hnt, hlocks, hr, F_X4_ok, ?_, fun pc en h => tabOf_ok T_X4_open_ok h, ?_⟩
    · intro v9 ix n mc1 ms1 as t k hn hl h
      unfold N_X4_open at hn
      split at hn
      · cases hn
        exact k_X4_askRange hx hb hml hts hown hK hA hE hst9 (by decide +kernel) ⟨Nat.le_of_ble_eq_true rfl, Nat.le_of_ble_eq_true rfl⟩ rfl rfl h
      · cases hn
        exact k_X4_askThat hx hb hml hts hown hK hA hE hst9 (by decide +kernel) ⟨Nat.le_of_ble_eq_true rfl, Nat.le_of_ble_eq_true rfl⟩ rfl rfl h
      · cases hn
        exact k_X4_askNumber hx hb hml hts hown hK hA hE hst9 (by decide +kernel) ⟨Nat.le_of_ble_eq_true rfl, Nat.le_of_ble_eq_true rfl⟩ rfl rfl h
      · cases hn
        exact k_X2_hasOpenDoors hx hb hml hts hown hK hA hE hst9 (by decide +kernel) ⟨Nat.le_of_ble_eq_true rfl, Nat.le_of_ble_eq_true rfl⟩ rfl rfl h
      · cases hn
        exact k_X2_isAtStop hx hb hml hts hown hK hA hE hst9 (by decide +kernel) ⟨Nat.le_of_ble_eq_true rfl, Nat.le_of_ble_eq_true rfl⟩ rfl rfl h
      · cases hn
        exact k_X2_openDoors hx hb hml hts hown hK hA hE hst9 (by decide +kernel) ⟨Nat.le_of_ble_eq_true rfl, Nat.le_of_ble_eq_true rfl⟩ rfl rfl h
      · cases hn
    · intro pc E hE9; cases hE9
  have W41 : ∀ (a2 : Int32) (o3 : Nat) (s0 : Int32) (t : TT), B_X4_open_41 M (fun r t1 => post (some (.inl r)) t1) px a2 o3 s0 t → Wat p l e ({ frames := 2, cells := 0, slots := 0, locals := 43 } : Room) s m args below meth c (QM below args s D X ad A M 0 0 post px) D X ad A M 4 41 [(2, .inl a2), (3, .inr (.inl (8, o3)))] [.inl s0] t 0 0 := by
    intro a2 o3 s0 t h
    refine wp_go hR9 (cs := S_X4_open) (Bk := (fun _ _ _ _ => False)) ?_ 400 41 _ _ _ _ _ h
    intro pc q vs ws t hc hk
    exact hk.elim
  have W40 : ∀ (a2 : Int32) (o3 : Nat) (t : TT), B_X4_open_40 M (fun r t1 => post (some (.inl r)) t1) px a2 o3 t → Wat p l e ({ frames := 2, cells := 0, slots := 0, locals := 43 } : Room) s m args below meth c (QM below args s D X ad A M 0 0 post px) D X ad A M 4 40 [(2, .inl a2), (3, .inr (.inl (8, o3)))] [] t 0 0 := by
    intro a2 o3 t h
    refine wp_go hR9 (cs := S_X4_open) (Bk := (fun pc vs ws t => match pc with | 41 => (match vs, ws with | [.inl a2, .inr (.inl (8, o3))], [.inl s0] => B_X4_open_41 M (fun r t1 => post (some (.inl r)) t1) px a2 o3 s0 t | _, _ => False) | _ => False)) ?_ 400 40 _ _ _ _ _ h
    intro pc q vs ws t hc hk
    split at hk
    · cases hc
      split at hk
      · exact W41 _ _ _ _ hk
      · exact hk.elim
    · exact hk.elim
  refine wp_go hR9 (cs := S_X4_open) (Bk := (fun pc vs ws t => match pc with | 40 => (match vs, ws with | [.inl a2, .inr (.inl (8, o3))], [] => B_X4_open_40 M (fun r t1 => post (some (.inl r)) t1) px a2 o3 t | _, _ => False) | 41 => (match vs, ws with | [.inl a2, .inr (.inl (8, o3))], [.inl s0] => B_X4_open_41 M (fun r t1 => post (some (.inl r)) t1) px a2 o3 s0 t | _, _ => False) | _ => False)) ?_ 400 0 _ _ _ _ _ h
  intro pc q vs ws t hc hk
  split at hk
  · cases hc
    split at hk
    · exact W40 _ _ _ hk
    · exact hk.elim
  · cases hc
    split at hk
    · exact W41 _ _ _ _ hk
    · exact hk.elim
  · exact hk.elim
theorem k_X4_open (hx : p.tables.exec = Jvm.exec) (hb : c.code = b) (hml : c.maxLocals = nL) (hts : ∀ w ∈ LT, w.before args s = true) {own : String} (hown : s.vm.findClass own = some m.cls) (hK : va_K D vwCl (TYX X) s) (hA : ∀ q, s.heap.size ≤ q → A q) (hE : EX A s) (hst9 : l.stackTraces = false) {ix : Nat} (hl9 : Cond.methodLink own ix yX4_open ∈ LT) (hR : 3 ≤ R.frames ∧ 66 ≤ R.locals) (hmc : R.cells = mc) (hms : R.slots = ms) (h : PC_X4_open M as t k kx) : CallOK p l e R s m args below meth c Q D X ad A M nL b mc ms (.invokevirtual ix) 0 0 as t k kx := by
  unfold PC_X4_open at h
  split at h
  · exact call_V hx hb hml hts hown hK hA hE (c_X4_open hst9 _ _ _ t h.2) ⟨hl9, ws_X4_open.1, ws_X4_open.2.1, ws_X4_open.2.2.1, ws_X4_open.2.2.2⟩ (n := 2) (by decide +kernel) hR rfl rfl hmc hms rfl ⟨0, _, rfl, h.1, Or.inl rfl, rfl⟩
  · exact CallOK.congr (by simp only [List.map_cons]; congr 1; exact (if_neg h.1).symm) (call_V hx hb hml hts hown hK hA hE (c_X4_open hst9 _ _ _ t h.2.2) ⟨hl9, ws_X4_open.1, ws_X4_open.2.1, ws_X4_open.2.2.1, ws_X4_open.2.2.2⟩ (n := 2) (by decide +kernel) hR rfl rfl hmc hms rfl ⟨0, _, rfl, h.2.1, Or.inl rfl, rfl⟩)
  · exact h.elim
def Q_X4_shut (M : Nat → Nat → Bool) (ix : Nat) (as : List VV) (t : TT) (k : Option VV → TT → Prop) (kx : String → TT → Prop) : Prop := match ix with
  | 44 => PC_X4_askThat M as t k kx
  | 57 => PC_X4_askNumber M as t k kx
  | 108 => PC_X2_hasOpenDoors M as t k kx
  | _ => False
def N_X4_shut (v : Bool) (ix : Nat) : Option (Nat × Nat × Nat) := match v, ix with
  | false, 44 => some (1, 0, 0)
  | false, 57 => some (2, 0, 0)
  | true, 108 => some (1, 0, 0)
  | _, _ => none
def S_X4_shut (pc : Nat) : Option (List (Nat × Nat × Nat) × List (Nat × Nat) × Nat × Nat) := none
def H_X4_shut (pc : Nat) : Option String := none
set_option maxRecDepth 100000 in
set_option maxHeartbeats 4000000 in
theorem c_X4_shut {l : Launch} (hst9 : l.stackTraces = false) {D : va_G} {X : Nat → ClassId} {ad : Nat → Nat → Nat} {M : Nat → Nat → Bool} {post : Option VV → TT → Prop} {px : String → TT → Prop} (o0 : Nat) (a1 : Int32) (t : TT) (h : P_X4_shut M (fun t1 => post none t1) px o0 a1 t) : CT l yX4_shut (Cond.code yX4_shut cX4_shut 3 none :: LT) ({ frames := 1, cells := 0, slots := 0, locals := 21 } : Room) D X ad M [.inr (.inl (0, o0)), .inl a1] t 0 0 post px := by
  refine met_of_wp (by decide +kernel) (Nat.le_of_ble_eq_true rfl) ?_
  intro p e s m args below meth c A hx hb hml hts hown hK hnt hlocks hr hA hE
  have hR9 : Ready p l e ({ frames := 1, cells := 0, slots := 0, locals := 21 } : Room) s m args below meth c D X ad A M 3 cX4_shut 0 0 post px RX4 0 (fldOf F_X4) N_X4_shut (Q_X4_shut M) (tabOf T_X4_shut) H_X4_shut := by
    refine ⟨hx, hb, hts, hown, hK, hnt, hlocks, hr, F_X4_ok, ?_, fun pc en h => tabOf_ok T_X4_shut_ok h, ?_⟩
    · intro v9 ix n mc1 ms1 as t k hn hl h
      unfold N_X4_shut at hn
      split at hn
      · cases hn
        exact k_X4_askThat hx hb hml hts hown hK hA hE hst9 (by decide +kernel) ⟨Nat.le_of_ble_eq_true rfl, Nat.le_of_ble_eq_true rfl⟩ rfl rfl h
      · cases hn
        exact k_X4_askNumber hx hb hml hts hown hK hA hE hst9 (by decide +kernel) ⟨Nat.le_of_ble_eq_true rfl, Nat.le_of_ble_eq_true rfl⟩ rfl rfl h
      · cases hn
        exact k_X2_hasOpenDoors hx hb hml hts hown hK hA hE hst9 (by decide +kernel) ⟨Nat.le_of_ble_eq_true rfl, Nat.le_of_ble_eq_true rfl⟩ rfl rfl h
      · cases hn
    · intro pc E hE9; cases hE9
  refine wp_go hR9 (cs := S_X4_shut) (Bk := (fun _ _ _ _ => False)) ?_ 400 0 _ _ _ _ _ h
  intro pc q vs ws t hc hk
  exact hk.elim
theorem k_X4_shut (hx : p.tables.exec = Jvm.exec) (hb : c.code = b) (hml : c.maxLocals = nL) (hts : ∀ w ∈ LT, w.before args s = true) {own : String} (hown : s.vm.findClass own = some m.cls) (hK : va_K D vwCl (TYX X) s) (hA : ∀ q, s.heap.size ≤ q → A q) (hE : EX A s) (hst9 : l.stackTraces = false) {ix : Nat} (hl9 : Cond.methodLink own ix yX4_shut ∈ LT) (hR : 2 ≤ R.frames ∧ 43 ≤ R.locals) (hmc : R.cells = mc) (hms : R.slots = ms) (h : PC_X4_shut M as t k kx) : CallOK p l e R s m args below meth c Q D X ad A M nL b mc ms (.invokevirtual ix) 0 0 as t k kx := by
  unfold PC_X4_shut at h
  split at h
  · exact call_V hx hb hml hts hown hK hA hE (c_X4_shut hst9 _ _ t h.2) ⟨hl9, ws_X4_shut.1, ws_X4_shut.2.1, ws_X4_shut.2.2.1, ws_X4_shut.2.2.2⟩ (n := 1) (by decide +kernel) hR rfl rfl hmc hms rfl ⟨0, _, rfl, h.1, Or.inl rfl, rfl⟩
  · exact CallOK.congr (by simp only [List.map_cons]; congr 1; exact (if_neg h.1).symm) (call_V hx hb hml hts hown hK hA hE (c_X4_shut hst9 _ _ t h.2.2) ⟨hl9, ws_X4_shut.1, ws_X4_shut.2.1, ws_X4_shut.2.2.1, ws_X4_shut.2.2.2⟩ (n := 1) (by decide +kernel) hR rfl rfl hmc hms rfl ⟨0, _, rfl, h.2.1, Or.inl rfl, rfl⟩)
  · exact h.elim
def Q_X4_hold (M : Nat → Nat → Bool) (ix : Nat) (as : List VV) (t : TT) (k : Option VV → TT → Prop) (kx : String → TT → Prop) : Prop := match ix with
  | 37 => PC_X4_askRange M as t k kx
  | 44 => PC_X4_askThat M as t k kx
  | 57 => PC_X4_askNumber M as t k kx
  | 138 => PC_mmin as t k
  | _ => False
def N_X4_hold (v : Bool) (ix : Nat) : Option (Nat × Nat × Nat) := match v, ix with
  | false, 37 => some (3, 0, 0)
  | false, 44 => some (1, 0, 0)
  | false, 57 => some (2, 0, 0)
  | false, 138 => some (2, 0, 0)
  | _, _ => none
def S_X4_hold (pc : Nat) : Option (List (Nat × Nat × Nat) × List (Nat × Nat) × Nat × Nat) := match pc with
  | 34 => some ([(2, 0, 0), (3, 1, 8)], [(0, 0)], 0, 0)
  | _ => none
def H_X4_hold (pc : Nat) : Option String := none
set_option maxRecDepth 100000 in
set_option maxHeartbeats 4000000 in
theorem c_X4_hold {l : Launch} (hst9 : l.stackTraces = false) {D : va_G} {X : Nat → ClassId} {ad : Nat → Nat → Nat} {M : Nat → Nat → Bool} {post : Option VV → TT → Prop} {px : String → TT → Prop} (o0 : Nat) (a1 : Int32) (a2 : Int32) (t : TT) (h : P_X4_hold M (fun r t1 => post (some (.inl r)) t1) px o0 a1 a2 t) : CT l yX4_hold (Cond.code yX4_hold cX4_hold 4 (some .int) :: LT) ({ frames := 1, cells := 0, slots := 0, locals := 22 } : Room) D X ad M [.inr (.inl (0, o0)), .inl a1, .inl a2] t 0 0 post px := by
  refine met_of_wp (by decide +kernel) (Nat.le_of_ble_eq_true rfl) ?_
  intro p e s m args below meth c A hx hb hml hts hown hK hnt hlocks hr hA hE
  have hR9 : Ready p l e ({ frames := 1, cells := 0, slots := 0, locals := 22 } : Room) s m args below meth c D X ad A M 4 cX4_hold 0 0 post px RX4 1 (fldOf F_X4) N_X4_hold (Q_X4_hold M) (tabOf T_X4_hold) H_X4_hold := by
    refine ⟨hx, hb, hts, hown, hK, hnt, hlocks, hr, F_X4_ok, ?_, fun pc en h => tabOf_ok T_X4_hold_ok h, ?_⟩
    · intro v9 ix n mc1 ms1 as t k hn hl h
      unfold N_X4_hold at hn
      split at hn
      · cases hn
        exact k_X4_askRange hx hb hml hts hown hK hA hE hst9 (by decide +kernel) ⟨Nat.le_of_ble_eq_true rfl, Nat.le_of_ble_eq_true rfl⟩ rfl rfl h
      · cases hn
        exact k_X4_askThat hx hb hml hts hown hK hA hE hst9 (by decide +kernel) ⟨Nat.le_of_ble_eq_true rfl, Nat.le_of_ble_eq_true rfl⟩ rfl rfl h
      · cases hn
        exact k_X4_askNumber hx hb hml hts hown hK hA hE hst9 (by decide +kernel) ⟨Nat.le_of_ble_eq_true rfl, Nat.le_of_ble_eq_true rfl⟩ rfl rfl h
      · cases hn
        exact k_mmin hx hb hml hts hown (by decide +kernel) ⟨Nat.le_of_ble_eq_true rfl, Nat.le_of_ble_eq_true rfl⟩ rfl rfl h
      · cases hn
    · intro pc E hE9; cases hE9
  have W34 : ∀ (a2 : Int32) (o3 : Nat) (s0 : Int32) (t : TT), B_X4_hold_34 M (fun r t1 => post (some (.inl r)) t1) px a2 o3 s0 t → Wat p l e ({ frames := 1, cells := 0, slots := 0, locals := 22 } : Room) s m args below meth c (QM below args s D X ad A M 0 0 post px) D X ad A M 4 34 [(2, .inl a2), (3, .inr (.inl (8, o3)))] [.inl s0] t 0 0 := by
    intro a2 o3 s0 t h
    refine wp_go hR9 (cs := S_X4_hold) (Bk := (fun _ _ _ _ => False)) ?_ 400 34 _ _ _ _ _ h
    intro pc q vs ws t hc hk
    exact hk.elim
  refine wp_go hR9 (cs := S_X4_hold) (Bk := (fun pc vs ws t => match pc with | 34 => (match vs, ws with | [.inl a2, .inr (.inl (8, o3))], [.inl s0] => B_X4_hold_34 M (fun r t1 => post (some (.inl r)) t1) px a2 o3 s0 t | _, _ => False) | _ => False)) ?_ 400 0 _ _ _ _ _ h
  intro pc q vs ws t hc hk
  split at hk
  · cases hc
    split at hk
    · exact W34 _ _ _ _ hk
    · exact hk.elim
  · exact hk.elim
theorem k_X4_hold (hx : p.tables.exec = Jvm.exec) (hb : c.code = b) (hml : c.maxLocals = nL) (hts : ∀ w ∈ LT, w.before args s = true) {own : String} (hown : s.vm.findClass own = some m.cls) (hK : va_K D vwCl (TYX X) s) (hA : ∀ q, s.heap.size ≤ q → A q) (hE : EX A s) (hst9 : l.stackTraces = false) {ix : Nat} (hl9 : Cond.methodLink own ix yX4_hold ∈ LT) (hR : 2 ≤ R.frames ∧ 45 ≤ R.locals) (hmc : R.cells = mc) (hms : R.slots = ms) (h : PC_X4_hold M as t k kx) : CallOK p l e R s m args below meth c Q D X ad A M nL b mc ms (.invokevirtual ix) 0 0 as t k kx := by
  unfold PC_X4_hold at h
  split at h
  · exact call_V hx hb hml hts hown hK hA hE (c_X4_hold hst9 _ _ _ t h.2) ⟨hl9, ws_X4_hold.1, ws_X4_hold.2.1, ws_X4_hold.2.2.1, ws_X4_hold.2.2.2⟩ (n := 2) (by decide +kernel) hR rfl rfl hmc hms rfl ⟨0, _, rfl, h.1, Or.inl rfl, rfl⟩
  · exact CallOK.congr (by simp only [List.map_cons]; congr 1; exact (if_neg h.1).symm) (call_V hx hb hml hts hown hK hA hE (c_X4_hold hst9 _ _ _ t h.2.2) ⟨hl9, ws_X4_hold.1, ws_X4_hold.2.1, ws_X4_hold.2.2.1, ws_X4_hold.2.2.2⟩ (n := 2) (by decide +kernel) hR rfl rfl hmc hms rfl ⟨0, _, rfl, h.2.1, Or.inl rfl, rfl⟩)
  · exact h.elim
def Q_X4_depart (M : Nat → Nat → Bool) (ix : Nat) (as : List VV) (t : TT) (k : Option VV → TT → Prop) (kx : String → TT → Prop) : Prop := match ix with
  | 57 => PC_X4_askNumber M as t k kx
  | 144 => PC_X2_canDepart M as t k kx
  | 154 => PC_X1_countDeparture M as t k kx
  | _ => False
def N_X4_depart (v : Bool) (ix : Nat) : Option (Nat × Nat × Nat) := match v, ix with
  | false, 57 => some (2, 0, 0)
  | true, 144 => some (1, 0, 0)
  | true, 154 => some (2, 0, 0)
  | _, _ => none
def S_X4_depart (pc : Nat) : Option (List (Nat × Nat × Nat) × List (Nat × Nat) × Nat × Nat) := match pc with
  | 31 => some ([], [], 0, 0)
  | _ => none
def H_X4_depart (pc : Nat) : Option String := match pc with
  | 31 => some ISE9
  | _ => none
set_option maxRecDepth 100000 in
set_option maxHeartbeats 4000000 in
theorem c_X4_depart {l : Launch} (hst9 : l.stackTraces = false) {D : va_G} {X : Nat → ClassId} {ad : Nat → Nat → Nat} {M : Nat → Nat → Bool} {post : Option VV → TT → Prop} {px : String → TT → Prop} (o0 : Nat) (a1 : Int32) (t : TT) (h : P_X4_depart M (fun r t1 => post (some (.inl r)) t1) px o0 a1 t) : CT l yX4_depart (Cond.code yX4_depart cX4_depart 4 (some .int) :: LT) ({ frames := 2, cells := 0, slots := 0, locals := 40 } : Room) D X ad M [.inr (.inl (0, o0)), .inl a1] t 0 0 post px := by
  refine met_of_wp (by decide +kernel) (Nat.le_of_ble_eq_true rfl) ?_
  intro p e s m args below meth c A hx hb hml hts hown hK hnt hlocks hr hA hE
  have hR9 : Ready p l e ({ frames := 2, cells := 0, slots := 0, locals := 40 } : Room) s m args below meth c D X ad A M 4 cX4_depart 0 0 post px RX4 1 (fldOf F_X4) N_X4_depart (Q_X4_depart M) (tabOf T_X4_depart) H_X4_depart := by
    refine ⟨hx, hb, hts, hown, hK, hnt, hlocks, hr, F_X4_ok, ?_, fun pc en h => tabOf_ok T_X4_depart_ok h, ?_⟩
    · intro v9 ix n mc1 ms1 as t k hn hl h
      unfold N_X4_depart at hn
      split at hn
      · cases hn
        exact k_X4_askNumber hx hb hml hts hown hK hA hE hst9 (by decide +kernel) ⟨Nat.le_of_ble_eq_true rfl, Nat.le_of_ble_eq_true rfl⟩ rfl rfl h
      · cases hn
        exact k_X2_canDepart hx hb hml hts hown hK hA hE hst9 (by decide +kernel) ⟨Nat.le_of_ble_eq_true rfl, Nat.le_of_ble_eq_true rfl⟩ rfl rfl h
      · cases hn
        exact k_X1_countDeparture hx hb hml hts hown hK hA hE hst9 (by decide +kernel) ⟨Nat.le_of_ble_eq_true rfl, Nat.le_of_ble_eq_true rfl⟩ rfl rfl h
      · cases hn
    · exact fun pc E hE9 loc st t cl sl hp h1 h2 h8 => absurd h1 (Nat.not_succ_le_zero _)
  have W31 : ∀ (t : TT), B_X4_depart_31 M (fun r t1 => post (some (.inl r)) t1) px t → Wat p l e ({ frames := 2, cells := 0, slots := 0, locals := 40 } : Room) s m args below meth c (QM below args s D X ad A M 0 0 post px) D X ad A M 4 31 [] [] t 0 0 := by
    intro t h
    refine wp_go hR9 (cs := S_X4_depart) (Bk := (fun _ _ _ _ => False)) ?_ 400 31 _ _ _ _ _ h
    intro pc q vs ws t hc hk
    exact hk.elim
  refine wp_go hR9 (cs := S_X4_depart) (Bk := (fun pc vs ws t => match pc with | 31 => (match vs, ws with | [], [] => B_X4_depart_31 M (fun r t1 => post (some (.inl r)) t1) px t | _, _ => False) | _ => False)) ?_ 400 0 _ _ _ _ _ h
  intro pc q vs ws t hc hk
  split at hk
  · cases hc
    split at hk
    · exact W31 _ hk
    · exact hk.elim
  · exact hk.elim
theorem k_X4_depart (hx : p.tables.exec = Jvm.exec) (hb : c.code = b) (hml : c.maxLocals = nL) (hts : ∀ w ∈ LT, w.before args s = true) {own : String} (hown : s.vm.findClass own = some m.cls) (hK : va_K D vwCl (TYX X) s) (hA : ∀ q, s.heap.size ≤ q → A q) (hE : EX A s) (hst9 : l.stackTraces = false) {ix : Nat} (hl9 : Cond.methodLink own ix yX4_depart ∈ LT) (hR : 3 ≤ R.frames ∧ 63 ≤ R.locals) (hmc : R.cells = mc) (hms : R.slots = ms) (h : PC_X4_depart M as t k kx) : CallOK p l e R s m args below meth c Q D X ad A M nL b mc ms (.invokevirtual ix) 0 0 as t k kx := by
  unfold PC_X4_depart at h
  split at h
  · exact call_V hx hb hml hts hown hK hA hE (c_X4_depart hst9 _ _ t h.2) ⟨hl9, ws_X4_depart.1, ws_X4_depart.2.1, ws_X4_depart.2.2.1, ws_X4_depart.2.2.2⟩ (n := 1) (by decide +kernel) hR rfl rfl hmc hms rfl ⟨0, _, rfl, h.1, Or.inl rfl, rfl⟩
  · exact CallOK.congr (by simp only [List.map_cons]; congr 1; exact (if_neg h.1).symm) (call_V hx hb hml hts hown hK hA hE (c_X4_depart hst9 _ _ t h.2.2) ⟨hl9, ws_X4_depart.1, ws_X4_depart.2.1, ws_X4_depart.2.2.1, ws_X4_depart.2.2.2⟩ (n := 1) (by decide +kernel) hR rfl rfl hmc hms rfl ⟨0, _, rfl, h.2.1, Or.inl rfl, rfl⟩)
  · exact h.elim
def Q_X4_rate (M : Nat → Nat → Bool) (ix : Nat) (as : List VV) (t : TT) (k : Option VV → TT → Prop) (kx : String → TT → Prop) : Prop := match ix with
  | 37 => PC_X4_askRange M as t k kx
  | 57 => PC_X4_askNumber M as t k kx
  | _ => False
def N_X4_rate (v : Bool) (ix : Nat) : Option (Nat × Nat × Nat) := match v, ix with
  | false, 37 => some (3, 0, 0)
  | false, 57 => some (2, 0, 0)
  | _, _ => none
def S_X4_rate (pc : Nat) : Option (List (Nat × Nat × Nat) × List (Nat × Nat) × Nat × Nat) := none
def H_X4_rate (pc : Nat) : Option String := none
set_option maxRecDepth 100000 in
set_option maxHeartbeats 4000000 in
theorem c_X4_rate {l : Launch} (hst9 : l.stackTraces = false) {D : va_G} {X : Nat → ClassId} {ad : Nat → Nat → Nat} {M : Nat → Nat → Bool} {post : Option VV → TT → Prop} {px : String → TT → Prop} (o0 : Nat) (a1 : Int32) (a2 : Int32) (t : TT) (h : P_X4_rate M (fun r t1 => post (some (.inl r)) t1) px o0 a1 a2 t) : CT l yX4_rate (Cond.code yX4_rate cX4_rate 5 (some .int) :: LT) ({ frames := 1, cells := 0, slots := 0, locals := 22 } : Room) D X ad M [.inr (.inl (0, o0)), .inl a1, .inl a2] t 0 0 post px := by
  refine met_of_wp (by decide +kernel) (Nat.le_of_ble_eq_true rfl) ?_
  intro p e s m args below meth c A hx hb hml hts hown hK hnt hlocks hr hA hE
  have hR9 : Ready p l e ({ frames := 1, cells := 0, slots := 0, locals := 22 } : Room) s m args below meth c D X ad A M 5 cX4_rate 0 0 post px RX4 1 (fldOf F_X4) N_X4_rate (Q_X4_rate M) (tabOf T_X4_rate) H_X4_rate := by
    refine ⟨hx, hb, hts, hown, hK, hnt, hlocks, hr, F_X4_ok, ?_, fun pc en h => tabOf_ok T_X4_rate_ok h, ?_⟩
    · intro v9 ix n mc1 ms1 as t k hn hl h
      unfold N_X4_rate at hn
      split at hn
      · cases hn
        exact k_X4_askRange hx hb hml hts hown hK hA hE hst9 (by decide +kernel) ⟨Nat.le_of_ble_eq_true rfl, Nat.le_of_ble_eq_true rfl⟩ rfl rfl h
      · cases hn
        exact k_X4_askNumber hx hb hml hts hown hK hA hE hst9 (by decide +kernel) ⟨Nat.le_of_ble_eq_true rfl, Nat.le_of_ble_eq_true rfl⟩ rfl rfl h
      · cases hn
    · intro pc E hE9; cases hE9
  refine wp_go hR9 (cs := S_X4_rate) (Bk := (fun _ _ _ _ => False)) ?_ 400 0 _ _ _ _ _ h
  intro pc q vs ws t hc hk
  exact hk.elim
theorem k_X4_rate (hx : p.tables.exec = Jvm.exec) (hb : c.code = b) (hml : c.maxLocals = nL) (hts : ∀ w ∈ LT, w.before args s = true) {own : String} (hown : s.vm.findClass own = some m.cls) (hK : va_K D vwCl (TYX X) s) (hA : ∀ q, s.heap.size ≤ q → A q) (hE : EX A s) (hst9 : l.stackTraces = false) {ix : Nat} (hl9 : Cond.methodLink own ix yX4_rate ∈ LT) (hR : 2 ≤ R.frames ∧ 46 ≤ R.locals) (hmc : R.cells = mc) (hms : R.slots = ms) (h : PC_X4_rate M as t k kx) : CallOK p l e R s m args below meth c Q D X ad A M nL b mc ms (.invokevirtual ix) 0 0 as t k kx := by
  unfold PC_X4_rate at h
  split at h
  · exact call_V hx hb hml hts hown hK hA hE (c_X4_rate hst9 _ _ _ t h.2) ⟨hl9, ws_X4_rate.1, ws_X4_rate.2.1, ws_X4_rate.2.2.1, ws_X4_rate.2.2.2⟩ (n := 2) (by decide +kernel) hR rfl rfl hmc hms rfl ⟨0, _, rfl, h.1, Or.inl rfl, rfl⟩
  · exact CallOK.congr (by simp only [List.map_cons]; congr 1; exact (if_neg h.1).symm) (call_V hx hb hml hts hown hK hA hE (c_X4_rate hst9 _ _ _ t h.2.2) ⟨hl9, ws_X4_rate.1, ws_X4_rate.2.1, ws_X4_rate.2.2.1, ws_X4_rate.2.2.2⟩ (n := 2) (by decide +kernel) hR rfl rfl hmc hms rfl ⟨0, _, rfl, h.2.1, Or.inl rfl, rfl⟩)
  · exact h.elim
def Q_X4_platformIs (M : Nat → Nat → Bool) (ix : Nat) (as : List VV) (t : TT) (k : Option VV → TT → Prop) (kx : String → TT → Prop) : Prop := match ix with
  | 37 => PC_X4_askRange M as t k kx
  | 57 => PC_X4_askNumber M as t k kx
  | 163 => PC_X1_tell M as t k kx
  | _ => False
def N_X4_platformIs (v : Bool) (ix : Nat) : Option (Nat × Nat × Nat) := match v, ix with
  | false, 37 => some (3, 0, 0)
  | false, 57 => some (2, 0, 0)
  | true, 163 => some (2, 0, 0)
  | _, _ => none
def S_X4_platformIs (pc : Nat) : Option (List (Nat × Nat × Nat) × List (Nat × Nat) × Nat × Nat) := none
def H_X4_platformIs (pc : Nat) : Option String := none
set_option maxRecDepth 100000 in
set_option maxHeartbeats 4000000 in
theorem c_X4_platformIs {l : Launch} (hst9 : l.stackTraces = false) {D : va_G} {X : Nat → ClassId} {ad : Nat → Nat → Nat} {M : Nat → Nat → Bool} {post : Option VV → TT → Prop} {px : String → TT → Prop} (o0 : Nat) (a1 : Int32) (a2 : Int32) (t : TT) (h : P_X4_platformIs M (fun r t1 => post (some (.inl r)) t1) px o0 a1 a2 t) : CT l yX4_platformIs (Cond.code yX4_platformIs cX4_platformIs 3 (some .int) :: LT) ({ frames := 1, cells := 0, slots := 0, locals := 22 } : Room) D X ad M [.inr (.inl (0, o0)), .inl a1, .inl a2] t 0 0 post px := by
  refine met_of_wp (by decide +kernel) (Nat.le_of_ble_eq_true rfl) ?_
  intro p e s m args below meth c A hx hb hml hts hown hK hnt hlocks hr hA hE
  have hR9 : Ready p l e ({ frames := 1, cells := 0, slots := 0, locals := 22 } : Room) s m args below meth c D X ad A M 3 cX4_platformIs 0 0 post px RX4 1 (fldOf F_X4) N_X4_platformIs (Q_X4_platformIs M) (tabOf T_X4_platformIs) H_X4_platformIs := by
    refine ⟨hx, hb, hts, hown, hK, hnt, hlocks, hr, F_X4_ok, ?_, fun pc en h => tabOf_ok T_X4_platformIs_ok h, ?_⟩
    · intro v9 ix n mc1 ms1 as t k hn hl h
      unfold N_X4_platformIs at hn
      split at hn
      · cases hn
        exact k_X4_askRange hx hb hml hts hown hK hA hE hst9 (by decide +kernel) ⟨Nat.le_of_ble_eq_true rfl, Nat.le_of_ble_eq_true rfl⟩ rfl rfl h
      · cases hn
        exact k_X4_askNumber hx hb hml hts hown hK hA hE hst9 (by decide +kernel) ⟨Nat.le_of_ble_eq_true rfl, Nat.le_of_ble_eq_true rfl⟩ rfl rfl h
      · cases hn
        exact k_X1_tell hx hb hml hts hown hK hA hE hst9 (by decide +kernel) ⟨Nat.le_of_ble_eq_true rfl, Nat.le_of_ble_eq_true rfl⟩ rfl rfl h
      · cases hn
    · intro pc E hE9; cases hE9
  refine wp_go hR9 (cs := S_X4_platformIs) (Bk := (fun _ _ _ _ => False)) ?_ 400 0 _ _ _ _ _ h
  intro pc q vs ws t hc hk
  exact hk.elim
theorem k_X4_platformIs (hx : p.tables.exec = Jvm.exec) (hb : c.code = b) (hml : c.maxLocals = nL) (hts : ∀ w ∈ LT, w.before args s = true) {own : String} (hown : s.vm.findClass own = some m.cls) (hK : va_K D vwCl (TYX X) s) (hA : ∀ q, s.heap.size ≤ q → A q) (hE : EX A s) (hst9 : l.stackTraces = false) {ix : Nat} (hl9 : Cond.methodLink own ix yX4_platformIs ∈ LT) (hR : 2 ≤ R.frames ∧ 44 ≤ R.locals) (hmc : R.cells = mc) (hms : R.slots = ms) (h : PC_X4_platformIs M as t k kx) : CallOK p l e R s m args below meth c Q D X ad A M nL b mc ms (.invokevirtual ix) 0 0 as t k kx := by
  unfold PC_X4_platformIs at h
  split at h
  · exact call_V hx hb hml hts hown hK hA hE (c_X4_platformIs hst9 _ _ _ t h.2) ⟨hl9, ws_X4_platformIs.1, ws_X4_platformIs.2.1, ws_X4_platformIs.2.2.1, ws_X4_platformIs.2.2.2⟩ (n := 2) (by decide +kernel) hR rfl rfl hmc hms rfl ⟨0, _, rfl, h.1, Or.inl rfl, rfl⟩
  · exact CallOK.congr (by simp only [List.map_cons]; congr 1; exact (if_neg h.1).symm) (call_V hx hb hml hts hown hK hA hE (c_X4_platformIs hst9 _ _ _ t h.2.2) ⟨hl9, ws_X4_platformIs.1, ws_X4_platformIs.2.1, ws_X4_platformIs.2.2.1, ws_X4_platformIs.2.2.2⟩ (n := 2) (by decide +kernel) hR rfl rfl hmc hms rfl ⟨0, _, rfl, h.2.1, Or.inl rfl, rfl⟩)
  · exact h.elim
def Q_X4_placeAnew (M : Nat → Nat → Bool) (ix : Nat) (as : List VV) (t : TT) (k : Option VV → TT → Prop) (kx : String → TT → Prop) : Prop := match ix with
  | 57 => PC_X4_askNumber M as t k kx
  | 167 => PC_X2_playAgain M as t k kx
  | _ => False
def N_X4_placeAnew (v : Bool) (ix : Nat) : Option (Nat × Nat × Nat) := match v, ix with
  | false, 57 => some (2, 0, 0)
  | true, 167 => some (2, 0, 0)
  | _, _ => none
def S_X4_placeAnew (pc : Nat) : Option (List (Nat × Nat × Nat) × List (Nat × Nat) × Nat × Nat) := none
def H_X4_placeAnew (pc : Nat) : Option String := none
set_option maxRecDepth 100000 in
set_option maxHeartbeats 4000000 in
theorem c_X4_placeAnew {l : Launch} (hst9 : l.stackTraces = false) {D : va_G} {X : Nat → ClassId} {ad : Nat → Nat → Nat} {M : Nat → Nat → Bool} {post : Option VV → TT → Prop} {px : String → TT → Prop} (o0 : Nat) (a1 : Int32) (t : TT) (h : P_X4_placeAnew M (fun r t1 => post (some (.inl r)) t1) px o0 a1 t) : CT l yX4_placeAnew (Cond.code yX4_placeAnew cX4_placeAnew 2 (some .int) :: LT) ({ frames := 1, cells := 0, slots := 0, locals := 23 } : Room) D X ad M [.inr (.inl (0, o0)), .inl a1] t 0 0 post px := by
  refine met_of_wp (by decide +kernel) (Nat.le_of_ble_eq_true rfl) ?_
  intro p e s m args below meth c A hx hb hml hts hown hK hnt hlocks hr hA hE
  have hR9 : Ready p l e ({ frames := 1, cells := 0, slots := 0, locals := 23 } : Room) s m args below meth c D X ad A M 2 cX4_placeAnew 0 0 post px RX4 1 (fldOf F_X4) N_X4_placeAnew (Q_X4_placeAnew M) (tabOf T_X4_placeAnew) H_X4_placeAnew := by
    refine ⟨hx, hb, hts, hown, hK, hnt, hlocks, hr, F_X4_ok, ?_, fun pc en h => tabOf_ok T_X4_placeAnew_ok h, ?_⟩
    · intro v9 ix n mc1 ms1 as t k hn hl h
      unfold N_X4_placeAnew at hn
      split at hn
      · cases hn
        exact k_X4_askNumber hx hb hml hts hown hK hA hE hst9 (by decide +kernel) ⟨Nat.le_of_ble_eq_true rfl, Nat.le_of_ble_eq_true rfl⟩ rfl rfl h
      · cases hn
        exact k_X2_playAgain hx hb hml hts hown hK hA hE hst9 (by decide +kernel) ⟨Nat.le_of_ble_eq_true rfl, Nat.le_of_ble_eq_true rfl⟩ rfl rfl h
      · cases hn
    · intro pc E hE9; cases hE9
  refine wp_go hR9 (cs := S_X4_placeAnew) (Bk := (fun _ _ _ _ => False)) ?_ 400 0 _ _ _ _ _ h
  intro pc q vs ws t hc hk
  exact hk.elim
theorem k_X4_placeAnew (hx : p.tables.exec = Jvm.exec) (hb : c.code = b) (hml : c.maxLocals = nL) (hts : ∀ w ∈ LT, w.before args s = true) {own : String} (hown : s.vm.findClass own = some m.cls) (hK : va_K D vwCl (TYX X) s) (hA : ∀ q, s.heap.size ≤ q → A q) (hE : EX A s) (hst9 : l.stackTraces = false) {ix : Nat} (hl9 : Cond.methodLink own ix yX4_placeAnew ∈ LT) (hR : 2 ≤ R.frames ∧ 44 ≤ R.locals) (hmc : R.cells = mc) (hms : R.slots = ms) (h : PC_X4_placeAnew M as t k kx) : CallOK p l e R s m args below meth c Q D X ad A M nL b mc ms (.invokevirtual ix) 0 0 as t k kx := by
  unfold PC_X4_placeAnew at h
  split at h
  · exact call_V hx hb hml hts hown hK hA hE (c_X4_placeAnew hst9 _ _ t h.2) ⟨hl9, ws_X4_placeAnew.1, ws_X4_placeAnew.2.1, ws_X4_placeAnew.2.2.1, ws_X4_placeAnew.2.2.2⟩ (n := 1) (by decide +kernel) hR rfl rfl hmc hms rfl ⟨0, _, rfl, h.1, Or.inl rfl, rfl⟩
  · exact CallOK.congr (by simp only [List.map_cons]; congr 1; exact (if_neg h.1).symm) (call_V hx hb hml hts hown hK hA hE (c_X4_placeAnew hst9 _ _ t h.2.2) ⟨hl9, ws_X4_placeAnew.1, ws_X4_placeAnew.2.1, ws_X4_placeAnew.2.2.1, ws_X4_placeAnew.2.2.2⟩ (n := 1) (by decide +kernel) hR rfl rfl hmc hms rfl ⟨0, _, rfl, h.2.1, Or.inl rfl, rfl⟩)
  · exact h.elim
def Q_X4_isSafe (M : Nat → Nat → Bool) (ix : Nat) (as : List VV) (t : TT) (k : Option VV → TT → Prop) (kx : String → TT → Prop) : Prop := match ix with
  | 170 => PC_X2_isInItsBounds M as t k kx
  | 179 => PC_X2_mayCover M as t k kx
  | _ => False
def N_X4_isSafe (v : Bool) (ix : Nat) : Option (Nat × Nat × Nat) := match v, ix with
  | true, 170 => some (1, 0, 0)
  | true, 179 => some (3, 0, 0)
  | _, _ => none
def S_X4_isSafe (pc : Nat) : Option (List (Nat × Nat × Nat) × List (Nat × Nat) × Nat × Nat) := match pc with
  | 26 => some ([(0, 1, 0), (1, 0, 0), (2, 0, 0)], [], 0, 0)
  | 2 => some ([(0, 1, 0), (1, 0, 0)], [], 0, 0)
  | _ => none
def H_X4_isSafe (pc : Nat) : Option String := none
set_option maxRecDepth 100000 in
set_option maxHeartbeats 4000000 in
theorem c_X4_isSafe {l : Launch} (hst9 : l.stackTraces = false) {D : va_G} {X : Nat → ClassId} {ad : Nat → Nat → Nat} {M : Nat → Nat → Bool} {post : Option VV → TT → Prop} {px : String → TT → Prop} (o0 : Nat) (t : TT) (h : P_X4_isSafe M (fun r t1 => post (some (.inl r)) t1) px o0 t) : CT l yX4_isSafe (Cond.code yX4_isSafe cX4_isSafe 3 (some .boolean) :: LT) ({ frames := 1, cells := 0, slots := 0, locals := 22 } : Room) D X ad M [.inr (.inl (0, o0))] t 0 0 post px := by
  refine met_of_wp (by decide +kernel) (Nat.le_of_ble_eq_true rfl) ?_
  intro p e s m args below meth c A hx hb hml hts hown hK hnt hlocks hr hA hE
  have hR9 : Ready p l e ({ frames := 1, cells := 0, slots := 0, locals := 22 } : Room) s m args below meth c D X ad A M 3 cX4_isSafe 0 0 post px RX4 2 (fldOf F_X4) N_X4_isSafe (Q_X4_isSafe M) (tabOf T_X4_isSafe) H_X4_isSafe := by
    refine ⟨hx, hb, hts, hown, hK, hnt, hlocks, hr, F_X4_ok, ?_, fun pc en h => tabOf_ok T_X4_isSafe_ok h, ?_⟩
    · intro v9 ix n mc1 ms1 as t k hn hl h
      unfold N_X4_isSafe at hn
      split at hn
      · cases hn
        exact k_X2_isInItsBounds hx hb hml hts hown hK hA hE hst9 (by decide +kernel) ⟨Nat.le_of_ble_eq_true rfl, Nat.le_of_ble_eq_true rfl⟩ rfl rfl h
      · cases hn
        exact k_X2_mayCover hx hb hml hts hown hK hA hE hst9 (by decide +kernel) ⟨Nat.le_of_ble_eq_true rfl, Nat.le_of_ble_eq_true rfl⟩ rfl rfl h
      · cases hn
    · intro pc E hE9; cases hE9
  have W26 : ∀ (k2 : Nat → Int32 → TT → Prop) (hk2 : ∀ (o0 : Nat) (a1 : Int32) (t : TT), k2 o0 a1 t → Wat p l e ({ frames := 1, cells := 0, slots := 0, locals := 22 } : Room) s m args below meth c (QM below args s D X ad A M 0 0 post px) D X ad A M 3 2 [(0, .inr (.inl (0, o0))), (1, .inl a1)] [] t 0 0) (n : Nat) (o0 : Nat) (a1 : Int32) (a2 : Int32) (t : TT), L_X4_isSafe_26 M (fun r t1 => post (some (.inl r)) t1) px k2 n o0 a1 a2 t → Wat p l e ({ frames := 1, cells := 0, slots := 0, locals := 22 } : Room) s m args below meth c (QM below args s D X ad A M 0 0 post px) D X ad A M 3 26 [(0, .inr (.inl (0, o0))), (1, .inl a1), (2, .inl a2)] [] t 0 0 := by
    intro k2 hk2
    intro n
    induction n with
    | zero =>
      intro o0 a1 a2 t h
      exact h.elim
    | succ n ih =>
      intro o0 a1 a2 t h
      refine wp_go hR9 (cs := S_X4_isSafe) (Bk := (fun pc vs ws t => match pc with | 2 => (match vs, ws with | [.inr (.inl (0, o0)), .inl a1], [] => k2 o0 a1 t | _, _ => False) | 26 => (match vs, ws with | [.inr (.inl (0, o0)), .inl a1, .inl a2], [] => L_X4_isSafe_26 M (fun r t1 => post (some (.inl r)) t1) px k2 n o0 a1 a2 t | _, _ => False) | _ => False)) ?_ 400 26 _ _ _ _ _ h
      intro pc q vs ws t hc hk
      split at hk
      · cases hc
        split at hk
        · exact hk2 _ _ _ hk
        · exact hk.elim
      · cases hc
        split at hk
        · exact ih _ _ _ _ hk
        · exact hk.elim
      · exact hk.elim
  have W2 : ∀ (n : Nat) (o0 : Nat) (a1 : Int32) (t : TT), L_X4_isSafe_2 M (fun r t1 => post (some (.inl r)) t1) px n o0 a1 t → Wat p l e ({ frames := 1, cells := 0, slots := 0, locals := 22 } : Room) s m args below meth c (QM below args s D X ad A M 0 0 post px) D X ad A M 3 2 [(0, .inr (.inl (0, o0))), (1, .inl a1)] [] t 0 0 := by
    intro n
    induction n with
    | zero =>
      intro o0 a1 t h
      exact h.elim
    | succ n ih =>
      intro o0 a1 t h
      refine wp_go hR9 (cs := S_X4_isSafe) (Bk := (fun pc vs ws t => match pc with | 26 => (match vs, ws with | [.inr (.inl (0, o0)), .inl a1, .inl a2], [] => ∃ n9, L_X4_isSafe_26 M (fun r t1 => post (some (.inl r)) t1) px (L_X4_isSafe_2 M (fun r t1 => post (some (.inl r)) t1) px n) n9 o0 a1 a2 t | _, _ => False) | _ => False)) ?_ 400 2 _ _ _ _ _ h
      intro pc q vs ws t hc hk
      split at hk
      · cases hc
        split at hk
        · obtain ⟨n9, hk⟩ := hk
          exact W26 _ ih n9 _ _ _ _ hk
        · exact hk.elim
      · exact hk.elim
  refine wp_go hR9 (cs := S_X4_isSafe) (Bk := (fun pc vs ws t => match pc with | 2 => (match vs, ws with | [.inr (.inl (0, o0)), .inl a1], [] => ∃ n9, L_X4_isSafe_2 M (fun r t1 => post (some (.inl r)) t1) px n9 o0 a1 t | _, _ => False) | _ => False)) ?_ 400 0 _ _ _ _ _ h
  intro pc q vs ws t hc hk
  split at hk
  · cases hc
    split at hk
    · obtain ⟨n9, hk⟩ := hk
      exact W2 n9 _ _ _ hk
    · exact hk.elim
  · exact hk.elim
theorem k_X4_isSafe (hx : p.tables.exec = Jvm.exec) (hb : c.code = b) (hml : c.maxLocals = nL) (hts : ∀ w ∈ LT, w.before args s = true) {own : String} (hown : s.vm.findClass own = some m.cls) (hK : va_K D vwCl (TYX X) s) (hA : ∀ q, s.heap.size ≤ q → A q) (hE : EX A s) (hst9 : l.stackTraces = false) {ix : Nat} (hl9 : Cond.methodLink own ix yX4_isSafe ∈ LT) (hR : 2 ≤ R.frames ∧ 44 ≤ R.locals) (hmc : R.cells = mc) (hms : R.slots = ms) (h : PC_X4_isSafe M as t k kx) : CallOK p l e R s m args below meth c Q D X ad A M nL b mc ms (.invokevirtual ix) 0 0 as t k kx := by
  unfold PC_X4_isSafe at h
  split at h
  · exact call_V hx hb hml hts hown hK hA hE (c_X4_isSafe hst9 _ t h.2) ⟨hl9, ws_X4_isSafe.1, ws_X4_isSafe.2.1, ws_X4_isSafe.2.2.1, ws_X4_isSafe.2.2.2⟩ (n := 0) (by decide +kernel) hR rfl rfl hmc hms rfl ⟨0, _, rfl, h.1, Or.inl rfl, rfl⟩
  · exact CallOK.congr (by simp only [List.map_cons]; congr 1; exact (if_neg h.1).symm) (call_V hx hb hml hts hown hK hA hE (c_X4_isSafe hst9 _ t h.2.2) ⟨hl9, ws_X4_isSafe.1, ws_X4_isSafe.2.1, ws_X4_isSafe.2.2.1, ws_X4_isSafe.2.2.2⟩ (n := 0) (by decide +kernel) hR rfl rfl hmc hms rfl ⟨0, _, rfl, h.2.1, Or.inl rfl, rfl⟩)
  · exact h.elim
def Q_X4_canBePutIn (M : Nat → Nat → Bool) (ix : Nat) (as : List VV) (t : TT) (k : Option VV → TT → Prop) (kx : String → TT → Prop) : Prop := match ix with
  | 115 => PC_X2_keeps M as t k kx
  | _ => False
def N_X4_canBePutIn (v : Bool) (ix : Nat) : Option (Nat × Nat × Nat) := match v, ix with
  | true, 115 => some (2, 0, 0)
  | _, _ => none
def S_X4_canBePutIn (pc : Nat) : Option (List (Nat × Nat × Nat) × List (Nat × Nat) × Nat × Nat) := match pc with
  | 112 => some ([(0, 1, 0), (1, 0, 0), (2, 0, 0)], [], 0, 0)
  | 69 => some ([(0, 1, 0), (1, 0, 0), (2, 0, 0)], [], 0, 0)
  | 52 => some ([(0, 1, 0), (1, 0, 0), (2, 0, 0)], [(0, 0)], 0, 0)
  | 2 => some ([(0, 1, 0), (1, 0, 0), (2, 0, 0)], [], 0, 0)
  | _ => none
def H_X4_canBePutIn (pc : Nat) : Option String := none
set_option maxRecDepth 100000 in
set_option maxHeartbeats 4000000 in
theorem c_X4_canBePutIn {l : Launch} (hst9 : l.stackTraces = false) {D : va_G} {X : Nat → ClassId} {ad : Nat → Nat → Nat} {M : Nat → Nat → Bool} {post : Option VV → TT → Prop} {px : String → TT → Prop} (o0 : Nat) (a1 : Int32) (t : TT) (h : P_X4_canBePutIn M (fun r t1 => post (some (.inl r)) t1) px o0 a1 t) : CT l yX4_canBePutIn (Cond.code yX4_canBePutIn cX4_canBePutIn 5 (some .boolean) :: LT) ({ frames := 2, cells := 0, slots := 0, locals := 42 } : Room) D X ad M [.inr (.inl (0, o0)), .inl a1] t 0 0 post px := by
  refine met_of_wp (by decide +kernel) (Nat.le_of_ble_eq_true rfl) ?_
  intro p e s m args below meth c A hx hb hml hts hown hK hnt hlocks hr hA hE
  have hR9 : Ready p l e ({ frames := 2, cells := 0, slots := 0, locals := 42 } : Room) s m args below meth c D X ad A M 5 cX4_canBePutIn 0 0 post px RX4 2 (fldOf F_X4) N_X4_canBePutIn (Q_X4_canBePutIn M) (tabOf T_X4_canBePutIn) H_X4_canBePutIn := by
    refine ⟨hx, hb, hts, hown, hK, hnt, hlocks, hr, F_X4_ok, ?_, fun pc en h => tabOf_ok T_X4_canBePutIn_ok h, ?_⟩
    · intro v9 ix n mc1 ms1 as t k hn hl h
      unfold N_X4_canBePutIn at hn
      split at hn
      · cases hn
        exact k_X2_keeps hx hb hml hts hown hK hA hE hst9 (by decide +kernel) ⟨Nat.le_of_ble_eq_true rfl, Nat.le_of_ble_eq_true rfl⟩ rfl rfl h
      · cases hn
    · intro pc E hE9; cases hE9
  have W112 : ∀ (k69 : Nat → Int32 → Int32 → TT → Prop) (hk69 : ∀ (o0 : Nat) (a1 : Int32) (a2 : Int32) (t : TT), k69 o0 a1 a2 t → Wat p l e ({ frames := 2, cells := 0, slots := 0, locals := 42 } : Room) s m args below meth c (QM below args s D X ad A M 0 0 post px) D X ad A M 5 69 [(0, .inr (.inl (0, o0))), (1, .inl a1), (2, .inl a2)] [] t 0 0) (o0 : Nat) (a1 : Int32) (a2 : Int32) (t : TT), B_X4_canBePutIn_112 M (fun r t1 => post (some (.inl r)) t1) px k69 o0 a1 a2 t → Wat p l e ({ frames := 2, cells := 0, slots := 0, locals := 42 } : Room) s m args below meth c (QM below args s D X ad A M 0 0 post px) D X ad A M 5 112 [(0, .inr (.inl (0, o0))), (1, .inl a1), (2, .inl a2)] [] t 0 0 := by
    intro k69 hk69 o0 a1 a2 t h
    refine wp_go hR9 (cs := S_X4_canBePutIn) (Bk := (fun pc vs ws t => match pc with | 69 => (match vs, ws with | [.inr (.inl (0, o0)), .inl a1, .inl a2], [] => k69 o0 a1 a2 t | _, _ => False) | _ => False)) ?_ 400 112 _ _ _ _ _ h
    intro pc q vs ws t hc hk
    split at hk
    · cases hc
      split at hk
      · exact hk69 _ _ _ _ hk
      · exact hk.elim
    · exact hk.elim
  have W69 : ∀ (n : Nat) (o0 : Nat) (a1 : Int32) (a2 : Int32) (t : TT), L_X4_canBePutIn_69 M (fun r t1 => post (some (.inl r)) t1) px n o0 a1 a2 t → Wat p l e ({ frames := 2, cells := 0, slots := 0, locals := 42 } : Room) s m args below meth c (QM below args s D X ad A M 0 0 post px) D X ad A M 5 69 [(0, .inr (.inl (0, o0))), (1, .inl a1), (2, .inl a2)] [] t 0 0 := by
    intro n
    induction n with
    | zero =>
      intro o0 a1 a2 t h
      exact h.elim
    | succ n ih =>
      intro o0 a1 a2 t h
      refine wp_go hR9 (cs := S_X4_canBePutIn) (Bk := (fun pc vs ws t => match pc with | 112 => (match vs, ws with | [.inr (.inl (0, o0)), .inl a1, .inl a2], [] => B_X4_canBePutIn_112 M (fun r t1 => post (some (.inl r)) t1) px (L_X4_canBePutIn_69 M (fun r t1 => post (some (.inl r)) t1) px n) o0 a1 a2 t | _, _ => False) | _ => False)) ?_ 400 69 _ _ _ _ _ h
      intro pc q vs ws t hc hk
      split at hk
      · cases hc
        split at hk
        · exact W112 _ ih _ _ _ _ hk
        · exact hk.elim
      · exact hk.elim
  have W52 : ∀ (k2 : Nat → Int32 → Int32 → TT → Prop) (hk2 : ∀ (o0 : Nat) (a1 : Int32) (a2 : Int32) (t : TT), k2 o0 a1 a2 t → Wat p l e ({ frames := 2, cells := 0, slots := 0, locals := 42 } : Room) s m args below meth c (QM below args s D X ad A M 0 0 post px) D X ad A M 5 2 [(0, .inr (.inl (0, o0))), (1, .inl a1), (2, .inl a2)] [] t 0 0) (o0 : Nat) (a1 : Int32) (a2 : Int32) (s0 : Int32) (t : TT), B_X4_canBePutIn_52 M (fun r t1 => post (some (.inl r)) t1) px k2 o0 a1 a2 s0 t → Wat p l e ({ frames := 2, cells := 0, slots := 0, locals := 42 } : Room) s m args below meth c (QM below args s D X ad A M 0 0 post px) D X ad A M 5 52 [(0, .inr (.inl (0, o0))), (1, .inl a1), (2, .inl a2)] [.inl s0] t 0 0 := by
    intro k2 hk2 o0 a1 a2 s0 t h
    refine wp_go hR9 (cs := S_X4_canBePutIn) (Bk := (fun pc vs ws t => match pc with | 2 => (match vs, ws with | [.inr (.inl (0, o0)), .inl a1, .inl a2], [] => k2 o0 a1 a2 t | _, _ => False) | _ => False)) ?_ 400 52 _ _ _ _ _ h
    intro pc q vs ws t hc hk
    split at hk
    · cases hc
      split at hk
      · exact hk2 _ _ _ _ hk
      · exact hk.elim
    · exact hk.elim
  have W2 : ∀ (n : Nat) (o0 : Nat) (a1 : Int32) (a2 : Int32) (t : TT), L_X4_canBePutIn_2 M (fun r t1 => post (some (.inl r)) t1) px n o0 a1 a2 t → Wat p l e ({ frames := 2, cells := 0, slots := 0, locals := 42 } : Room) s m args below meth c (QM below args s D X ad A M 0 0 post px) D X ad A M 5 2 [(0, .inr (.inl (0, o0))), (1, .inl a1), (2, .inl a2)] [] t 0 0 := by
    intro n
    induction n with
    | zero =>
      intro o0 a1 a2 t h
      exact h.elim
    | succ n ih =>
      intro o0 a1 a2 t h
      refine wp_go hR9 (cs := S_X4_canBePutIn) (Bk := (fun pc vs ws t => match pc with | 52 => (match vs, ws with | [.inr (.inl (0, o0)), .inl a1, .inl a2], [.inl s0] => B_X4_canBePutIn_52 M (fun r t1 => post (some (.inl r)) t1) px (L_X4_canBePutIn_2 M (fun r t1 => post (some (.inl r)) t1) px n) o0 a1 a2 s0 t | _, _ => False) | 69 => (match vs, ws with | [.inr (.inl (0, o0)), .inl a1, .inl a2], [] => ∃ n9, L_X4_canBePutIn_69 M (fun r t1 => post (some (.inl r)) t1) px n9 o0 a1 a2 t | _, _ => False) | _ => False)) ?_ 400 2 _ _ _ _ _ h
      intro pc q vs ws t hc hk
      split at hk
      · cases hc
        split at hk
        · exact W52 _ ih _ _ _ _ _ hk
        · exact hk.elim
      · cases hc
        split at hk
        · obtain ⟨n9, hk⟩ := hk
          exact W69 n9 _ _ _ _ hk
        · exact hk.elim
      · exact hk.elim
  refine wp_go hR9 (cs := S_X4_canBePutIn) (Bk := (fun pc vs ws t => match pc with | 2 => (match vs, ws with | [.inr (.inl (0, o0)), .inl a1, .inl a2], [] => ∃ n9, L_X4_canBePutIn_2 M (fun r t1 => post (some (.inl r)) t1) px n9 o0 a1 a2 t | _, _ => False) | _ => False)) ?_ 400 0 _ _ _ _ _ h
  intro pc q vs ws t hc hk
  split at hk
  · cases hc
    split at hk
    · obtain ⟨n9, hk⟩ := hk
      exact W2 n9 _ _ _ _ hk
    · exact hk.elim
  · exact hk.elim
theorem k_X4_canBePutIn (hx : p.tables.exec = Jvm.exec) (hb : c.code = b) (hml : c.maxLocals = nL) (hts : ∀ w ∈ LT, w.before args s = true) {own : String} (hown : s.vm.findClass own = some m.cls) (hK : va_K D vwCl (TYX X) s) (hA : ∀ q, s.heap.size ≤ q → A q) (hE : EX A s) (hst9 : l.stackTraces = false) {ix : Nat} (hl9 : Cond.methodLink own ix yX4_canBePutIn ∈ LT) (hR : 3 ≤ R.frames ∧ 66 ≤ R.locals) (hmc : R.cells = mc) (hms : R.slots = ms) (h : PC_X4_canBePutIn M as t k kx) : CallOK p l e R s m args below meth c Q D X ad A M nL b mc ms (.invokevirtual ix) 0 0 as t k kx := by
  unfold PC_X4_canBePutIn at h
  split at h
  · exact call_V hx hb hml hts hown hK hA hE (c_X4_canBePutIn hst9 _ _ t h.2) ⟨hl9, ws_X4_canBePutIn.1, ws_X4_canBePutIn.2.1, ws_X4_canBePutIn.2.2.1, ws_X4_canBePutIn.2.2.2⟩ (n := 1) (by decide +kernel) hR rfl rfl hmc hms rfl ⟨0, _, rfl, h.1, Or.inl rfl, rfl⟩
  · exact CallOK.congr (by simp only [List.map_cons]; congr 1; exact (if_neg h.1).symm) (call_V hx hb hml hts hown hK hA hE (c_X4_canBePutIn hst9 _ _ t h.2.2) ⟨hl9, ws_X4_canBePutIn.1, ws_X4_canBePutIn.2.1, ws_X4_canBePutIn.2.2.1, ws_X4_canBePutIn.2.2.2⟩ (n := 1) (by decide +kernel) hR rfl rfl hmc hms rfl ⟨0, _, rfl, h.2.1, Or.inl rfl, rfl⟩)
  · exact h.elim
end K

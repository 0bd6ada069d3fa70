/-! THE WORLD: cells by kind and number (kinds 0..10: the class's; no reference), what they hold by a table of numbers -/
abbrev vwCl : List vw_C := [(RX0, TX0, 2), (RX1, TX1, 8), (RX2, TX2, 18), (RX3, TX3, 3), (RX4, TX4, 10)]
abbrev TT : Type := Nat → Nat → Int32
abbrev VV : Type := Int32 ⊕ ((Nat × Nat) ⊕ (Nat × Int32))
abbrev Loc9 : Type := List (Nat × VV)
def up2 {α : Type} (f : Nat → Nat → α) (k i : Nat) (v : α) : Nat → Nat → α := fun k' i' => if k' = k ∧ i' = i then v else f k' i'
def toQ (ad : Nat → Nat → Nat) (kp : Nat) (x : Int32) : Value := if x = -1 then .null else .ref (ad kp x.toNatClampNeg)
def toV (ad : Nat → Nat → Nat) : VV → Value
  | .inl x => .int x
  | .inr (.inl r) => .ref (ad r.1 r.2)
  | .inr (.inr r) => toQ ad r.1 r.2
/-- an object's fields in the order of the slots: how it is held, and the number of its row -/
def FL : Nat → List (Nat × Nat)
  | 0 => [(3, 1), (3, 2), (3, 3), (3, 4), (0, 3), (0, 11), (0, 14), (0, 18), (0, 2), (0, 1)]
  | 5 => [(0, 40), (0, 4), (0, 10), (0, 5), (0, 6), (0, 7), (0, 8), (0, 9)]
  | 6 => [(0, 12), (0, 13)]
  | 7 => [(0, 15), (0, 16), (0, 17)]
  | 8 => [(0, 31), (0, 32), (1, 9), (1, 10), (0, 19), (0, 20), (0, 21), (0, 24), (0, 23), (0, 22), (0, 25), (0, 34), (0, 33), (2, 26), (0, 30), (0, 27), (0, 28), (0, 29)]
  | _ => []
def kci : Nat → Nat
  | 0 => 4
  | 5 => 1
  | 6 => 0
  | 7 => 3
  | 8 => 2
  | _ => 6
def fvv (t : TT) (i : Nat) (e : Nat × Nat) : VV := match e.1 with
  | 0 => .inl (t e.2 i)
  | 1 => .inr (.inl (e.2, i))
  | 2 => .inr (.inr (5, t e.2 i))
  | 3 => .inr (.inl (e.2, 0))
  | _ => .inr (.inl (21, e.2))
def refsOf (ad : Nat → Nat → Nat) (M : Nat → Nat → Bool) (kp : Nat) : Nat → Option Nat := fun j => if M kp j = true then some (ad kp j) else none
def cellE (X : Nat → ClassId) (ad : Nat → Nat → Nat) (M : Nat → Nat → Bool) (t : TT) (kp i : Nat) : va_E := match kp with
  | 1 => .inl (X 1, 6, .inr (.inr (.inr (.inr (refsOf ad M 5)))))
  | 2 => .inl (X 2, 12, .inr (.inr (.inr (.inr (refsOf ad M 6)))))
  | 3 => .inl (X 3, 4, .inr (.inr (.inr (.inr (refsOf ad M 7)))))
  | 4 => .inl (X 4, 5, .inr (.inr (.inr (.inr (refsOf ad M 8)))))
  | 9 => .inl (X 9, 1000, .inl (fun j => t 35 (1000 * i + j)))
  | 10 => .inl (X 9, 1000, .inl (fun j => t 36 (1000 * i + j)))
  | kp => .inr (kci kp, (FL kp).map fun e => toV ad (fvv t i e))
def TYX (X : Nat → ClassId) : List (ClassId × FieldType) := [(X 1, .object "HeadwayDeep$Platform"), (X 2, .object "HeadwayDeep$Beacon"), (X 3, .object "HeadwayDeep$Zone"), (X 4, .object "HeadwayDeep$Train"), (X 9, .byte), (X 21, .int)]
def okM (M : Nat → Nat → Bool) : Prop := ∀ kp i, M kp i = true → kp < 11
def SW (D : va_G) (X : Nat → ClassId) (ad : Nat → Nat → Nat) (A : Nat → Prop) (M : Nat → Nat → Bool) (t : TT) (H : Heap) : Prop :=
  (∀ kp i, M kp i = true → va_at D vwCl (ad kp i, cellE X ad M t kp i) H) ∧ (∀ kp i kq j, M kp i = true → M kq j = true → ad kp i = ad kq j → kp = kq ∧ i = j) ∧ (∀ kp i, M kp i = true → A (ad kp i)) ∧ okM M
/-- what a cell reads -/
def rd (kp i id j : Nat) : Prop := match kp with
  | 1 => False
  | 2 => False
  | 3 => False
  | 4 => False
  | 9 => id = 35 ∧ ∃ q, q < 1000 ∧ j = 1000 * i + q
  | 10 => id = 36 ∧ ∃ q, q < 1000 ∧ j = 1000 * i + q
  | kp => j = i ∧ ∃ e ∈ FL kp, (e.1 = 0 ∨ e.1 = 2) ∧ e.2 = id
theorem arrV_congr {cI : ClassId} {n : Nat} {f g : Nat → Value} (h : ∀ j, j < n → f j = g j) : arrV cI n f = arrV cI n g := by
  unfold arrV
  congr 1
  apply Array.ext
  · simp
  · intro i h1 h2
    simp only [Array.size_ofFn] at h1
    simp [h i h1]
theorem fvv_congr {ad : Nat → Nat → Nat} {t t' : TT} {kp i : Nat} (h : ∀ e ∈ FL kp, (e.1 = 0 ∨ e.1 = 2) → t' e.2 i = t e.2 i) : ((FL kp).map fun e => toV ad (fvv t' i e)) = ((FL kp).map fun e => toV ad (fvv t i e)) := by
  apply List.map_congr_left
  intro e he
  have h1 := h e he
  obtain ⟨a, b⟩ := e
  congr 1
  match a with
  | 0 => simp only [fvv]; rw [h1 (Or.inl rfl)]
  | 1 => rfl
  | 2 => simp only [fvv]; rw [h1 (Or.inr rfl)]
  | 3 => rfl
  | a + 4 => rfl
theorem cell_congr {D : va_G} {X : Nat → ClassId} {ad : Nat → Nat → Nat} {M : Nat → Nat → Bool} {t t' : TT} {kp i a : Nat} {H : Heap} (h : ∀ id j, rd kp i id j → t' id j = t id j) (hat : va_at D vwCl (a, cellE X ad M t kp i) H) : va_at D vwCl (a, cellE X ad M t' kp i) H := by
  have key : (∀ e ∈ FL kp, (e.1 = 0 ∨ e.1 = 2) → t' e.2 i = t e.2 i) → cellE X ad M t kp i = .inr (kci kp, (FL kp).map fun e => toV ad (fvv t i e)) → cellE X ad M t' kp i = .inr (kci kp, (FL kp).map fun e => toV ad (fvv t' i e)) → va_at D vwCl (a, cellE X ad M t' kp i) H := by
    intro h1 h2 h3
    rw [h3, fvv_congr h1, ← h2]
    exact hat
  match kp, h, hat, key with
  | 1, _, hat, _ => exact hat
  | 2, _, hat, _ => exact hat
  | 3, _, hat, _ => exact hat
  | 4, _, hat, _ => exact hat
  | 9, h, hat, _ =>
    show H[a]? = some (vp_cell _ _)
    rw [show H[a]? = some (vp_cell _ _) from hat, vp_cell_i, vp_cell_i]
    exact congrArg some (arrV_congr fun j hj => by rw [h 35 (1000 * i + j) ⟨rfl, j, hj, rfl⟩])
  | 10, h, hat, _ =>
    show H[a]? = some (vp_cell _ _)
    rw [show H[a]? = some (vp_cell _ _) from hat, vp_cell_i, vp_cell_i]
    exact congrArg some (arrV_congr fun j hj => by rw [h 36 (1000 * i + j) ⟨rfl, j, hj, rfl⟩])
  | 0, h, _, key => exact key (fun e he h1 => h e.2 i ⟨rfl, e, he, h1, rfl⟩) rfl rfl
  | 5, h, _, key => exact key (fun e he h1 => h e.2 i ⟨rfl, e, he, h1, rfl⟩) rfl rfl
  | 6, h, _, key => exact key (fun e he h1 => h e.2 i ⟨rfl, e, he, h1, rfl⟩) rfl rfl
  | 7, h, _, key => exact key (fun e he h1 => h e.2 i ⟨rfl, e, he, h1, rfl⟩) rfl rfl
  | 8, h, _, key => exact key (fun e he h1 => h e.2 i ⟨rfl, e, he, h1, rfl⟩) rfl rfl
  | 20, h, _, key => exact key (fun e he h1 => h e.2 i ⟨rfl, e, he, h1, rfl⟩) rfl rfl
  | 11, h, _, key => exact key (fun e he h1 => h e.2 i ⟨rfl, e, he, h1, rfl⟩) rfl rfl
  | 12, h, _, key => exact key (fun e he h1 => h e.2 i ⟨rfl, e, he, h1, rfl⟩) rfl rfl
  | 13, h, _, key => exact key (fun e he h1 => h e.2 i ⟨rfl, e, he, h1, rfl⟩) rfl rfl
  | 14, h, _, key => exact key (fun e he h1 => h e.2 i ⟨rfl, e, he, h1, rfl⟩) rfl rfl
  | 15, h, _, key => exact key (fun e he h1 => h e.2 i ⟨rfl, e, he, h1, rfl⟩) rfl rfl
  | 16, h, _, key => exact key (fun e he h1 => h e.2 i ⟨rfl, e, he, h1, rfl⟩) rfl rfl
  | 17, h, _, key => exact key (fun e he h1 => h e.2 i ⟨rfl, e, he, h1, rfl⟩) rfl rfl
  | 18, h, _, key => exact key (fun e he h1 => h e.2 i ⟨rfl, e, he, h1, rfl⟩) rfl rfl
  | 19, h, _, key => exact key (fun e he h1 => h e.2 i ⟨rfl, e, he, h1, rfl⟩) rfl rfl
  | 21, h, _, key => exact key (fun e he h1 => h e.2 i ⟨rfl, e, he, h1, rfl⟩) rfl rfl
  | k + 22, h, _, key => exact key (fun e he h1 => h e.2 i ⟨rfl, e, he, h1, rfl⟩) rfl rfl
/-- each number of the table is read by one cell of a world -/
def ownr (c : Bool) (id j : Nat) : Nat × Nat := if c = true then (if id = 35 then (9, j / 1000) else if id = 36 then (10, j / 1000) else if id = 1 ∨ id = 2 ∨ id = 3 ∨ id = 11 ∨ id = 14 ∨ id = 18 then (0, j) else if id = 12 ∨ id = 13 then (6, j) else if 15 ≤ id ∧ id ≤ 17 then (7, j) else if 19 ≤ id ∧ id ≤ 34 then (8, j) else (5, j)) else (0, 0)
theorem rd_own1 {kp i id j : Nat} (hk : kp < 11) (h : rd kp i id j) : ownr true id j = (kp, i) := by
  match kp, hk, h with
  | 1, _, h => exact h.elim
  | 2, _, h => exact h.elim
  | 3, _, h => exact h.elim
  | 4, _, h => exact h.elim
  | 9, _, ⟨h1, q, h2, h3⟩ => subst h1; subst h3; show (9, (1000 * i + q) / 1000) = (9, i); congr 1; omega
  | 10, _, ⟨h1, q, h2, h3⟩ => subst h1; subst h3; show (10, (1000 * i + q) / 1000) = (10, i); congr 1; omega
  | 0, _, ⟨h1, e, h2, h3, h4⟩ =>
    subst h1; subst h4
    simp only [FL, List.mem_cons, List.not_mem_nil, or_false] at h2
    rcases h2 with rfl | rfl | rfl | rfl | rfl | rfl | rfl | rfl | rfl | rfl <;> first | rfl | (simp at h3)
  | 5, _, ⟨h1, e, h2, h3, h4⟩ =>
    subst h1; subst h4
    simp only [FL, List.mem_cons, List.not_mem_nil, or_false] at h2
    rcases h2 with rfl | rfl | rfl | rfl | rfl | rfl | rfl | rfl <;> first | rfl | (simp at h3)
  | 6, _, ⟨h1, e, h2, h3, h4⟩ =>
    subst h1; subst h4
    simp only [FL, List.mem_cons, List.not_mem_nil, or_false] at h2
    rcases h2 with rfl | rfl <;> rfl
  | 7, _, ⟨h1, e, h2, h3, h4⟩ =>
    subst h1; subst h4
    simp only [FL, List.mem_cons, List.not_mem_nil, or_false] at h2
    rcases h2 with rfl | rfl | rfl <;> rfl
  | 8, _, ⟨h1, e, h2, h3, h4⟩ =>
    subst h1; subst h4
    simp only [FL, List.mem_cons, List.not_mem_nil, or_false] at h2
    rcases h2 with rfl | rfl | rfl | rfl | rfl | rfl | rfl | rfl | rfl | rfl | rfl | rfl | rfl | rfl | rfl | rfl | rfl | rfl <;> first | rfl | (simp at h3)
theorem rd_one {M : Nat → Nat → Bool} (hM : okM M) {kp i kq j id k : Nat} (h1 : M kp i = true) (h2 : M kq j = true) (r1 : rd kp i id k) (r2 : rd kq j id k) : kp = kq ∧ i = j := by
  have e1 := rd_own1 (hM _ _ h1) r1
  have e2 := rd_own1 (hM _ _ h2) r2
  rw [e1] at e2
  exact ⟨congrArg Prod.fst e2, congrArg Prod.snd e2⟩
theorem up2_same {α : Type} (f : Nat → Nat → α) (k i : Nat) (v : α) : up2 f k i v k i = v := if_pos ⟨rfl, rfl⟩
theorem up2_ne {α : Type} {f : Nat → Nat → α} {k i k' i' : Nat} {v : α} (h : ¬ (k' = k ∧ i' = i)) : up2 f k i v k' i' = f k' i' := if_neg h
/-- a number of one cell is changed, and the heap at that cell's place alone -/
theorem SW.up {D : va_G} {X : Nat → ClassId} {ad : Nat → Nat → Nat} {A : Nat → Prop} {M : Nat → Nat → Bool} {t : TT} {H H1 : Heap} (h : SW D X ad A M t H) {kp i id j : Nat} {v : Int32} (hi : M kp i = true) (hr : rd kp i id j) (he : va_at D vwCl (ad kp i, cellE X ad M (up2 t id j v) kp i) H1) (oq : ∀ q, q ≠ ad kp i → H1[q]? = H[q]?) : SW D X ad A M (up2 t id j v) H1 := by
  obtain ⟨h1, h2, h3, h4⟩ := h
  refine ⟨fun kq k hk => ?_, h2, h3, h4⟩
  by_cases e : kq = kp ∧ k = i
  · obtain ⟨rfl, rfl⟩ := e
    exact he
  · refine va_at.kept (cell_congr (t := t) (fun id' j' hr' => up2_ne fun z => ?_) (h1 kq k hk)) (oq _ fun z => e (h2 _ _ _ _ hk hi z))
    obtain ⟨rfl, rfl⟩ := z
    exact e (rd_one h4 hk hi hr' hr)
theorem SW.kept {D : va_G} {X : Nat → ClassId} {ad : Nat → Nat → Nat} {A : Nat → Prop} {M : Nat → Nat → Bool} {t : TT} {H H1 : Heap} (h : SW D X ad A M t H) (oq : ∀ kp i, M kp i = true → H1[ad kp i]? = H[ad kp i]?) : SW D X ad A M t H1 := ⟨fun kp i hi => (h.1 kp i hi).kept (oq kp i hi), h.2⟩
theorem SW.lt {D : va_G} {X : Nat → ClassId} {ad : Nat → Nat → Nat} {A : Nat → Prop} {M : Nat → Nat → Bool} {t : TT} {H : Heap} (h : SW D X ad A M t H) {kp i : Nat} (hi : M kp i = true) : ad kp i < H.size := (h.1 kp i hi).lt

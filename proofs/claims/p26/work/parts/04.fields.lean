/-! words, fields: what the tables say of each kind of object -/
def LT : List Cond := lw_tbl.filter goodWord
theorem LT_in {w : Cond} (h : w ∈ lw_tbl) (g : goodWord w = true) : w ∈ LT := List.mem_filter.mpr ⟨h, g⟩
theorem LT_good {w : Cond} (h : w ∈ LT) : goodWord w = true := (List.mem_filter.mp h).2
theorem LT_GoodIn {y : MethodName} {b : ByteArray} {n : Nat} {r : Option FieldType} {x : Cond} (hc : Cond.code y b n r ∈ LT) : GoodIn (x :: LT) (Cond.code y b n r :: LT) := by
  intro w hw
  have h : w ∈ LT := (List.mem_cons.mp hw).elim (fun q => by rw [q]; exact hc) id
  exact ⟨List.mem_cons_of_mem _ h, good_of_word (LT_good h)⟩
def TXk (kp : Nat) : u_T := match kp with
  | 0 => TX4
  | 5 => TX1
  | 6 => TX0
  | 7 => TX3
  | _ => TX2
def RXk (kp : Nat) : String := match kp with
  | 0 => RX4
  | 5 => RX1
  | 6 => RX0
  | 7 => RX3
  | _ => RX2
def tyXk (kp : Nat) : Nat → FieldType := match kp with
  | 0 => tyX4
  | 5 => tyX1
  | 6 => tyX0
  | 7 => tyX3
  | _ => tyX2
def isObj (kp : Nat) : Prop := kp = 0 ∨ kp = 5 ∨ kp = 6 ∨ kp = 7 ∨ kp = 8
def fldOK (own : String) (ix : Nat) (f : Nat × Nat) : Prop := isObj f.1 ∧ Cond.fieldLink own ix (TXk f.1 f.2).1 (TXk f.1 f.2).2.1 (TXk f.1 f.2).2.2.1 ∈ LT
theorem obj_lays_lw {kp : Nat} (h : isObj kp) : ∀ w ∈ u_ws (RXk kp) (TXk kp) (FL kp).length, w ∈ LT := by
  rcases h with rfl | rfl | rfl | rfl | rfl <;> decide +kernel
theorem obj_cl {kp : Nat} (h : isObj kp) : vwCl[kci kp]? = some (RXk kp, TXk kp, (FL kp).length) := by
  rcases h with rfl | rfl | rfl | rfl | rfl <;> rfl
theorem obj_ty {kp : Nat} (h : isObj kp) : ∀ k, k < (FL kp).length → parseFieldDescriptor (TXk kp k).2.2.1 = some (tyXk kp k) := by
  rcases h with rfl | rfl | rfl | rfl | rfl
  · exact tyX4_ok
  · exact tyX1_ok
  · exact tyX0_ok
  · exact tyX3_ok
  · exact tyX2_ok
theorem obj_nm {kp : Nat} (h : isObj kp) : ∀ a, a < (FL kp).length → ∀ b, b < (FL kp).length → a ≠ b → (TXk kp a).2.1 ≠ (TXk kp b).2.1 := by
  rcases h with rfl | rfl | rfl | rfl | rfl
  · exact nmX4
  · exact nmX1
  · exact nmX0
  · exact nmX3
  · exact nmX2
theorem obj_cell {kp : Nat} (h : isObj kp) (X : Nat → ClassId) (ad : Nat → Nat → Nat) (M : Nat → Nat → Bool) (t : TT) (i : Nat) : cellE X ad M t kp i = .inr (kci kp, (FL kp).map fun e => toV ad (fvv t i e)) := by
  rcases h with rfl | rfl | rfl | rfl | rfl <;> rfl
theorem obj_kinds {kp : Nat} (h : isObj kp) : ∀ k, k < (FL kp).length → isFin kp k = false → (∀ e, (FL kp)[k]? = some e → e.1 = 0 → tyXk kp k = (if isBf kp k = true then .boolean else .int) ∧ (TXk kp k).2.2.2 = false) ∧ (∀ e, (FL kp)[k]? = some e → e.1 = 2 → tyXk kp k = .object "HeadwayDeep$Platform" ∧ (TXk kp k).2.2.2 = false) := by
  rcases h with rfl | rfl | rfl | rfl | rfl
  · have h := (by decide +kernel : ∀ k, k < 10 → isFin 0 k = false → (∀ e, e ∈ (FL 0)[k]? → e.1 = 0 → tyXk 0 k = (if isBf 0 k = true then .boolean else .int) ∧ (TXk 0 k).2.2.2 = false) ∧ (∀ e, e ∈ (FL 0)[k]? → e.1 = 2 → tyXk 0 k = .object "HeadwayDeep$Platform" ∧ (TXk 0 k).2.2.2 = false))
    exact h
  · have h := (by decide +kernel : ∀ k, k < 8 → isFin 5 k = false → (∀ e, e ∈ (FL 5)[k]? → e.1 = 0 → tyXk 5 k = (if isBf 5 k = true then .boolean else .int) ∧ (TXk 5 k).2.2.2 = false) ∧ (∀ e, e ∈ (FL 5)[k]? → e.1 = 2 → tyXk 5 k = .object "HeadwayDeep$Platform" ∧ (TXk 5 k).2.2.2 = false))
    exact h
  · have h := (by decide +kernel : ∀ k, k < 2 → isFin 6 k = false → (∀ e, e ∈ (FL 6)[k]? → e.1 = 0 → tyXk 6 k = (if isBf 6 k = true then .boolean else .int) ∧ (TXk 6 k).2.2.2 = false) ∧ (∀ e, e ∈ (FL 6)[k]? → e.1 = 2 → tyXk 6 k = .object "HeadwayDeep$Platform" ∧ (TXk 6 k).2.2.2 = false))
    exact h
  · have h := (by decide +kernel : ∀ k, k < 3 → isFin 7 k = false → (∀ e, e ∈ (FL 7)[k]? → e.1 = 0 → tyXk 7 k = (if isBf 7 k = true then .boolean else .int) ∧ (TXk 7 k).2.2.2 = false) ∧ (∀ e, e ∈ (FL 7)[k]? → e.1 = 2 → tyXk 7 k = .object "HeadwayDeep$Platform" ∧ (TXk 7 k).2.2.2 = false))
    exact h
  · have h := (by decide +kernel : ∀ k, k < 18 → isFin 8 k = false → (∀ e, e ∈ (FL 8)[k]? → e.1 = 0 → tyXk 8 k = (if isBf 8 k = true then .boolean else .int) ∧ (TXk 8 k).2.2.2 = false) ∧ (∀ e, e ∈ (FL 8)[k]? → e.1 = 2 → tyXk 8 k = .object "HeadwayDeep$Platform" ∧ (TXk 8 k).2.2.2 = false))
    exact h
def FLu (kp : Nat) : Bool := (List.range (FL kp).length).all (fun a => (List.range (FL kp).length).all (fun b => match (FL kp)[a]?, (FL kp)[b]? with
  | some x, some y => !((x.1 == 0 || x.1 == 2) && (y.1 == 0 || y.1 == 2) && x.2 == y.2) || a == b
  | _, _ => true))
theorem FL_one {kp : Nat} (h : isObj kp) {a b : Nat} {x y : Nat × Nat} (ha : (FL kp)[a]? = some x) (hb : (FL kp)[b]? = some y) (hx : x.1 = 0 ∨ x.1 = 2) (hy : y.1 = 0 ∨ y.1 = 2) (e : x.2 = y.2) : a = b := by
  have hu : FLu kp = true := by rcases h with rfl | rfl | rfl | rfl | rfl <;> decide +kernel
  unfold FLu at hu
  have h1 := List.all_eq_true.mp hu a (List.mem_range.mpr (List.getElem?_eq_some_iff.mp ha).1)
  have h2 := List.all_eq_true.mp h1 b (List.mem_range.mpr (List.getElem?_eq_some_iff.mp hb).1)
  rw [ha, hb] at h2
  have hx' : (x.1 == 0 || x.1 == 2) = true := by simpa using hx
  have hy' : (y.1 == 0 || y.1 == 2) = true := by simpa using hy
  simp only [hx', hy', e, beq_self_eq_true, Bool.and_self, Bool.not_true, Bool.false_or, beq_iff_eq] at h2
  exact h2
theorem fl_set {kp : Nat} (h : isObj kp) {ad : Nat → Nat → Nat} {t : TT} {i k : Nat} {e : Nat × Nat} {x : Int32} (he : (FL kp)[k]? = some e) (h0 : e.1 = 0 ∨ e.1 = 2) : ((FL kp).map fun q => toV ad (fvv t i q)).set k (toV ad (fvv (up2 t e.2 i x) i e)) = (FL kp).map fun q => toV ad (fvv (up2 t e.2 i x) i q) := by
  have hk := (List.getElem?_eq_some_iff.mp he).1
  apply List.ext_getElem?
  intro j
  rw [List.getElem?_set, List.getElem?_map, List.getElem?_map]
  by_cases hj : k = j
  · subst hj
    rw [if_pos rfl, he]
    simp [hk]
  · rw [if_neg hj]
    cases hf : (FL kp)[j]? with
    | none => rfl
    | some f =>
      show some (toV ad (fvv t i f)) = some (toV ad (fvv (up2 t e.2 i x) i f))
      obtain ⟨a, b⟩ := f
      have key : (a = 0 ∨ a = 2) → up2 t e.2 i x b i = t b i := fun z => up2_ne fun q => hj (FL_one h he hf h0 z q.1.symm)
      match a, key with
      | 0, key => simp only [fvv]; rw [key (Or.inl rfl)]
      | 1, _ => rfl
      | 2, key => simp only [fvv]; rw [key (Or.inr rfl)]
      | 3, _ => rfl
      | a + 4, _ => rfl

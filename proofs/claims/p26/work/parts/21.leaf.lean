/-! WHAT THE SMALL METHODS ANSWER: the reference's and the class's, by the same words of the table -/
theorem ov_1 {t : TT} {i : Nat} : over t 1 i = t 1 i := rfl
theorem ov_2 {t : TT} {i : Nat} : over t 2 i = t 2 i := rfl
theorem ov_3 {t : TT} {i : Nat} : over t 3 i = t 3 i := rfl
theorem ov_4 {t : TT} {i : Nat} : over t 4 i = t 4 i := rfl
theorem ov_5 {t : TT} {i : Nat} : over t 5 i = t 5 i := rfl
theorem ov_6 {t : TT} {i : Nat} : over t 6 i = t 6 i := rfl
theorem ov_7 {t : TT} {i : Nat} : over t 7 i = t 7 i := rfl
theorem ov_8 {t : TT} {i : Nat} : over t 8 i = t 8 i := rfl
theorem ov_10 {t : TT} {i : Nat} : over t 10 i = t 10 i := rfl
theorem ov_11 {t : TT} {i : Nat} : over t 11 i = t 11 i := rfl
theorem ov_12 {t : TT} {i : Nat} : over t 12 i = t 12 i := rfl
theorem ov_13 {t : TT} {i : Nat} : over t 13 i = t 13 i := rfl
theorem ov_14 {t : TT} {i : Nat} : over t 14 i = t 14 i := rfl
theorem ov_15 {t : TT} {i : Nat} : over t 15 i = t 15 i := rfl
theorem ov_16 {t : TT} {i : Nat} : over t 16 i = t 16 i := rfl
theorem ov_17 {t : TT} {i : Nat} : over t 17 i = t 17 i := rfl
theorem ov_18 {t : TT} {i : Nat} : over t 18 i = t 18 i := rfl
theorem ov_19 {t : TT} {i : Nat} : over t 19 i = t 19 i := rfl
theorem ov_20 {t : TT} {i : Nat} : over t 20 i = t 20 i := rfl
theorem ov_21 {t : TT} {i : Nat} : over t 21 i = t 21 i := rfl
theorem ov_22 {t : TT} {i : Nat} : over t 22 i = t 22 i := rfl
theorem ov_23 {t : TT} {i : Nat} : over t 23 i = t 23 i := rfl
theorem ov_24 {t : TT} {i : Nat} : over t 24 i = t 24 i := rfl
theorem ov_25 {t : TT} {i : Nat} : over t 25 i = t 25 i := rfl
theorem ov_26 {t : TT} {i : Nat} : over t 26 i = t 26 i := rfl
theorem ov_27 {t : TT} {i : Nat} : over t 27 i = t 27 i := rfl
theorem ov_28 {t : TT} {i : Nat} : over t 28 i = t 28 i := rfl
theorem ov_29 {t : TT} {i : Nat} : over t 29 i = t 29 i := rfl
theorem ov_30 {t : TT} {i : Nat} : over t 30 i = t 30 i := rfl
theorem ov_31 {t : TT} {i : Nat} : over t 31 i = t 31 i := rfl
theorem ov_32 {t : TT} {i : Nat} : over t 32 i = t 32 i := rfl
theorem ov_33 {t : TT} {i : Nat} : over t 33 i = t 33 i := rfl
theorem ov_34 {t : TT} {i : Nat} : over t 34 i = t 34 i := rfl
theorem ov_35 {t : TT} {i : Nat} : over t 35 i = t 35 i := rfl
theorem ov_36 {t : TT} {i : Nat} : over t 36 i = t 36 i := rfl
def b2i (b : Bool) : Int32 := if b = true then 1 else 0
theorem b2i_B (b : Bool) : isB (b2i b) := by
  cases b
  · exact isB_0
  · exact isB_1
theorem b2i_0 {b : Bool} : (b2i b = 0) = (b = false) := by cases b <;> simp [b2i]
def way (v : Int32) : Int32 := ((v * (v + 1)) / 2) + v
def inS (a b c : Int32) : Int32 := if a < b then 0 else if c < a then 0 else 1
def keepsS (t : TT) (i : Nat) (m : Int32) : Bool := if t 34 i = 0 then !decide (m < t 21 i + way (t 22 i)) else !decide (m < t 23 i)
def atStopS (t : TT) (i : Nat) : Bool := if t 26 i = -1 then false else decide (t 22 i = 0) && !decide (t 20 i < t 4 (t 26 i).toNatClampNeg - 1) && !decide (t 4 (t 26 i).toNatClampNeg + 1 < t 21 i)
section ML
variable {px : String → TT → Prop} {t : TT}
theorem pc_way {M : Nat → Nat → Bool} {post : Int32 → TT → Prop} {a : Int32} : P_X2_wayToStop M post px a t = post (way a) t := by
  unfold P_X2_wayToStop way
  simp
end ML
section CL
variable {px : String → TT → Prop} {t : TT} {np nb nz nt : Nat}
theorem ms0 {q : Prop} : (MS np nb nz nt 0 0 = true ∧ q) = q := by simp [MS]
theorem ms1 {q : Prop} : (MS np nb nz nt 1 0 = true ∧ q) = q := by simp [MS]
theorem ms2 {q : Prop} : (MS np nb nz nt 2 0 = true ∧ q) = q := by simp [MS]
theorem ms3 {q : Prop} : (MS np nb nz nt 3 0 = true ∧ q) = q := by simp [MS]
theorem ms4 {q : Prop} : (MS np nb nz nt 4 0 = true ∧ q) = q := by simp [MS]
theorem pc_askNumber {M : Nat → Nat → Bool} {post : TT → Prop} {a b : Int32} : P_X4_askNumber M post px a b t = if a < 0 then False else if a < b then post t else False := rfl
theorem pc_askRange {M : Nat → Nat → Bool} {post : TT → Prop} {a b c : Int32} : P_X4_askRange M post px a b c t = if a < b then False else if a ≤ c then post t else False := rfl
theorem pc_askThat {M : Nat → Nat → Bool} {post : TT → Prop} {a : Int32} : P_X4_askThat M post px a t = if a = 0 then False else post t := rfl
theorem pc_keeps {post : Int32 → TT → Prop} {i : Nat} {m : Int32} (hi : i < nt) : P_X2_keeps (MS np nb nz nt) post px i m (over t) = post (b2i (keepsS t i m)) (over t) := by
  simp only [B_X2_keeps_37, B_X2_keeps_26, P_X2_keeps, keepsS, ov_1, ov_2, ov_3, ov_4, ov_5, ov_6, ov_7, ov_8, ov_10, ov_11, ov_12, ov_13, ov_14, ov_15, ov_16, ov_17, ov_18, ov_19, ov_20, ov_21, ov_22, ov_23, ov_24, ov_25, ov_26, ov_27, ov_28, ov_29, ov_30, ov_31, ov_32, ov_33, ov_34, ov_35, ov_36, MS_8, hi, true_and, pc_way]
  by_cases h0 : t 34 i = 0
  · by_cases h : m < t 21 i + way (t 22 i) <;> simp [h0, h, b2i, isB_0, isB_1]
  · by_cases h : m < t 23 i <;> simp [h0, h, b2i, isB_0, isB_1]
theorem pc_hasOpenDoors {post : Int32 → TT → Prop} {i : Nat} (hi : i < nt) : P_X2_hasOpenDoors (MS np nb nz nt) post px i (over t) = post (b2i (!decide (t 27 i = -1))) (over t) := by
  simp only [B_X2_hasOpenDoors_13, P_X2_hasOpenDoors, ov_1, ov_2, ov_3, ov_4, ov_5, ov_6, ov_7, ov_8, ov_10, ov_11, ov_12, ov_13, ov_14, ov_15, ov_16, ov_17, ov_18, ov_19, ov_20, ov_21, ov_22, ov_23, ov_24, ov_25, ov_26, ov_27, ov_28, ov_29, ov_30, ov_31, ov_32, ov_33, ov_34, ov_35, ov_36, MS_8, hi, true_and]
  by_cases h : t 27 i = -1 <;> simp [h, b2i, isB_0, isB_1]
theorem pc_isAtStop {post : Int32 → TT → Prop} {i : Nat} (hi : i < nt) (hs : t 26 i = -1 ∨ ∃ p, p < np ∧ t 26 i = nI p) (hp6 : np ≤ 6) : P_X2_isAtStop (MS np nb nz nt) post px i (over t) = post (b2i (atStopS t i)) (over t) := by
  simp only [B_X2_isAtStop_51, B_X2_isAtStop_50, P_X2_isAtStop, atStopS, ov_1, ov_2, ov_3, ov_4, ov_5, ov_6, ov_7, ov_8, ov_10, ov_11, ov_12, ov_13, ov_14, ov_15, ov_16, ov_17, ov_18, ov_19, ov_20, ov_21, ov_22, ov_23, ov_24, ov_25, ov_26, ov_27, ov_28, ov_29, ov_30, ov_31, ov_32, ov_33, ov_34, ov_35, ov_36, MS_8, MS_5, hi, true_and]
  rcases hs with h | ⟨p, hp, h⟩
  · simp only [h, if_true, isB_0, true_and]
    rfl
  · have hn := nI_m1 (n := p) (by omega)
    have hcp := cl0 (n := p) (by omega)
    simp only [h, hn, hp, hcp, if_false, true_and, not_false_eq_true]
    by_cases h1 : t 22 i = 0
    · by_cases h2 : t 20 i < t 4 p - 1
      · simp [h1, h2, b2i, isB_0]
      · by_cases h3 : t 4 p + 1 < t 21 i <;> simp [h1, h2, h3, b2i, isB_0, isB_1]
    · simp [h1, b2i, isB_0]
theorem pc_mayCover {post : Int32 → TT → Prop} {i : Nat} {a b : Int32} (hi : i < nt) : P_X2_mayCover (MS np nb nz nt) post px i a b (over t) = post (b2i (!decide (b < t 20 i - 100) && !decide (t 21 i < a))) (over t) := by
  simp only [B_X2_mayCover_24, B_X2_mayCover_23, P_X2_mayCover, ov_1, ov_2, ov_3, ov_4, ov_5, ov_6, ov_7, ov_8, ov_10, ov_11, ov_12, ov_13, ov_14, ov_15, ov_16, ov_17, ov_18, ov_19, ov_20, ov_21, ov_22, ov_23, ov_24, ov_25, ov_26, ov_27, ov_28, ov_29, ov_30, ov_31, ov_32, ov_33, ov_34, ov_35, ov_36, MS_8, hi, true_and]
  by_cases h : b < t 20 i - 100
  · simp [h, b2i, isB_0]
  · by_cases h2 : t 21 i < a <;> simp [h, h2, b2i, isB_0, isB_1]
theorem pc_isInItsBounds {post : Int32 → TT → Prop} {i : Nat} (hi : i < nt) : P_X2_isInItsBounds (MS np nb nz nt) post px i (over t) = post (b2i (!decide (t 19 i < t 20 i) && !decide (t 21 i < t 19 i) && !decide (t 23 i < t 21 i))) (over t) := by
  simp only [B_X2_isInItsBounds_38, B_X2_isInItsBounds_37, P_X2_isInItsBounds, ov_1, ov_2, ov_3, ov_4, ov_5, ov_6, ov_7, ov_8, ov_10, ov_11, ov_12, ov_13, ov_14, ov_15, ov_16, ov_17, ov_18, ov_19, ov_20, ov_21, ov_22, ov_23, ov_24, ov_25, ov_26, ov_27, ov_28, ov_29, ov_30, ov_31, ov_32, ov_33, ov_34, ov_35, ov_36, MS_8, hi, true_and]
  by_cases h : t 19 i < t 20 i
  · simp [h, b2i, isB_0]
  · by_cases h2 : t 21 i < t 19 i
    · simp [h2, b2i, isB_0]
    · by_cases h3 : t 23 i < t 21 i <;> simp [h, h2, h3, b2i, isB_0, isB_1]
theorem pc_canDepart {post : Int32 → TT → Prop} {i : Nat} (hi : i < nt) (hs : t 26 i = -1 ∨ ∃ p, p < np ∧ t 26 i = nI p) (hp6 : np ≤ 6) : P_X2_canDepart (MS np nb nz nt) post px i (over t) = post (b2i (atStopS t i && decide (t 27 i = -1) && decide (t 29 i = 0))) (over t) := by
  simp only [B_X2_canDepart_26, B_X2_canDepart_25, P_X2_canDepart, ov_1, ov_2, ov_3, ov_4, ov_5, ov_6, ov_7, ov_8, ov_10, ov_11, ov_12, ov_13, ov_14, ov_15, ov_16, ov_17, ov_18, ov_19, ov_20, ov_21, ov_22, ov_23, ov_24, ov_25, ov_26, ov_27, ov_28, ov_29, ov_30, ov_31, ov_32, ov_33, ov_34, ov_35, ov_36, MS_8, hi, true_and, pc_isAtStop hi hs hp6, pc_hasOpenDoors hi, b2i_0]
  by_cases h : atStopS t i = false
  · simp [h, b2i, isB_0]
  · by_cases h2 : t 27 i = -1
    · by_cases h3 : t 29 i = 0
      · simp at h; simp [h, h2, h3, b2i, isB_1]
      · simp [h, h2, h3, b2i, isB_0]
    · simp [h, h2, b2i, isB_0]
end CL

/-! WHAT THE SMALL METHODS ANSWER: the reference's and the class's, by the same words of the table -/
theorem ar_4 {q : Prop} : (isZ 4 = false ∧ MM 21 4 = true ∧ q) = q := by simp [isZ, MM, isArr]
theorem ar_5 {q : Prop} : (isZ 5 = false ∧ MM 21 5 = true ∧ q) = q := by simp [isZ, MM, isArr]
theorem ar_6 {q : Prop} : (isZ 6 = false ∧ MM 21 6 = true ∧ q) = q := by simp [isZ, MM, isArr]
theorem ar_7 {q : Prop} : (isZ 7 = false ∧ MM 21 7 = true ∧ q) = q := by simp [isZ, MM, isArr]
theorem ar_8 {q : Prop} : (isZ 8 = false ∧ MM 21 8 = true ∧ q) = q := by simp [isZ, MM, isArr]
theorem ar_9 {q : Prop} : (isZ 9 = false ∧ MM 21 9 = true ∧ q) = q := by simp [isZ, MM, isArr]
theorem ar_10 {q : Prop} : (isZ 10 = false ∧ MM 21 10 = true ∧ q) = q := by simp [isZ, MM, isArr]
theorem ar_12 {q : Prop} : (isZ 12 = false ∧ MM 21 12 = true ∧ q) = q := by simp [isZ, MM, isArr]
theorem ar_13 {q : Prop} : (isZ 13 = true ∧ MM 21 13 = true ∧ q) = q := by simp [isZ, MM, isArr]
theorem ar_15 {q : Prop} : (isZ 15 = false ∧ MM 21 15 = true ∧ q) = q := by simp [isZ, MM, isArr]
theorem ar_16 {q : Prop} : (isZ 16 = false ∧ MM 21 16 = true ∧ q) = q := by simp [isZ, MM, isArr]
theorem ar_17 {q : Prop} : (isZ 17 = true ∧ MM 21 17 = true ∧ q) = q := by simp [isZ, MM, isArr]
theorem ar_19 {q : Prop} : (isZ 19 = false ∧ MM 21 19 = true ∧ q) = q := by simp [isZ, MM, isArr]
theorem ar_20 {q : Prop} : (isZ 20 = false ∧ MM 21 20 = true ∧ q) = q := by simp [isZ, MM, isArr]
theorem ar_21 {q : Prop} : (isZ 21 = false ∧ MM 21 21 = true ∧ q) = q := by simp [isZ, MM, isArr]
theorem ar_22 {q : Prop} : (isZ 22 = false ∧ MM 21 22 = true ∧ q) = q := by simp [isZ, MM, isArr]
theorem ar_23 {q : Prop} : (isZ 23 = false ∧ MM 21 23 = true ∧ q) = q := by simp [isZ, MM, isArr]
theorem ar_24 {q : Prop} : (isZ 24 = false ∧ MM 21 24 = true ∧ q) = q := by simp [isZ, MM, isArr]
theorem ar_25 {q : Prop} : (isZ 25 = false ∧ MM 21 25 = true ∧ q) = q := by simp [isZ, MM, isArr]
theorem ar_26 {q : Prop} : (isZ 26 = false ∧ MM 21 26 = true ∧ q) = q := by simp [isZ, MM, isArr]
theorem ar_27 {q : Prop} : (isZ 27 = false ∧ MM 21 27 = true ∧ q) = q := by simp [isZ, MM, isArr]
theorem ar_28 {q : Prop} : (isZ 28 = false ∧ MM 21 28 = true ∧ q) = q := by simp [isZ, MM, isArr]
theorem ar_29 {q : Prop} : (isZ 29 = false ∧ MM 21 29 = true ∧ q) = q := by simp [isZ, MM, isArr]
theorem ar_30 {q : Prop} : (isZ 30 = false ∧ MM 21 30 = true ∧ q) = q := by simp [isZ, MM, isArr]
theorem ar_31 {q : Prop} : (isZ 31 = false ∧ MM 21 31 = true ∧ q) = q := by simp [isZ, MM, isArr]
theorem ar_32 {q : Prop} : (isZ 32 = false ∧ MM 21 32 = true ∧ q) = q := by simp [isZ, MM, isArr]
theorem ar_33 {q : Prop} : (isZ 33 = true ∧ MM 21 33 = true ∧ q) = q := by simp [isZ, MM, isArr]
theorem ar_34 {q : Prop} : (isZ 34 = true ∧ MM 21 34 = true ∧ q) = q := by simp [isZ, MM, isArr]
theorem ar_35 {q : Prop} : (isZ 35 = false ∧ MM 21 35 = true ∧ q) = q := by simp [isZ, MM, isArr]
theorem ar_36 {q : Prop} : (isZ 36 = false ∧ MM 21 36 = true ∧ q) = q := by simp [isZ, MM, isArr]
theorem mm20 {q : Prop} : (MM 20 0 = true ∧ q) = q := by simp [MM]
theorem ov_1 {t : TT} {i : Nat} : over t 1 i = t 1 i := rfl
theorem ov_2 {t : TT} {i : Nat} : over t 2 i = t 2 i := rfl
theorem ov_3 {t : TT} {i : Nat} : over t 3 i = t 3 i := rfl
theorem ov_4 {t : TT} {i : Nat} : over t 4 i = t 4 i := rfl
theorem ov_5 {t : TT} {i : Nat} : over t 5 i = t 5 i := rfl
theorem ov_6 {t : TT} {i : Nat} : over t 6 i = t 6 i := rfl
theorem ov_7 {t : TT} {i : Nat} : over t 7 i = t 7 i := rfl
theorem ov_8 {t : TT} {i : Nat} : over t 8 i = t 8 i := rfl
theorem ov_10 {t : TT} {i : Nat} : over t 10 i = t 10 i := rfl
theorem ov_11 {t : TT} {i : Nat} : over t 11 i = t 11 i := rfl
theorem ov_12 {t : TT} {i : Nat} : over t 12 i = t 12 i := rfl
theorem ov_13 {t : TT} {i : Nat} : over t 13 i = t 13 i := rfl
theorem ov_14 {t : TT} {i : Nat} : over t 14 i = t 14 i := rfl
theorem ov_15 {t : TT} {i : Nat} : over t 15 i = t 15 i := rfl
theorem ov_16 {t : TT} {i : Nat} : over t 16 i = t 16 i := rfl
theorem ov_17 {t : TT} {i : Nat} : over t 17 i = t 17 i := rfl
theorem ov_18 {t : TT} {i : Nat} : over t 18 i = t 18 i := rfl
theorem ov_19 {t : TT} {i : Nat} : over t 19 i = t 19 i := rfl
theorem ov_20 {t : TT} {i : Nat} : over t 20 i = t 20 i := rfl
theorem ov_21 {t : TT} {i : Nat} : over t 21 i = t 21 i := rfl
theorem ov_22 {t : TT} {i : Nat} : over t 22 i = t 22 i := rfl
theorem ov_23 {t : TT} {i : Nat} : over t 23 i = t 23 i := rfl
theorem ov_24 {t : TT} {i : Nat} : over t 24 i = t 24 i := rfl
theorem ov_25 {t : TT} {i : Nat} : over t 25 i = t 25 i := rfl
theorem ov_26 {t : TT} {i : Nat} : over t 26 i = t 26 i := rfl
theorem ov_27 {t : TT} {i : Nat} : over t 27 i = t 27 i := rfl
theorem ov_28 {t : TT} {i : Nat} : over t 28 i = t 28 i := rfl
theorem ov_29 {t : TT} {i : Nat} : over t 29 i = t 29 i := rfl
theorem ov_30 {t : TT} {i : Nat} : over t 30 i = t 30 i := rfl
theorem ov_31 {t : TT} {i : Nat} : over t 31 i = t 31 i := rfl
theorem ov_32 {t : TT} {i : Nat} : over t 32 i = t 32 i := rfl
theorem ov_33 {t : TT} {i : Nat} : over t 33 i = t 33 i := rfl
theorem ov_34 {t : TT} {i : Nat} : over t 34 i = t 34 i := rfl
theorem ov_35 {t : TT} {i : Nat} : over t 35 i = t 35 i := rfl
theorem ov_36 {t : TT} {i : Nat} : over t 36 i = t 36 i := rfl
def b2i (b : Bool) : Int32 := if b = true then 1 else 0
theorem b2i_B (b : Bool) : isB (b2i b) := by
  cases b
  · exact isB_0
  · exact isB_1
theorem b2i_0 {b : Bool} : (b2i b = 0) = (b = false) := by cases b <;> simp [b2i]
def way (v : Int32) : Int32 := ((v * (v + 1)) / 2) + v
def inS (a b c : Int32) : Int32 := if a < b then 0 else if c < a then 0 else 1
def keepsS (t : TT) (i : Nat) (m : Int32) : Bool := if t 34 i = 0 then !decide (m < t 21 i + way (t 22 i)) else !decide (m < t 23 i)
def atStopS (t : TT) (i : Nat) : Bool := if t 26 i = -1 then false else decide (t 22 i = 0) && !decide (t 20 i < t 4 (t 26 i).toNatClampNeg - 1) && !decide (t 4 (t 26 i).toNatClampNeg + 1 < t 21 i)
section ML
variable {px : String → TT → Prop} {t : TT}
theorem pm_in {M : Nat → Nat → Bool} {post : Int32 → TT → Prop} {a b c : Int32} : P_X5_in M post px a b c t = post (inS a b c) t := by
  unfold P_X5_in inS B_X5_in_14 B_X5_in_15
  split
  · simp only [isB_0, true_and]
  · split
    · simp only [isB_0, true_and]
    · simp only [isB_1, true_and]
theorem pm_isFine {post : Int32 → TT → Prop} {a : Int32} : P_X5_isFine MM post px 0 a t = post (if a = 0 then 1 else 0) (up2 t 0 0 a) := by
  unfold P_X5_isFine B_X5_isFine_14
  simp only [mm20]
  split
  · simp only [isB_1, true_and]
  · simp only [isB_0, true_and]
theorem isB_in {a b c : Int32} : isB (inS a b c) := by
  unfold inS
  split
  · exact isB_0
  · split
    · exact isB_0
    · exact isB_1
theorem pm_isTrain {post : Int32 → TT → Prop} {a : Int32} : P_X5_isTrain MM post px 0 a t = post (inS a 0 (t 18 0 - 1)) t := by
  unfold P_X5_isTrain
  simp only [mm20, pm_in, isB_in, true_and]
theorem pm_isPlatform {post : Int32 → TT → Prop} {a : Int32} : P_X5_isPlatform MM post px 0 a t = post (inS a 0 (t 3 0 - 1)) t := by
  unfold P_X5_isPlatform
  simp only [mm20, pm_in, isB_in, true_and]
theorem pm_wayOf {M : Nat → Nat → Bool} {post : Int32 → TT → Prop} {a : Int32} : P_X5_wayOf M post px a t = post (way a) t := by
  unfold P_X5_wayOf way
  simp
theorem pc_way {M : Nat → Nat → Bool} {post : Int32 → TT → Prop} {a : Int32} : P_X2_wayToStop M post px a t = post (way a) t := by
  unfold P_X2_wayToStop way
  simp
theorem pm_thrown {post : Int32 → TT → Prop} : P_X5_thrown MM post px 0 t = post (t 0 0) t := by
  unfold P_X5_thrown
  simp only [mm20]
theorem pm_keeps {post : Int32 → TT → Prop} {i : Nat} {m : Int32} (hi : i < 5) : P_X5_keeps MM post px 0 (nI i) m t = post (b2i (keepsS t i m)) t := by
  have hv := vp0 hi (by omega)
  have hc := cl0 (n := i) (by omega)
  unfold P_X5_keeps B_X5_keeps_52 keepsS
  simp only [mm20, ar_4, ar_5, ar_6, ar_7, ar_8, ar_9, ar_10, ar_12, ar_13, ar_15, ar_16, ar_17, ar_19, ar_20, ar_21, ar_22, ar_23, ar_24, ar_25, ar_26, ar_27, ar_28, ar_29, ar_30, ar_31, ar_32, ar_33, ar_34, ar_35, ar_36, hv, hc, true_and, pm_wayOf]
  split
  · split
    · next h => simp [h, b2i, isB_0]
    · next h => simp [h, b2i, isB_1]
  · split
    · next h => simp [h, b2i, isB_0]
    · next h => simp [h, b2i, isB_1]
theorem pm_isAtStop {post : Int32 → TT → Prop} {i : Nat} (hi : i < 5) (hs : t 26 i = -1 ∨ ∃ p, p < 6 ∧ t 26 i = nI p) : P_X5_isAtStop MM post px 0 (nI i) t = post (b2i (atStopS t i)) t := by
  have hv := vp0 hi (by omega)
  have hc := cl0 (n := i) (by omega)
  simp only [B_X5_isAtStop_60, B_X5_isAtStop_59, P_X5_isAtStop, atStopS, mm20, ar_4, ar_5, ar_6, ar_7, ar_8, ar_9, ar_10, ar_12, ar_13, ar_15, ar_16, ar_17, ar_19, ar_20, ar_21, ar_22, ar_23, ar_24, ar_25, ar_26, ar_27, ar_28, ar_29, ar_30, ar_31, ar_32, ar_33, ar_34, ar_35, ar_36, hv, hc, true_and]
  rcases hs with h | ⟨p, hp, h⟩
  · simp only [h, if_true, isB_0, true_and]
    rfl
  · have hn := nI_m1 (n := p) (by omega)
    have hvp := vp0 hp (by omega)
    have hcp := cl0 (n := p) (by omega)
    simp only [h, hn, hvp, hcp, if_false, true_and]
    split
    · next e0 =>
      split
      · next h => simp [h, b2i, isB_0]
      · next h2 =>
        split
        · next h => simp [h, b2i, isB_0]
        · next h => simp [h, h2, e0, b2i, isB_1]
    · next h => simp [h, b2i, isB_0]
theorem pm_ones {M : Nat → Nat → Bool} {post : Int32 → TT → Prop} {a : Int32} : P_X5_ones M post px a t = post ((((a &&& 1) + ((a >>> ((1 : Int32) &&& 31)) &&& 1)) + ((a >>> ((2 : Int32) &&& 31)) &&& 1)) + ((a >>> ((3 : Int32) &&& 31)) &&& 1)) t := rfl
end ML
section CL
variable {px : String → TT → Prop} {t : TT} {np nb nz nt : Nat}
theorem ms0 {q : Prop} : (MS np nb nz nt 0 0 = true ∧ q) = q := by simp [MS]
theorem ms1 {q : Prop} : (MS np nb nz nt 1 0 = true ∧ q) = q := by simp [MS]
theorem ms2 {q : Prop} : (MS np nb nz nt 2 0 = true ∧ q) = q := by simp [MS]
theorem ms3 {q : Prop} : (MS np nb nz nt 3 0 = true ∧ q) = q := by simp [MS]
theorem ms4 {q : Prop} : (MS np nb nz nt 4 0 = true ∧ q) = q := by simp [MS]
theorem pc_askNumber {M : Nat → Nat → Bool} {post : TT → Prop} {a b : Int32} : P_X4_askNumber M post px a b t = if a < 0 then px IOB t else if a < b then post t else px IOB t := rfl
theorem pc_askRange {M : Nat → Nat → Bool} {post : TT → Prop} {a b c : Int32} : P_X4_askRange M post px a b c t = if a < b then px IAE9 t else if a ≤ c then post t else px IAE9 t := rfl
theorem pc_askThat {M : Nat → Nat → Bool} {post : TT → Prop} {a : Int32} : P_X4_askThat M post px a t = if a = 0 then px ISE9 t else post t := rfl
theorem pc_keeps {post : Int32 → TT → Prop} {i : Nat} {m : Int32} (hi : i < nt) : P_X2_keeps (MS np nb nz nt) post px i m (over t) = post (b2i (keepsS t i m)) (over t) := by
  simp only [B_X2_keeps_37, B_X2_keeps_26, P_X2_keeps, keepsS, ov_1, ov_2, ov_3, ov_4, ov_5, ov_6, ov_7, ov_8, ov_10, ov_11, ov_12, ov_13, ov_14, ov_15, ov_16, ov_17, ov_18, ov_19, ov_20, ov_21, ov_22, ov_23, ov_24, ov_25, ov_26, ov_27, ov_28, ov_29, ov_30, ov_31, ov_32, ov_33, ov_34, ov_35, ov_36, MS_8, hi, true_and, pc_way]
  by_cases h0 : t 34 i = 0
  · by_cases h : m < t 21 i + way (t 22 i) <;> simp [h0, h, b2i, isB_0, isB_1]
  · by_cases h : m < t 23 i <;> simp [h0, h, b2i, isB_0, isB_1]
theorem pc_hasOpenDoors {post : Int32 → TT → Prop} {i : Nat} (hi : i < nt) : P_X2_hasOpenDoors (MS np nb nz nt) post px i (over t) = post (b2i (!decide (t 27 i = -1))) (over t) := by
  simp only [B_X2_hasOpenDoors_13, P_X2_hasOpenDoors, ov_1, ov_2, ov_3, ov_4, ov_5, ov_6, ov_7, ov_8, ov_10, ov_11, ov_12, ov_13, ov_14, ov_15, ov_16, ov_17, ov_18, ov_19, ov_20, ov_21, ov_22, ov_23, ov_24, ov_25, ov_26, ov_27, ov_28, ov_29, ov_30, ov_31, ov_32, ov_33, ov_34, ov_35, ov_36, MS_8, hi, true_and]
  by_cases h : t 27 i = -1 <;> simp [h, b2i, isB_0, isB_1]
theorem pc_isAtStop {post : Int32 → TT → Prop} {i : Nat} (hi : i < nt) (hs : t 26 i = -1 ∨ ∃ p, p < np ∧ t 26 i = nI p) (hp6 : np ≤ 6) : P_X2_isAtStop (MS np nb nz nt) post px i (over t) = post (b2i (atStopS t i)) (over t) := by
  simp only [B_X2_isAtStop_51, B_X2_isAtStop_50, P_X2_isAtStop, atStopS, ov_1, ov_2, ov_3, ov_4, ov_5, ov_6, ov_7, ov_8, ov_10, ov_11, ov_12, ov_13, ov_14, ov_15, ov_16, ov_17, ov_18, ov_19, ov_20, ov_21, ov_22, ov_23, ov_24, ov_25, ov_26, ov_27, ov_28, ov_29, ov_30, ov_31, ov_32, ov_33, ov_34, ov_35, ov_36, MS_8, MS_5, hi, true_and]
  rcases hs with h | ⟨p, hp, h⟩
  · simp only [h, if_true, isB_0, true_and]
    rfl
  · have hn := nI_m1 (n := p) (by omega)
    have hcp := cl0 (n := p) (by omega)
    simp only [h, hn, hp, hcp, if_false, true_and, not_false_eq_true]
    by_cases h1 : t 22 i = 0
    · by_cases h2 : t 20 i < t 4 p - 1
      · simp [h1, h2, b2i, isB_0]
      · by_cases h3 : t 4 p + 1 < t 21 i <;> simp [h1, h2, h3, b2i, isB_0, isB_1]
    · simp [h1, b2i, isB_0]
theorem pc_mayCover {post : Int32 → TT → Prop} {i : Nat} {a b : Int32} (hi : i < nt) : P_X2_mayCover (MS np nb nz nt) post px i a b (over t) = post (b2i (!decide (b < t 20 i - 100) && !decide (t 21 i < a))) (over t) := by
  simp only [B_X2_mayCover_24, B_X2_mayCover_23, P_X2_mayCover, ov_1, ov_2, ov_3, ov_4, ov_5, ov_6, ov_7, ov_8, ov_10, ov_11, ov_12, ov_13, ov_14, ov_15, ov_16, ov_17, ov_18, ov_19, ov_20, ov_21, ov_22, ov_23, ov_24, ov_25, ov_26, ov_27, ov_28, ov_29, ov_30, ov_31, ov_32, ov_33, ov_34, ov_35, ov_36, MS_8, hi, true_and]
  by_cases h : b < t 20 i - 100
  · simp [h, b2i, isB_0]
  · by_cases h2 : t 21 i < a <;> simp [h, h2, b2i, isB_0, isB_1]
theorem pc_isInItsBounds {post : Int32 → TT → Prop} {i : Nat} (hi : i < nt) : P_X2_isInItsBounds (MS np nb nz nt) post px i (over t) = post (b2i (!decide (t 19 i < t 20 i) && !decide (t 21 i < t 19 i) && !decide (t 23 i < t 21 i))) (over t) := by
  simp only [B_X2_isInItsBounds_38, B_X2_isInItsBounds_37, P_X2_isInItsBounds, ov_1, ov_2, ov_3, ov_4, ov_5, ov_6, ov_7, ov_8, ov_10, ov_11, ov_12, ov_13, ov_14, ov_15, ov_16, ov_17, ov_18, ov_19, ov_20, ov_21, ov_22, ov_23, ov_24, ov_25, ov_26, ov_27, ov_28, ov_29, ov_30, ov_31, ov_32, ov_33, ov_34, ov_35, ov_36, MS_8, hi, true_and]
  by_cases h : t 19 i < t 20 i
  · simp [h, b2i, isB_0]
  · by_cases h2 : t 21 i < t 19 i
    · simp [h2, b2i, isB_0]
    · by_cases h3 : t 23 i < t 21 i <;> simp [h, h2, h3, b2i, isB_0, isB_1]
theorem pc_canDepart {post : Int32 → TT → Prop} {i : Nat} (hi : i < nt) (hs : t 26 i = -1 ∨ ∃ p, p < np ∧ t 26 i = nI p) (hp6 : np ≤ 6) : P_X2_canDepart (MS np nb nz nt) post px i (over t) = post (b2i (atStopS t i && decide (t 27 i = -1) && decide (t 29 i = 0))) (over t) := by
  simp only [B_X2_canDepart_26, B_X2_canDepart_25, P_X2_canDepart, ov_1, ov_2, ov_3, ov_4, ov_5, ov_6, ov_7, ov_8, ov_10, ov_11, ov_12, ov_13, ov_14, ov_15, ov_16, ov_17, ov_18, ov_19, ov_20, ov_21, ov_22, ov_23, ov_24, ov_25, ov_26, ov_27, ov_28, ov_29, ov_30, ov_31, ov_32, ov_33, ov_34, ov_35, ov_36, MS_8, hi, true_and, pc_isAtStop hi hs hp6, pc_hasOpenDoors hi, b2i_0]
  by_cases h : atStopS t i = false
  · simp [h, b2i, isB_0]
  · by_cases h2 : t 27 i = -1
    · by_cases h3 : t 29 i = 0
      · simp at h; simp [h, h2, h3, b2i, isB_1]
      · simp [h, h2, h3, b2i, isB_0]
    · simp [h, h2, b2i, isB_0]
end CL

/-! the one ahead, what a train is given, the dealing out of LIMITS -/
def Cnt (t : TT) (np nb nz nt : Nat) : Prop := t 3 0 = nI np ∧ np ≤ 6 ∧ t 11 0 = nI nb ∧ nb ≤ 12 ∧ t 14 0 = nI nz ∧ nz ≤ 4 ∧ t 18 0 = nI nt ∧ nt ≤ 5
def nextR (t : TT) (i : Nat) : Nat → Int32
  | 0 => -1
  | k + 1 => if t 19 k ≤ t 19 i then nextR t i k else if nextR t i k = -1 then nI k else if t 19 (nextR t i k).toNatClampNeg ≤ t 19 k then nextR t i k else nI k
theorem nextR_rng {t : TT} {i : Nat} : ∀ k, nextR t i k = -1 ∨ ∃ j, j < k ∧ nextR t i k = nI j
  | 0 => Or.inl rfl
  | k + 1 => by
    have ih := nextR_rng (t := t) (i := i) k
    have up : nextR t i k = -1 ∨ ∃ j, j < k + 1 ∧ nextR t i k = nI j := ih.imp id (fun ⟨j, h1, h2⟩ => ⟨j, by omega, h2⟩)
    unfold nextR
    split
    · exact up
    · split
      · exact Or.inr ⟨k, by omega, rfl⟩
      · split
        · exact up
        · exact Or.inr ⟨k, by omega, rfl⟩
theorem mmin_le {a b : Int32} : mmin a b = if a ≤ b then a else b := by
  unfold mmin
  by_cases h : b < a
  · rw [if_pos h, if_neg (fun z => by rw [i_lt] at h; rw [i_le] at z; omega)]
  · rw [if_neg h, if_pos (by rw [i_lt] at h; rw [i_le]; omega)]
theorem mmin_ge {a b : Int32} : mmin a b = if b ≤ a then b else a := by
  unfold mmin
  by_cases h : b < a
  · rw [if_pos h, if_pos (by rw [i_lt] at h; rw [i_le]; omega)]
  · by_cases e : b ≤ a
    · rw [if_neg h, if_pos e]
      rw [i_eq]
      rw [i_lt] at h
      rw [i_le] at e
      omega
    · rw [if_neg h, if_neg e]
def giv0 (t : TT) (r : Int32) : Int32 := if r = -1 then 5000 else mmin 5000 (t 24 r.toNatClampNeg - 120)
def givR (t : TT) (i : Nat) (l0 : Int32) : Nat → Int32
  | 0 => l0
  | z + 1 => if t 17 z = 0 then givR t i l0 z else if t 15 z < t 21 i then givR t i l0 z else mmin (givR t i l0 z) (t 15 z)
def givS (t : TT) (nt nz i : Nat) : Int32 := givR t i (giv0 t (nextR t i nt)) nz
def dealR (t : TT) (nt nz : Nat) : Nat → TT
  | 0 => t
  | k + 1 => if dealR t nt nz k 34 k = 0 then up2 (dealR t nt nz k) 23 k (givS (dealR t nt nz k) nt nz k) else dealR t nt nz k
theorem dealR_ne {t : TT} {nt nz : Nat} {k i : Nat} (h : k ≠ 23) : ∀ j, dealR t nt nz j k i = t k i
  | 0 => rfl
  | j + 1 => by
    unfold dealR
    split
    · rw [up2_ne (fun z => h z.1), dealR_ne h j]
    · exact dealR_ne h j
theorem nle_self {n : Nat} : nI n ≤ nI n := Int32.le_refl _
section DL
variable {px : String → TT → Prop} {t : TT} {np nb nz nt : Nat}
theorem pc_oneAheadOf {post : Int32 → TT → Prop} {i : Nat} (hi : i < nt) (hc : Cnt t np nb nz nt) (h : post (nextR t i nt) (over t)) : P_X4_oneAheadOf (MS np nb nz nt) post px 0 i (over t) := by
  obtain ⟨-, -, -, -, -, -, ht, h5⟩ := hc
  have L : ∀ m k, k + m = nt → ∃ n, L_X4_oneAheadOf_4 (MS np nb nz nt) post px n 0 i (nextR t i k) (nI k) (over t) := by
    intro m
    induction m with
    | zero =>
      intro k hk
      have : k = nt := by omega
      subst this
      refine ⟨1, ?_⟩
      simp only [L_X4_oneAheadOf_4, ms0, ov_1, ov_2, ov_3, ov_4, ov_5, ov_6, ov_7, ov_8, ov_10, ov_11, ov_12, ov_13, ov_14, ov_15, ov_16, ov_17, ov_18, ov_19, ov_20, ov_21, ov_22, ov_23, ov_24, ov_25, ov_26, ov_27, ov_28, ov_29, ov_30, ov_31, ov_32, ov_33, ov_34, ov_35, ov_36, ht, nle_self, if_true]
      exact h
    | succ m ih =>
      intro k hk
      obtain ⟨n, hn⟩ := ih (k + 1) (by omega)
      refine ⟨n + 1, ?_⟩
      have hvk := vp0 (n := k) (N := 5) (by omega) (by omega)
      have hck := cl0 (n := k) (by omega)
      have hkt : k < nt := by omega
      have hk9 : k < 1000 := by omega
      have hlt : ¬ nI nt ≤ nI k := nI_ge (by omega) (by omega)
      simp only [L_X4_oneAheadOf_4, B_X4_oneAheadOf_51, B_X4_oneAheadOf_48, ms0, MS_4, MS_8, ov_1, ov_2, ov_3, ov_4, ov_5, ov_6, ov_7, ov_8, ov_10, ov_11, ov_12, ov_13, ov_14, ov_15, ov_16, ov_17, ov_18, ov_19, ov_20, ov_21, ov_22, ov_23, ov_24, ov_25, ov_26, ov_27, ov_28, ov_29, ov_30, ov_31, ov_32, ov_33, ov_34, ov_35, ov_36, ht, hlt, hvk, hck, hkt, hk9, hi, if_false, true_and, nI_1]
      by_cases h1 : t 19 k ≤ t 19 i
      · simp only [nextR, h1, if_true] at hn ⊢
        exact hn
      · by_cases h2 : nextR t i k = -1
        · simp only [nextR, h1, h2, if_true, if_false] at hn ⊢
          exact hn
        · obtain ⟨j, hj, ej⟩ := (nextR_rng k).resolve_left h2
          have hjt : j < nt := by omega
          have hcj := cl0 (n := j) (by omega)
          by_cases h3 : t 19 j ≤ t 19 k
          · rw [ej] at h2
            simp only [nextR, ej, hcj, hjt, h1, h2, h3, if_true, if_false, true_and, not_false_eq_true] at hn ⊢
            exact hn
          · rw [ej] at h2
            simp only [nextR, ej, hcj, hjt, h1, h2, h3, if_true, if_false, true_and, not_false_eq_true] at hn ⊢
            exact hn
  exact L nt 0 (by omega)
theorem pc_limitFor {post : Int32 → TT → Prop} {i : Nat} (hi : i < nt) (hc : Cnt t np nb nz nt) (h : post (givS t nt nz i) (over t)) : P_X4_limitFor (MS np nb nz nt) post px 0 i (over t) := by
  have hc0 := hc
  obtain ⟨-, -, -, -, hz, h4, ht, h5⟩ := hc
  have L : ∀ m z, z + m = nz → ∃ n, L_X4_limitFor_29 (MS np nb nz nt) post px n 0 i (givR t i (giv0 t (nextR t i nt)) z) (nI z) (over t) := by
    intro m
    induction m with
    | zero =>
      intro z hk
      have : z = nz := by omega
      subst this
      refine ⟨1, ?_⟩
      simp only [L_X4_limitFor_29, ms0, ov_1, ov_2, ov_3, ov_4, ov_5, ov_6, ov_7, ov_8, ov_10, ov_11, ov_12, ov_13, ov_14, ov_15, ov_16, ov_17, ov_18, ov_19, ov_20, ov_21, ov_22, ov_23, ov_24, ov_25, ov_26, ov_27, ov_28, ov_29, ov_30, ov_31, ov_32, ov_33, ov_34, ov_35, ov_36, hz, nle_self, if_true]
      exact h
    | succ m ih =>
      intro z hk
      obtain ⟨n, hn⟩ := ih (z + 1) (by omega)
      refine ⟨n + 1, ?_⟩
      have hvk := vp0 (n := z) (N := 4) (by omega) (by omega)
      have hck := cl0 (n := z) (by omega)
      have hzt : z < nz := by omega
      have hlt : ¬ nI nz ≤ nI z := nI_ge (by omega) (by omega)
      simp only [L_X4_limitFor_29, B_X4_limitFor_77, ms0, MS_3, MS_7, MS_8, ov_1, ov_2, ov_3, ov_4, ov_5, ov_6, ov_7, ov_8, ov_10, ov_11, ov_12, ov_13, ov_14, ov_15, ov_16, ov_17, ov_18, ov_19, ov_20, ov_21, ov_22, ov_23, ov_24, ov_25, ov_26, ov_27, ov_28, ov_29, ov_30, ov_31, ov_32, ov_33, ov_34, ov_35, ov_36, hz, hlt, hvk, hck, hzt, hi, if_false, true_and, nI_1]
      by_cases h1 : t 17 z = 0
      · simp only [givR, h1, if_true] at hn ⊢
        exact hn
      · by_cases h2 : t 15 z < t 21 i
        · simp only [givR, h1, h2, if_true, if_false] at hn ⊢
          exact hn
        · simp only [givR, h1, h2, if_true, if_false] at hn ⊢
          exact hn
  simp only [P_X4_limitFor, ms0]
  refine pc_oneAheadOf hi hc0 ?_
  obtain ⟨n, hn⟩ := L nz 0 (by omega)
  rcases nextR_rng (t := t) (i := i) nt with e | ⟨j, hj, ej⟩
  · rw [e] at hn ⊢
    simp only [giv0, givR, if_true, B_X4_limitFor_26] at hn ⊢
    exact ⟨n, hn⟩
  · have hn1 := nI_m1 (n := j) (by omega)
    have hjt : j < nt := hj
    have hcj := cl0 (n := j) (by omega)
    rw [ej] at hn ⊢
    simp only [giv0, givR, hn1, hcj, hjt, MS_8, ov_1, ov_2, ov_3, ov_4, ov_5, ov_6, ov_7, ov_8, ov_10, ov_11, ov_12, ov_13, ov_14, ov_15, ov_16, ov_17, ov_18, ov_19, ov_20, ov_21, ov_22, ov_23, ov_24, ov_25, ov_26, ov_27, ov_28, ov_29, ov_30, ov_31, ov_32, ov_33, ov_34, ov_35, ov_36, if_false, true_and, not_false_eq_true, B_X4_limitFor_26] at hn ⊢
    exact ⟨n, hn⟩
theorem Cnt.deal {j : Nat} (hc : Cnt t np nb nz nt) : Cnt (dealR t nt nz j) np nb nz nt := by
  unfold Cnt
  rw [dealR_ne (by decide), dealR_ne (by decide), dealR_ne (by decide), dealR_ne (by decide)]
  exact hc
theorem pc_dealLimits {post : TT → Prop} (hc : Cnt t np nb nz nt) (h : post (over (dealR t nt nz nt))) : P_X4_dealLimits (MS np nb nz nt) post px 0 (over t) := by
  have h5 := hc.2.2.2.2.2.2.2
  have L : ∀ m k, k + m = nt → ∃ n, L_X4_dealLimits_2 (MS np nb nz nt) post px n 0 (nI k) (over (dealR t nt nz k)) := by
    intro m
    induction m with
    | zero =>
      intro k hk
      have : k = nt := by omega
      subst this
      refine ⟨1, ?_⟩
      simp only [L_X4_dealLimits_2, ms0, ov_1, ov_2, ov_3, ov_4, ov_5, ov_6, ov_7, ov_8, ov_10, ov_11, ov_12, ov_13, ov_14, ov_15, ov_16, ov_17, ov_18, ov_19, ov_20, ov_21, ov_22, ov_23, ov_24, ov_25, ov_26, ov_27, ov_28, ov_29, ov_30, ov_31, ov_32, ov_33, ov_34, ov_35, ov_36, hc.deal.2.2.2.2.2.2.1, nle_self, if_true]
      exact h
    | succ m ih =>
      intro k hk
      obtain ⟨n, hn⟩ := ih (k + 1) (by omega)
      refine ⟨n + 1, ?_⟩
      have hvk := vp0 (n := k) (N := 5) (by omega) (by omega)
      have hck := cl0 (n := k) (by omega)
      have hkt : k < nt := by omega
      have hlt : ¬ nI nt ≤ nI k := nI_ge (by omega) (by omega)
      simp only [L_X4_dealLimits_2, B_X4_dealLimits_33, ms0, MS_4, MS_8, ov_1, ov_2, ov_3, ov_4, ov_5, ov_6, ov_7, ov_8, ov_10, ov_11, ov_12, ov_13, ov_14, ov_15, ov_16, ov_17, ov_18, ov_19, ov_20, ov_21, ov_22, ov_23, ov_24, ov_25, ov_26, ov_27, ov_28, ov_29, ov_30, ov_31, ov_32, ov_33, ov_34, ov_35, ov_36, hc.deal.2.2.2.2.2.2.1, hlt, hvk, hck, hkt, if_false, true_and, nI_1]
      by_cases h1 : dealR t nt nz k 34 k = 0
      · simp only [dealR, h1, if_true] at hn ⊢
        refine pc_limitFor hkt hc.deal ?_
        rw [over_up (by decide)]
        exact hn
      · simp only [dealR, h1, if_false] at hn ⊢
        exact hn
  exact L nt 0 (by omega)
end DL

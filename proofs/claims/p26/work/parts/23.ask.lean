/-! whether a ZONE can be closed, whether a train can be put in -/
theorem i10 : ((1 : Int32) = 0) = False := eq_false (by decide +kernel)
def allB (f : Nat → Bool) : Nat → Bool
  | 0 => true
  | k + 1 => allB f k && f k
theorem allB_f {f : Nat → Bool} {k : Nat} (h : f k = false) : ∀ n, k < n → allB f n = false
  | 0, hn => by omega
  | n + 1, hn => by
    unfold allB
    by_cases e : k = n
    · subst e
      rw [h, Bool.and_false]
    · rw [allB_f h n (by omega), Bool.false_and]
def okC (t : TT) (z k : Nat) : Bool := !(!decide (t 16 z < t 20 k - 100) && !decide (t 21 k < t 15 z)) && (decide (t 15 z ≤ t 21 k) || keepsS t k (t 15 z))
def okT (t : TT) (m : Int32) (k : Nat) : Bool := if m ≤ t 19 k then !decide (t 24 k - 120 < m) else keepsS t k (m - 120)
def okZ (t : TT) (m : Int32) (z : Nat) : Bool := if t 17 z = 0 then true else if m < t 15 z then true else decide (t 16 z < m - 100)
theorem i_nle {a b : Int32} : (a ≤ b) = ¬ b < a := by
  rw [i_le, i_lt]
  exact propext ⟨fun h => by omega, fun h => by omega⟩
section AL
variable {px : String → TT → Prop} {t : TT} {np nb nz nt : Nat}
theorem pc_canBeClosed {post : Int32 → TT → Prop} {z : Nat} (hz : z < nz) (hc : Cnt t np nb nz nt) (h : post (b2i (allB (okC t z) nt)) (over t)) : P_X4_canBeClosed (MS np nb nz nt) post px 0 z (over t) := by
  obtain ⟨-, -, -, -, -, h4, ht, h5⟩ := hc
  have L : ∀ m k, k + m = nt → allB (okC t z) k = true → ∃ n, L_X4_canBeClosed_2 (MS np nb nz nt) post px n 0 z (nI k) (over t) := by
    intro m
    induction m with
    | zero =>
      intro k hk hb
      have : k = nt := by omega
      subst this
      refine ⟨1, ?_⟩
      simp only [L_X4_canBeClosed_2, ms0, ov_1, ov_2, ov_3, ov_4, ov_5, ov_6, ov_7, ov_8, ov_10, ov_11, ov_12, ov_13, ov_14, ov_15, ov_16, ov_17, ov_18, ov_19, ov_20, ov_21, ov_22, ov_23, ov_24, ov_25, ov_26, ov_27, ov_28, ov_29, ov_30, ov_31, ov_32, ov_33, ov_34, ov_35, ov_36, ht, nle_self, if_true, isB_1, true_and]
      rw [hb] at h
      exact h
    | succ m ih =>
      intro k hk hb
      have hvk := vp0 (n := k) (N := 5) (by omega) (by omega)
      have hck := cl0 (n := k) (by omega)
      have hkt : k < nt := by omega
      have hlt : ¬ nI nt ≤ nI k := nI_ge (by omega) (by omega)
      have hz0 : okC t z k = false → post 0 (over t) := fun q => by rw [allB_f q nt hkt] at h; exact h
      cases ho : okC t z k with
      | false =>
        refine ⟨1, ?_⟩
        have h0 := hz0 ho
        simp only [L_X4_canBeClosed_2, B_X4_canBeClosed_58, ms0, MS_4, MS_7, MS_8, ov_1, ov_2, ov_3, ov_4, ov_5, ov_6, ov_7, ov_8, ov_10, ov_11, ov_12, ov_13, ov_14, ov_15, ov_16, ov_17, ov_18, ov_19, ov_20, ov_21, ov_22, ov_23, ov_24, ov_25, ov_26, ov_27, ov_28, ov_29, ov_30, ov_31, ov_32, ov_33, ov_34, ov_35, ov_36, ht, hlt, hvk, hck, hkt, hz, if_false, true_and, pc_mayCover hkt, pc_keeps hkt, b2i_0]
        simp only [okC] at ho
        cases h1 : (!decide (t 16 z < t 20 k - 100) && !decide (t 21 k < t 15 z)) with
        | true => simp [isB_0, h0]
        | false =>
          rw [h1] at ho
          simp at ho
          simp [ho.1, ho.2, isB_0, h0]
      | true =>
        obtain ⟨n, hn⟩ := ih (k + 1) (by omega) (by unfold allB; rw [hb, ho]; rfl)
        refine ⟨n + 1, ?_⟩
        simp only [L_X4_canBeClosed_2, B_X4_canBeClosed_58, ms0, MS_4, MS_7, MS_8, ov_1, ov_2, ov_3, ov_4, ov_5, ov_6, ov_7, ov_8, ov_10, ov_11, ov_12, ov_13, ov_14, ov_15, ov_16, ov_17, ov_18, ov_19, ov_20, ov_21, ov_22, ov_23, ov_24, ov_25, ov_26, ov_27, ov_28, ov_29, ov_30, ov_31, ov_32, ov_33, ov_34, ov_35, ov_36, ht, hlt, hvk, hck, hkt, hz, if_false, true_and, pc_mayCover hkt, pc_keeps hkt, b2i_0, nI_1]
        simp only [okC] at ho
        cases h1 : (!decide (t 16 z < t 20 k - 100) && !decide (t 21 k < t 15 z)) with
        | true => rw [h1] at ho; simp at ho
        | false =>
          rw [h1] at ho
          simp at ho
          rcases ho with ho | ho
          · simp [ho, hn]
          · simp [ho, hn]
  exact L nt 0 (by omega) rfl
theorem pc_canBePutIn {post : Int32 → TT → Prop} {m : Int32} (hc : Cnt t np nb nz nt) (h : post (b2i (allB (okT t m) nt && allB (okZ t m) nz)) (over t)) : P_X4_canBePutIn (MS np nb nz nt) post px 0 m (over t) := by
  obtain ⟨-, -, -, -, hz, h4, ht, h5⟩ := hc
  have LZ : allB (okT t m) nt = true → ∀ q z, z + q = nz → allB (okZ t m) z = true → ∃ n, L_X4_canBePutIn_69 (MS np nb nz nt) post px n 0 m (nI z) (over t) := by
    intro hT q
    rw [hT, Bool.true_and] at h
    induction q with
    | zero =>
      intro z hk hb
      have : z = nz := by omega
      subst this
      refine ⟨1, ?_⟩
      simp only [L_X4_canBePutIn_69, ms0, ov_1, ov_2, ov_3, ov_4, ov_5, ov_6, ov_7, ov_8, ov_10, ov_11, ov_12, ov_13, ov_14, ov_15, ov_16, ov_17, ov_18, ov_19, ov_20, ov_21, ov_22, ov_23, ov_24, ov_25, ov_26, ov_27, ov_28, ov_29, ov_30, ov_31, ov_32, ov_33, ov_34, ov_35, ov_36, hz, nle_self, if_true, isB_1, true_and]
      rw [hb] at h
      exact h
    | succ q ih =>
      intro z hk hb
      have hvk := vp0 (n := z) (N := 4) (by omega) (by omega)
      have hck := cl0 (n := z) (by omega)
      have hzt : z < nz := by omega
      have hlt : ¬ nI nz ≤ nI z := nI_ge (by omega) (by omega)
      cases ho : okZ t m z with
      | false =>
        refine ⟨1, ?_⟩
        have h0 : post 0 (over t) := by rw [allB_f ho nz hzt] at h; exact h
        simp only [L_X4_canBePutIn_69, B_X4_canBePutIn_112, ms0, MS_3, MS_7, ov_1, ov_2, ov_3, ov_4, ov_5, ov_6, ov_7, ov_8, ov_10, ov_11, ov_12, ov_13, ov_14, ov_15, ov_16, ov_17, ov_18, ov_19, ov_20, ov_21, ov_22, ov_23, ov_24, ov_25, ov_26, ov_27, ov_28, ov_29, ov_30, ov_31, ov_32, ov_33, ov_34, ov_35, ov_36, hz, hlt, hvk, hck, hzt, if_false, true_and]
        simp only [okZ] at ho
        by_cases h1 : t 17 z = 0
        · simp [h1] at ho
        · by_cases h2 : m < t 15 z
          · simp [h1, h2] at ho
          · simp only [h1, h2, if_false, decide_eq_false_iff_not] at ho
            simp [h1, h2, ho, isB_0, h0]
      | true =>
        obtain ⟨n, hn⟩ := ih (z + 1) (by omega) (by unfold allB; rw [hb, ho]; rfl)
        refine ⟨n + 1, ?_⟩
        simp only [L_X4_canBePutIn_69, B_X4_canBePutIn_112, ms0, MS_3, MS_7, ov_1, ov_2, ov_3, ov_4, ov_5, ov_6, ov_7, ov_8, ov_10, ov_11, ov_12, ov_13, ov_14, ov_15, ov_16, ov_17, ov_18, ov_19, ov_20, ov_21, ov_22, ov_23, ov_24, ov_25, ov_26, ov_27, ov_28, ov_29, ov_30, ov_31, ov_32, ov_33, ov_34, ov_35, ov_36, hz, hlt, hvk, hck, hzt, if_false, true_and, nI_1]
        simp only [okZ] at ho
        by_cases h1 : t 17 z = 0
        · simp [h1, hn]
        · by_cases h2 : m < t 15 z
          · simp [h1, h2, hn]
          · simp only [h1, h2, if_false, decide_eq_true_eq] at ho
            simp [h1, h2, ho, hn]
  have L : ∀ q k, k + q = nt → allB (okT t m) k = true → ∃ n, L_X4_canBePutIn_2 (MS np nb nz nt) post px n 0 m (nI k) (over t) := by
    intro q
    induction q with
    | zero =>
      intro k hk hb
      have : k = nt := by omega
      subst this
      refine ⟨1, ?_⟩
      simp only [L_X4_canBePutIn_2, ms0, ov_1, ov_2, ov_3, ov_4, ov_5, ov_6, ov_7, ov_8, ov_10, ov_11, ov_12, ov_13, ov_14, ov_15, ov_16, ov_17, ov_18, ov_19, ov_20, ov_21, ov_22, ov_23, ov_24, ov_25, ov_26, ov_27, ov_28, ov_29, ov_30, ov_31, ov_32, ov_33, ov_34, ov_35, ov_36, ht, nle_self, if_true]
      exact LZ hb nz 0 (by omega) rfl
    | succ q ih =>
      intro k hk hb
      have hvk := vp0 (n := k) (N := 5) (by omega) (by omega)
      have hck := cl0 (n := k) (by omega)
      have hkt : k < nt := by omega
      have hlt : ¬ nI nt ≤ nI k := nI_ge (by omega) (by omega)
      cases ho : okT t m k with
      | false =>
        refine ⟨1, ?_⟩
        have h0 : post 0 (over t) := by rw [allB_f ho nt hkt, Bool.false_and] at h; exact h
        simp only [L_X4_canBePutIn_2, B_X4_canBePutIn_52, ms0, MS_4, MS_8, ov_1, ov_2, ov_3, ov_4, ov_5, ov_6, ov_7, ov_8, ov_10, ov_11, ov_12, ov_13, ov_14, ov_15, ov_16, ov_17, ov_18, ov_19, ov_20, ov_21, ov_22, ov_23, ov_24, ov_25, ov_26, ov_27, ov_28, ov_29, ov_30, ov_31, ov_32, ov_33, ov_34, ov_35, ov_36, ht, hlt, hvk, hck, hkt, if_false, true_and, pc_keeps hkt, b2i_0]
        simp only [okT] at ho
        by_cases h1 : m ≤ t 19 k
        · simp [h1] at ho
          simp [h1, ho, isB_0, h0]
        · simp [h1] at ho
          simp [h1, ho, isB_0, h0]
      | true =>
        obtain ⟨n, hn⟩ := ih (k + 1) (by omega) (by unfold allB; rw [hb, ho]; rfl)
        refine ⟨n + 1, ?_⟩
        simp only [L_X4_canBePutIn_2, B_X4_canBePutIn_52, ms0, MS_4, MS_8, ov_1, ov_2, ov_3, ov_4, ov_5, ov_6, ov_7, ov_8, ov_10, ov_11, ov_12, ov_13, ov_14, ov_15, ov_16, ov_17, ov_18, ov_19, ov_20, ov_21, ov_22, ov_23, ov_24, ov_25, ov_26, ov_27, ov_28, ov_29, ov_30, ov_31, ov_32, ov_33, ov_34, ov_35, ov_36, ht, hlt, hvk, hck, hkt, if_false, true_and, pc_keeps hkt, b2i_0, nI_1]
        simp only [okT] at ho
        by_cases h1 : m ≤ t 19 k
        · simp only [h1, if_true, Bool.not_eq_true', decide_eq_false_iff_not] at ho
          simp [h1, ho, hn]
        · simp only [h1, if_false] at ho
          simp [h1, ho, hn]
  exact L nt 0 (by omega) rfl
end AL

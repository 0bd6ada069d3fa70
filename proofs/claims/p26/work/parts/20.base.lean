/-! THE NUMBERS: small facts of Int32, the two tables, the invariant -/
theorem i_add {a b : Int32} (h1 : -2147483648 ≤ a.toInt + b.toInt) (h2 : a.toInt + b.toInt < 2147483648) : (a + b).toInt = a.toInt + b.toInt := by
  rw [Int32.toInt_add]
  exact Int.bmod_eq_of_le (by omega) (by omega)
theorem i_sub {a b : Int32} (h1 : -2147483648 ≤ a.toInt - b.toInt) (h2 : a.toInt - b.toInt < 2147483648) : (a - b).toInt = a.toInt - b.toInt := by
  rw [Int32.toInt_sub]
  exact Int.bmod_eq_of_le (by omega) (by omega)
theorem i_lt {a b : Int32} : a < b ↔ a.toInt < b.toInt := Int32.lt_iff_toInt_lt
theorem i_le {a b : Int32} : a ≤ b ↔ a.toInt ≤ b.toInt := Int32.le_iff_toInt_le
theorem i_eq {a b : Int32} : a = b ↔ a.toInt = b.toInt := Int32.toInt_inj.symm
theorem i_rng (a : Int32) : -2147483648 ≤ a.toInt ∧ a.toInt < 2147483648 := ⟨a.le_toInt, a.toInt_lt⟩
theorem i_m1 : (-1 : Int32).toInt = -1 := by decide +kernel
theorem i_0 : (0 : Int32).toInt = 0 := by decide +kernel
theorem i_1 : (1 : Int32).toInt = 1 := by decide +kernel
theorem nI_m1 {n : Nat} (h : n < 2 ^ 31) : nI n ≠ -1 := by
  intro z
  have h1 := nI_toInt h
  rw [z, i_m1] at h1
  omega
theorem m1_cl : (-1 : Int32).toNatClampNeg = 0 := by decide +kernel
theorem up2_self {t : TT} {k i : Nat} {v : Int32} (h : v = t k i) : up2 t k i v = t := by
  funext a b
  unfold up2
  split
  · next z => rw [z.1, z.2, h]
  · rfl
theorem isB_0 : isB 0 := Or.inl rfl
theorem isB_1 : isB 1 := Or.inr rfl
theorem vz_0 : vp_nar .boolean 0 = 0 := by decide +kernel
theorem vz_1 : vp_nar .boolean 1 = 1 := by decide +kernel
theorem vz_B {x : Int32} (h : isB x) : vp_nar .boolean x = x := by rcases h with rfl | rfl <;> decide +kernel
theorem vy_I : ∀ n, n < 128 → vp_nar .byte (nI n).toInt8.toInt32 = nI n := by decide +kernel
theorem vp0 {n N : Nat} (h : n < N) (hN : N ≤ 5000) : vp_in (nI n) N := vp_in_nI h (by omega)
theorem cl0 {n : Nat} (h : n ≤ 5000) : (nI n).toNatClampNeg = n := nI_clamp (by omega)
def MS (np nb nz nt kp i : Nat) : Bool := (Nat.ble kp 4 && i == 0) || (kp == 5 && Nat.blt i np) || (kp == 6 && Nat.blt i nb) || (kp == 7 && Nat.blt i nz) || ((kp == 8 || kp == 9 || kp == 10) && Nat.blt i nt)
theorem MS_ok {np nb nz nt : Nat} : okM (MS np nb nz nt) := fun kp i h => by
  unfold MS at h
  simp only [Bool.or_eq_true, Bool.and_eq_true, beq_iff_eq, Nat.ble_eq, Nat.blt_eq] at h
  omega
theorem MS_0 {np nb nz nt : Nat} : MS np nb nz nt 0 0 = true := rfl
theorem MS_1 {np nb nz nt : Nat} : MS np nb nz nt 1 0 = true := rfl
theorem MS_2 {np nb nz nt : Nat} : MS np nb nz nt 2 0 = true := rfl
theorem MS_3 {np nb nz nt : Nat} : MS np nb nz nt 3 0 = true := rfl
theorem MS_4 {np nb nz nt : Nat} : MS np nb nz nt 4 0 = true := rfl
theorem MS_5 {np nb nz nt i : Nat} : (MS np nb nz nt 5 i = true) = (i < np) := by simp [MS]
theorem MS_6 {np nb nz nt i : Nat} : (MS np nb nz nt 6 i = true) = (i < nb) := by simp [MS]
theorem MS_7 {np nb nz nt i : Nat} : (MS np nb nz nt 7 i = true) = (i < nz) := by simp [MS]
theorem MS_8 {np nb nz nt i : Nat} : (MS np nb nz nt 8 i = true) = (i < nt) := by simp [MS]
theorem MS_9 {np nb nz nt i : Nat} : (MS np nb nz nt 9 i = true) = (i < nt) := by simp [MS]
theorem MS_10 {np nb nz nt i : Nat} : (MS np nb nz nt 10 i = true) = (i < nt) := by simp [MS]
/-- the class's table out of the reference's -/
def over (t : TT) : TT := fun k i => if k = 9 then (if t 7 i < 2 then -1 else t 9 i) else if k = 40 then nI i else if k = 0 then 0 else t k i
theorem ov {t : TT} {k i : Nat} (h : (k != 9 && k != 40 && k != 0) = true) : over t k i = t k i := by
  simp only [Bool.and_eq_true, bne_iff_ne] at h
  unfold over
  rw [if_neg h.1.1, if_neg h.1.2, if_neg h.2]
theorem over_up {t : TT} {k i : Nat} {v : Int32} (h : (k != 9 && k != 40 && k != 0 && k != 7) = true) : up2 (over t) k i v = over (up2 t k i v) := by
  simp only [Bool.and_eq_true, bne_iff_ne] at h
  obtain ⟨⟨⟨h1, h2⟩, h3⟩, h4⟩ := h
  funext a b
  unfold over up2
  by_cases e : a = k ∧ b = i
  · obtain ⟨rfl, rfl⟩ := e
    simp [h1, h2, h3]
  · rw [if_neg e]
    simp only [if_neg e]
    have e7 : ¬ (7 = k ∧ b = i) := fun z => h4 z.1.symm
    have e9 : ¬ (9 = k ∧ b = i) := fun z => h1 z.1.symm
    rw [if_neg e7, if_neg e9]
theorem over_thr {t : TT} {v : Int32} : over (up2 t 0 0 v) = over t := by
  funext a b
  unfold over up2
  by_cases h0 : a = 0
  · subst h0
    simp
  · simp [h0]

/-! facts for the calls (the class's side of whole's 28..34) -/
section OP
variable {t : TT} {n np nb nz nt tk : Nat}
theorem Inv.thr {v : Int32} (h : Inv n np nb nz nt tk t) : Inv (n + 1) np nb nz nt tk (up2 t 0 0 v) := by
  obtain ⟨hc, htk, hq, hT, hP, hb, hz, z1, z2, z3, z4, z5⟩ := h
  refine ⟨hc, htk, hq, hT, fun p hp => ?_, hb, hz, fun k i h1 h2 h3 => ?_, z2, fun k i h1 h2 h3 => ?_, z4, z5⟩
  · obtain ⟨⟨d, d1, d2⟩, h2, h3⟩ := hP p hp
    exact ⟨⟨d, by omega, d2⟩, h2, h3⟩
  · rw [up2_ne (fun z => by omega)]; exact z1 k i h1 h2 h3
  · rw [up2_ne (fun z => by omega)]; exact z3 k i h1 h2 h3
theorem num_cases (a : Int32) {m : Nat} (hm : m ≤ 1000) : (∃ i, i < m ∧ a = nI i ∧ ¬ nI i < 0 ∧ nI i < nI m ∧ inS (nI i) 0 (nI m - 1) = 1) ∨ ((a < 0 ∨ (¬ a < 0 ∧ ¬ a < nI m)) ∧ inS a 0 (nI m - 1) = 0) := by
  have hm1 : (nI m - 1).toInt = (m : Int) - 1 := by
    have h1 := nI_toInt (n := m) (by omega)
    rw [i_sub (by rw [h1, i_1]; omega) (by rw [h1, i_1]; omega), h1, i_1]
  by_cases h0 : a < 0
  · exact Or.inr ⟨Or.inl h0, by unfold inS; rw [if_pos h0]⟩
  · by_cases h1 : a < nI m
    · obtain ⟨j, hj, rfl⟩ := nI_of h0
      have hjm : j < m := (nI_ltI hj (by omega)).mp h1
      refine Or.inl ⟨j, hjm, rfl, h0, h1, ?_⟩
      unfold inS
      rw [if_neg h0, if_neg]
      rw [i_lt, hm1, nI_toInt hj]
      omega
    · refine Or.inr ⟨Or.inr ⟨h0, h1⟩, ?_⟩
      unfold inS
      rw [if_neg h0, if_pos]
      rw [i_lt] at h1 ⊢
      rw [nI_toInt (by omega)] at h1
      omega
theorem rng_cases (b lo hi : Int32) : (¬ b < lo ∧ b ≤ hi ∧ inS b lo hi = 1) ∨ ((b < lo ∨ (¬ b < lo ∧ ¬ b ≤ hi)) ∧ inS b lo hi = 0) := by
  unfold inS
  by_cases h0 : b < lo
  · exact Or.inr ⟨Or.inl h0, if_pos h0⟩
  · by_cases h1 : b ≤ hi
    · refine Or.inl ⟨h0, h1, ?_⟩
      rw [if_neg h0, if_neg]
      rw [i_le] at h1
      rw [i_lt]
      omega
    · refine Or.inr ⟨Or.inr ⟨h0, h1⟩, ?_⟩
      rw [if_neg h0, if_pos]
      rw [i_le] at h1
      rw [i_lt]
      omega
theorem c_numY {M : Nat → Nat → Bool} {post : TT → Prop} {px : String → TT → Prop} {a b : Int32} (h : ¬ a < 0) (h2 : a < b) (hx : post t) : P_X4_askNumber M post px a b t := by
  rw [pc_askNumber, if_neg h, if_pos h2]; exact hx
theorem c_rngY {M : Nat → Nat → Bool} {post : TT → Prop} {px : String → TT → Prop} {a b d : Int32} (h : ¬ a < b) (h2 : a ≤ d) (hx : post t) : P_X4_askRange M post px a b d t := by
  rw [pc_askRange, if_neg h, if_pos h2]; exact hx
theorem i20 : ((2 : Int32) = 0) = False := eq_false (by decide +kernel)
theorem i30 : ((3 : Int32) = 0) = False := eq_false (by decide +kernel)
theorem i01 : ((0 : Int32) = 1) = False := eq_false (by decide +kernel)
theorem Inv.set13 {b : Nat} {v : Int32} (h : Inv n np nb nz nt tk t) (hb9 : b < nb) (hv : isB v) : Inv n np nb nz nt tk (up2 t 13 b v) := by
  obtain ⟨hc, htk, hq, hT, hP, hb, hz, z1, z2, z3, z4, z5⟩ := h
  refine ⟨hc, htk, hq, hT, hP, fun b' hb' => ?_, hz, fun k i h1 h2 h3 => ?_, z2, fun k i h1 h2 h3 => ?_, fun i hi => ⟨(z4 i hi).1, ?_⟩, z5⟩
  · by_cases e : b' = b
    · subst e; rw [up2_same]; exact hv
    · rw [up2_ne (fun z => e z.2)]; exact hb b' hb'
  · rw [up2_ne (fun z => by omega)]; exact z1 k i h1 h2 h3
  · rw [up2_ne (fun z => by omega)]; exact z3 k i h1 h2 h3
  · rw [up2_ne (fun z => by omega)]; exact (z4 i hi).2
theorem Inv.set2 {q : Nat} (h : Inv n np nb nz nt tk t) (h1 : 1 ≤ q) (h2 : q ≤ 20) : Inv n np nb nz nt tk (up2 t 2 0 (nI q)) := by
  obtain ⟨hc, htk, hq, hT, hP, hb, hz, z1, z2, z3, z4, z5⟩ := h
  refine ⟨hc, htk, ⟨q, h1, h2, up2_same _ _ _ _⟩, hT, hP, hb, hz, fun k i h1 h2 h3 => ?_, z2, fun k i h1 h2 h3 => ?_, z4, z5⟩
  · rw [up2_ne (fun z => by omega)]; exact z1 k i h1 h2 h3
  · rw [up2_ne (fun z => by omega)]; exact z3 k i h1 h2 h3
theorem oo13 : (13 != 9 && 13 != 40 && 13 != 0 && 13 != 7) = true := rfl
theorem oo2 : (2 != 9 && 2 != 40 && 2 != 0 && 2 != 7) = true := rfl
theorem oo25 : (25 != 9 && 25 != 40 && 25 != 0 && 25 != 7) = true := rfl
theorem oo34 : (34 != 9 && 34 != 40 && 34 != 0 && 34 != 7) = true := rfl
theorem oo33 : (33 != 9 && 33 != 40 && 33 != 0 && 33 != 7) = true := rfl
theorem oo5 : (5 != 9 && 5 != 40 && 5 != 0 && 5 != 7) = true := rfl
theorem oo10 : (10 != 9 && 10 != 40 && 10 != 0 && 10 != 7) = true := rfl
theorem oo30 : (30 != 9 && 30 != 40 && 30 != 0 && 30 != 7) = true := rfl
theorem oo27 : (27 != 9 && 27 != 40 && 27 != 0 && 27 != 7) = true := rfl
theorem oo26 : (26 != 9 && 26 != 40 && 26 != 0 && 26 != 7) = true := rfl
theorem oo17 : (17 != 9 && 17 != 40 && 17 != 0 && 17 != 7) = true := rfl
end OP
section OP2
variable {t : TT} {n np nb nz nt tk : Nat}
theorem nI_btw {x : Int32} {lo hi : Nat} (h1 : ¬ x < nI lo) (h2 : x ≤ nI hi) (hl : hi < 2 ^ 31) (hll : lo < 2 ^ 31) : ∃ j, lo ≤ j ∧ j ≤ hi ∧ x = nI j := by
  rw [i_lt, nI_toInt hll] at h1
  rw [i_le, nI_toInt hl] at h2
  obtain ⟨j, j0, rfl⟩ := nI_of (x := x) (by rw [i_lt, i_0]; omega)
  rw [nI_toInt j0] at h1 h2
  exact ⟨j, by omega, by omega, rfl⟩
end OP2
theorem people_off {q j : Nat} (hq : q < 1000) (hj : j < 1000) : mmax (nI q - nI j) 0 = nI (q - j) ∧ nI q - (if nI j ≤ nI q then nI j else nI q) = nI (q - j) := by
  by_cases h : j ≤ q
  · rw [pk_sub h, if_pos (nI_le h (by omega)), pk_sub h]
    refine ⟨?_, rfl⟩
    unfold mmax
    rw [if_neg (nI_pos (by omega))]
  · have hn := pk_sneg (a := q) (b := j) (by omega) (by omega)
    unfold mmax
    rw [if_pos hn, if_neg (nI_ge (by omega) (by omega)), pk_sub (Nat.le_refl q), show q - j = 0 by omega, Nat.sub_self]
    exact ⟨rfl, rfl⟩
theorem doors_rng (x : Int32) : ∃ d, d ≤ 15 ∧ (15 &&& x) = nI d := by
  obtain ⟨j, j1, j2⟩ := pk_andE x (m := 15) 4 (by decide +kernel)
  exact ⟨j, by omega, by rw [Int32.and_comm]; exact j2⟩
section OP3
variable {t : TT} {n np nb nz nt tk : Nat}
def sumR (t : TT) (i p : Nat) : Nat → Int32
  | 0 => t 31 i
  | m + 1 => sumR t i p m + t 36 (1000 * i + (p + 1 + m))
theorem pc_again {px : String → TT → Prop} {post : Int32 → TT → Prop} {i p : Nat} (hi : i < nt) (h5 : nt ≤ 5) (htk : tk ≤ 999) (p1 : p ≤ tk) (h : post (sumR t i p (tk - p)) (over t)) : ∃ n9, L_X2_playAgain_12 (MS np nb nz nt) post px n9 i (nI tk) (t 31 i) (nI (p + 1)) (over t) := by
  have K : ∀ q m, m + q = tk - p → ∃ n9, L_X2_playAgain_12 (MS np nb nz nt) post px n9 i (nI tk) (sumR t i p m) (nI (p + 1 + m)) (over t) := by
    intro q
    induction q with
    | zero =>
      intro m hm
      have e : m = tk - p := by omega
      subst e
      have hlt : nI tk < nI (p + 1 + (tk - p)) := nI_lt (by omega) (by omega)
      refine ⟨1, ?_⟩
      simp only [L_X2_playAgain_12, B_X2_playAgain_41, hlt, if_true]
      exact h
    | succ q ih =>
      intro m hm
      obtain ⟨n9, hn⟩ := ih (m + 1) (by omega)
      have hlt : ¬ nI tk < nI (p + 1 + m) := nI_nlt (by omega) (by omega)
      have h1000 : ¬ (1000 : Int32) ≤ nI (p + 1 + m) := nI_ge (a := p + 1 + m) (b := 1000) (by omega) (by omega)
      have hvj := vp0 (n := p + 1 + m) (N := 1000) (by omega) (by omega)
      have hcj := cl0 (n := p + 1 + m) (by omega)
      refine ⟨n9 + 1, ?_⟩
      simp only [L_X2_playAgain_12, B_X2_playAgain_41, MS_8, MS_10, ov_1, ov_2, ov_3, ov_4, ov_5, ov_6, ov_7, ov_8, ov_10, ov_11, ov_12, ov_13, ov_14, ov_15, ov_16, ov_17, ov_18, ov_19, ov_20, ov_21, ov_22, ov_23, ov_24, ov_25, ov_26, ov_27, ov_28, ov_29, ov_30, ov_31, ov_32, ov_33, ov_34, ov_35, ov_36, hi, hlt, h1000, hvj, hcj, if_false, true_and, nI_1]
      exact hn
  exact K (tk - p) 0 (by omega)
end OP3
theorem nI_lit {a b : Nat} (h : (a < 2 ^ 31 && b < 2 ^ 31 && a != b) = true) : (nI a = nI b) = False := by
  simp only [Bool.and_eq_true, decide_eq_true_eq, bne_iff_ne] at h
  refine eq_false fun z => h.2 ?_
  rw [i_eq, nI_toInt h.1.1, nI_toInt h.1.2] at z
  omega
theorem dep_over {t : TT} {i p d : Nat} {v w : Int32} (h7 : t 7 p = nI d) (hd : d ≤ 600) : (if d = 0 then up2 (up2 (up2 (over t) 26 i (-1)) 7 p (nI d + 1)) 8 p v else up2 (up2 (up2 (up2 (over t) 26 i (-1)) 9 p w) 7 p (nI d + 1)) 8 p v) = over (up2 (up2 (up2 (up2 t 9 p w) 8 p v) 7 p (nI d + 1)) 26 i (-1)) := by
  have e1 : nI d + 1 = nI (d + 1) := nI_1 d
  rw [e1]
  funext k j
  by_cases hj : j = p
  · subst hj
    by_cases h0 : d = 0
    · subst h0
      have : nI (0 + 1) < 2 := by decide +kernel
      have q : nI 0 < 2 := by decide +kernel
      rw [if_pos rfl]
      by_cases k9 : k = 9
      · subst k9
        simp [over, up2, h7, this, q]
      · by_cases k26 : k = 26
        · subst k26; simp [over, up2]
        · by_cases k7 : k = 7
          · subst k7; simp [over, up2]
          · by_cases k8 : k = 8
            · subst k8; simp [over, up2]
            · simp [over, up2, k9, k26, k7, k8]
    · have q : ¬ nI (d + 1) < 2 := by
        rw [i_lt, nI_toInt (by omega), show (2 : Int32).toInt = 2 from by decide +kernel]
        omega
      rw [if_neg h0]
      by_cases k9 : k = 9
      · subst k9
        simp [over, up2, q]
      · by_cases k26 : k = 26
        · subst k26; simp [over, up2]
        · by_cases k7 : k = 7
          · subst k7; simp [over, up2]
          · by_cases k8 : k = 8
            · subst k8; simp [over, up2]
            · simp [over, up2, k9, k26, k7, k8]
  · by_cases h0 : d = 0 <;> by_cases k9 : k = 9 <;> by_cases k26 : k = 26 <;> simp [over, up2, h0, hj, k9, k26] <;> (try subst k26) <;> (try simp)
section OP4
variable {t : TT} {n np nb nz nt tk : Nat}
end OP4
theorem oo17s : (17 != 9 && 17 != 40 && 17 != 0 && 17 != 7) = true := rfl
def tellT (t : TT) (i : Nat) (b : Int32) : Int32 := if b = nI 0 then t 19 i else if b = nI 1 then t 20 i else if b = nI 2 then t 21 i else if b = nI 3 then t 22 i else if b = nI 4 then t 23 i else if b = nI 5 then b2i (!decide (t 33 i = 0)) else if b = nI 6 then b2i (!decide (t 34 i = 0)) else if b = nI 7 then t 26 i else if b = nI 8 then t 27 i else if b = nI 9 then t 28 i else t 29 i
def tellP (t : TT) (p : Nat) (b : Int32) : Int32 := if b = nI 0 then t 4 p else if b = nI 1 then t 6 p else if b = nI 2 then t 7 p else if t 7 p < 2 then -1 else t 9 p
section OP5
variable {t : TT} {n np nb nz nt tk : Nat}
theorem pc_tellT {px : String → TT → Prop} {post : Int32 → TT → Prop} {i : Nat} {b : Int32} (hi : i < nt) (h6 : np ≤ 6) (hs : t 26 i = -1 ∨ ∃ p, p < np ∧ t 26 i = nI p) : P_X2_tell (MS np nb nz nt) post px i b (over t) = post (tellT t i b) (over t) := by
  have o40 : ∀ p, over t 40 p = nI p := fun p => rfl
  have e26 : ∀ q : Int32 → Prop, (if t 26 i = -1 then q (-1) else ¬ t 26 i = -1 ∧ (t 26 i).toNatClampNeg < np ∧ q (over t 40 (t 26 i).toNatClampNeg)) = q (t 26 i) := by
    intro q
    rcases hs with h | ⟨p, hp, h⟩
    · rw [if_pos h, h]
    · have hn := nI_m1 (n := p) (by omega)
      have hcp := cl0 (n := p) (by omega)
      simp only [h, hn, hcp, hp, o40, if_false, true_and, not_false_eq_true]
  have e7 := e26 (fun x => post x (over t))
  unfold P_X2_tell tellT B_X2_tell_93 B_X2_tell_106 B_X2_tell_125
  simp only [ov_19, ov_20, ov_21, ov_22, ov_23, ov_26, ov_27, ov_28, ov_29, ov_33, ov_34, MS_8, MS_5, hi, true_and]
  by_cases c33 : t 33 i = 0 <;> by_cases c34 : t 34 i = 0 <;> simp only [c33, c34, decide_true, decide_false, Bool.not_true, Bool.not_false, b2i, if_true, if_false, Bool.false_eq_true] <;> repeat' (first | rfl | exact e7 | split)
theorem pc_tellP {px : String → TT → Prop} {post : Int32 → TT → Prop} {p : Nat} {b : Int32} (hp : p < np) : P_X1_tell (MS np nb nz nt) post px p b (over t) = post (tellP t p b) (over t) := by
  have o9 : over t 9 p = if t 7 p < 2 then -1 else t 9 p := rfl
  simp only [P_X1_tell, tellP, ov_1, ov_2, ov_3, ov_4, ov_5, ov_6, ov_7, ov_8, ov_10, ov_11, ov_12, ov_13, ov_14, ov_15, ov_16, ov_17, ov_18, ov_19, ov_20, ov_21, ov_22, ov_23, ov_24, ov_25, ov_26, ov_27, ov_28, ov_29, ov_30, ov_31, ov_32, ov_33, ov_34, ov_35, ov_36, MS_5, hp, o9, true_and]
  repeat' (first | rfl | split)
theorem Inv.set17 {z : Nat} {v : Int32} (h : Inv n np nb nz nt tk t) (hz9 : z < nz) (hv : isB v) : Inv n np nb nz nt tk (up2 t 17 z v) := by
  obtain ⟨hc, htk, hq, hT, hP, hb, hz, z1, z2, z3, z4, z5⟩ := h
  refine ⟨hc, htk, hq, hT, hP, hb, fun z' hz' => ?_, fun k i h1 h2 h3 => ?_, z2, fun k i h1 h2 h3 => ?_, z4, fun i hi => ⟨(z5 i hi).1, (z5 i hi).2.1, ?_⟩⟩
  · by_cases e : z' = z
    · subst e; rw [up2_same]; exact hv
    · rw [up2_ne (fun q => e q.2)]; exact hz z' hz'
  · rw [up2_ne (fun q => by omega)]; exact z1 k i h1 h2 h3
  · rw [up2_ne (fun q => by omega)]; exact z3 k i h1 h2 h3
  · rw [up2_ne (fun q => by omega)]; exact (z5 i hi).2.2
end OP5
def tickN (np nb nz nt tk : Nat) (t : TT) : Nat → TT
  | 0 => t
  | k + 1 => tickS np nb nz nt (tk + k) (tickN np nb nz nt tk t k)
def apS (t : TT) (i j : Nat) : Bool := decide (t 21 i < t 20 j - 100) || !decide (t 20 i - 100 ≤ t 21 j)
def bndS (t : TT) (i : Nat) : Bool := !decide (t 19 i < t 20 i) && !decide (t 21 i < t 19 i) && !decide (t 23 i < t 21 i)
def safI (t : TT) (i : Nat) : Bool := bndS t i && allB (apS t i) i
section OP6
variable {t : TT} {n np nb nz nt tk : Nat}
theorem tickN_inv (h : Inv n np nb nz nt tk t) : ∀ k, tk + k ≤ 999 → Inv n np nb nz nt (tk + k) (tickN np nb nz nt tk t k)
  | 0, _ => h
  | k + 1, hk => tickS_inv (tickN_inv h k (by omega)) (by omega)
end OP6
def platS (t : TT) (np : Nat) (a : Int32) : TT := up2 (up2 (up2 t 0 0 0) 4 np a) 3 0 (nI (np + 1))
def beaS (t : TT) (nb : Nat) (a : Int32) : TT := up2 (up2 (up2 (up2 t 0 0 0) 12 nb a) 13 nb 1) 11 0 (nI (nb + 1))
def zonS (t : TT) (nz : Nat) (a b : Int32) : TT := up2 (up2 (up2 (up2 t 0 0 0) 15 nz a) 16 nz b) 14 0 (nI (nz + 1))
def traS (t : TT) (nt tk : Nat) (a : Int32) : TT := up2 (up2 (up2 (up2 (up2 (up2 (up2 (up2 (up2 (up2 t 0 0 0) 19 nt a) 20 nt a) 21 nt a) 24 nt a) 26 nt (-1)) 27 nt (-1)) 31 nt a) 32 nt (nI tk)) 18 0 (nI (nt + 1))
section MA
variable {t : TT} {n np nb nz nt tk : Nat}
theorem made_sub {m : Nat} : nI (m + 1) - 1 = nI m := by
  have := pk_sub (a := m + 1) (b := 1) (by omega)
  rw [Nat.add_sub_cancel] at this
  exact this
theorem cnt_eq {m c : Nat} (h : m ≤ c) (hc : c < 2 ^ 31) : (nI m = nI c) = (m = c) := by
  rw [i_eq, nI_toInt (by omega), nI_toInt (by omega)]
  exact propext ⟨fun h => by omega, fun h => by omega⟩
theorem platS_ne {k i : Nat} {a : Int32} (h0 : k ≠ 0) (h1 : ¬ (k = 4 ∧ i = np)) (h2 : k ≠ 3) : platS t np a k i = t k i := by
  unfold platS
  rw [up2_ne (fun z => by omega), up2_ne (fun z => by omega), up2_ne (fun z => by omega)]
theorem platS_inv {a : Int32} (hI : Inv n np nb nz nt tk t) (h6 : np < 6) : Inv (n + 1) (np + 1) nb nz nt tk (platS t np a) := by
  obtain ⟨hc, htk, hq, hT, hP, hb, hz, z1, z2, z3, z4, z5⟩ := hI
  have e : ∀ k i, k ≠ 0 → k ≠ 3 → k ≠ 4 → platS t np a k i = t k i := fun k i q1 q2 q3 => platS_ne q1 (fun z => q3 z.1) q2
  refine ⟨?_, ?_, ?_, fun j hj => ?_, fun p hp => ?_, fun b hb9 => ?_, fun z hz9 => ?_, fun k j hj h1 h2 => ?_, fun j hj => ?_, fun k j hj h1 h2 => ?_, fun j hj => ?_, fun j hj => ?_⟩
  · unfold Cnt
    rw [e 11 _ (by omega) (by omega) (by omega), e 14 _ (by omega) (by omega) (by omega), e 18 _ (by omega) (by omega) (by omega)]
    exact ⟨rfl, by omega, hc.2.2⟩
  · rw [e 1 _ (by omega) (by omega) (by omega)]; exact htk
  · rw [e 2 _ (by omega) (by omega) (by omega)]; exact hq
  · have H := hT j hj
    unfold TrI at H ⊢
    rw [e 22 _ (by omega) (by omega) (by omega), e 25 _ (by omega) (by omega) (by omega), e 26 _ (by omega) (by omega) (by omega), e 27 _ (by omega) (by omega) (by omega), e 28 _ (by omega) (by omega) (by omega), e 29 _ (by omega) (by omega) (by omega), e 33 _ (by omega) (by omega) (by omega), e 34 _ (by omega) (by omega) (by omega), e 32 _ (by omega) (by omega) (by omega)]
    obtain ⟨q1, q2, q3, q4⟩ := H
    exact ⟨q1, q2, q3.imp id (fun ⟨p, p1, p2⟩ => ⟨p, by omega, p2⟩), q4⟩
  · unfold PlI
    rw [e 7 _ (by omega) (by omega) (by omega), e 6 _ (by omega) (by omega) (by omega), e 5 _ (by omega) (by omega) (by omega)]
    by_cases q : p < np
    · obtain ⟨⟨d, d1, d2⟩, h2, h3⟩ := hP p q
      exact ⟨⟨d, by omega, d2⟩, h2, h3⟩
    · have : p = np := by omega
      subst this
      exact ⟨⟨0, by omega, z3 7 p (Nat.le_refl p) (by omega) (by omega)⟩, ⟨0, by omega, z3 6 p (Nat.le_refl p) (by omega) (by omega)⟩, ⟨0, by omega, z3 5 p (Nat.le_refl p) (by omega) (by omega)⟩⟩
  · rw [e 13 _ (by omega) (by omega) (by omega)]; exact hb b hb9
  · rw [e 17 _ (by omega) (by omega) (by omega)]; exact hz z hz9
  · rw [e k _ (by omega) (by omega) (by omega)]; exact z1 k j hj h1 h2
  · rw [e 35 _ (by omega) (by omega) (by omega), e 36 _ (by omega) (by omega) (by omega)]; exact z2 j hj
  · rw [platS_ne (by omega) (fun z => by omega) (by omega)]; exact z3 k j (by omega) h1 h2
  · rw [e 12 _ (by omega) (by omega) (by omega), e 13 _ (by omega) (by omega) (by omega)]; exact z4 j hj
  · rw [e 15 _ (by omega) (by omega) (by omega), e 16 _ (by omega) (by omega) (by omega), e 17 _ (by omega) (by omega) (by omega)]; exact z5 j hj
theorem beaS_ne {k i : Nat} {a : Int32} (h0 : k ≠ 0) (h1 : ¬ (k = 12 ∧ i = nb)) (h3 : ¬ (k = 13 ∧ i = nb)) (h2 : k ≠ 11) : beaS t nb a k i = t k i := by
  unfold beaS
  rw [up2_ne (fun z => by omega), up2_ne (fun z => by omega), up2_ne (fun z => by omega), up2_ne (fun z => by omega)]
theorem beaS_inv {a : Int32} (hI : Inv n np nb nz nt tk t) (h6 : nb < 12) : Inv (n + 1) np (nb + 1) nz nt tk (beaS t nb a) := by
  obtain ⟨hc, htk, hq, hT, hP, hb, hz, z1, z2, z3, z4, z5⟩ := hI
  have e : ∀ k i, (k != 0 && k != 11 && k != 12 && k != 13) = true → beaS t nb a k i = t k i := fun k i q => by
    simp only [Bool.and_eq_true, bne_iff_ne] at q
    exact beaS_ne q.1.1.1 (fun z => q.1.2 z.1) (fun z => q.2 z.1) q.1.1.2
  refine ⟨?_, ?_, ?_, fun j hj => ?_, fun p hp => ?_, fun b hb9 => ?_, fun z hz9 => ?_, fun k j hj h1 h2 => ?_, fun j hj => ?_, fun k j hj h1 h2 => ?_, fun j hj => ?_, fun j hj => ?_⟩
  · unfold Cnt
    rw [e 3 _ rfl, e 14 _ rfl, e 18 _ rfl]
    exact ⟨hc.1, hc.2.1, rfl, by omega, hc.2.2.2.2⟩
  · rw [e 1 _ rfl]; exact htk
  · rw [e 2 _ rfl]; exact hq
  · have H := hT j hj
    unfold TrI at H ⊢
    rw [e 22 _ rfl, e 25 _ rfl, e 26 _ rfl, e 27 _ rfl, e 28 _ rfl, e 29 _ rfl, e 33 _ rfl, e 34 _ rfl, e 32 _ rfl]
    exact H
  · unfold PlI
    rw [e 7 _ rfl, e 6 _ rfl, e 5 _ rfl]
    obtain ⟨⟨d, d1, d2⟩, h2, h3⟩ := hP p hp
    exact ⟨⟨d, by omega, d2⟩, h2, h3⟩
  · by_cases q : b < nb
    · rw [beaS_ne (by omega) (fun z => by omega) (fun z => by omega) (by omega)]; exact hb b q
    · have : b = nb := by omega
      subst this
      have : beaS t b a 13 b = 1 := by
        unfold beaS
        rw [up2_ne (fun z => by omega), up2_same]
      rw [this]
      exact isB_1
  · rw [e 17 _ rfl]; exact hz z hz9
  · rw [e k _ (by simp only [Bool.and_eq_true, bne_iff_ne]; omega)]; exact z1 k j hj h1 h2
  · rw [e 35 _ rfl, e 36 _ rfl]; exact z2 j hj
  · rw [e k _ (by simp only [Bool.and_eq_true, bne_iff_ne]; omega)]; exact z3 k j hj h1 h2
  · rw [beaS_ne (by omega) (fun z => by omega) (fun z => by omega) (by omega), beaS_ne (by omega) (fun z => by omega) (fun z => by omega) (by omega)]; exact z4 j (by omega)
  · rw [e 15 _ rfl, e 16 _ rfl, e 17 _ rfl]; exact z5 j hj
theorem zonS_ne {k i : Nat} {a b : Int32} (h0 : k ≠ 0) (h1 : ¬ (k = 15 ∧ i = nz)) (h3 : ¬ (k = 16 ∧ i = nz)) (h2 : k ≠ 14) : zonS t nz a b k i = t k i := by
  unfold zonS
  rw [up2_ne (fun z => by omega), up2_ne (fun z => by omega), up2_ne (fun z => by omega), up2_ne (fun z => by omega)]
theorem zonS_inv {a b : Int32} (hI : Inv n np nb nz nt tk t) (h6 : nz < 4) : Inv (n + 1) np nb (nz + 1) nt tk (zonS t nz a b) := by
  obtain ⟨hc, htk, hq, hT, hP, hb, hz, z1, z2, z3, z4, z5⟩ := hI
  have e : ∀ k i, (k != 0 && k != 14 && k != 15 && k != 16) = true → zonS t nz a b k i = t k i := fun k i q => by
    simp only [Bool.and_eq_true, bne_iff_ne] at q
    exact zonS_ne q.1.1.1 (fun z => q.1.2 z.1) (fun z => q.2 z.1) q.1.1.2
  refine ⟨?_, ?_, ?_, fun j hj => ?_, fun p hp => ?_, fun b hb9 => ?_, fun z hz9 => ?_, fun k j hj h1 h2 => ?_, fun j hj => ?_, fun k j hj h1 h2 => ?_, fun j hj => ?_, fun j hj => ?_⟩
  · unfold Cnt
    rw [e 3 _ rfl, e 11 _ rfl, e 18 _ rfl]
    exact ⟨hc.1, hc.2.1, hc.2.2.1, hc.2.2.2.1, rfl, by omega, hc.2.2.2.2.2.2⟩
  · rw [e 1 _ rfl]; exact htk
  · rw [e 2 _ rfl]; exact hq
  · have H := hT j hj
    unfold TrI at H ⊢
    rw [e 22 _ rfl, e 25 _ rfl, e 26 _ rfl, e 27 _ rfl, e 28 _ rfl, e 29 _ rfl, e 33 _ rfl, e 34 _ rfl, e 32 _ rfl]
    exact H
  · unfold PlI
    rw [e 7 _ rfl, e 6 _ rfl, e 5 _ rfl]
    obtain ⟨⟨d, d1, d2⟩, h2, h3⟩ := hP p hp
    exact ⟨⟨d, by omega, d2⟩, h2, h3⟩
  · rw [e 13 _ rfl]; exact hb b hb9
  · rw [e 17 _ rfl]
    by_cases q : z < nz
    · exact hz z q
    · rw [(z5 z (by omega)).2.2]
      exact isB_0
  · rw [e k _ (by simp only [Bool.and_eq_true, bne_iff_ne]; omega)]; exact z1 k j hj h1 h2
  · rw [e 35 _ rfl, e 36 _ rfl]; exact z2 j hj
  · rw [e k _ (by simp only [Bool.and_eq_true, bne_iff_ne]; omega)]; exact z3 k j hj h1 h2
  · rw [e 12 _ rfl, e 13 _ rfl]; exact z4 j hj
  · rw [zonS_ne (by omega) (fun z => by omega) (fun z => by omega) (by omega), zonS_ne (by omega) (fun z => by omega) (fun z => by omega) (by omega), e 17 _ rfl]; exact z5 j (by omega)
theorem traS_ne {k i : Nat} {a : Int32} (h : (k != 0 && k != 18 && k != 19 && k != 20 && k != 21 && k != 24 && k != 26 && k != 27 && k != 31 && k != 32) = true ∨ (k ≠ 0 ∧ k ≠ 18 ∧ i ≠ nt)) : traS t nt tk a k i = t k i := by
  unfold traS
  rcases h with h | ⟨h1, h2, h3⟩
  · simp only [Bool.and_eq_true, bne_iff_ne] at h
    rw [up2_ne (fun z => by omega), up2_ne (fun z => by omega), up2_ne (fun z => by omega), up2_ne (fun z => by omega), up2_ne (fun z => by omega), up2_ne (fun z => by omega), up2_ne (fun z => by omega), up2_ne (fun z => by omega), up2_ne (fun z => by omega), up2_ne (fun z => by omega)]
  · rw [up2_ne (fun z => by omega), up2_ne (fun z => by omega), up2_ne (fun z => by omega), up2_ne (fun z => by omega), up2_ne (fun z => by omega), up2_ne (fun z => by omega), up2_ne (fun z => by omega), up2_ne (fun z => by omega), up2_ne (fun z => by omega), up2_ne (fun z => by omega)]
theorem traS_inv {a : Int32} (hI : Inv n np nb nz nt tk t) (h6 : nt < 5) : Inv (n + 1) np nb nz (nt + 1) tk (traS t nt tk a) := by
  obtain ⟨hc, htk, hq, hT, hP, hb, hz, z1, z2, z3, z4, z5⟩ := hI
  have e : ∀ k i, (k != 0 && k != 18 && k != 19 && k != 20 && k != 21 && k != 24 && k != 26 && k != 27 && k != 31 && k != 32) = true → traS t nt tk a k i = t k i := fun k i q => traS_ne (Or.inl q)
  have e2 : ∀ k i, k ≠ 0 → k ≠ 18 → i ≠ nt → traS t nt tk a k i = t k i := fun k i q1 q2 q3 => traS_ne (Or.inr ⟨q1, q2, q3⟩)
  refine ⟨?_, ?_, ?_, fun j hj => ?_, fun p hp => ?_, fun b hb9 => ?_, fun z hz9 => ?_, fun k j hj h1 h2 => ?_, fun j hj => ?_, fun k j hj h1 h2 => ?_, fun j hj => ?_, fun j hj => ?_⟩
  · unfold Cnt
    rw [e 3 _ rfl, e 11 _ rfl, e 14 _ rfl]
    exact ⟨hc.1, hc.2.1, hc.2.2.1, hc.2.2.2.1, hc.2.2.2.2.1, hc.2.2.2.2.2.1, rfl, by omega⟩
  · rw [e 1 _ rfl]; exact htk
  · rw [e 2 _ rfl]; exact hq
  · by_cases q : j < nt
    · have H := hT j q
      unfold TrI at H ⊢
      rw [e2 22 j (by omega) (by omega) (by omega), e2 25 j (by omega) (by omega) (by omega), e2 26 j (by omega) (by omega) (by omega), e2 27 j (by omega) (by omega) (by omega), e2 28 j (by omega) (by omega) (by omega), e2 29 j (by omega) (by omega) (by omega), e2 33 j (by omega) (by omega) (by omega), e2 34 j (by omega) (by omega) (by omega), e2 32 j (by omega) (by omega) (by omega)]
      exact H
    · have : j = nt := by omega
      subst this
      have w : ∀ k, 19 ≤ k → k ≤ 34 → t k j = 0 := fun k w1 w2 => z1 k j (Nat.le_refl j) w1 w2
      have v26 : traS t j tk a 26 j = -1 := by
        unfold traS
        rw [up2_ne (fun z => by omega), up2_ne (fun z => by omega), up2_ne (fun z => by omega), up2_ne (fun z => by omega), up2_same]
      have v27 : traS t j tk a 27 j = -1 := by
        unfold traS
        rw [up2_ne (fun z => by omega), up2_ne (fun z => by omega), up2_ne (fun z => by omega), up2_same]
      have v32 : traS t j tk a 32 j = nI tk := by
        unfold traS
        rw [up2_ne (fun z => by omega), up2_same]
      unfold TrI
      rw [e 22 _ rfl, e 25 _ rfl, v26, v27, e 28 _ rfl, e 29 _ rfl, e 33 _ rfl, e 34 _ rfl, v32, w 22 (by omega) (by omega), w 25 (by omega) (by omega), w 28 (by omega) (by omega), w 29 (by omega) (by omega), w 33 (by omega) (by omega), w 34 (by omega) (by omega)]
      exact ⟨⟨0, by omega, rfl⟩, Or.inr (Or.inl rfl), Or.inl rfl, Or.inl rfl, fun z => absurd rfl z, ⟨0, by omega, rfl⟩, ⟨0, by omega, rfl⟩, isB_0, isB_0, fun z => absurd rfl z, tk, Nat.le_refl tk, rfl⟩
  · unfold PlI
    rw [e 7 _ rfl, e 6 _ rfl, e 5 _ rfl]
    obtain ⟨⟨d, d1, d2⟩, h2, h3⟩ := hP p hp
    exact ⟨⟨d, by omega, d2⟩, h2, h3⟩
  · rw [e 13 _ rfl]; exact hb b hb9
  · rw [e 17 _ rfl]; exact hz z hz9
  · rw [e2 k _ (by omega) (by omega) (by omega)]; exact z1 k j (by omega) h1 h2
  · rw [e 35 _ rfl, e 36 _ rfl]; exact z2 j (by omega)
  · rw [e k _ (by simp only [Bool.and_eq_true, bne_iff_ne]; omega)]; exact z3 k j hj h1 h2
  · rw [e 12 _ rfl, e 13 _ rfl]; exact z4 j hj
  · rw [e 15 _ rfl, e 16 _ rfl, e 17 _ rfl]; exact z5 j hj
end MA

/-! printed (wip/p26/growtr.py): the world with one train more -/
def trU (u : TT) (nt : Nat) (a b : Int32) : TT := (up2 (up2 (up2 (up2 (up2 (up2 (up2 (up2 u 19 nt a) 20 nt a) 21 nt a) 24 nt a) 26 nt (-1)) 27 nt (-1)) 31 nt a) 32 nt b)
theorem trU_31 {u : TT} {n : Nat} {a b : Int32} : trU u n a b 31 n = a := by
  unfold trU
  rw [up2_ne (fun z => by omega), up2_same]
theorem trU_32 {u : TT} {n : Nat} {a b : Int32} : trU u n a b 32 n = b := by
  unfold trU
  rw [up2_same]
theorem trU_19 {u : TT} {n : Nat} {a b : Int32} : trU u n a b 19 n = a := by
  unfold trU
  rw [up2_ne (fun z => by omega), up2_ne (fun z => by omega), up2_ne (fun z => by omega), up2_ne (fun z => by omega), up2_ne (fun z => by omega), up2_ne (fun z => by omega), up2_ne (fun z => by omega), up2_same]
theorem trU_20 {u : TT} {n : Nat} {a b : Int32} : trU u n a b 20 n = a := by
  unfold trU
  rw [up2_ne (fun z => by omega), up2_ne (fun z => by omega), up2_ne (fun z => by omega), up2_ne (fun z => by omega), up2_ne (fun z => by omega), up2_ne (fun z => by omega), up2_same]
theorem trU_21 {u : TT} {n : Nat} {a b : Int32} : trU u n a b 21 n = a := by
  unfold trU
  rw [up2_ne (fun z => by omega), up2_ne (fun z => by omega), up2_ne (fun z => by omega), up2_ne (fun z => by omega), up2_ne (fun z => by omega), up2_same]
theorem trU_24 {u : TT} {n : Nat} {a b : Int32} : trU u n a b 24 n = a := by
  unfold trU
  rw [up2_ne (fun z => by omega), up2_ne (fun z => by omega), up2_ne (fun z => by omega), up2_ne (fun z => by omega), up2_same]
theorem trU_26 {u : TT} {n : Nat} {a b : Int32} : trU u n a b 26 n = (-1) := by
  unfold trU
  rw [up2_ne (fun z => by omega), up2_ne (fun z => by omega), up2_ne (fun z => by omega), up2_same]
theorem trU_27 {u : TT} {n : Nat} {a b : Int32} : trU u n a b 27 n = (-1) := by
  unfold trU
  rw [up2_ne (fun z => by omega), up2_ne (fun z => by omega), up2_same]
theorem trU_ne {u : TT} {n k i : Nat} {a b : Int32} (h : (k != 19 && k != 20 && k != 21 && k != 24 && k != 26 && k != 27 && k != 31 && k != 32) = true ∨ i ≠ n) : trU u n a b k i = u k i := by
  unfold trU
  rcases h with h | h
  · simp only [Bool.and_eq_true, bne_iff_ne] at h
    rw [up2_ne (fun z => by omega), up2_ne (fun z => by omega), up2_ne (fun z => by omega), up2_ne (fun z => by omega), up2_ne (fun z => by omega), up2_ne (fun z => by omega), up2_ne (fun z => by omega), up2_ne (fun z => by omega)]
  · rw [up2_ne (fun z => by omega), up2_ne (fun z => by omega), up2_ne (fun z => by omega), up2_ne (fun z => by omega), up2_ne (fun z => by omega), up2_ne (fun z => by omega), up2_ne (fun z => by omega), up2_ne (fun z => by omega)]
theorem SW_grow8 {D : va_G} {X : Nat → ClassId} {ad : Nat → Nat → Nat} {A : Nat → Prop} {np nb nz nt : Nat} {u : TT} {H H3 : Heap} {a b : Int32} {q1 q2 : Nat} (hW : SW D X ad A (MS np nb nz nt) u H) (hA : A H.size) (hA1 : A q1) (hA2 : A q2) (d1 : H.size < q1) (d2 : H.size < q2) (d3 : q1 ≠ q2) (hT : ∀ i, i < nt → u 26 i = -1 ∨ ∃ q, q < np ∧ q ≤ 5000 ∧ u 26 i = nI q) (h22 : u 22 nt = 0) (h23 : u 23 nt = 0) (h25 : u 25 nt = 0) (h28 : u 28 nt = 0) (h29 : u 29 nt = 0) (h30 : u 30 nt = 0) (h33 : u 33 nt = 0) (h34 : u 34 nt = 0) (h35 : ∀ j, u 35 (1000 * nt + j) = 0) (h36 : ∀ j, u 36 (1000 * nt + j) = 0) (hob : va_at D vwCl (H.size, .inr (2, [.int a, .int b, .ref q1, .ref q2, .int a, .int a, .int a, .int a, .int 0, .int 0, .int 0, .int 0, .int 0, .null, .int 0, .int (-1), .int 0, .int 0])) H3) (ho1 : va_at D vwCl (q1, .inl (X 9, 1000, .inl (fun _ => 0))) H3) (ho2 : va_at D vwCl (q2, .inl (X 9, 1000, .inl (fun _ => 0))) H3) (harr : va_at D vwCl (ad 4 0, .inl (X 4, 5, .inr (.inr (.inr (.inr (va_up (refsOf ad (MS np nb nz nt) 8) nt (some H.size))))))) H3) (hk : ∀ x, x < H.size → x ≠ ad 4 0 → H3[x]? = H[x]?) : SW D X (up2 (up2 (up2 ad 8 nt H.size) 9 nt q1) 10 nt q2) A (MS np nb nz (nt + 1)) (trU u nt a b) H3 := by
  have hold : ∀ kp i, (MS np nb nz (nt + 1)) kp i = true → ¬ ((kp = 8 ∨ kp = 9 ∨ kp = 10) ∧ i = nt) → (MS np nb nz nt) kp i = true := fun kp i h1 h2 => MS_mk (by have := MS_cases h1; omega)
  have hne : ∀ kp i, (MS np nb nz nt) kp i = true → ¬ ((kp = 8 ∨ kp = 9 ∨ kp = 10) ∧ i = nt) := fun kp i h1 h2 => by have := MS_cases h1; omega
  generalize hAD : (up2 (up2 (up2 ad 8 nt H.size) 9 nt q1) 10 nt q2) = ad'
  have had : ∀ kp i, (MS np nb nz nt) kp i = true → ad' kp i = ad kp i := fun kp i h => by
    have z := hne kp i h
    rw [← hAD, up2_ne (fun y => z ⟨by omega, y.2⟩), up2_ne (fun y => z ⟨by omega, y.2⟩), up2_ne (fun y => z ⟨by omega, y.2⟩)]
  have a8 : ad' 8 nt = H.size := by rw [← hAD, up2_ne (fun y => by omega), up2_ne (fun y => by omega), up2_same]
  have a9 : ad' 9 nt = q1 := by rw [← hAD, up2_ne (fun y => by omega), up2_same]
  have a10 : ad' 10 nt = q2 := by rw [← hAD, up2_same]
  refine ⟨fun kp i h => ?_, fun kp i kq j h1 h2 h9 => ?_, fun kp i h => ?_, MS_ok⟩
  · by_cases e : (kp = 8 ∨ kp = 9 ∨ kp = 10) ∧ i = nt
    · obtain ⟨e, rfl⟩ := e
      rcases e with rfl | rfl | rfl
      · rw [a8]
        have hc : cellE X ad' (MS np nb nz (i + 1)) (trU u i a b) 8 i = .inr (2, [.int a, .int b, .ref q1, .ref q2, .int a, .int a, .int a, .int a, .int 0, .int 0, .int 0, .int 0, .int 0, .null, .int 0, .int (-1), .int 0, .int 0]) := by
          show Sum.inr (2, (FL 8).map fun e => toV ad' (fvv (trU u i a b) i e)) = _
          simp only [FL, List.map, fvv, toV, a9, a10, trU_31, trU_32, trU_19, trU_20, trU_21, trU_24, trU_26, trU_27, toQ_m1, trU_ne (u := u) (k := 22) (i := i) (n := i) (a := a) (b := b) (Or.inl rfl), trU_ne (u := u) (k := 23) (i := i) (n := i) (a := a) (b := b) (Or.inl rfl), trU_ne (u := u) (k := 25) (i := i) (n := i) (a := a) (b := b) (Or.inl rfl), trU_ne (u := u) (k := 28) (i := i) (n := i) (a := a) (b := b) (Or.inl rfl), trU_ne (u := u) (k := 29) (i := i) (n := i) (a := a) (b := b) (Or.inl rfl), trU_ne (u := u) (k := 30) (i := i) (n := i) (a := a) (b := b) (Or.inl rfl), trU_ne (u := u) (k := 33) (i := i) (n := i) (a := a) (b := b) (Or.inl rfl), trU_ne (u := u) (k := 34) (i := i) (n := i) (a := a) (b := b) (Or.inl rfl), h22, h23, h25, h28, h29, h30, h33, h34]
        rw [hc]
        exact hob
      · rw [a9]
        have hc : cellE X ad' (MS np nb nz (i + 1)) (trU u i a b) 9 i = .inl (X 9, 1000, .inl (fun _ => 0)) := by
          show Sum.inl (X 9, 1000, Sum.inl (fun j => trU u i a b 35 (1000 * i + j))) = _
          congr 3
          congr 1
          funext j
          rw [trU_ne (Or.inl rfl), h35]
        rw [hc]
        exact ho1
      · rw [a10]
        have hc : cellE X ad' (MS np nb nz (i + 1)) (trU u i a b) 10 i = .inl (X 9, 1000, .inl (fun _ => 0)) := by
          show Sum.inl (X 9, 1000, Sum.inl (fun j => trU u i a b 36 (1000 * i + j))) = _
          congr 3
          congr 1
          funext j
          rw [trU_ne (Or.inl rfl), h36]
        rw [hc]
        exact ho2
    · by_cases e1 : kp = 4
      · subst e1
        have hi0 : i = 0 := by have := MS_cases h; omega
        subst hi0
        rw [had 4 0 (hold 4 0 h e)]
        have hr : refsOf ad' (MS np nb nz (nt + 1)) 8 = va_up (refsOf ad (MS np nb nz nt) 8) nt (some H.size) := by
          funext j
          unfold va_up refsOf
          by_cases hj : j = nt
          · subst hj
            rw [if_pos rfl, if_pos (MS_mk (by omega)), a8]
          · rw [if_neg hj]
            by_cases hm : (MS np nb nz nt) 8 j = true
            · rw [if_pos hm, if_pos (MS_mk (by have := MS_cases hm; omega)), had 8 j hm]
            · rw [if_neg hm, if_neg (fun z => hm (MS_mk (by have := MS_cases z; omega)))]
        show va_at D vwCl (ad 4 0, .inl (X 4, 5, .inr (.inr (.inr (.inr (refsOf ad' (MS np nb nz (nt + 1)) 8)))))) H3
        rw [hr]
        exact harr
      · have ho := hold kp i h e
        rw [had kp i ho, cell_ad had (fun z => ?_) (fun j z1 z2 => ?_) ho]
        · refine va_at.kept (cell_congr (t := u) (fun id j hr => ?_) (hW.1 kp i ho)) (hk _ (hW.lt ho) (fun z => e1 (hW.2.1 _ _ _ _ ho (MS_mk (by omega) : (MS np nb nz nt) 4 0 = true) z).1))
          have own := rd_own1 (by have := MS_cases ho; omega) hr
          by_cases hj : j = nt
          · by_cases hid : 19 ≤ id ∧ id ≤ 34
            · have o8 : ownr true id j = (8, j) := by
                unfold ownr
                rw [if_pos rfl, if_neg (by omega), if_neg (by omega), if_neg (by omega), if_neg (by omega), if_neg (by omega), if_pos hid]
              rw [o8] at own
              cases own
              exact absurd ⟨Or.inl rfl, hj⟩ e
            · exact trU_ne (Or.inl (by simp only [Bool.and_eq_true, bne_iff_ne]; omega))
          · exact trU_ne (Or.inr hj)
        · subst z
          have hi8 : i < nt := by have := MS_cases ho; omega
          rw [trU_ne (Or.inr (by omega))]
          exact hT i hi8
        · have : kp = 1 ∨ kp = 2 ∨ kp = 3 ∨ kp = 4 := by omega
          rcases this with rfl | rfl | rfl | rfl <;> first | rfl | exact absurd rfl e1
  · have cs : ∀ kp i, (MS np nb nz (nt + 1)) kp i = true → ((MS np nb nz nt) kp i = true ∧ ad' kp i < H.size) ∨ (kp = 8 ∧ i = nt ∧ ad' kp i = H.size) ∨ (kp = 9 ∧ i = nt ∧ ad' kp i = q1) ∨ (kp = 10 ∧ i = nt ∧ ad' kp i = q2) := by
      intro kp i h
      by_cases e : (kp = 8 ∨ kp = 9 ∨ kp = 10) ∧ i = nt
      · obtain ⟨e, rfl⟩ := e
        rcases e with rfl | rfl | rfl
        · exact Or.inr (Or.inl ⟨rfl, rfl, a8⟩)
        · exact Or.inr (Or.inr (Or.inl ⟨rfl, rfl, a9⟩))
        · exact Or.inr (Or.inr (Or.inr ⟨rfl, rfl, a10⟩))
      · have ho := hold kp i h e
        exact Or.inl ⟨ho, by rw [had kp i ho]; exact hW.lt ho⟩
    rcases cs kp i h1 with ⟨c1, c2⟩ | c | c | c
    · rcases cs kq j h2 with ⟨g1, g2⟩ | g | g | g
      · rw [had kp i c1, had kq j g1] at h9
        exact hW.2.1 _ _ _ _ c1 g1 h9
      all_goals omega
    all_goals
      rcases cs kq j h2 with ⟨g1, g2⟩ | g | g | g
      all_goals omega
  · by_cases e : (kp = 8 ∨ kp = 9 ∨ kp = 10) ∧ i = nt
    · obtain ⟨e, rfl⟩ := e
      rcases e with rfl | rfl | rfl
      · rw [a8]; exact hA
      · rw [a9]; exact hA1
      · rw [a10]; exact hA2
    · rw [had kp i (hold kp i h e)]
      exact hW.2.2.1 kp i (hold kp i h e)

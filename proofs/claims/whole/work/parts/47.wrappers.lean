/-! printed (wip/whole/wrap.py): the law's wrappers -/
theorem ext_ne {ad ad' : Nat → Nat → Nat} {M M' : Nat → Nat → Bool} {sz o kp i : Nat} (h : Ext ad M ad' M' sz) (hne : ∀ kp i, M kp i = true → ad kp i ≠ o) (ho : o < sz) (hi : M' kp i = true) : ad' kp i ≠ o := by
  cases hm : M kp i with
  | true => rw [(h.1 kp i hm).2]; exact hne kp i hm
  | false =>
    have := h.2 kp i hi hm
    omega
theorem vp_updL_0 {f : Nat → Int64} {x : Int64} : vp_updL f (0 : Int32).toNatClampNeg x 0 = x := by
  unfold vp_updL
  exact if_pos rfl
theorem sw_last {p : Program} {l : Launch} {e : Env} {R : Room} {s : State} {m : MethodId} {args : Array Value} {below : List Frame} {meth : Method} {c : Code} {Q : State → Prop} {D : va_G} {X : Nat → ClassId} {A : Nat → Prop} {b : ByteArray} {H : Heap} {locs : List Loc} {ls : Array Slot} {pc : Nat} {cl sl o : Nat} {f : Nat → Int64} {x : Int64} {rest : List Value} (hx : p.tables.exec = Jvm.exec) (hb : c.code = b) (hK : va_K D vwCl (TYX X) s) (hat : va_at D vwCl (oc30 X o f) H) (hS : va_S A s.heap H locs) (hAo : A o) (hd : decode b pc = .ok (.lastore, 1))
    (kk : ∀ (H1 : Heap) (locs1 : List Loc), va_at D vwCl (oc30 X o (vp_updL f (0 : Int32).toNatClampNeg x)) H1 → (∀ q, q ≠ o → H1[q]? = H[q]?) → va_S A s.heap H1 locs1 → W p l e R s m args below meth c H1 locs1 cl sl Q (F0 m (pc + 1) ls rest)) : W p l e R s m args below meth c H locs cl sl Q (F0 m pc ls (.long x :: .int 0 :: .ref o :: rest)) := by
  have hin : vp_in 0 1 := vp0 (n := 0) (by omega) (by omega)
  refine W.last hx hb hat ((hK.2 7 (X 30, .long) rfl).1 1 (fun j => .long (f j))) (fun q => by cases q) (by show ¬ ((0 : Int32) < 0 ∨ (arrV _ _ _).slots.size ≤ _); rw [arrV_size]; exact hin) rfl rfl hd fun H1 e z oq => ?_
  refine kk H1 _ ?_ oq (hS.put z oq hAo)
  show H1[o]? = some (vp_cell _ _)
  rw [e]
  rw [vp_cell_l, vp_cell_l, arrV_store]
  congr 2
  funext q
  by_cases hq : q = (0 : Int32).toNatClampNeg
  · subst hq
    simp [updV, vp_updL]
  · have h0 : ¬ q = 0 := hq
    simp [updV, vp_updL, h0]
theorem dL_platform_0 : decode cL_platform 0 = .ok (.aload_n 2, 1) := by decide +kernel
theorem dL_platform_1 : decode cL_platform 1 = .ok (.iconst 0, 1) := by decide +kernel
theorem dL_platform_2 : decode cL_platform 2 = .ok (.aload_n 0, 1) := by decide +kernel
theorem dL_platform_3 : decode cL_platform 3 = .ok (.iload_n 1, 1) := by decide +kernel
theorem dL_platform_4 : decode cL_platform 4 = .ok (.invokevirtual 7, 3) := by decide +kernel
theorem dL_platform_7 : decode cL_platform 7 = .ok (.i2l, 1) := by decide +kernel
theorem dL_platform_8 : decode cL_platform 8 = .ok (.lastore, 1) := by decide +kernel
theorem dL_platform_9 : decode cL_platform 9 = .ok (.goto 9, 3) := by decide +kernel
theorem dL_platform_12 : decode cL_platform 12 = .ok (.astore_n 3, 1) := by decide +kernel
theorem dL_platform_13 : decode cL_platform 13 = .ok (.iconst 1, 1) := by decide +kernel
theorem dL_platform_14 : decode cL_platform 14 = .ok (.ireturn, 1) := by decide +kernel
theorem dL_platform_15 : decode cL_platform 15 = .ok (.astore_n 3, 1) := by decide +kernel
theorem dL_platform_16 : decode cL_platform 16 = .ok (.iconst 2, 1) := by decide +kernel
theorem dL_platform_17 : decode cL_platform 17 = .ok (.ireturn, 1) := by decide +kernel
theorem dL_platform_18 : decode cL_platform 18 = .ok (.iconst 0, 1) := by decide +kernel
theorem dL_platform_19 : decode cL_platform 19 = .ok (.ireturn, 1) := by decide +kernel
set_option maxHeartbeats 4000000 in
theorem w_platform {l : Launch} (D : va_G) (X : Nat → ClassId) (ad : Nat → Nat → Nat) {M M1 : Nat → Nat → Bool} {o code : Nat} {t s' : TT} {r : Int32} (a1 : Int32) (hcode : code ≤ 3) (hM1 : code ≠ 0 → M1 = M) (hM0 : M 0 0 = true) (hC : CE l yX4_platform (Cond.code yX4_platform cX4_platform 2 (some .int) :: LT) { frames := 8, cells := 3, slots := 20, locals := 150 } D X ad M [.inr (.inl (0, 0)), .inl a1] t 3 20 (fun v M' t1 => PO code r (over s') v t1 ∧ M' = M1) (PX [IAE9, ISE9] code (over s'))) : CW l yL_platform (Cond.codeWith yL_platform cL_platform 4 (some .int) [(0, 9, 12, 13), (0, 9, 15, 15)] :: LT) { frames := 9, cells := 3, slots := 20, locals := 171 } D X ad M M1 [.inr (.inl (0, 0)), .inl a1] [.ref o] o t 3 20 code r s' true := by
  refine wrap_of (by decide +kernel) (by exact Nat.le_of_ble_eq_true rfl) ?_
  intro p e s m args below meth c A f ls hx hb hml hts hown hK htab hlocks hret hA hE hY hAo hne hW hat hl
  have hl : lv_has ls 4 [(0, .ref (ad 0 0)), (1, .int a1), (2, .ref o)] := hl
  have hAC : ¬ AC ad M s.heap.size o := by
    rintro (⟨kp, i, h1, h2⟩ | h1)
    · exact hne kp i h1 h2.symm
    · exact absurd hat.lt (Nat.not_lt.mpr h1)
  refine lv_aload_n hx hb dL_platform_0 rfl (lv_at hl 2 rfl) ?_
  refine lv_iconst (v := 0) hx hb dL_platform_1 (by decide +kernel) ?_
  refine lv_aload_n hx hb dL_platform_2 rfl (lv_at hl 0 rfl) ?_
  refine lv_iload_n hx hb dL_platform_3 rfl (lv_at hl 1 rfl) ?_
  refine W.eq (g2 := F0 m 4 ls ((([.inr (.inl (0, 0)), .inl a1] : List VV).map (toV ad)).reverse ++ [.int 0, .ref o])) rfl ?_
  refine run_own hA va_S.rf hW (lcall_E (Ts := LT) (n := 1) (rest := [.int 0, .ref o]) hx hb hml hts hown hK hA hE hC (fun w h => h) ⟨LT_in (by decide +kernel) (by decide +kernel), LT_in (by decide +kernel) (by decide +kernel), LT_in (by decide +kernel) (by decide +kernel), LT_in (by decide +kernel) (by decide +kernel), LT_in (by decide +kernel) (by decide +kernel)⟩ (by decide +kernel) ⟨(by exact Nat.le_of_ble_eq_true rfl), (by exact Nat.le_of_ble_eq_true rfl)⟩ rfl rfl rfl ⟨0, 0, rfl, hM0, by unfold isObj; omega, rfl⟩ hW va_S.rf hl.1 (by exact Nat.le_of_ble_eq_true rfl) (by exact Nat.le_of_ble_eq_true rfl) (by exact Nat.le_of_ble_eq_true rfl) dL_platform_4) (fun v t1 ad' M' H1 locs1 hp hext hW1 hS1 hz1 hk1 => ?_) (fun E ce q t1 H1 locs1 hp hW1 hS1 hz1 hk1 hce hcv hcl => ?_)
  · obtain ⟨hp, rfl⟩ := hp
    have hat1 : va_at D vwCl (oc30 X o f) H1 := hat.kept (hk1 o hat.lt hAC)
    cases v with
    | none => exact hp.elim
    | some v =>
    cases v with
    | inr _ => exact hp.elim
    | inl r2 =>
    obtain ⟨rfl, rfl, rfl⟩ := hp
    have hne1 : ∀ kp i, M' kp i = true → ad' kp i ≠ o := fun kp i h => ext_ne hext hne hat.lt h
    refine W.eq (g2 := F0 m 7 ls [.int r2, .int 0, .ref o]) rfl ?_
    refine lv_i2l hx hb dL_platform_7 rfl ?_
    refine sw_last hx hb hK hat1 hS1 hAo dL_platform_8 (fun H2 locs2 hat2 oq2 hS2 => ?_)
    have hW2 := hW1.kept (fun kp i hi => oq2 _ (hne1 kp i hi))
    refine lv_goto hx hb dL_platform_9 (tgt := 18) (by decide) ?_
    refine lv_iconst (v := 0) hx hb dL_platform_18 (by decide +kernel) ?_
    refine W.widen (k := 3) (n := 20) (by exact Nat.le_of_ble_eq_true rfl) (by exact Nat.le_of_ble_eq_true rfl) ?_
    exact vx_ret (W.iret (v := 0) hx hb hret (fun u hu hw => ⟨⟨rfl, ad', _, hext, by rw [hu]; exact hW2, by rw [hu]; exact hat2, fun _ _ => vp_updL_0⟩, hS2.F hu⟩) hS2.2.2 dL_platform_19 hlocks)
  · obtain ⟨hc0, hex, rfl⟩ := hp
    have hat1 : va_at D vwCl (oc30 X o f) H1 := hat.kept (hk1 o hat.lt hAC)
    have hMM := hM1 hc0
    subst hMM
    have hcc : code = 1 ∨ code = 2 ∨ code = 3 := by omega
    rcases hcc with rfl | rfl | rfl
    · cases hex
      refine vx_catch (name := IAE9) hown [] ⟨0, 9, 12, 13⟩ [⟨0, 9, 15, 15⟩] (by rw [htab]; rfl) (fun _ h => absurd h List.not_mem_nil) (by decide +kernel) (by decide) (hts _ (LT_in (by decide +kernel) (by decide +kernel))) (yb_at (args := #[]) (by simp [YB]) (State.WarmedH.refl s) (hY.1 (Cond.castable IAE9 IAE9) (by simp [YB]))) hce hcv hcl ?_
      refine lv_astore_n hx hb dL_platform_12 rfl hl (by decide) rfl (fun ls9 _ => ?_)
      refine lv_iconst (v := nI 1) hx hb dL_platform_13 (by decide +kernel) ?_
      refine W.widen (k := 3) (n := 20) (by exact Nat.le_of_ble_eq_true rfl) (by exact Nat.le_of_ble_eq_true rfl) ?_
      exact vx_ret (W.iret (v := nI 1) hx hb hret (fun u hu hw => ⟨⟨rfl, ad, f, Ext.refl _ _ _, by rw [hu]; exact hW1, by rw [hu]; exact hat1, fun z => by omega⟩, hS1.F hu⟩) hS1.2.2 dL_platform_14 hlocks)
    · cases hex
      refine vx_catch (name := ISE9) hown [⟨0, 9, 12, 13⟩] ⟨0, 9, 15, 15⟩ [] (by rw [htab]; rfl) (List.forall_mem_cons.mpr ⟨Or.inr ⟨by decide, IAE9, hts _ (LT_in (by decide +kernel) (by decide +kernel)), hY.2.2.2⟩, fun _ h => absurd h List.not_mem_nil⟩) (by decide +kernel) (by decide) (hts _ (LT_in (by decide +kernel) (by decide +kernel))) (yb_at (args := #[]) (by simp [YB]) (State.WarmedH.refl s) (hY.1 (Cond.castable ISE9 ISE9) (by simp [YB]))) hce hcv hcl ?_
      refine lv_astore_n hx hb dL_platform_15 rfl hl (by decide) rfl (fun ls9 _ => ?_)
      refine lv_iconst (v := nI 2) hx hb dL_platform_16 (by decide +kernel) ?_
      refine W.widen (k := 3) (n := 20) (by exact Nat.le_of_ble_eq_true rfl) (by exact Nat.le_of_ble_eq_true rfl) ?_
      exact vx_ret (W.iret (v := nI 2) hx hb hret (fun u hu hw => ⟨⟨rfl, ad, f, Ext.refl _ _ _, by rw [hu]; exact hW1, by rw [hu]; exact hat1, fun z => by omega⟩, hS1.F hu⟩) hS1.2.2 dL_platform_17 hlocks)
    · cases hex
theorem dL_beacon_0 : decode cL_beacon 0 = .ok (.aload_n 2, 1) := by decide +kernel
theorem dL_beacon_1 : decode cL_beacon 1 = .ok (.iconst 0, 1) := by decide +kernel
theorem dL_beacon_2 : decode cL_beacon 2 = .ok (.aload_n 0, 1) := by decide +kernel
theorem dL_beacon_3 : decode cL_beacon 3 = .ok (.iload_n 1, 1) := by decide +kernel
theorem dL_beacon_4 : decode cL_beacon 4 = .ok (.invokevirtual 17, 3) := by decide +kernel
theorem dL_beacon_7 : decode cL_beacon 7 = .ok (.i2l, 1) := by decide +kernel
theorem dL_beacon_8 : decode cL_beacon 8 = .ok (.lastore, 1) := by decide +kernel
theorem dL_beacon_9 : decode cL_beacon 9 = .ok (.goto 9, 3) := by decide +kernel
theorem dL_beacon_12 : decode cL_beacon 12 = .ok (.astore_n 3, 1) := by decide +kernel
theorem dL_beacon_13 : decode cL_beacon 13 = .ok (.iconst 1, 1) := by decide +kernel
theorem dL_beacon_14 : decode cL_beacon 14 = .ok (.ireturn, 1) := by decide +kernel
theorem dL_beacon_15 : decode cL_beacon 15 = .ok (.astore_n 3, 1) := by decide +kernel
theorem dL_beacon_16 : decode cL_beacon 16 = .ok (.iconst 2, 1) := by decide +kernel
theorem dL_beacon_17 : decode cL_beacon 17 = .ok (.ireturn, 1) := by decide +kernel
theorem dL_beacon_18 : decode cL_beacon 18 = .ok (.iconst 0, 1) := by decide +kernel
theorem dL_beacon_19 : decode cL_beacon 19 = .ok (.ireturn, 1) := by decide +kernel
set_option maxHeartbeats 4000000 in
theorem w_beacon {l : Launch} (D : va_G) (X : Nat → ClassId) (ad : Nat → Nat → Nat) {M M1 : Nat → Nat → Bool} {o code : Nat} {t s' : TT} {r : Int32} (a1 : Int32) (hcode : code ≤ 3) (hM1 : code ≠ 0 → M1 = M) (hM0 : M 0 0 = true) (hC : CE l yX4_beacon (Cond.code yX4_beacon cX4_beacon 2 (some .int) :: LT) { frames := 8, cells := 3, slots := 14, locals := 150 } D X ad M [.inr (.inl (0, 0)), .inl a1] t 3 14 (fun v M' t1 => PO code r (over s') v t1 ∧ M' = M1) (PX [IAE9, ISE9] code (over s'))) : CW l yL_beacon (Cond.codeWith yL_beacon cL_beacon 4 (some .int) [(0, 9, 12, 13), (0, 9, 15, 15)] :: LT) { frames := 9, cells := 3, slots := 14, locals := 171 } D X ad M M1 [.inr (.inl (0, 0)), .inl a1] [.ref o] o t 3 14 code r s' true := by
  refine wrap_of (by decide +kernel) (by exact Nat.le_of_ble_eq_true rfl) ?_
  intro p e s m args below meth c A f ls hx hb hml hts hown hK htab hlocks hret hA hE hY hAo hne hW hat hl
  have hl : lv_has ls 4 [(0, .ref (ad 0 0)), (1, .int a1), (2, .ref o)] := hl
  have hAC : ¬ AC ad M s.heap.size o := by
    rintro (⟨kp, i, h1, h2⟩ | h1)
    · exact hne kp i h1 h2.symm
    · exact absurd hat.lt (Nat.not_lt.mpr h1)
  refine lv_aload_n hx hb dL_beacon_0 rfl (lv_at hl 2 rfl) ?_
  refine lv_iconst (v := 0) hx hb dL_beacon_1 (by decide +kernel) ?_
  refine lv_aload_n hx hb dL_beacon_2 rfl (lv_at hl 0 rfl) ?_
  refine lv_iload_n hx hb dL_beacon_3 rfl (lv_at hl 1 rfl) ?_
  refine W.eq (g2 := F0 m 4 ls ((([.inr (.inl (0, 0)), .inl a1] : List VV).map (toV ad)).reverse ++ [.int 0, .ref o])) rfl ?_
  refine run_own hA va_S.rf hW (lcall_E (Ts := LT) (n := 1) (rest := [.int 0, .ref o]) hx hb hml hts hown hK hA hE hC (fun w h => h) ⟨LT_in (by decide +kernel) (by decide +kernel), LT_in (by decide +kernel) (by decide +kernel), LT_in (by decide +kernel) (by decide +kernel), LT_in (by decide +kernel) (by decide +kernel), LT_in (by decide +kernel) (by decide +kernel)⟩ (by decide +kernel) ⟨(by exact Nat.le_of_ble_eq_true rfl), (by exact Nat.le_of_ble_eq_true rfl)⟩ rfl rfl rfl ⟨0, 0, rfl, hM0, by unfold isObj; omega, rfl⟩ hW va_S.rf hl.1 (by exact Nat.le_of_ble_eq_true rfl) (by exact Nat.le_of_ble_eq_true rfl) (by exact Nat.le_of_ble_eq_true rfl) dL_beacon_4) (fun v t1 ad' M' H1 locs1 hp hext hW1 hS1 hz1 hk1 => ?_) (fun E ce q t1 H1 locs1 hp hW1 hS1 hz1 hk1 hce hcv hcl => ?_)
  · obtain ⟨hp, rfl⟩ := hp
    have hat1 : va_at D vwCl (oc30 X o f) H1 := hat.kept (hk1 o hat.lt hAC)
    cases v with
    | none => exact hp.elim
    | some v =>
    cases v with
    | inr _ => exact hp.elim
    | inl r2 =>
    obtain ⟨rfl, rfl, rfl⟩ := hp
    have hne1 : ∀ kp i, M' kp i = true → ad' kp i ≠ o := fun kp i h => ext_ne hext hne hat.lt h
    refine W.eq (g2 := F0 m 7 ls [.int r2, .int 0, .ref o]) rfl ?_
    refine lv_i2l hx hb dL_beacon_7 rfl ?_
    refine sw_last hx hb hK hat1 hS1 hAo dL_beacon_8 (fun H2 locs2 hat2 oq2 hS2 => ?_)
    have hW2 := hW1.kept (fun kp i hi => oq2 _ (hne1 kp i hi))
    refine lv_goto hx hb dL_beacon_9 (tgt := 18) (by decide) ?_
    refine lv_iconst (v := 0) hx hb dL_beacon_18 (by decide +kernel) ?_
    refine W.widen (k := 3) (n := 14) (by exact Nat.le_of_ble_eq_true rfl) (by exact Nat.le_of_ble_eq_true rfl) ?_
    exact vx_ret (W.iret (v := 0) hx hb hret (fun u hu hw => ⟨⟨rfl, ad', _, hext, by rw [hu]; exact hW2, by rw [hu]; exact hat2, fun _ _ => vp_updL_0⟩, hS2.F hu⟩) hS2.2.2 dL_beacon_19 hlocks)
  · obtain ⟨hc0, hex, rfl⟩ := hp
    have hat1 : va_at D vwCl (oc30 X o f) H1 := hat.kept (hk1 o hat.lt hAC)
    have hMM := hM1 hc0
    subst hMM
    have hcc : code = 1 ∨ code = 2 ∨ code = 3 := by omega
    rcases hcc with rfl | rfl | rfl
    · cases hex
      refine vx_catch (name := IAE9) hown [] ⟨0, 9, 12, 13⟩ [⟨0, 9, 15, 15⟩] (by rw [htab]; rfl) (fun _ h => absurd h List.not_mem_nil) (by decide +kernel) (by decide) (hts _ (LT_in (by decide +kernel) (by decide +kernel))) (yb_at (args := #[]) (by simp [YB]) (State.WarmedH.refl s) (hY.1 (Cond.castable IAE9 IAE9) (by simp [YB]))) hce hcv hcl ?_
      refine lv_astore_n hx hb dL_beacon_12 rfl hl (by decide) rfl (fun ls9 _ => ?_)
      refine lv_iconst (v := nI 1) hx hb dL_beacon_13 (by decide +kernel) ?_
      refine W.widen (k := 3) (n := 14) (by exact Nat.le_of_ble_eq_true rfl) (by exact Nat.le_of_ble_eq_true rfl) ?_
      exact vx_ret (W.iret (v := nI 1) hx hb hret (fun u hu hw => ⟨⟨rfl, ad, f, Ext.refl _ _ _, by rw [hu]; exact hW1, by rw [hu]; exact hat1, fun z => by omega⟩, hS1.F hu⟩) hS1.2.2 dL_beacon_14 hlocks)
    · cases hex
      refine vx_catch (name := ISE9) hown [⟨0, 9, 12, 13⟩] ⟨0, 9, 15, 15⟩ [] (by rw [htab]; rfl) (List.forall_mem_cons.mpr ⟨Or.inr ⟨by decide, IAE9, hts _ (LT_in (by decide +kernel) (by decide +kernel)), hY.2.2.2⟩, fun _ h => absurd h List.not_mem_nil⟩) (by decide +kernel) (by decide) (hts _ (LT_in (by decide +kernel) (by decide +kernel))) (yb_at (args := #[]) (by simp [YB]) (State.WarmedH.refl s) (hY.1 (Cond.castable ISE9 ISE9) (by simp [YB]))) hce hcv hcl ?_
      refine lv_astore_n hx hb dL_beacon_15 rfl hl (by decide) rfl (fun ls9 _ => ?_)
      refine lv_iconst (v := nI 2) hx hb dL_beacon_16 (by decide +kernel) ?_
      refine W.widen (k := 3) (n := 14) (by exact Nat.le_of_ble_eq_true rfl) (by exact Nat.le_of_ble_eq_true rfl) ?_
      exact vx_ret (W.iret (v := nI 2) hx hb hret (fun u hu hw => ⟨⟨rfl, ad, f, Ext.refl _ _ _, by rw [hu]; exact hW1, by rw [hu]; exact hat1, fun z => by omega⟩, hS1.F hu⟩) hS1.2.2 dL_beacon_17 hlocks)
    · cases hex
theorem dL_works_0 : decode cL_works 0 = .ok (.aload_n 3, 1) := by decide +kernel
theorem dL_works_1 : decode cL_works 1 = .ok (.iconst 0, 1) := by decide +kernel
theorem dL_works_2 : decode cL_works 2 = .ok (.aload_n 0, 1) := by decide +kernel
theorem dL_works_3 : decode cL_works 3 = .ok (.iload_n 1, 1) := by decide +kernel
theorem dL_works_4 : decode cL_works 4 = .ok (.iload_n 2, 1) := by decide +kernel
theorem dL_works_5 : decode cL_works 5 = .ok (.invokevirtual 20, 3) := by decide +kernel
theorem dL_works_8 : decode cL_works 8 = .ok (.ifCond .eq 7, 3) := by decide +kernel
theorem dL_works_11 : decode cL_works 11 = .ok (.lconst 1, 1) := by decide +kernel
theorem dL_works_12 : decode cL_works 12 = .ok (.goto 4, 3) := by decide +kernel
theorem dL_works_15 : decode cL_works 15 = .ok (.lconst 0, 1) := by decide +kernel
theorem dL_works_16 : decode cL_works 16 = .ok (.lastore, 1) := by decide +kernel
theorem dL_works_17 : decode cL_works 17 = .ok (.goto 7, 3) := by decide +kernel
theorem dL_works_20 : decode cL_works 20 = .ok (.astore 4, 2) := by decide +kernel
theorem dL_works_22 : decode cL_works 22 = .ok (.iconst 1, 1) := by decide +kernel
theorem dL_works_23 : decode cL_works 23 = .ok (.ireturn, 1) := by decide +kernel
theorem dL_works_24 : decode cL_works 24 = .ok (.iconst 0, 1) := by decide +kernel
theorem dL_works_25 : decode cL_works 25 = .ok (.ireturn, 1) := by decide +kernel
set_option maxHeartbeats 4000000 in
theorem w_works {l : Launch} (D : va_G) (X : Nat → ClassId) (ad : Nat → Nat → Nat) {M M1 : Nat → Nat → Bool} {o code : Nat} {t s' : TT} {r : Int32} (a1 a2 : Int32) (hcode : code ≤ 3) (hM1 : code ≠ 0 → M1 = M) (hM0 : M 0 0 = true) (hr : isB r) (hC : CE l yX4_works (Cond.code yX4_works cX4_works 5 (some .boolean) :: LT) { frames := 7, cells := 1, slots := 6, locals := 111 } D X ad M [.inr (.inl (0, 0)), .inl a1, .inl a2] t 1 6 (fun v M' t1 => PO code r (over s') v t1 ∧ M' = M1) (PX [IOB] code (over s'))) : CW l yL_works (Cond.codeWith yL_works cL_works 5 (some .int) [(0, 17, 20, 24)] :: LT) { frames := 8, cells := 1, slots := 6, locals := 135 } D X ad M M1 [.inr (.inl (0, 0)), .inl a1, .inl a2] [.ref o] o t 1 6 code r s' true := by
  refine wrap_of (by decide +kernel) (by exact Nat.le_of_ble_eq_true rfl) ?_
  intro p e s m args below meth c A f ls hx hb hml hts hown hK htab hlocks hret hA hE hY hAo hne hW hat hl
  have hl : lv_has ls 5 [(0, .ref (ad 0 0)), (1, .int a1), (2, .int a2), (3, .ref o)] := hl
  have hAC : ¬ AC ad M s.heap.size o := by
    rintro (⟨kp, i, h1, h2⟩ | h1)
    · exact hne kp i h1 h2.symm
    · exact absurd hat.lt (Nat.not_lt.mpr h1)
  refine lv_aload_n hx hb dL_works_0 rfl (lv_at hl 3 rfl) ?_
  refine lv_iconst (v := 0) hx hb dL_works_1 (by decide +kernel) ?_
  refine lv_aload_n hx hb dL_works_2 rfl (lv_at hl 0 rfl) ?_
  refine lv_iload_n hx hb dL_works_3 rfl (lv_at hl 1 rfl) ?_
  refine lv_iload_n hx hb dL_works_4 rfl (lv_at hl 2 rfl) ?_
  refine W.eq (g2 := F0 m 5 ls ((([.inr (.inl (0, 0)), .inl a1, .inl a2] : List VV).map (toV ad)).reverse ++ [.int 0, .ref o])) rfl ?_
  refine run_own hA va_S.rf hW (lcall_E (Ts := LT) (n := 2) (rest := [.int 0, .ref o]) hx hb hml hts hown hK hA hE hC (fun w h => h) ⟨LT_in (by decide +kernel) (by decide +kernel), LT_in (by decide +kernel) (by decide +kernel), LT_in (by decide +kernel) (by decide +kernel), LT_in (by decide +kernel) (by decide +kernel), LT_in (by decide +kernel) (by decide +kernel)⟩ (by decide +kernel) ⟨(by exact Nat.le_of_ble_eq_true rfl), (by exact Nat.le_of_ble_eq_true rfl)⟩ rfl rfl rfl ⟨0, 0, rfl, hM0, by unfold isObj; omega, rfl⟩ hW va_S.rf hl.1 (by exact Nat.le_of_ble_eq_true rfl) (by exact Nat.le_of_ble_eq_true rfl) (by exact Nat.le_of_ble_eq_true rfl) dL_works_5) (fun v t1 ad' M' H1 locs1 hp hext hW1 hS1 hz1 hk1 => ?_) (fun E ce q t1 H1 locs1 hp hW1 hS1 hz1 hk1 hce hcv hcl => ?_)
  · obtain ⟨hp, rfl⟩ := hp
    have hat1 : va_at D vwCl (oc30 X o f) H1 := hat.kept (hk1 o hat.lt hAC)
    cases v with
    | none => exact hp.elim
    | some v =>
    cases v with
    | inr _ => exact hp.elim
    | inl r2 =>
    obtain ⟨rfl, rfl, rfl⟩ := hp
    have hne1 : ∀ kp i, M' kp i = true → ad' kp i ≠ o := fun kp i h => ext_ne hext hne hat.lt h
    refine W.eq (g2 := F0 m 8 ls [.int r2, .int 0, .ref o]) rfl ?_
    refine lv_if_eq hx hb dL_works_8 (tgt := 15) (by decide) (fun z => ?_) (fun z => ?_)
    · refine lv_lconst (v := 0) hx hb dL_works_15 (by decide +kernel) ?_
      refine sw_last hx hb hK hat1 hS1 hAo dL_works_16 (fun H2 locs2 hat2 oq2 hS2 => ?_)
      have hW2 := hW1.kept (fun kp i hi => oq2 _ (hne1 kp i hi))
      refine lv_goto hx hb dL_works_17 (tgt := 24) (by decide) ?_
      refine lv_iconst (v := 0) hx hb dL_works_24 (by decide +kernel) ?_
      refine W.widen (k := 1) (n := 6) (by exact Nat.le_of_ble_eq_true rfl) (by exact Nat.le_of_ble_eq_true rfl) ?_
      exact vx_ret (W.iret (v := 0) hx hb hret (fun u hu hw => ⟨⟨rfl, ad', _, hext, by rw [hu]; exact hW2, by rw [hu]; exact hat2, fun _ _ => by rw [vp_updL_0, z]; rfl⟩, hS2.F hu⟩) hS2.2.2 dL_works_25 hlocks)
    · refine lv_lconst (v := 1) hx hb dL_works_11 (by decide +kernel) ?_
      refine lv_goto hx hb dL_works_12 (tgt := 16) (by decide) ?_
      refine sw_last hx hb hK hat1 hS1 hAo dL_works_16 (fun H2 locs2 hat2 oq2 hS2 => ?_)
      have hW2 := hW1.kept (fun kp i hi => oq2 _ (hne1 kp i hi))
      refine lv_goto hx hb dL_works_17 (tgt := 24) (by decide) ?_
      refine lv_iconst (v := 0) hx hb dL_works_24 (by decide +kernel) ?_
      refine W.widen (k := 1) (n := 6) (by exact Nat.le_of_ble_eq_true rfl) (by exact Nat.le_of_ble_eq_true rfl) ?_
      exact vx_ret (W.iret (v := 0) hx hb hret (fun u hu hw => ⟨⟨rfl, ad', _, hext, by rw [hu]; exact hW2, by rw [hu]; exact hat2, fun _ _ => by rw [vp_updL_0, hr.resolve_left z]; rfl⟩, hS2.F hu⟩) hS2.2.2 dL_works_25 hlocks)
  · obtain ⟨hc0, hex, rfl⟩ := hp
    have hat1 : va_at D vwCl (oc30 X o f) H1 := hat.kept (hk1 o hat.lt hAC)
    have hMM := hM1 hc0
    subst hMM
    have hcc : code = 1 ∨ code = 2 ∨ code = 3 := by omega
    rcases hcc with rfl | rfl | rfl
    · cases hex
      refine vx_catch (name := IOB) hown [] ⟨0, 17, 20, 24⟩ [] (by rw [htab]; rfl) (fun _ h => absurd h List.not_mem_nil) (by decide +kernel) (by decide) (hts _ (LT_in (by decide +kernel) (by decide +kernel))) (yb_at (args := #[]) (by simp [YB]) (State.WarmedH.refl s) (hY.1 (Cond.castable IOB IOB) (by simp [YB]))) hce hcv hcl ?_
      refine lv_astore hx hb dL_works_20 hl (by decide) rfl (fun ls9 _ => ?_)
      refine lv_iconst (v := nI 1) hx hb dL_works_22 (by decide +kernel) ?_
      refine W.widen (k := 1) (n := 6) (by exact Nat.le_of_ble_eq_true rfl) (by exact Nat.le_of_ble_eq_true rfl) ?_
      exact vx_ret (W.iret (v := nI 1) hx hb hret (fun u hu hw => ⟨⟨rfl, ad, f, Ext.refl _ _ _, by rw [hu]; exact hW1, by rw [hu]; exact hat1, fun z => by omega⟩, hS1.F hu⟩) hS1.2.2 dL_works_23 hlocks)
    · cases hex
    · cases hex
theorem dL_zone_0 : decode cL_zone 0 = .ok (.aload_n 3, 1) := by decide +kernel
theorem dL_zone_1 : decode cL_zone 1 = .ok (.iconst 0, 1) := by decide +kernel
theorem dL_zone_2 : decode cL_zone 2 = .ok (.aload_n 0, 1) := by decide +kernel
theorem dL_zone_3 : decode cL_zone 3 = .ok (.iload_n 1, 1) := by decide +kernel
theorem dL_zone_4 : decode cL_zone 4 = .ok (.iload_n 2, 1) := by decide +kernel
theorem dL_zone_5 : decode cL_zone 5 = .ok (.invokevirtual 26, 3) := by decide +kernel
theorem dL_zone_8 : decode cL_zone 8 = .ok (.i2l, 1) := by decide +kernel
theorem dL_zone_9 : decode cL_zone 9 = .ok (.lastore, 1) := by decide +kernel
theorem dL_zone_10 : decode cL_zone 10 = .ok (.goto 11, 3) := by decide +kernel
theorem dL_zone_13 : decode cL_zone 13 = .ok (.astore 4, 2) := by decide +kernel
theorem dL_zone_15 : decode cL_zone 15 = .ok (.iconst 1, 1) := by decide +kernel
theorem dL_zone_16 : decode cL_zone 16 = .ok (.ireturn, 1) := by decide +kernel
theorem dL_zone_17 : decode cL_zone 17 = .ok (.astore 4, 2) := by decide +kernel
theorem dL_zone_19 : decode cL_zone 19 = .ok (.iconst 2, 1) := by decide +kernel
theorem dL_zone_20 : decode cL_zone 20 = .ok (.ireturn, 1) := by decide +kernel
theorem dL_zone_21 : decode cL_zone 21 = .ok (.iconst 0, 1) := by decide +kernel
theorem dL_zone_22 : decode cL_zone 22 = .ok (.ireturn, 1) := by decide +kernel
set_option maxHeartbeats 4000000 in
theorem w_zone {l : Launch} (D : va_G) (X : Nat → ClassId) (ad : Nat → Nat → Nat) {M M1 : Nat → Nat → Bool} {o code : Nat} {t s' : TT} {r : Int32} (a1 a2 : Int32) (hcode : code ≤ 3) (hM1 : code ≠ 0 → M1 = M) (hM0 : M 0 0 = true) (hC : CE l yX4_zone (Cond.code yX4_zone cX4_zone 3 (some .int) :: LT) { frames := 8, cells := 4, slots := 21, locals := 150 } D X ad M [.inr (.inl (0, 0)), .inl a1, .inl a2] t 4 21 (fun v M' t1 => PO code r (over s') v t1 ∧ M' = M1) (PX [IAE9, ISE9] code (over s'))) : CW l yL_zone (Cond.codeWith yL_zone cL_zone 5 (some .int) [(0, 10, 13, 13), (0, 10, 17, 15)] :: LT) { frames := 9, cells := 4, slots := 21, locals := 172 } D X ad M M1 [.inr (.inl (0, 0)), .inl a1, .inl a2] [.ref o] o t 4 21 code r s' true := by
  refine wrap_of (by decide +kernel) (by exact Nat.le_of_ble_eq_true rfl) ?_
  intro p e s m args below meth c A f ls hx hb hml hts hown hK htab hlocks hret hA hE hY hAo hne hW hat hl
  have hl : lv_has ls 5 [(0, .ref (ad 0 0)), (1, .int a1), (2, .int a2), (3, .ref o)] := hl
  have hAC : ¬ AC ad M s.heap.size o := by
    rintro (⟨kp, i, h1, h2⟩ | h1)
    · exact hne kp i h1 h2.symm
    · exact absurd hat.lt (Nat.not_lt.mpr h1)
  refine lv_aload_n hx hb dL_zone_0 rfl (lv_at hl 3 rfl) ?_
  refine lv_iconst (v := 0) hx hb dL_zone_1 (by decide +kernel) ?_
  refine lv_aload_n hx hb dL_zone_2 rfl (lv_at hl 0 rfl) ?_
  refine lv_iload_n hx hb dL_zone_3 rfl (lv_at hl 1 rfl) ?_
  refine lv_iload_n hx hb dL_zone_4 rfl (lv_at hl 2 rfl) ?_
  refine W.eq (g2 := F0 m 5 ls ((([.inr (.inl (0, 0)), .inl a1, .inl a2] : List VV).map (toV ad)).reverse ++ [.int 0, .ref o])) rfl ?_
  refine run_own hA va_S.rf hW (lcall_E (Ts := LT) (n := 2) (rest := [.int 0, .ref o]) hx hb hml hts hown hK hA hE hC (fun w h => h) ⟨LT_in (by decide +kernel) (by decide +kernel), LT_in (by decide +kernel) (by decide +kernel), LT_in (by decide +kernel) (by decide +kernel), LT_in (by decide +kernel) (by decide +kernel), LT_in (by decide +kernel) (by decide +kernel)⟩ (by decide +kernel) ⟨(by exact Nat.le_of_ble_eq_true rfl), (by exact Nat.le_of_ble_eq_true rfl)⟩ rfl rfl rfl ⟨0, 0, rfl, hM0, by unfold isObj; omega, rfl⟩ hW va_S.rf hl.1 (by exact Nat.le_of_ble_eq_true rfl) (by exact Nat.le_of_ble_eq_true rfl) (by exact Nat.le_of_ble_eq_true rfl) dL_zone_5) (fun v t1 ad' M' H1 locs1 hp hext hW1 hS1 hz1 hk1 => ?_) (fun E ce q t1 H1 locs1 hp hW1 hS1 hz1 hk1 hce hcv hcl => ?_)
  · obtain ⟨hp, rfl⟩ := hp
    have hat1 : va_at D vwCl (oc30 X o f) H1 := hat.kept (hk1 o hat.lt hAC)
    cases v with
    | none => exact hp.elim
    | some v =>
    cases v with
    | inr _ => exact hp.elim
    | inl r2 =>
    obtain ⟨rfl, rfl, rfl⟩ := hp
    have hne1 : ∀ kp i, M' kp i = true → ad' kp i ≠ o := fun kp i h => ext_ne hext hne hat.lt h
    refine W.eq (g2 := F0 m 8 ls [.int r2, .int 0, .ref o]) rfl ?_
    refine lv_i2l hx hb dL_zone_8 rfl ?_
    refine sw_last hx hb hK hat1 hS1 hAo dL_zone_9 (fun H2 locs2 hat2 oq2 hS2 => ?_)
    have hW2 := hW1.kept (fun kp i hi => oq2 _ (hne1 kp i hi))
    refine lv_goto hx hb dL_zone_10 (tgt := 21) (by decide) ?_
    refine lv_iconst (v := 0) hx hb dL_zone_21 (by decide +kernel) ?_
    refine W.widen (k := 4) (n := 21) (by exact Nat.le_of_ble_eq_true rfl) (by exact Nat.le_of_ble_eq_true rfl) ?_
    exact vx_ret (W.iret (v := 0) hx hb hret (fun u hu hw => ⟨⟨rfl, ad', _, hext, by rw [hu]; exact hW2, by rw [hu]; exact hat2, fun _ _ => vp_updL_0⟩, hS2.F hu⟩) hS2.2.2 dL_zone_22 hlocks)
  · obtain ⟨hc0, hex, rfl⟩ := hp
    have hat1 : va_at D vwCl (oc30 X o f) H1 := hat.kept (hk1 o hat.lt hAC)
    have hMM := hM1 hc0
    subst hMM
    have hcc : code = 1 ∨ code = 2 ∨ code = 3 := by omega
    rcases hcc with rfl | rfl | rfl
    · cases hex
      refine vx_catch (name := IAE9) hown [] ⟨0, 10, 13, 13⟩ [⟨0, 10, 17, 15⟩] (by rw [htab]; rfl) (fun _ h => absurd h List.not_mem_nil) (by decide +kernel) (by decide) (hts _ (LT_in (by decide +kernel) (by decide +kernel))) (yb_at (args := #[]) (by simp [YB]) (State.WarmedH.refl s) (hY.1 (Cond.castable IAE9 IAE9) (by simp [YB]))) hce hcv hcl ?_
      refine lv_astore hx hb dL_zone_13 hl (by decide) rfl (fun ls9 _ => ?_)
      refine lv_iconst (v := nI 1) hx hb dL_zone_15 (by decide +kernel) ?_
      refine W.widen (k := 4) (n := 21) (by exact Nat.le_of_ble_eq_true rfl) (by exact Nat.le_of_ble_eq_true rfl) ?_
      exact vx_ret (W.iret (v := nI 1) hx hb hret (fun u hu hw => ⟨⟨rfl, ad, f, Ext.refl _ _ _, by rw [hu]; exact hW1, by rw [hu]; exact hat1, fun z => by omega⟩, hS1.F hu⟩) hS1.2.2 dL_zone_16 hlocks)
    · cases hex
      refine vx_catch (name := ISE9) hown [⟨0, 10, 13, 13⟩] ⟨0, 10, 17, 15⟩ [] (by rw [htab]; rfl) (List.forall_mem_cons.mpr ⟨Or.inr ⟨by decide, IAE9, hts _ (LT_in (by decide +kernel) (by decide +kernel)), hY.2.2.2⟩, fun _ h => absurd h List.not_mem_nil⟩) (by decide +kernel) (by decide) (hts _ (LT_in (by decide +kernel) (by decide +kernel))) (yb_at (args := #[]) (by simp [YB]) (State.WarmedH.refl s) (hY.1 (Cond.castable ISE9 ISE9) (by simp [YB]))) hce hcv hcl ?_
      refine lv_astore hx hb dL_zone_17 hl (by decide) rfl (fun ls9 _ => ?_)
      refine lv_iconst (v := nI 2) hx hb dL_zone_19 (by decide +kernel) ?_
      refine W.widen (k := 4) (n := 21) (by exact Nat.le_of_ble_eq_true rfl) (by exact Nat.le_of_ble_eq_true rfl) ?_
      exact vx_ret (W.iret (v := nI 2) hx hb hret (fun u hu hw => ⟨⟨rfl, ad, f, Ext.refl _ _ _, by rw [hu]; exact hW1, by rw [hu]; exact hat1, fun z => by omega⟩, hS1.F hu⟩) hS1.2.2 dL_zone_20 hlocks)
    · cases hex
theorem dL_close_0 : decode cL_close 0 = .ok (.aload_n 3, 1) := by decide +kernel
theorem dL_close_1 : decode cL_close 1 = .ok (.iconst 0, 1) := by decide +kernel
theorem dL_close_2 : decode cL_close 2 = .ok (.aload_n 0, 1) := by decide +kernel
theorem dL_close_3 : decode cL_close 3 = .ok (.iload_n 1, 1) := by decide +kernel
theorem dL_close_4 : decode cL_close 4 = .ok (.iload_n 2, 1) := by decide +kernel
theorem dL_close_5 : decode cL_close 5 = .ok (.invokevirtual 30, 3) := by decide +kernel
theorem dL_close_8 : decode cL_close 8 = .ok (.ifCond .eq 7, 3) := by decide +kernel
theorem dL_close_11 : decode cL_close 11 = .ok (.lconst 1, 1) := by decide +kernel
theorem dL_close_12 : decode cL_close 12 = .ok (.goto 4, 3) := by decide +kernel
theorem dL_close_15 : decode cL_close 15 = .ok (.lconst 0, 1) := by decide +kernel
theorem dL_close_16 : decode cL_close 16 = .ok (.lastore, 1) := by decide +kernel
theorem dL_close_17 : decode cL_close 17 = .ok (.goto 11, 3) := by decide +kernel
theorem dL_close_20 : decode cL_close 20 = .ok (.astore 4, 2) := by decide +kernel
theorem dL_close_22 : decode cL_close 22 = .ok (.iconst 1, 1) := by decide +kernel
theorem dL_close_23 : decode cL_close 23 = .ok (.ireturn, 1) := by decide +kernel
theorem dL_close_24 : decode cL_close 24 = .ok (.astore 4, 2) := by decide +kernel
theorem dL_close_26 : decode cL_close 26 = .ok (.iconst 2, 1) := by decide +kernel
theorem dL_close_27 : decode cL_close 27 = .ok (.ireturn, 1) := by decide +kernel
theorem dL_close_28 : decode cL_close 28 = .ok (.iconst 0, 1) := by decide +kernel
theorem dL_close_29 : decode cL_close 29 = .ok (.ireturn, 1) := by decide +kernel
set_option maxHeartbeats 4000000 in
theorem w_close {l : Launch} (D : va_G) (X : Nat → ClassId) (ad : Nat → Nat → Nat) {M M1 : Nat → Nat → Bool} {o code : Nat} {t s' : TT} {r : Int32} (a1 a2 : Int32) (hcode : code ≤ 3) (hM1 : code ≠ 0 → M1 = M) (hM0 : M 0 0 = true) (hr : isB r) (hC : CE l yX4_close (Cond.code yX4_close cX4_close 5 (some .boolean) :: LT) { frames := 7, cells := 2, slots := 12, locals := 111 } D X ad M [.inr (.inl (0, 0)), .inl a1, .inl a2] t 2 12 (fun v M' t1 => PO code r (over s') v t1 ∧ M' = M1) (PX [IOB, ISE9] code (over s'))) : CW l yL_close (Cond.codeWith yL_close cL_close 5 (some .int) [(0, 17, 20, 24), (0, 17, 24, 15)] :: LT) { frames := 8, cells := 2, slots := 12, locals := 135 } D X ad M M1 [.inr (.inl (0, 0)), .inl a1, .inl a2] [.ref o] o t 2 12 code r s' true := by
  refine wrap_of (by decide +kernel) (by exact Nat.le_of_ble_eq_true rfl) ?_
  intro p e s m args below meth c A f ls hx hb hml hts hown hK htab hlocks hret hA hE hY hAo hne hW hat hl
  have hl : lv_has ls 5 [(0, .ref (ad 0 0)), (1, .int a1), (2, .int a2), (3, .ref o)] := hl
  have hAC : ¬ AC ad M s.heap.size o := by
    rintro (⟨kp, i, h1, h2⟩ | h1)
    · exact hne kp i h1 h2.symm
    · exact absurd hat.lt (Nat.not_lt.mpr h1)
  refine lv_aload_n hx hb dL_close_0 rfl (lv_at hl 3 rfl) ?_
  refine lv_iconst (v := 0) hx hb dL_close_1 (by decide +kernel) ?_
  refine lv_aload_n hx hb dL_close_2 rfl (lv_at hl 0 rfl) ?_
  refine lv_iload_n hx hb dL_close_3 rfl (lv_at hl 1 rfl) ?_
  refine lv_iload_n hx hb dL_close_4 rfl (lv_at hl 2 rfl) ?_
  refine W.eq (g2 := F0 m 5 ls ((([.inr (.inl (0, 0)), .inl a1, .inl a2] : List VV).map (toV ad)).reverse ++ [.int 0, .ref o])) rfl ?_
  refine run_own hA va_S.rf hW (lcall_E (Ts := LT) (n := 2) (rest := [.int 0, .ref o]) hx hb hml hts hown hK hA hE hC (fun w h => h) ⟨LT_in (by decide +kernel) (by decide +kernel), LT_in (by decide +kernel) (by decide +kernel), LT_in (by decide +kernel) (by decide +kernel), LT_in (by decide +kernel) (by decide +kernel), LT_in (by decide +kernel) (by decide +kernel)⟩ (by decide +kernel) ⟨(by exact Nat.le_of_ble_eq_true rfl), (by exact Nat.le_of_ble_eq_true rfl)⟩ rfl rfl rfl ⟨0, 0, rfl, hM0, by unfold isObj; omega, rfl⟩ hW va_S.rf hl.1 (by exact Nat.le_of_ble_eq_true rfl) (by exact Nat.le_of_ble_eq_true rfl) (by exact Nat.le_of_ble_eq_true rfl) dL_close_5) (fun v t1 ad' M' H1 locs1 hp hext hW1 hS1 hz1 hk1 => ?_) (fun E ce q t1 H1 locs1 hp hW1 hS1 hz1 hk1 hce hcv hcl => ?_)
  · obtain ⟨hp, rfl⟩ := hp
    have hat1 : va_at D vwCl (oc30 X o f) H1 := hat.kept (hk1 o hat.lt hAC)
    cases v with
    | none => exact hp.elim
    | some v =>
    cases v with
    | inr _ => exact hp.elim
    | inl r2 =>
    obtain ⟨rfl, rfl, rfl⟩ := hp
    have hne1 : ∀ kp i, M' kp i = true → ad' kp i ≠ o := fun kp i h => ext_ne hext hne hat.lt h
    refine W.eq (g2 := F0 m 8 ls [.int r2, .int 0, .ref o]) rfl ?_
    refine lv_if_eq hx hb dL_close_8 (tgt := 15) (by decide) (fun z => ?_) (fun z => ?_)
    · refine lv_lconst (v := 0) hx hb dL_close_15 (by decide +kernel) ?_
      refine sw_last hx hb hK hat1 hS1 hAo dL_close_16 (fun H2 locs2 hat2 oq2 hS2 => ?_)
      have hW2 := hW1.kept (fun kp i hi => oq2 _ (hne1 kp i hi))
      refine lv_goto hx hb dL_close_17 (tgt := 28) (by decide) ?_
      refine lv_iconst (v := 0) hx hb dL_close_28 (by decide +kernel) ?_
      refine W.widen (k := 2) (n := 12) (by exact Nat.le_of_ble_eq_true rfl) (by exact Nat.le_of_ble_eq_true rfl) ?_
      exact vx_ret (W.iret (v := 0) hx hb hret (fun u hu hw => ⟨⟨rfl, ad', _, hext, by rw [hu]; exact hW2, by rw [hu]; exact hat2, fun _ _ => by rw [vp_updL_0, z]; rfl⟩, hS2.F hu⟩) hS2.2.2 dL_close_29 hlocks)
    · refine lv_lconst (v := 1) hx hb dL_close_11 (by decide +kernel) ?_
      refine lv_goto hx hb dL_close_12 (tgt := 16) (by decide) ?_
      refine sw_last hx hb hK hat1 hS1 hAo dL_close_16 (fun H2 locs2 hat2 oq2 hS2 => ?_)
      have hW2 := hW1.kept (fun kp i hi => oq2 _ (hne1 kp i hi))
      refine lv_goto hx hb dL_close_17 (tgt := 28) (by decide) ?_
      refine lv_iconst (v := 0) hx hb dL_close_28 (by decide +kernel) ?_
      refine W.widen (k := 2) (n := 12) (by exact Nat.le_of_ble_eq_true rfl) (by exact Nat.le_of_ble_eq_true rfl) ?_
      exact vx_ret (W.iret (v := 0) hx hb hret (fun u hu hw => ⟨⟨rfl, ad', _, hext, by rw [hu]; exact hW2, by rw [hu]; exact hat2, fun _ _ => by rw [vp_updL_0, hr.resolve_left z]; rfl⟩, hS2.F hu⟩) hS2.2.2 dL_close_29 hlocks)
  · obtain ⟨hc0, hex, rfl⟩ := hp
    have hat1 : va_at D vwCl (oc30 X o f) H1 := hat.kept (hk1 o hat.lt hAC)
    have hMM := hM1 hc0
    subst hMM
    have hcc : code = 1 ∨ code = 2 ∨ code = 3 := by omega
    rcases hcc with rfl | rfl | rfl
    · cases hex
      refine vx_catch (name := IOB) hown [] ⟨0, 17, 20, 24⟩ [⟨0, 17, 24, 15⟩] (by rw [htab]; rfl) (fun _ h => absurd h List.not_mem_nil) (by decide +kernel) (by decide) (hts _ (LT_in (by decide +kernel) (by decide +kernel))) (yb_at (args := #[]) (by simp [YB]) (State.WarmedH.refl s) (hY.1 (Cond.castable IOB IOB) (by simp [YB]))) hce hcv hcl ?_
      refine lv_astore hx hb dL_close_20 hl (by decide) rfl (fun ls9 _ => ?_)
      refine lv_iconst (v := nI 1) hx hb dL_close_22 (by decide +kernel) ?_
      refine W.widen (k := 2) (n := 12) (by exact Nat.le_of_ble_eq_true rfl) (by exact Nat.le_of_ble_eq_true rfl) ?_
      exact vx_ret (W.iret (v := nI 1) hx hb hret (fun u hu hw => ⟨⟨rfl, ad, f, Ext.refl _ _ _, by rw [hu]; exact hW1, by rw [hu]; exact hat1, fun z => by omega⟩, hS1.F hu⟩) hS1.2.2 dL_close_23 hlocks)
    · cases hex
      refine vx_catch (name := ISE9) hown [⟨0, 17, 20, 24⟩] ⟨0, 17, 24, 15⟩ [] (by rw [htab]; rfl) (List.forall_mem_cons.mpr ⟨Or.inr ⟨by decide, IOB, hts _ (LT_in (by decide +kernel) (by decide +kernel)), hY.2.2.1⟩, fun _ h => absurd h List.not_mem_nil⟩) (by decide +kernel) (by decide) (hts _ (LT_in (by decide +kernel) (by decide +kernel))) (yb_at (args := #[]) (by simp [YB]) (State.WarmedH.refl s) (hY.1 (Cond.castable ISE9 ISE9) (by simp [YB]))) hce hcv hcl ?_
      refine lv_astore hx hb dL_close_24 hl (by decide) rfl (fun ls9 _ => ?_)
      refine lv_iconst (v := nI 2) hx hb dL_close_26 (by decide +kernel) ?_
      refine W.widen (k := 2) (n := 12) (by exact Nat.le_of_ble_eq_true rfl) (by exact Nat.le_of_ble_eq_true rfl) ?_
      exact vx_ret (W.iret (v := nI 2) hx hb hret (fun u hu hw => ⟨⟨rfl, ad, f, Ext.refl _ _ _, by rw [hu]; exact hW1, by rw [hu]; exact hat1, fun z => by omega⟩, hS1.F hu⟩) hS1.2.2 dL_close_27 hlocks)
    · cases hex
theorem dL_speed_0 : decode cL_speed 0 = .ok (.aload_n 2, 1) := by decide +kernel
theorem dL_speed_1 : decode cL_speed 1 = .ok (.iconst 0, 1) := by decide +kernel
theorem dL_speed_2 : decode cL_speed 2 = .ok (.aload_n 0, 1) := by decide +kernel
theorem dL_speed_3 : decode cL_speed 3 = .ok (.iload_n 1, 1) := by decide +kernel
theorem dL_speed_4 : decode cL_speed 4 = .ok (.invokevirtual 33, 3) := by decide +kernel
theorem dL_speed_7 : decode cL_speed 7 = .ok (.i2l, 1) := by decide +kernel
theorem dL_speed_8 : decode cL_speed 8 = .ok (.lastore, 1) := by decide +kernel
theorem dL_speed_9 : decode cL_speed 9 = .ok (.goto 6, 3) := by decide +kernel
theorem dL_speed_12 : decode cL_speed 12 = .ok (.astore_n 3, 1) := by decide +kernel
theorem dL_speed_13 : decode cL_speed 13 = .ok (.iconst 1, 1) := by decide +kernel
theorem dL_speed_14 : decode cL_speed 14 = .ok (.ireturn, 1) := by decide +kernel
theorem dL_speed_15 : decode cL_speed 15 = .ok (.iconst 0, 1) := by decide +kernel
theorem dL_speed_16 : decode cL_speed 16 = .ok (.ireturn, 1) := by decide +kernel
set_option maxHeartbeats 4000000 in
theorem w_speed {l : Launch} (D : va_G) (X : Nat → ClassId) (ad : Nat → Nat → Nat) {M M1 : Nat → Nat → Bool} {o code : Nat} {t s' : TT} {r : Int32} (a1 : Int32) (hcode : code ≤ 3) (hM1 : code ≠ 0 → M1 = M) (hM0 : M 0 0 = true) (hC : CE l yX4_speed (Cond.code yX4_speed cX4_speed 3 (some .int) :: LT) { frames := 7, cells := 1, slots := 6, locals := 112 } D X ad M [.inr (.inl (0, 0)), .inl a1] t 1 6 (fun v M' t1 => PO code r (over s') v t1 ∧ M' = M1) (PX [IAE9] code (over s'))) : CW l yL_speed (Cond.codeWith yL_speed cL_speed 4 (some .int) [(0, 9, 12, 13)] :: LT) { frames := 8, cells := 1, slots := 6, locals := 134 } D X ad M M1 [.inr (.inl (0, 0)), .inl a1] [.ref o] o t 1 6 code r s' true := by
  refine wrap_of (by decide +kernel) (by exact Nat.le_of_ble_eq_true rfl) ?_
  intro p e s m args below meth c A f ls hx hb hml hts hown hK htab hlocks hret hA hE hY hAo hne hW hat hl
  have hl : lv_has ls 4 [(0, .ref (ad 0 0)), (1, .int a1), (2, .ref o)] := hl
  have hAC : ¬ AC ad M s.heap.size o := by
    rintro (⟨kp, i, h1, h2⟩ | h1)
    · exact hne kp i h1 h2.symm
    · exact absurd hat.lt (Nat.not_lt.mpr h1)
  refine lv_aload_n hx hb dL_speed_0 rfl (lv_at hl 2 rfl) ?_
  refine lv_iconst (v := 0) hx hb dL_speed_1 (by decide +kernel) ?_
  refine lv_aload_n hx hb dL_speed_2 rfl (lv_at hl 0 rfl) ?_
  refine lv_iload_n hx hb dL_speed_3 rfl (lv_at hl 1 rfl) ?_
  refine W.eq (g2 := F0 m 4 ls ((([.inr (.inl (0, 0)), .inl a1] : List VV).map (toV ad)).reverse ++ [.int 0, .ref o])) rfl ?_
  refine run_own hA va_S.rf hW (lcall_E (Ts := LT) (n := 1) (rest := [.int 0, .ref o]) hx hb hml hts hown hK hA hE hC (fun w h => h) ⟨LT_in (by decide +kernel) (by decide +kernel), LT_in (by decide +kernel) (by decide +kernel), LT_in (by decide +kernel) (by decide +kernel), LT_in (by decide +kernel) (by decide +kernel), LT_in (by decide +kernel) (by decide +kernel)⟩ (by decide +kernel) ⟨(by exact Nat.le_of_ble_eq_true rfl), (by exact Nat.le_of_ble_eq_true rfl)⟩ rfl rfl rfl ⟨0, 0, rfl, hM0, by unfold isObj; omega, rfl⟩ hW va_S.rf hl.1 (by exact Nat.le_of_ble_eq_true rfl) (by exact Nat.le_of_ble_eq_true rfl) (by exact Nat.le_of_ble_eq_true rfl) dL_speed_4) (fun v t1 ad' M' H1 locs1 hp hext hW1 hS1 hz1 hk1 => ?_) (fun E ce q t1 H1 locs1 hp hW1 hS1 hz1 hk1 hce hcv hcl => ?_)
  · obtain ⟨hp, rfl⟩ := hp
    have hat1 : va_at D vwCl (oc30 X o f) H1 := hat.kept (hk1 o hat.lt hAC)
    cases v with
    | none => exact hp.elim
    | some v =>
    cases v with
    | inr _ => exact hp.elim
    | inl r2 =>
    obtain ⟨rfl, rfl, rfl⟩ := hp
    have hne1 : ∀ kp i, M' kp i = true → ad' kp i ≠ o := fun kp i h => ext_ne hext hne hat.lt h
    refine W.eq (g2 := F0 m 7 ls [.int r2, .int 0, .ref o]) rfl ?_
    refine lv_i2l hx hb dL_speed_7 rfl ?_
    refine sw_last hx hb hK hat1 hS1 hAo dL_speed_8 (fun H2 locs2 hat2 oq2 hS2 => ?_)
    have hW2 := hW1.kept (fun kp i hi => oq2 _ (hne1 kp i hi))
    refine lv_goto hx hb dL_speed_9 (tgt := 15) (by decide) ?_
    refine lv_iconst (v := 0) hx hb dL_speed_15 (by decide +kernel) ?_
    refine W.widen (k := 1) (n := 6) (by exact Nat.le_of_ble_eq_true rfl) (by exact Nat.le_of_ble_eq_true rfl) ?_
    exact vx_ret (W.iret (v := 0) hx hb hret (fun u hu hw => ⟨⟨rfl, ad', _, hext, by rw [hu]; exact hW2, by rw [hu]; exact hat2, fun _ _ => vp_updL_0⟩, hS2.F hu⟩) hS2.2.2 dL_speed_16 hlocks)
  · obtain ⟨hc0, hex, rfl⟩ := hp
    have hat1 : va_at D vwCl (oc30 X o f) H1 := hat.kept (hk1 o hat.lt hAC)
    have hMM := hM1 hc0
    subst hMM
    have hcc : code = 1 ∨ code = 2 ∨ code = 3 := by omega
    rcases hcc with rfl | rfl | rfl
    · cases hex
      refine vx_catch (name := IAE9) hown [] ⟨0, 9, 12, 13⟩ [] (by rw [htab]; rfl) (fun _ h => absurd h List.not_mem_nil) (by decide +kernel) (by decide) (hts _ (LT_in (by decide +kernel) (by decide +kernel))) (yb_at (args := #[]) (by simp [YB]) (State.WarmedH.refl s) (hY.1 (Cond.castable IAE9 IAE9) (by simp [YB]))) hce hcv hcl ?_
      refine lv_astore_n hx hb dL_speed_12 rfl hl (by decide) rfl (fun ls9 _ => ?_)
      refine lv_iconst (v := nI 1) hx hb dL_speed_13 (by decide +kernel) ?_
      refine W.widen (k := 1) (n := 6) (by exact Nat.le_of_ble_eq_true rfl) (by exact Nat.le_of_ble_eq_true rfl) ?_
      exact vx_ret (W.iret (v := nI 1) hx hb hret (fun u hu hw => ⟨⟨rfl, ad, f, Ext.refl _ _ _, by rw [hu]; exact hW1, by rw [hu]; exact hat1, fun z => by omega⟩, hS1.F hu⟩) hS1.2.2 dL_speed_14 hlocks)
    · cases hex
    · cases hex
theorem dL_train_0 : decode cL_train 0 = .ok (.aload_n 2, 1) := by decide +kernel
theorem dL_train_1 : decode cL_train 1 = .ok (.iconst 0, 1) := by decide +kernel
theorem dL_train_2 : decode cL_train 2 = .ok (.aload_n 0, 1) := by decide +kernel
theorem dL_train_3 : decode cL_train 3 = .ok (.iload_n 1, 1) := by decide +kernel
theorem dL_train_4 : decode cL_train 4 = .ok (.invokevirtual 36, 3) := by decide +kernel
theorem dL_train_7 : decode cL_train 7 = .ok (.i2l, 1) := by decide +kernel
theorem dL_train_8 : decode cL_train 8 = .ok (.lastore, 1) := by decide +kernel
theorem dL_train_9 : decode cL_train 9 = .ok (.goto 9, 3) := by decide +kernel
theorem dL_train_12 : decode cL_train 12 = .ok (.astore_n 3, 1) := by decide +kernel
theorem dL_train_13 : decode cL_train 13 = .ok (.iconst 1, 1) := by decide +kernel
theorem dL_train_14 : decode cL_train 14 = .ok (.ireturn, 1) := by decide +kernel
theorem dL_train_15 : decode cL_train 15 = .ok (.astore_n 3, 1) := by decide +kernel
theorem dL_train_16 : decode cL_train 16 = .ok (.iconst 2, 1) := by decide +kernel
theorem dL_train_17 : decode cL_train 17 = .ok (.ireturn, 1) := by decide +kernel
theorem dL_train_18 : decode cL_train 18 = .ok (.iconst 0, 1) := by decide +kernel
theorem dL_train_19 : decode cL_train 19 = .ok (.ireturn, 1) := by decide +kernel
set_option maxHeartbeats 4000000 in
theorem w_train {l : Launch} (D : va_G) (X : Nat → ClassId) (ad : Nat → Nat → Nat) {M M1 : Nat → Nat → Bool} {o code : Nat} {t s' : TT} {r : Int32} (a1 : Int32) (hcode : code ≤ 3) (hM1 : code ≠ 0 → M1 = M) (hM0 : M 0 0 = true) (hC : CE l yX4_train (Cond.code yX4_train cX4_train 2 (some .int) :: LT) { frames := 8, cells := 5, slots := 2030, locals := 150 } D X ad M [.inr (.inl (0, 0)), .inl a1] t 5 2030 (fun v M' t1 => PO code r (over s') v t1 ∧ M' = M1) (PX [IAE9, ISE9] code (over s'))) : CW l yL_train (Cond.codeWith yL_train cL_train 4 (some .int) [(0, 9, 12, 13), (0, 9, 15, 15)] :: LT) { frames := 9, cells := 5, slots := 2030, locals := 171 } D X ad M M1 [.inr (.inl (0, 0)), .inl a1] [.ref o] o t 5 2030 code r s' true := by
  refine wrap_of (by decide +kernel) (by exact Nat.le_of_ble_eq_true rfl) ?_
  intro p e s m args below meth c A f ls hx hb hml hts hown hK htab hlocks hret hA hE hY hAo hne hW hat hl
  have hl : lv_has ls 4 [(0, .ref (ad 0 0)), (1, .int a1), (2, .ref o)] := hl
  have hAC : ¬ AC ad M s.heap.size o := by
    rintro (⟨kp, i, h1, h2⟩ | h1)
    · exact hne kp i h1 h2.symm
    · exact absurd hat.lt (Nat.not_lt.mpr h1)
  refine lv_aload_n hx hb dL_train_0 rfl (lv_at hl 2 rfl) ?_
  refine lv_iconst (v := 0) hx hb dL_train_1 (by decide +kernel) ?_
  refine lv_aload_n hx hb dL_train_2 rfl (lv_at hl 0 rfl) ?_
  refine lv_iload_n hx hb dL_train_3 rfl (lv_at hl 1 rfl) ?_
  refine W.eq (g2 := F0 m 4 ls ((([.inr (.inl (0, 0)), .inl a1] : List VV).map (toV ad)).reverse ++ [.int 0, .ref o])) rfl ?_
  refine run_own hA va_S.rf hW (lcall_E (Ts := LT) (n := 1) (rest := [.int 0, .ref o]) hx hb hml hts hown hK hA hE hC (fun w h => h) ⟨LT_in (by decide +kernel) (by decide +kernel), LT_in (by decide +kernel) (by decide +kernel), LT_in (by decide +kernel) (by decide +kernel), LT_in (by decide +kernel) (by decide +kernel), LT_in (by decide +kernel) (by decide +kernel)⟩ (by decide +kernel) ⟨(by exact Nat.le_of_ble_eq_true rfl), (by exact Nat.le_of_ble_eq_true rfl)⟩ rfl rfl rfl ⟨0, 0, rfl, hM0, by unfold isObj; omega, rfl⟩ hW va_S.rf hl.1 (by exact Nat.le_of_ble_eq_true rfl) (by exact Nat.le_of_ble_eq_true rfl) (by exact Nat.le_of_ble_eq_true rfl) dL_train_4) (fun v t1 ad' M' H1 locs1 hp hext hW1 hS1 hz1 hk1 => ?_) (fun E ce q t1 H1 locs1 hp hW1 hS1 hz1 hk1 hce hcv hcl => ?_)
  · obtain ⟨hp, rfl⟩ := hp
    have hat1 : va_at D vwCl (oc30 X o f) H1 := hat.kept (hk1 o hat.lt hAC)
    cases v with
    | none => exact hp.elim
    | some v =>
    cases v with
    | inr _ => exact hp.elim
    | inl r2 =>
    obtain ⟨rfl, rfl, rfl⟩ := hp
    have hne1 : ∀ kp i, M' kp i = true → ad' kp i ≠ o := fun kp i h => ext_ne hext hne hat.lt h
    refine W.eq (g2 := F0 m 7 ls [.int r2, .int 0, .ref o]) rfl ?_
    refine lv_i2l hx hb dL_train_7 rfl ?_
    refine sw_last hx hb hK hat1 hS1 hAo dL_train_8 (fun H2 locs2 hat2 oq2 hS2 => ?_)
    have hW2 := hW1.kept (fun kp i hi => oq2 _ (hne1 kp i hi))
    refine lv_goto hx hb dL_train_9 (tgt := 18) (by decide) ?_
    refine lv_iconst (v := 0) hx hb dL_train_18 (by decide +kernel) ?_
    refine W.widen (k := 5) (n := 2030) (by exact Nat.le_of_ble_eq_true rfl) (by exact Nat.le_of_ble_eq_true rfl) ?_
    exact vx_ret (W.iret (v := 0) hx hb hret (fun u hu hw => ⟨⟨rfl, ad', _, hext, by rw [hu]; exact hW2, by rw [hu]; exact hat2, fun _ _ => vp_updL_0⟩, hS2.F hu⟩) hS2.2.2 dL_train_19 hlocks)
  · obtain ⟨hc0, hex, rfl⟩ := hp
    have hat1 : va_at D vwCl (oc30 X o f) H1 := hat.kept (hk1 o hat.lt hAC)
    have hMM := hM1 hc0
    subst hMM
    have hcc : code = 1 ∨ code = 2 ∨ code = 3 := by omega
    rcases hcc with rfl | rfl | rfl
    · cases hex
      refine vx_catch (name := IAE9) hown [] ⟨0, 9, 12, 13⟩ [⟨0, 9, 15, 15⟩] (by rw [htab]; rfl) (fun _ h => absurd h List.not_mem_nil) (by decide +kernel) (by decide) (hts _ (LT_in (by decide +kernel) (by decide +kernel))) (yb_at (args := #[]) (by simp [YB]) (State.WarmedH.refl s) (hY.1 (Cond.castable IAE9 IAE9) (by simp [YB]))) hce hcv hcl ?_
      refine lv_astore_n hx hb dL_train_12 rfl hl (by decide) rfl (fun ls9 _ => ?_)
      refine lv_iconst (v := nI 1) hx hb dL_train_13 (by decide +kernel) ?_
      refine W.widen (k := 5) (n := 2030) (by exact Nat.le_of_ble_eq_true rfl) (by exact Nat.le_of_ble_eq_true rfl) ?_
      exact vx_ret (W.iret (v := nI 1) hx hb hret (fun u hu hw => ⟨⟨rfl, ad, f, Ext.refl _ _ _, by rw [hu]; exact hW1, by rw [hu]; exact hat1, fun z => by omega⟩, hS1.F hu⟩) hS1.2.2 dL_train_14 hlocks)
    · cases hex
      refine vx_catch (name := ISE9) hown [⟨0, 9, 12, 13⟩] ⟨0, 9, 15, 15⟩ [] (by rw [htab]; rfl) (List.forall_mem_cons.mpr ⟨Or.inr ⟨by decide, IAE9, hts _ (LT_in (by decide +kernel) (by decide +kernel)), hY.2.2.2⟩, fun _ h => absurd h List.not_mem_nil⟩) (by decide +kernel) (by decide) (hts _ (LT_in (by decide +kernel) (by decide +kernel))) (yb_at (args := #[]) (by simp [YB]) (State.WarmedH.refl s) (hY.1 (Cond.castable ISE9 ISE9) (by simp [YB]))) hce hcv hcl ?_
      refine lv_astore_n hx hb dL_train_15 rfl hl (by decide) rfl (fun ls9 _ => ?_)
      refine lv_iconst (v := nI 2) hx hb dL_train_16 (by decide +kernel) ?_
      refine W.widen (k := 5) (n := 2030) (by exact Nat.le_of_ble_eq_true rfl) (by exact Nat.le_of_ble_eq_true rfl) ?_
      exact vx_ret (W.iret (v := nI 2) hx hb hret (fun u hu hw => ⟨⟨rfl, ad, f, Ext.refl _ _ _, by rw [hu]; exact hW1, by rw [hu]; exact hat1, fun z => by omega⟩, hS1.F hu⟩) hS1.2.2 dL_train_17 hlocks)
    · cases hex
theorem dL_trainIs_0 : decode cL_trainIs 0 = .ok (.aload_n 3, 1) := by decide +kernel
theorem dL_trainIs_1 : decode cL_trainIs 1 = .ok (.iconst 0, 1) := by decide +kernel
theorem dL_trainIs_2 : decode cL_trainIs 2 = .ok (.aload_n 0, 1) := by decide +kernel
theorem dL_trainIs_3 : decode cL_trainIs 3 = .ok (.iload_n 1, 1) := by decide +kernel
theorem dL_trainIs_4 : decode cL_trainIs 4 = .ok (.iload_n 2, 1) := by decide +kernel
theorem dL_trainIs_5 : decode cL_trainIs 5 = .ok (.invokevirtual 39, 3) := by decide +kernel
theorem dL_trainIs_8 : decode cL_trainIs 8 = .ok (.i2l, 1) := by decide +kernel
theorem dL_trainIs_9 : decode cL_trainIs 9 = .ok (.lastore, 1) := by decide +kernel
theorem dL_trainIs_10 : decode cL_trainIs 10 = .ok (.goto 11, 3) := by decide +kernel
theorem dL_trainIs_13 : decode cL_trainIs 13 = .ok (.astore 4, 2) := by decide +kernel
theorem dL_trainIs_15 : decode cL_trainIs 15 = .ok (.iconst 1, 1) := by decide +kernel
theorem dL_trainIs_16 : decode cL_trainIs 16 = .ok (.ireturn, 1) := by decide +kernel
theorem dL_trainIs_17 : decode cL_trainIs 17 = .ok (.astore 4, 2) := by decide +kernel
theorem dL_trainIs_19 : decode cL_trainIs 19 = .ok (.iconst 2, 1) := by decide +kernel
theorem dL_trainIs_20 : decode cL_trainIs 20 = .ok (.ireturn, 1) := by decide +kernel
theorem dL_trainIs_21 : decode cL_trainIs 21 = .ok (.iconst 0, 1) := by decide +kernel
theorem dL_trainIs_22 : decode cL_trainIs 22 = .ok (.ireturn, 1) := by decide +kernel
set_option maxHeartbeats 4000000 in
theorem w_trainIs {l : Launch} (D : va_G) (X : Nat → ClassId) (ad : Nat → Nat → Nat) {M M1 : Nat → Nat → Bool} {o code : Nat} {t s' : TT} {r : Int32} (a1 a2 : Int32) (hcode : code ≤ 3) (hM1 : code ≠ 0 → M1 = M) (hM0 : M 0 0 = true) (hC : CE l yX4_trainIs (Cond.code yX4_trainIs cX4_trainIs 3 (some .int) :: LT) { frames := 7, cells := 2, slots := 12, locals := 112 } D X ad M [.inr (.inl (0, 0)), .inl a1, .inl a2] t 2 12 (fun v M' t1 => PO code r (over s') v t1 ∧ M' = M1) (PX [IOB, IAE9] code (over s'))) : CW l yL_trainIs (Cond.codeWith yL_trainIs cL_trainIs 5 (some .int) [(0, 10, 13, 24), (0, 10, 17, 13)] :: LT) { frames := 8, cells := 2, slots := 12, locals := 134 } D X ad M M1 [.inr (.inl (0, 0)), .inl a1, .inl a2] [.ref o] o t 2 12 code r s' true := by
  refine wrap_of (by decide +kernel) (by exact Nat.le_of_ble_eq_true rfl) ?_
  intro p e s m args below meth c A f ls hx hb hml hts hown hK htab hlocks hret hA hE hY hAo hne hW hat hl
  have hl : lv_has ls 5 [(0, .ref (ad 0 0)), (1, .int a1), (2, .int a2), (3, .ref o)] := hl
  have hAC : ¬ AC ad M s.heap.size o := by
    rintro (⟨kp, i, h1, h2⟩ | h1)
    · exact hne kp i h1 h2.symm
    · exact absurd hat.lt (Nat.not_lt.mpr h1)
  refine lv_aload_n hx hb dL_trainIs_0 rfl (lv_at hl 3 rfl) ?_
  refine lv_iconst (v := 0) hx hb dL_trainIs_1 (by decide +kernel) ?_
  refine lv_aload_n hx hb dL_trainIs_2 rfl (lv_at hl 0 rfl) ?_
  refine lv_iload_n hx hb dL_trainIs_3 rfl (lv_at hl 1 rfl) ?_
  refine lv_iload_n hx hb dL_trainIs_4 rfl (lv_at hl 2 rfl) ?_
  refine W.eq (g2 := F0 m 5 ls ((([.inr (.inl (0, 0)), .inl a1, .inl a2] : List VV).map (toV ad)).reverse ++ [.int 0, .ref o])) rfl ?_
  refine run_own hA va_S.rf hW (lcall_E (Ts := LT) (n := 2) (rest := [.int 0, .ref o]) hx hb hml hts hown hK hA hE hC (fun w h => h) ⟨LT_in (by decide +kernel) (by decide +kernel), LT_in (by decide +kernel) (by decide +kernel), LT_in (by decide +kernel) (by decide +kernel), LT_in (by decide +kernel) (by decide +kernel), LT_in (by decide +kernel) (by decide +kernel)⟩ (by decide +kernel) ⟨(by exact Nat.le_of_ble_eq_true rfl), (by exact Nat.le_of_ble_eq_true rfl)⟩ rfl rfl rfl ⟨0, 0, rfl, hM0, by unfold isObj; omega, rfl⟩ hW va_S.rf hl.1 (by exact Nat.le_of_ble_eq_true rfl) (by exact Nat.le_of_ble_eq_true rfl) (by exact Nat.le_of_ble_eq_true rfl) dL_trainIs_5) (fun v t1 ad' M' H1 locs1 hp hext hW1 hS1 hz1 hk1 => ?_) (fun E ce q t1 H1 locs1 hp hW1 hS1 hz1 hk1 hce hcv hcl => ?_)
  · obtain ⟨hp, rfl⟩ := hp
    have hat1 : va_at D vwCl (oc30 X o f) H1 := hat.kept (hk1 o hat.lt hAC)
    cases v with
    | none => exact hp.elim
    | some v =>
    cases v with
    | inr _ => exact hp.elim
    | inl r2 =>
    obtain ⟨rfl, rfl, rfl⟩ := hp
    have hne1 : ∀ kp i, M' kp i = true → ad' kp i ≠ o := fun kp i h => ext_ne hext hne hat.lt h
    refine W.eq (g2 := F0 m 8 ls [.int r2, .int 0, .ref o]) rfl ?_
    refine lv_i2l hx hb dL_trainIs_8 rfl ?_
    refine sw_last hx hb hK hat1 hS1 hAo dL_trainIs_9 (fun H2 locs2 hat2 oq2 hS2 => ?_)
    have hW2 := hW1.kept (fun kp i hi => oq2 _ (hne1 kp i hi))
    refine lv_goto hx hb dL_trainIs_10 (tgt := 21) (by decide) ?_
    refine lv_iconst (v := 0) hx hb dL_trainIs_21 (by decide +kernel) ?_
    refine W.widen (k := 2) (n := 12) (by exact Nat.le_of_ble_eq_true rfl) (by exact Nat.le_of_ble_eq_true rfl) ?_
    exact vx_ret (W.iret (v := 0) hx hb hret (fun u hu hw => ⟨⟨rfl, ad', _, hext, by rw [hu]; exact hW2, by rw [hu]; exact hat2, fun _ _ => vp_updL_0⟩, hS2.F hu⟩) hS2.2.2 dL_trainIs_22 hlocks)
  · obtain ⟨hc0, hex, rfl⟩ := hp
    have hat1 : va_at D vwCl (oc30 X o f) H1 := hat.kept (hk1 o hat.lt hAC)
    have hMM := hM1 hc0
    subst hMM
    have hcc : code = 1 ∨ code = 2 ∨ code = 3 := by omega
    rcases hcc with rfl | rfl | rfl
    · cases hex
      refine vx_catch (name := IOB) hown [] ⟨0, 10, 13, 24⟩ [⟨0, 10, 17, 13⟩] (by rw [htab]; rfl) (fun _ h => absurd h List.not_mem_nil) (by decide +kernel) (by decide) (hts _ (LT_in (by decide +kernel) (by decide +kernel))) (yb_at (args := #[]) (by simp [YB]) (State.WarmedH.refl s) (hY.1 (Cond.castable IOB IOB) (by simp [YB]))) hce hcv hcl ?_
      refine lv_astore hx hb dL_trainIs_13 hl (by decide) rfl (fun ls9 _ => ?_)
      refine lv_iconst (v := nI 1) hx hb dL_trainIs_15 (by decide +kernel) ?_
      refine W.widen (k := 2) (n := 12) (by exact Nat.le_of_ble_eq_true rfl) (by exact Nat.le_of_ble_eq_true rfl) ?_
      exact vx_ret (W.iret (v := nI 1) hx hb hret (fun u hu hw => ⟨⟨rfl, ad, f, Ext.refl _ _ _, by rw [hu]; exact hW1, by rw [hu]; exact hat1, fun z => by omega⟩, hS1.F hu⟩) hS1.2.2 dL_trainIs_16 hlocks)
    · cases hex
      refine vx_catch (name := IAE9) hown [⟨0, 10, 13, 24⟩] ⟨0, 10, 17, 13⟩ [] (by rw [htab]; rfl) (List.forall_mem_cons.mpr ⟨Or.inr ⟨by decide, IOB, hts _ (LT_in (by decide +kernel) (by decide +kernel)), hY.2.1⟩, fun _ h => absurd h List.not_mem_nil⟩) (by decide +kernel) (by decide) (hts _ (LT_in (by decide +kernel) (by decide +kernel))) (yb_at (args := #[]) (by simp [YB]) (State.WarmedH.refl s) (hY.1 (Cond.castable IAE9 IAE9) (by simp [YB]))) hce hcv hcl ?_
      refine lv_astore hx hb dL_trainIs_17 hl (by decide) rfl (fun ls9 _ => ?_)
      refine lv_iconst (v := nI 2) hx hb dL_trainIs_19 (by decide +kernel) ?_
      refine W.widen (k := 2) (n := 12) (by exact Nat.le_of_ble_eq_true rfl) (by exact Nat.le_of_ble_eq_true rfl) ?_
      exact vx_ret (W.iret (v := nI 2) hx hb hret (fun u hu hw => ⟨⟨rfl, ad, f, Ext.refl _ _ _, by rw [hu]; exact hW1, by rw [hu]; exact hat1, fun z => by omega⟩, hS1.F hu⟩) hS1.2.2 dL_trainIs_20 hlocks)
    · cases hex
theorem dL_slip_0 : decode cL_slip 0 = .ok (.aload_n 3, 1) := by decide +kernel
theorem dL_slip_1 : decode cL_slip 1 = .ok (.iconst 0, 1) := by decide +kernel
theorem dL_slip_2 : decode cL_slip 2 = .ok (.aload_n 0, 1) := by decide +kernel
theorem dL_slip_3 : decode cL_slip 3 = .ok (.iload_n 1, 1) := by decide +kernel
theorem dL_slip_4 : decode cL_slip 4 = .ok (.iload_n 2, 1) := by decide +kernel
theorem dL_slip_5 : decode cL_slip 5 = .ok (.invokevirtual 42, 3) := by decide +kernel
theorem dL_slip_8 : decode cL_slip 8 = .ok (.i2l, 1) := by decide +kernel
theorem dL_slip_9 : decode cL_slip 9 = .ok (.lastore, 1) := by decide +kernel
theorem dL_slip_10 : decode cL_slip 10 = .ok (.goto 11, 3) := by decide +kernel
theorem dL_slip_13 : decode cL_slip 13 = .ok (.astore 4, 2) := by decide +kernel
theorem dL_slip_15 : decode cL_slip 15 = .ok (.iconst 1, 1) := by decide +kernel
theorem dL_slip_16 : decode cL_slip 16 = .ok (.ireturn, 1) := by decide +kernel
theorem dL_slip_17 : decode cL_slip 17 = .ok (.astore 4, 2) := by decide +kernel
theorem dL_slip_19 : decode cL_slip 19 = .ok (.iconst 2, 1) := by decide +kernel
theorem dL_slip_20 : decode cL_slip 20 = .ok (.ireturn, 1) := by decide +kernel
theorem dL_slip_21 : decode cL_slip 21 = .ok (.iconst 0, 1) := by decide +kernel
theorem dL_slip_22 : decode cL_slip 22 = .ok (.ireturn, 1) := by decide +kernel
set_option maxHeartbeats 4000000 in
theorem w_slip {l : Launch} (D : va_G) (X : Nat → ClassId) (ad : Nat → Nat → Nat) {M M1 : Nat → Nat → Bool} {o code : Nat} {t s' : TT} {r : Int32} (a1 a2 : Int32) (hcode : code ≤ 3) (hM1 : code ≠ 0 → M1 = M) (hM0 : M 0 0 = true) (hC : CE l yX4_slip (Cond.code yX4_slip cX4_slip 5 (some .int) :: LT) { frames := 7, cells := 2, slots := 12, locals := 112 } D X ad M [.inr (.inl (0, 0)), .inl a1, .inl a2] t 2 12 (fun v M' t1 => PO code r (over s') v t1 ∧ M' = M1) (PX [IOB, IAE9] code (over s'))) : CW l yL_slip (Cond.codeWith yL_slip cL_slip 5 (some .int) [(0, 10, 13, 24), (0, 10, 17, 13)] :: LT) { frames := 8, cells := 2, slots := 12, locals := 136 } D X ad M M1 [.inr (.inl (0, 0)), .inl a1, .inl a2] [.ref o] o t 2 12 code r s' true := by
  refine wrap_of (by decide +kernel) (by exact Nat.le_of_ble_eq_true rfl) ?_
  intro p e s m args below meth c A f ls hx hb hml hts hown hK htab hlocks hret hA hE hY hAo hne hW hat hl
  have hl : lv_has ls 5 [(0, .ref (ad 0 0)), (1, .int a1), (2, .int a2), (3, .ref o)] := hl
  have hAC : ¬ AC ad M s.heap.size o := by
    rintro (⟨kp, i, h1, h2⟩ | h1)
    · exact hne kp i h1 h2.symm
    · exact absurd hat.lt (Nat.not_lt.mpr h1)
  refine lv_aload_n hx hb dL_slip_0 rfl (lv_at hl 3 rfl) ?_
  refine lv_iconst (v := 0) hx hb dL_slip_1 (by decide +kernel) ?_
  refine lv_aload_n hx hb dL_slip_2 rfl (lv_at hl 0 rfl) ?_
  refine lv_iload_n hx hb dL_slip_3 rfl (lv_at hl 1 rfl) ?_
  refine lv_iload_n hx hb dL_slip_4 rfl (lv_at hl 2 rfl) ?_
  refine W.eq (g2 := F0 m 5 ls ((([.inr (.inl (0, 0)), .inl a1, .inl a2] : List VV).map (toV ad)).reverse ++ [.int 0, .ref o])) rfl ?_
  refine run_own hA va_S.rf hW (lcall_E (Ts := LT) (n := 2) (rest := [.int 0, .ref o]) hx hb hml hts hown hK hA hE hC (fun w h => h) ⟨LT_in (by decide +kernel) (by decide +kernel), LT_in (by decide +kernel) (by decide +kernel), LT_in (by decide +kernel) (by decide +kernel), LT_in (by decide +kernel) (by decide +kernel), LT_in (by decide +kernel) (by decide +kernel)⟩ (by decide +kernel) ⟨(by exact Nat.le_of_ble_eq_true rfl), (by exact Nat.le_of_ble_eq_true rfl)⟩ rfl rfl rfl ⟨0, 0, rfl, hM0, by unfold isObj; omega, rfl⟩ hW va_S.rf hl.1 (by exact Nat.le_of_ble_eq_true rfl) (by exact Nat.le_of_ble_eq_true rfl) (by exact Nat.le_of_ble_eq_true rfl) dL_slip_5) (fun v t1 ad' M' H1 locs1 hp hext hW1 hS1 hz1 hk1 => ?_) (fun E ce q t1 H1 locs1 hp hW1 hS1 hz1 hk1 hce hcv hcl => ?_)
  · obtain ⟨hp, rfl⟩ := hp
    have hat1 : va_at D vwCl (oc30 X o f) H1 := hat.kept (hk1 o hat.lt hAC)
    cases v with
    | none => exact hp.elim
    | some v =>
    cases v with
    | inr _ => exact hp.elim
    | inl r2 =>
    obtain ⟨rfl, rfl, rfl⟩ := hp
    have hne1 : ∀ kp i, M' kp i = true → ad' kp i ≠ o := fun kp i h => ext_ne hext hne hat.lt h
    refine W.eq (g2 := F0 m 8 ls [.int r2, .int 0, .ref o]) rfl ?_
    refine lv_i2l hx hb dL_slip_8 rfl ?_
    refine sw_last hx hb hK hat1 hS1 hAo dL_slip_9 (fun H2 locs2 hat2 oq2 hS2 => ?_)
    have hW2 := hW1.kept (fun kp i hi => oq2 _ (hne1 kp i hi))
    refine lv_goto hx hb dL_slip_10 (tgt := 21) (by decide) ?_
    refine lv_iconst (v := 0) hx hb dL_slip_21 (by decide +kernel) ?_
    refine W.widen (k := 2) (n := 12) (by exact Nat.le_of_ble_eq_true rfl) (by exact Nat.le_of_ble_eq_true rfl) ?_
    exact vx_ret (W.iret (v := 0) hx hb hret (fun u hu hw => ⟨⟨rfl, ad', _, hext, by rw [hu]; exact hW2, by rw [hu]; exact hat2, fun _ _ => vp_updL_0⟩, hS2.F hu⟩) hS2.2.2 dL_slip_22 hlocks)
  · obtain ⟨hc0, hex, rfl⟩ := hp
    have hat1 : va_at D vwCl (oc30 X o f) H1 := hat.kept (hk1 o hat.lt hAC)
    have hMM := hM1 hc0
    subst hMM
    have hcc : code = 1 ∨ code = 2 ∨ code = 3 := by omega
    rcases hcc with rfl | rfl | rfl
    · cases hex
      refine vx_catch (name := IOB) hown [] ⟨0, 10, 13, 24⟩ [⟨0, 10, 17, 13⟩] (by rw [htab]; rfl) (fun _ h => absurd h List.not_mem_nil) (by decide +kernel) (by decide) (hts _ (LT_in (by decide +kernel) (by decide +kernel))) (yb_at (args := #[]) (by simp [YB]) (State.WarmedH.refl s) (hY.1 (Cond.castable IOB IOB) (by simp [YB]))) hce hcv hcl ?_
      refine lv_astore hx hb dL_slip_13 hl (by decide) rfl (fun ls9 _ => ?_)
      refine lv_iconst (v := nI 1) hx hb dL_slip_15 (by decide +kernel) ?_
      refine W.widen (k := 2) (n := 12) (by exact Nat.le_of_ble_eq_true rfl) (by exact Nat.le_of_ble_eq_true rfl) ?_
      exact vx_ret (W.iret (v := nI 1) hx hb hret (fun u hu hw => ⟨⟨rfl, ad, f, Ext.refl _ _ _, by rw [hu]; exact hW1, by rw [hu]; exact hat1, fun z => by omega⟩, hS1.F hu⟩) hS1.2.2 dL_slip_16 hlocks)
    · cases hex
      refine vx_catch (name := IAE9) hown [⟨0, 10, 13, 24⟩] ⟨0, 10, 17, 13⟩ [] (by rw [htab]; rfl) (List.forall_mem_cons.mpr ⟨Or.inr ⟨by decide, IOB, hts _ (LT_in (by decide +kernel) (by decide +kernel)), hY.2.1⟩, fun _ h => absurd h List.not_mem_nil⟩) (by decide +kernel) (by decide) (hts _ (LT_in (by decide +kernel) (by decide +kernel))) (yb_at (args := #[]) (by simp [YB]) (State.WarmedH.refl s) (hY.1 (Cond.castable IAE9 IAE9) (by simp [YB]))) hce hcv hcl ?_
      refine lv_astore hx hb dL_slip_17 hl (by decide) rfl (fun ls9 _ => ?_)
      refine lv_iconst (v := nI 2) hx hb dL_slip_19 (by decide +kernel) ?_
      refine W.widen (k := 2) (n := 12) (by exact Nat.le_of_ble_eq_true rfl) (by exact Nat.le_of_ble_eq_true rfl) ?_
      exact vx_ret (W.iret (v := nI 2) hx hb hret (fun u hu hw => ⟨⟨rfl, ad, f, Ext.refl _ _ _, by rw [hu]; exact hW1, by rw [hu]; exact hat1, fun z => by omega⟩, hS1.F hu⟩) hS1.2.2 dL_slip_20 hlocks)
    · cases hex
theorem dL_silent_0 : decode cL_silent 0 = .ok (.aload_n 3, 1) := by decide +kernel
theorem dL_silent_1 : decode cL_silent 1 = .ok (.iconst 0, 1) := by decide +kernel
theorem dL_silent_2 : decode cL_silent 2 = .ok (.aload_n 0, 1) := by decide +kernel
theorem dL_silent_3 : decode cL_silent 3 = .ok (.iload_n 1, 1) := by decide +kernel
theorem dL_silent_4 : decode cL_silent 4 = .ok (.iload_n 2, 1) := by decide +kernel
theorem dL_silent_5 : decode cL_silent 5 = .ok (.invokevirtual 45, 3) := by decide +kernel
theorem dL_silent_8 : decode cL_silent 8 = .ok (.ifCond .eq 7, 3) := by decide +kernel
theorem dL_silent_11 : decode cL_silent 11 = .ok (.lconst 1, 1) := by decide +kernel
theorem dL_silent_12 : decode cL_silent 12 = .ok (.goto 4, 3) := by decide +kernel
theorem dL_silent_15 : decode cL_silent 15 = .ok (.lconst 0, 1) := by decide +kernel
theorem dL_silent_16 : decode cL_silent 16 = .ok (.lastore, 1) := by decide +kernel
theorem dL_silent_17 : decode cL_silent 17 = .ok (.goto 7, 3) := by decide +kernel
theorem dL_silent_20 : decode cL_silent 20 = .ok (.astore 4, 2) := by decide +kernel
theorem dL_silent_22 : decode cL_silent 22 = .ok (.iconst 1, 1) := by decide +kernel
theorem dL_silent_23 : decode cL_silent 23 = .ok (.ireturn, 1) := by decide +kernel
theorem dL_silent_24 : decode cL_silent 24 = .ok (.iconst 0, 1) := by decide +kernel
theorem dL_silent_25 : decode cL_silent 25 = .ok (.ireturn, 1) := by decide +kernel
set_option maxHeartbeats 4000000 in
theorem w_silent {l : Launch} (D : va_G) (X : Nat → ClassId) (ad : Nat → Nat → Nat) {M M1 : Nat → Nat → Bool} {o code : Nat} {t s' : TT} {r : Int32} (a1 a2 : Int32) (hcode : code ≤ 3) (hM1 : code ≠ 0 → M1 = M) (hM0 : M 0 0 = true) (hr : isB r) (hC : CE l yX4_silent (Cond.code yX4_silent cX4_silent 5 (some .boolean) :: LT) { frames := 7, cells := 1, slots := 6, locals := 111 } D X ad M [.inr (.inl (0, 0)), .inl a1, .inl a2] t 1 6 (fun v M' t1 => PO code r (over s') v t1 ∧ M' = M1) (PX [IOB] code (over s'))) : CW l yL_silent (Cond.codeWith yL_silent cL_silent 5 (some .int) [(0, 17, 20, 24)] :: LT) { frames := 8, cells := 1, slots := 6, locals := 135 } D X ad M M1 [.inr (.inl (0, 0)), .inl a1, .inl a2] [.ref o] o t 1 6 code r s' true := by
  refine wrap_of (by decide +kernel) (by exact Nat.le_of_ble_eq_true rfl) ?_
  intro p e s m args below meth c A f ls hx hb hml hts hown hK htab hlocks hret hA hE hY hAo hne hW hat hl
  have hl : lv_has ls 5 [(0, .ref (ad 0 0)), (1, .int a1), (2, .int a2), (3, .ref o)] := hl
  have hAC : ¬ AC ad M s.heap.size o := by
    rintro (⟨kp, i, h1, h2⟩ | h1)
    · exact hne kp i h1 h2.symm
    · exact absurd hat.lt (Nat.not_lt.mpr h1)
  refine lv_aload_n hx hb dL_silent_0 rfl (lv_at hl 3 rfl) ?_
  refine lv_iconst (v := 0) hx hb dL_silent_1 (by decide +kernel) ?_
  refine lv_aload_n hx hb dL_silent_2 rfl (lv_at hl 0 rfl) ?_
  refine lv_iload_n hx hb dL_silent_3 rfl (lv_at hl 1 rfl) ?_
  refine lv_iload_n hx hb dL_silent_4 rfl (lv_at hl 2 rfl) ?_
  refine W.eq (g2 := F0 m 5 ls ((([.inr (.inl (0, 0)), .inl a1, .inl a2] : List VV).map (toV ad)).reverse ++ [.int 0, .ref o])) rfl ?_
  refine run_own hA va_S.rf hW (lcall_E (Ts := LT) (n := 2) (rest := [.int 0, .ref o]) hx hb hml hts hown hK hA hE hC (fun w h => h) ⟨LT_in (by decide +kernel) (by decide +kernel), LT_in (by decide +kernel) (by decide +kernel), LT_in (by decide +kernel) (by decide +kernel), LT_in (by decide +kernel) (by decide +kernel), LT_in (by decide +kernel) (by decide +kernel)⟩ (by decide +kernel) ⟨(by exact Nat.le_of_ble_eq_true rfl), (by exact Nat.le_of_ble_eq_true rfl)⟩ rfl rfl rfl ⟨0, 0, rfl, hM0, by unfold isObj; omega, rfl⟩ hW va_S.rf hl.1 (by exact Nat.le_of_ble_eq_true rfl) (by exact Nat.le_of_ble_eq_true rfl) (by exact Nat.le_of_ble_eq_true rfl) dL_silent_5) (fun v t1 ad' M' H1 locs1 hp hext hW1 hS1 hz1 hk1 => ?_) (fun E ce q t1 H1 locs1 hp hW1 hS1 hz1 hk1 hce hcv hcl => ?_)
  · obtain ⟨hp, rfl⟩ := hp
    have hat1 : va_at D vwCl (oc30 X o f) H1 := hat.kept (hk1 o hat.lt hAC)
    cases v with
    | none => exact hp.elim
    | some v =>
    cases v with
    | inr _ => exact hp.elim
    | inl r2 =>
    obtain ⟨rfl, rfl, rfl⟩ := hp
    have hne1 : ∀ kp i, M' kp i = true → ad' kp i ≠ o := fun kp i h => ext_ne hext hne hat.lt h
    refine W.eq (g2 := F0 m 8 ls [.int r2, .int 0, .ref o]) rfl ?_
    refine lv_if_eq hx hb dL_silent_8 (tgt := 15) (by decide) (fun z => ?_) (fun z => ?_)
    · refine lv_lconst (v := 0) hx hb dL_silent_15 (by decide +kernel) ?_
      refine sw_last hx hb hK hat1 hS1 hAo dL_silent_16 (fun H2 locs2 hat2 oq2 hS2 => ?_)
      have hW2 := hW1.kept (fun kp i hi => oq2 _ (hne1 kp i hi))
      refine lv_goto hx hb dL_silent_17 (tgt := 24) (by decide) ?_
      refine lv_iconst (v := 0) hx hb dL_silent_24 (by decide +kernel) ?_
      refine W.widen (k := 1) (n := 6) (by exact Nat.le_of_ble_eq_true rfl) (by exact Nat.le_of_ble_eq_true rfl) ?_
      exact vx_ret (W.iret (v := 0) hx hb hret (fun u hu hw => ⟨⟨rfl, ad', _, hext, by rw [hu]; exact hW2, by rw [hu]; exact hat2, fun _ _ => by rw [vp_updL_0, z]; rfl⟩, hS2.F hu⟩) hS2.2.2 dL_silent_25 hlocks)
    · refine lv_lconst (v := 1) hx hb dL_silent_11 (by decide +kernel) ?_
      refine lv_goto hx hb dL_silent_12 (tgt := 16) (by decide) ?_
      refine sw_last hx hb hK hat1 hS1 hAo dL_silent_16 (fun H2 locs2 hat2 oq2 hS2 => ?_)
      have hW2 := hW1.kept (fun kp i hi => oq2 _ (hne1 kp i hi))
      refine lv_goto hx hb dL_silent_17 (tgt := 24) (by decide) ?_
      refine lv_iconst (v := 0) hx hb dL_silent_24 (by decide +kernel) ?_
      refine W.widen (k := 1) (n := 6) (by exact Nat.le_of_ble_eq_true rfl) (by exact Nat.le_of_ble_eq_true rfl) ?_
      exact vx_ret (W.iret (v := 0) hx hb hret (fun u hu hw => ⟨⟨rfl, ad', _, hext, by rw [hu]; exact hW2, by rw [hu]; exact hat2, fun _ _ => by rw [vp_updL_0, hr.resolve_left z]; rfl⟩, hS2.F hu⟩) hS2.2.2 dL_silent_25 hlocks)
  · obtain ⟨hc0, hex, rfl⟩ := hp
    have hat1 : va_at D vwCl (oc30 X o f) H1 := hat.kept (hk1 o hat.lt hAC)
    have hMM := hM1 hc0
    subst hMM
    have hcc : code = 1 ∨ code = 2 ∨ code = 3 := by omega
    rcases hcc with rfl | rfl | rfl
    · cases hex
      refine vx_catch (name := IOB) hown [] ⟨0, 17, 20, 24⟩ [] (by rw [htab]; rfl) (fun _ h => absurd h List.not_mem_nil) (by decide +kernel) (by decide) (hts _ (LT_in (by decide +kernel) (by decide +kernel))) (yb_at (args := #[]) (by simp [YB]) (State.WarmedH.refl s) (hY.1 (Cond.castable IOB IOB) (by simp [YB]))) hce hcv hcl ?_
      refine lv_astore hx hb dL_silent_20 hl (by decide) rfl (fun ls9 _ => ?_)
      refine lv_iconst (v := nI 1) hx hb dL_silent_22 (by decide +kernel) ?_
      refine W.widen (k := 1) (n := 6) (by exact Nat.le_of_ble_eq_true rfl) (by exact Nat.le_of_ble_eq_true rfl) ?_
      exact vx_ret (W.iret (v := nI 1) hx hb hret (fun u hu hw => ⟨⟨rfl, ad, f, Ext.refl _ _ _, by rw [hu]; exact hW1, by rw [hu]; exact hat1, fun z => by omega⟩, hS1.F hu⟩) hS1.2.2 dL_silent_23 hlocks)
    · cases hex
    · cases hex
theorem dL_emergency_0 : decode cL_emergency 0 = .ok (.aload_n 2, 1) := by decide +kernel
theorem dL_emergency_1 : decode cL_emergency 1 = .ok (.iconst 0, 1) := by decide +kernel
theorem dL_emergency_2 : decode cL_emergency 2 = .ok (.aload_n 0, 1) := by decide +kernel
theorem dL_emergency_3 : decode cL_emergency 3 = .ok (.iload_n 1, 1) := by decide +kernel
theorem dL_emergency_4 : decode cL_emergency 4 = .ok (.invokevirtual 48, 3) := by decide +kernel
theorem dL_emergency_7 : decode cL_emergency 7 = .ok (.ifCond .eq 7, 3) := by decide +kernel
theorem dL_emergency_10 : decode cL_emergency 10 = .ok (.lconst 1, 1) := by decide +kernel
theorem dL_emergency_11 : decode cL_emergency 11 = .ok (.goto 4, 3) := by decide +kernel
theorem dL_emergency_14 : decode cL_emergency 14 = .ok (.lconst 0, 1) := by decide +kernel
theorem dL_emergency_15 : decode cL_emergency 15 = .ok (.lastore, 1) := by decide +kernel
theorem dL_emergency_16 : decode cL_emergency 16 = .ok (.goto 6, 3) := by decide +kernel
theorem dL_emergency_19 : decode cL_emergency 19 = .ok (.astore_n 3, 1) := by decide +kernel
theorem dL_emergency_20 : decode cL_emergency 20 = .ok (.iconst 1, 1) := by decide +kernel
theorem dL_emergency_21 : decode cL_emergency 21 = .ok (.ireturn, 1) := by decide +kernel
theorem dL_emergency_22 : decode cL_emergency 22 = .ok (.iconst 0, 1) := by decide +kernel
theorem dL_emergency_23 : decode cL_emergency 23 = .ok (.ireturn, 1) := by decide +kernel
set_option maxHeartbeats 4000000 in
theorem w_emergency {l : Launch} (D : va_G) (X : Nat → ClassId) (ad : Nat → Nat → Nat) {M M1 : Nat → Nat → Bool} {o code : Nat} {t s' : TT} {r : Int32} (a1 : Int32) (hcode : code ≤ 3) (hM1 : code ≠ 0 → M1 = M) (hM0 : M 0 0 = true) (hr : isB r) (hC : CE l yX4_emergency (Cond.code yX4_emergency cX4_emergency 3 (some .boolean) :: LT) { frames := 7, cells := 1, slots := 6, locals := 111 } D X ad M [.inr (.inl (0, 0)), .inl a1] t 1 6 (fun v M' t1 => PO code r (over s') v t1 ∧ M' = M1) (PX [IOB] code (over s'))) : CW l yL_emergency (Cond.codeWith yL_emergency cL_emergency 4 (some .int) [(0, 16, 19, 24)] :: LT) { frames := 8, cells := 1, slots := 6, locals := 133 } D X ad M M1 [.inr (.inl (0, 0)), .inl a1] [.ref o] o t 1 6 code r s' true := by
  refine wrap_of (by decide +kernel) (by exact Nat.le_of_ble_eq_true rfl) ?_
  intro p e s m args below meth c A f ls hx hb hml hts hown hK htab hlocks hret hA hE hY hAo hne hW hat hl
  have hl : lv_has ls 4 [(0, .ref (ad 0 0)), (1, .int a1), (2, .ref o)] := hl
  have hAC : ¬ AC ad M s.heap.size o := by
    rintro (⟨kp, i, h1, h2⟩ | h1)
    · exact hne kp i h1 h2.symm
    · exact absurd hat.lt (Nat.not_lt.mpr h1)
  refine lv_aload_n hx hb dL_emergency_0 rfl (lv_at hl 2 rfl) ?_
  refine lv_iconst (v := 0) hx hb dL_emergency_1 (by decide +kernel) ?_
  refine lv_aload_n hx hb dL_emergency_2 rfl (lv_at hl 0 rfl) ?_
  refine lv_iload_n hx hb dL_emergency_3 rfl (lv_at hl 1 rfl) ?_
  refine W.eq (g2 := F0 m 4 ls ((([.inr (.inl (0, 0)), .inl a1] : List VV).map (toV ad)).reverse ++ [.int 0, .ref o])) rfl ?_
  refine run_own hA va_S.rf hW (lcall_E (Ts := LT) (n := 1) (rest := [.int 0, .ref o]) hx hb hml hts hown hK hA hE hC (fun w h => h) ⟨LT_in (by decide +kernel) (by decide +kernel), LT_in (by decide +kernel) (by decide +kernel), LT_in (by decide +kernel) (by decide +kernel), LT_in (by decide +kernel) (by decide +kernel), LT_in (by decide +kernel) (by decide +kernel)⟩ (by decide +kernel) ⟨(by exact Nat.le_of_ble_eq_true rfl), (by exact Nat.le_of_ble_eq_true rfl)⟩ rfl rfl rfl ⟨0, 0, rfl, hM0, by unfold isObj; omega, rfl⟩ hW va_S.rf hl.1 (by exact Nat.le_of_ble_eq_true rfl) (by exact Nat.le_of_ble_eq_true rfl) (by exact Nat.le_of_ble_eq_true rfl) dL_emergency_4) (fun v t1 ad' M' H1 locs1 hp hext hW1 hS1 hz1 hk1 => ?_) (fun E ce q t1 H1 locs1 hp hW1 hS1 hz1 hk1 hce hcv hcl => ?_)
  · obtain ⟨hp, rfl⟩ := hp
    have hat1 : va_at D vwCl (oc30 X o f) H1 := hat.kept (hk1 o hat.lt hAC)
    cases v with
    | none => exact hp.elim
    | some v =>
    cases v with
    | inr _ => exact hp.elim
    | inl r2 =>
    obtain ⟨rfl, rfl, rfl⟩ := hp
    have hne1 : ∀ kp i, M' kp i = true → ad' kp i ≠ o := fun kp i h => ext_ne hext hne hat.lt h
    refine W.eq (g2 := F0 m 7 ls [.int r2, .int 0, .ref o]) rfl ?_
    refine lv_if_eq hx hb dL_emergency_7 (tgt := 14) (by decide) (fun z => ?_) (fun z => ?_)
    · refine lv_lconst (v := 0) hx hb dL_emergency_14 (by decide +kernel) ?_
      refine sw_last hx hb hK hat1 hS1 hAo dL_emergency_15 (fun H2 locs2 hat2 oq2 hS2 => ?_)
      have hW2 := hW1.kept (fun kp i hi => oq2 _ (hne1 kp i hi))
      refine lv_goto hx hb dL_emergency_16 (tgt := 22) (by decide) ?_
      refine lv_iconst (v := 0) hx hb dL_emergency_22 (by decide +kernel) ?_
      refine W.widen (k := 1) (n := 6) (by exact Nat.le_of_ble_eq_true rfl) (by exact Nat.le_of_ble_eq_true rfl) ?_
      exact vx_ret (W.iret (v := 0) hx hb hret (fun u hu hw => ⟨⟨rfl, ad', _, hext, by rw [hu]; exact hW2, by rw [hu]; exact hat2, fun _ _ => by rw [vp_updL_0, z]; rfl⟩, hS2.F hu⟩) hS2.2.2 dL_emergency_23 hlocks)
    · refine lv_lconst (v := 1) hx hb dL_emergency_10 (by decide +kernel) ?_
      refine lv_goto hx hb dL_emergency_11 (tgt := 15) (by decide) ?_
      refine sw_last hx hb hK hat1 hS1 hAo dL_emergency_15 (fun H2 locs2 hat2 oq2 hS2 => ?_)
      have hW2 := hW1.kept (fun kp i hi => oq2 _ (hne1 kp i hi))
      refine lv_goto hx hb dL_emergency_16 (tgt := 22) (by decide) ?_
      refine lv_iconst (v := 0) hx hb dL_emergency_22 (by decide +kernel) ?_
      refine W.widen (k := 1) (n := 6) (by exact Nat.le_of_ble_eq_true rfl) (by exact Nat.le_of_ble_eq_true rfl) ?_
      exact vx_ret (W.iret (v := 0) hx hb hret (fun u hu hw => ⟨⟨rfl, ad', _, hext, by rw [hu]; exact hW2, by rw [hu]; exact hat2, fun _ _ => by rw [vp_updL_0, hr.resolve_left z]; rfl⟩, hS2.F hu⟩) hS2.2.2 dL_emergency_23 hlocks)
  · obtain ⟨hc0, hex, rfl⟩ := hp
    have hat1 : va_at D vwCl (oc30 X o f) H1 := hat.kept (hk1 o hat.lt hAC)
    have hMM := hM1 hc0
    subst hMM
    have hcc : code = 1 ∨ code = 2 ∨ code = 3 := by omega
    rcases hcc with rfl | rfl | rfl
    · cases hex
      refine vx_catch (name := IOB) hown [] ⟨0, 16, 19, 24⟩ [] (by rw [htab]; rfl) (fun _ h => absurd h List.not_mem_nil) (by decide +kernel) (by decide) (hts _ (LT_in (by decide +kernel) (by decide +kernel))) (yb_at (args := #[]) (by simp [YB]) (State.WarmedH.refl s) (hY.1 (Cond.castable IOB IOB) (by simp [YB]))) hce hcv hcl ?_
      refine lv_astore_n hx hb dL_emergency_19 rfl hl (by decide) rfl (fun ls9 _ => ?_)
      refine lv_iconst (v := nI 1) hx hb dL_emergency_20 (by decide +kernel) ?_
      refine W.widen (k := 1) (n := 6) (by exact Nat.le_of_ble_eq_true rfl) (by exact Nat.le_of_ble_eq_true rfl) ?_
      exact vx_ret (W.iret (v := nI 1) hx hb hret (fun u hu hw => ⟨⟨rfl, ad, f, Ext.refl _ _ _, by rw [hu]; exact hW1, by rw [hu]; exact hat1, fun z => by omega⟩, hS1.F hu⟩) hS1.2.2 dL_emergency_21 hlocks)
    · cases hex
    · cases hex
theorem dL_pass_0 : decode cL_pass 0 = .ok (.aload_n 2, 1) := by decide +kernel
theorem dL_pass_1 : decode cL_pass 1 = .ok (.iconst 0, 1) := by decide +kernel
theorem dL_pass_2 : decode cL_pass 2 = .ok (.aload_n 0, 1) := by decide +kernel
theorem dL_pass_3 : decode cL_pass 3 = .ok (.iload_n 1, 1) := by decide +kernel
theorem dL_pass_4 : decode cL_pass 4 = .ok (.invokevirtual 52, 3) := by decide +kernel
theorem dL_pass_7 : decode cL_pass 7 = .ok (.i2l, 1) := by decide +kernel
theorem dL_pass_8 : decode cL_pass 8 = .ok (.lastore, 1) := by decide +kernel
theorem dL_pass_9 : decode cL_pass 9 = .ok (.goto 9, 3) := by decide +kernel
theorem dL_pass_12 : decode cL_pass 12 = .ok (.astore_n 3, 1) := by decide +kernel
theorem dL_pass_13 : decode cL_pass 13 = .ok (.iconst 1, 1) := by decide +kernel
theorem dL_pass_14 : decode cL_pass 14 = .ok (.ireturn, 1) := by decide +kernel
theorem dL_pass_15 : decode cL_pass 15 = .ok (.astore_n 3, 1) := by decide +kernel
theorem dL_pass_16 : decode cL_pass 16 = .ok (.iconst 2, 1) := by decide +kernel
theorem dL_pass_17 : decode cL_pass 17 = .ok (.ireturn, 1) := by decide +kernel
theorem dL_pass_18 : decode cL_pass 18 = .ok (.iconst 0, 1) := by decide +kernel
theorem dL_pass_19 : decode cL_pass 19 = .ok (.ireturn, 1) := by decide +kernel
set_option maxHeartbeats 4000000 in
theorem w_pass {l : Launch} (D : va_G) (X : Nat → ClassId) (ad : Nat → Nat → Nat) {M M1 : Nat → Nat → Bool} {o code : Nat} {t s' : TT} {r : Int32} (a1 : Int32) (hcode : code ≤ 3) (hM1 : code ≠ 0 → M1 = M) (hM0 : M 0 0 = true) (hC : CE l yX4_pass (Cond.code yX4_pass cX4_pass 3 (some .int) :: LT) { frames := 7, cells := 2, slots := 12, locals := 112 } D X ad M [.inr (.inl (0, 0)), .inl a1] t 2 12 (fun v M' t1 => PO code r (over s') v t1 ∧ M' = M1) (PX [IAE9, ISE9] code (over s'))) : CW l yL_pass (Cond.codeWith yL_pass cL_pass 4 (some .int) [(0, 9, 12, 13), (0, 9, 15, 15)] :: LT) { frames := 8, cells := 2, slots := 12, locals := 134 } D X ad M M1 [.inr (.inl (0, 0)), .inl a1] [.ref o] o t 2 12 code r s' true := by
  refine wrap_of (by decide +kernel) (by exact Nat.le_of_ble_eq_true rfl) ?_
  intro p e s m args below meth c A f ls hx hb hml hts hown hK htab hlocks hret hA hE hY hAo hne hW hat hl
  have hl : lv_has ls 4 [(0, .ref (ad 0 0)), (1, .int a1), (2, .ref o)] := hl
  have hAC : ¬ AC ad M s.heap.size o := by
    rintro (⟨kp, i, h1, h2⟩ | h1)
    · exact hne kp i h1 h2.symm
    · exact absurd hat.lt (Nat.not_lt.mpr h1)
  refine lv_aload_n hx hb dL_pass_0 rfl (lv_at hl 2 rfl) ?_
  refine lv_iconst (v := 0) hx hb dL_pass_1 (by decide +kernel) ?_
  refine lv_aload_n hx hb dL_pass_2 rfl (lv_at hl 0 rfl) ?_
  refine lv_iload_n hx hb dL_pass_3 rfl (lv_at hl 1 rfl) ?_
  refine W.eq (g2 := F0 m 4 ls ((([.inr (.inl (0, 0)), .inl a1] : List VV).map (toV ad)).reverse ++ [.int 0, .ref o])) rfl ?_
  refine run_own hA va_S.rf hW (lcall_E (Ts := LT) (n := 1) (rest := [.int 0, .ref o]) hx hb hml hts hown hK hA hE hC (fun w h => h) ⟨LT_in (by decide +kernel) (by decide +kernel), LT_in (by decide +kernel) (by decide +kernel), LT_in (by decide +kernel) (by decide +kernel), LT_in (by decide +kernel) (by decide +kernel), LT_in (by decide +kernel) (by decide +kernel)⟩ (by decide +kernel) ⟨(by exact Nat.le_of_ble_eq_true rfl), (by exact Nat.le_of_ble_eq_true rfl)⟩ rfl rfl rfl ⟨0, 0, rfl, hM0, by unfold isObj; omega, rfl⟩ hW va_S.rf hl.1 (by exact Nat.le_of_ble_eq_true rfl) (by exact Nat.le_of_ble_eq_true rfl) (by exact Nat.le_of_ble_eq_true rfl) dL_pass_4) (fun v t1 ad' M' H1 locs1 hp hext hW1 hS1 hz1 hk1 => ?_) (fun E ce q t1 H1 locs1 hp hW1 hS1 hz1 hk1 hce hcv hcl => ?_)
  · obtain ⟨hp, rfl⟩ := hp
    have hat1 : va_at D vwCl (oc30 X o f) H1 := hat.kept (hk1 o hat.lt hAC)
    cases v with
    | none => exact hp.elim
    | some v =>
    cases v with
    | inr _ => exact hp.elim
    | inl r2 =>
    obtain ⟨rfl, rfl, rfl⟩ := hp
    have hne1 : ∀ kp i, M' kp i = true → ad' kp i ≠ o := fun kp i h => ext_ne hext hne hat.lt h
    refine W.eq (g2 := F0 m 7 ls [.int r2, .int 0, .ref o]) rfl ?_
    refine lv_i2l hx hb dL_pass_7 rfl ?_
    refine sw_last hx hb hK hat1 hS1 hAo dL_pass_8 (fun H2 locs2 hat2 oq2 hS2 => ?_)
    have hW2 := hW1.kept (fun kp i hi => oq2 _ (hne1 kp i hi))
    refine lv_goto hx hb dL_pass_9 (tgt := 18) (by decide) ?_
    refine lv_iconst (v := 0) hx hb dL_pass_18 (by decide +kernel) ?_
    refine W.widen (k := 2) (n := 12) (by exact Nat.le_of_ble_eq_true rfl) (by exact Nat.le_of_ble_eq_true rfl) ?_
    exact vx_ret (W.iret (v := 0) hx hb hret (fun u hu hw => ⟨⟨rfl, ad', _, hext, by rw [hu]; exact hW2, by rw [hu]; exact hat2, fun _ _ => vp_updL_0⟩, hS2.F hu⟩) hS2.2.2 dL_pass_19 hlocks)
  · obtain ⟨hc0, hex, rfl⟩ := hp
    have hat1 : va_at D vwCl (oc30 X o f) H1 := hat.kept (hk1 o hat.lt hAC)
    have hMM := hM1 hc0
    subst hMM
    have hcc : code = 1 ∨ code = 2 ∨ code = 3 := by omega
    rcases hcc with rfl | rfl | rfl
    · cases hex
      refine vx_catch (name := IAE9) hown [] ⟨0, 9, 12, 13⟩ [⟨0, 9, 15, 15⟩] (by rw [htab]; rfl) (fun _ h => absurd h List.not_mem_nil) (by decide +kernel) (by decide) (hts _ (LT_in (by decide +kernel) (by decide +kernel))) (yb_at (args := #[]) (by simp [YB]) (State.WarmedH.refl s) (hY.1 (Cond.castable IAE9 IAE9) (by simp [YB]))) hce hcv hcl ?_
      refine lv_astore_n hx hb dL_pass_12 rfl hl (by decide) rfl (fun ls9 _ => ?_)
      refine lv_iconst (v := nI 1) hx hb dL_pass_13 (by decide +kernel) ?_
      refine W.widen (k := 2) (n := 12) (by exact Nat.le_of_ble_eq_true rfl) (by exact Nat.le_of_ble_eq_true rfl) ?_
      exact vx_ret (W.iret (v := nI 1) hx hb hret (fun u hu hw => ⟨⟨rfl, ad, f, Ext.refl _ _ _, by rw [hu]; exact hW1, by rw [hu]; exact hat1, fun z => by omega⟩, hS1.F hu⟩) hS1.2.2 dL_pass_14 hlocks)
    · cases hex
      refine vx_catch (name := ISE9) hown [⟨0, 9, 12, 13⟩] ⟨0, 9, 15, 15⟩ [] (by rw [htab]; rfl) (List.forall_mem_cons.mpr ⟨Or.inr ⟨by decide, IAE9, hts _ (LT_in (by decide +kernel) (by decide +kernel)), hY.2.2.2⟩, fun _ h => absurd h List.not_mem_nil⟩) (by decide +kernel) (by decide) (hts _ (LT_in (by decide +kernel) (by decide +kernel))) (yb_at (args := #[]) (by simp [YB]) (State.WarmedH.refl s) (hY.1 (Cond.castable ISE9 ISE9) (by simp [YB]))) hce hcv hcl ?_
      refine lv_astore_n hx hb dL_pass_15 rfl hl (by decide) rfl (fun ls9 _ => ?_)
      refine lv_iconst (v := nI 2) hx hb dL_pass_16 (by decide +kernel) ?_
      refine W.widen (k := 2) (n := 12) (by exact Nat.le_of_ble_eq_true rfl) (by exact Nat.le_of_ble_eq_true rfl) ?_
      exact vx_ret (W.iret (v := nI 2) hx hb hret (fun u hu hw => ⟨⟨rfl, ad, f, Ext.refl _ _ _, by rw [hu]; exact hW1, by rw [hu]; exact hat1, fun z => by omega⟩, hS1.F hu⟩) hS1.2.2 dL_pass_17 hlocks)
    · cases hex
theorem dL_stop_0 : decode cL_stop 0 = .ok (.aload_n 0, 1) := by decide +kernel
theorem dL_stop_1 : decode cL_stop 1 = .ok (.iload_n 1, 1) := by decide +kernel
theorem dL_stop_2 : decode cL_stop 2 = .ok (.iload_n 2, 1) := by decide +kernel
theorem dL_stop_3 : decode cL_stop 3 = .ok (.invokevirtual 55, 3) := by decide +kernel
theorem dL_stop_6 : decode cL_stop 6 = .ok (.goto 9, 3) := by decide +kernel
theorem dL_stop_9 : decode cL_stop 9 = .ok (.astore_n 3, 1) := by decide +kernel
theorem dL_stop_10 : decode cL_stop 10 = .ok (.iconst 1, 1) := by decide +kernel
theorem dL_stop_11 : decode cL_stop 11 = .ok (.ireturn, 1) := by decide +kernel
theorem dL_stop_12 : decode cL_stop 12 = .ok (.astore_n 3, 1) := by decide +kernel
theorem dL_stop_13 : decode cL_stop 13 = .ok (.iconst 2, 1) := by decide +kernel
theorem dL_stop_14 : decode cL_stop 14 = .ok (.ireturn, 1) := by decide +kernel
theorem dL_stop_15 : decode cL_stop 15 = .ok (.iconst 0, 1) := by decide +kernel
theorem dL_stop_16 : decode cL_stop 16 = .ok (.ireturn, 1) := by decide +kernel
set_option maxHeartbeats 4000000 in
theorem w_stop {l : Launch} (D : va_G) (X : Nat → ClassId) (ad : Nat → Nat → Nat) {M M1 : Nat → Nat → Bool} {o code : Nat} {t s' : TT} {r : Int32} (a1 a2 : Int32) (hcode : code ≤ 3) (hM1 : code ≠ 0 → M1 = M) (hM0 : M 0 0 = true) (hC : CE l yX4_stop (Cond.code yX4_stop cX4_stop 5 none :: LT) { frames := 7, cells := 3, slots := 18, locals := 111 } D X ad M [.inr (.inl (0, 0)), .inl a1, .inl a2] t 3 18 (fun v M' t1 => PV code (over s') v t1 ∧ M' = M1) (PX [IOB, ISE9] code (over s'))) : CW l yL_stop (Cond.codeWith yL_stop cL_stop 4 (some .int) [(0, 6, 9, 24), (0, 6, 12, 15)] :: LT) { frames := 8, cells := 3, slots := 18, locals := 135 } D X ad M M1 [.inr (.inl (0, 0)), .inl a1, .inl a2] [] o t 3 18 code r s' false := by
  refine wrap_of (by decide +kernel) (by exact Nat.le_of_ble_eq_true rfl) ?_
  intro p e s m args below meth c A f ls hx hb hml hts hown hK htab hlocks hret hA hE hY hAo hne hW hat hl
  have hl : lv_has ls 4 [(0, .ref (ad 0 0)), (1, .int a1), (2, .int a2)] := hl
  have hAC : ¬ AC ad M s.heap.size o := by
    rintro (⟨kp, i, h1, h2⟩ | h1)
    · exact hne kp i h1 h2.symm
    · exact absurd hat.lt (Nat.not_lt.mpr h1)
  refine lv_aload_n hx hb dL_stop_0 rfl (lv_at hl 0 rfl) ?_
  refine lv_iload_n hx hb dL_stop_1 rfl (lv_at hl 1 rfl) ?_
  refine lv_iload_n hx hb dL_stop_2 rfl (lv_at hl 2 rfl) ?_
  refine W.eq (g2 := F0 m 3 ls ((([.inr (.inl (0, 0)), .inl a1, .inl a2] : List VV).map (toV ad)).reverse ++ [])) rfl ?_
  refine run_own hA va_S.rf hW (lcall_E (Ts := LT) (n := 2) (rest := []) hx hb hml hts hown hK hA hE hC (fun w h => h) ⟨LT_in (by decide +kernel) (by decide +kernel), LT_in (by decide +kernel) (by decide +kernel), LT_in (by decide +kernel) (by decide +kernel), LT_in (by decide +kernel) (by decide +kernel), LT_in (by decide +kernel) (by decide +kernel)⟩ (by decide +kernel) ⟨(by exact Nat.le_of_ble_eq_true rfl), (by exact Nat.le_of_ble_eq_true rfl)⟩ rfl rfl rfl ⟨0, 0, rfl, hM0, by unfold isObj; omega, rfl⟩ hW va_S.rf hl.1 (by exact Nat.le_of_ble_eq_true rfl) (by exact Nat.le_of_ble_eq_true rfl) (by exact Nat.le_of_ble_eq_true rfl) dL_stop_3) (fun v t1 ad' M' H1 locs1 hp hext hW1 hS1 hz1 hk1 => ?_) (fun E ce q t1 H1 locs1 hp hW1 hS1 hz1 hk1 hce hcv hcl => ?_)
  · obtain ⟨hp, rfl⟩ := hp
    have hat1 : va_at D vwCl (oc30 X o f) H1 := hat.kept (hk1 o hat.lt hAC)
    cases v with
    | some v => exact hp.elim
    | none =>
    obtain ⟨rfl, rfl⟩ := hp
    refine lv_goto hx hb dL_stop_6 (tgt := 15) (by decide) ?_
    refine lv_iconst (v := 0) hx hb dL_stop_15 (by decide +kernel) ?_
    refine W.widen (k := 3) (n := 18) (by exact Nat.le_of_ble_eq_true rfl) (by exact Nat.le_of_ble_eq_true rfl) ?_
    exact vx_ret (W.iret (v := 0) hx hb hret (fun u hu hw => ⟨⟨rfl, ad', f, hext, by rw [hu]; exact hW1, by rw [hu]; exact hat1, fun _ z => by cases z⟩, hS1.F hu⟩) hS1.2.2 dL_stop_16 hlocks)
  · obtain ⟨hc0, hex, rfl⟩ := hp
    have hat1 : va_at D vwCl (oc30 X o f) H1 := hat.kept (hk1 o hat.lt hAC)
    have hMM := hM1 hc0
    subst hMM
    have hcc : code = 1 ∨ code = 2 ∨ code = 3 := by omega
    rcases hcc with rfl | rfl | rfl
    · cases hex
      refine vx_catch (name := IOB) hown [] ⟨0, 6, 9, 24⟩ [⟨0, 6, 12, 15⟩] (by rw [htab]; rfl) (fun _ h => absurd h List.not_mem_nil) (by decide +kernel) (by decide) (hts _ (LT_in (by decide +kernel) (by decide +kernel))) (yb_at (args := #[]) (by simp [YB]) (State.WarmedH.refl s) (hY.1 (Cond.castable IOB IOB) (by simp [YB]))) hce hcv hcl ?_
      refine lv_astore_n hx hb dL_stop_9 rfl hl (by decide) rfl (fun ls9 _ => ?_)
      refine lv_iconst (v := nI 1) hx hb dL_stop_10 (by decide +kernel) ?_
      refine W.widen (k := 3) (n := 18) (by exact Nat.le_of_ble_eq_true rfl) (by exact Nat.le_of_ble_eq_true rfl) ?_
      exact vx_ret (W.iret (v := nI 1) hx hb hret (fun u hu hw => ⟨⟨rfl, ad, f, Ext.refl _ _ _, by rw [hu]; exact hW1, by rw [hu]; exact hat1, fun z => by omega⟩, hS1.F hu⟩) hS1.2.2 dL_stop_11 hlocks)
    · cases hex
      refine vx_catch (name := ISE9) hown [⟨0, 6, 9, 24⟩] ⟨0, 6, 12, 15⟩ [] (by rw [htab]; rfl) (List.forall_mem_cons.mpr ⟨Or.inr ⟨by decide, IOB, hts _ (LT_in (by decide +kernel) (by decide +kernel)), hY.2.2.1⟩, fun _ h => absurd h List.not_mem_nil⟩) (by decide +kernel) (by decide) (hts _ (LT_in (by decide +kernel) (by decide +kernel))) (yb_at (args := #[]) (by simp [YB]) (State.WarmedH.refl s) (hY.1 (Cond.castable ISE9 ISE9) (by simp [YB]))) hce hcv hcl ?_
      refine lv_astore_n hx hb dL_stop_12 rfl hl (by decide) rfl (fun ls9 _ => ?_)
      refine lv_iconst (v := nI 2) hx hb dL_stop_13 (by decide +kernel) ?_
      refine W.widen (k := 3) (n := 18) (by exact Nat.le_of_ble_eq_true rfl) (by exact Nat.le_of_ble_eq_true rfl) ?_
      exact vx_ret (W.iret (v := nI 2) hx hb hret (fun u hu hw => ⟨⟨rfl, ad, f, Ext.refl _ _ _, by rw [hu]; exact hW1, by rw [hu]; exact hat1, fun z => by omega⟩, hS1.F hu⟩) hS1.2.2 dL_stop_14 hlocks)
    · cases hex
theorem dL_bar_0 : decode cL_bar 0 = .ok (.aload 4, 2) := by decide +kernel
theorem dL_bar_2 : decode cL_bar 2 = .ok (.iconst 0, 1) := by decide +kernel
theorem dL_bar_3 : decode cL_bar 3 = .ok (.aload_n 0, 1) := by decide +kernel
theorem dL_bar_4 : decode cL_bar 4 = .ok (.iload_n 1, 1) := by decide +kernel
theorem dL_bar_5 : decode cL_bar 5 = .ok (.iload_n 2, 1) := by decide +kernel
theorem dL_bar_6 : decode cL_bar 6 = .ok (.iload_n 3, 1) := by decide +kernel
theorem dL_bar_7 : decode cL_bar 7 = .ok (.invokevirtual 59, 3) := by decide +kernel
theorem dL_bar_10 : decode cL_bar 10 = .ok (.i2l, 1) := by decide +kernel
theorem dL_bar_11 : decode cL_bar 11 = .ok (.lastore, 1) := by decide +kernel
theorem dL_bar_12 : decode cL_bar 12 = .ok (.goto 11, 3) := by decide +kernel
theorem dL_bar_15 : decode cL_bar 15 = .ok (.astore 5, 2) := by decide +kernel
theorem dL_bar_17 : decode cL_bar 17 = .ok (.iconst 1, 1) := by decide +kernel
theorem dL_bar_18 : decode cL_bar 18 = .ok (.ireturn, 1) := by decide +kernel
theorem dL_bar_19 : decode cL_bar 19 = .ok (.astore 5, 2) := by decide +kernel
theorem dL_bar_21 : decode cL_bar 21 = .ok (.iconst 2, 1) := by decide +kernel
theorem dL_bar_22 : decode cL_bar 22 = .ok (.ireturn, 1) := by decide +kernel
theorem dL_bar_23 : decode cL_bar 23 = .ok (.iconst 0, 1) := by decide +kernel
theorem dL_bar_24 : decode cL_bar 24 = .ok (.ireturn, 1) := by decide +kernel
set_option maxHeartbeats 4000000 in
theorem w_bar {l : Launch} (D : va_G) (X : Nat → ClassId) (ad : Nat → Nat → Nat) {M M1 : Nat → Nat → Bool} {o code : Nat} {t s' : TT} {r : Int32} (a1 a2 a3 : Int32) (hcode : code ≤ 3) (hM1 : code ≠ 0 → M1 = M) (hM0 : M 0 0 = true) (hC : CE l yX4_bar (Cond.code yX4_bar cX4_bar 5 (some .int) :: LT) { frames := 7, cells := 2, slots := 12, locals := 112 } D X ad M [.inr (.inl (0, 0)), .inl a1, .inl a2, .inl a3] t 2 12 (fun v M' t1 => PO code r (over s') v t1 ∧ M' = M1) (PX [IOB, IAE9] code (over s'))) : CW l yL_bar (Cond.codeWith yL_bar cL_bar 6 (some .int) [(0, 12, 15, 24), (0, 12, 19, 13)] :: LT) { frames := 8, cells := 2, slots := 12, locals := 136 } D X ad M M1 [.inr (.inl (0, 0)), .inl a1, .inl a2, .inl a3] [.ref o] o t 2 12 code r s' true := by
  refine wrap_of (by decide +kernel) (by exact Nat.le_of_ble_eq_true rfl) ?_
  intro p e s m args below meth c A f ls hx hb hml hts hown hK htab hlocks hret hA hE hY hAo hne hW hat hl
  have hl : lv_has ls 6 [(0, .ref (ad 0 0)), (1, .int a1), (2, .int a2), (3, .int a3), (4, .ref o)] := hl
  have hAC : ¬ AC ad M s.heap.size o := by
    rintro (⟨kp, i, h1, h2⟩ | h1)
    · exact hne kp i h1 h2.symm
    · exact absurd hat.lt (Nat.not_lt.mpr h1)
  refine lv_aload hx hb dL_bar_0 (lv_at hl 4 rfl) ?_
  refine lv_iconst (v := 0) hx hb dL_bar_2 (by decide +kernel) ?_
  refine lv_aload_n hx hb dL_bar_3 rfl (lv_at hl 0 rfl) ?_
  refine lv_iload_n hx hb dL_bar_4 rfl (lv_at hl 1 rfl) ?_
  refine lv_iload_n hx hb dL_bar_5 rfl (lv_at hl 2 rfl) ?_
  refine lv_iload_n hx hb dL_bar_6 rfl (lv_at hl 3 rfl) ?_
  refine W.eq (g2 := F0 m 7 ls ((([.inr (.inl (0, 0)), .inl a1, .inl a2, .inl a3] : List VV).map (toV ad)).reverse ++ [.int 0, .ref o])) rfl ?_
  refine run_own hA va_S.rf hW (lcall_E (Ts := LT) (n := 3) (rest := [.int 0, .ref o]) hx hb hml hts hown hK hA hE hC (fun w h => h) ⟨LT_in (by decide +kernel) (by decide +kernel), LT_in (by decide +kernel) (by decide +kernel), LT_in (by decide +kernel) (by decide +kernel), LT_in (by decide +kernel) (by decide +kernel), LT_in (by decide +kernel) (by decide +kernel)⟩ (by decide +kernel) ⟨(by exact Nat.le_of_ble_eq_true rfl), (by exact Nat.le_of_ble_eq_true rfl)⟩ rfl rfl rfl ⟨0, 0, rfl, hM0, by unfold isObj; omega, rfl⟩ hW va_S.rf hl.1 (by exact Nat.le_of_ble_eq_true rfl) (by exact Nat.le_of_ble_eq_true rfl) (by exact Nat.le_of_ble_eq_true rfl) dL_bar_7) (fun v t1 ad' M' H1 locs1 hp hext hW1 hS1 hz1 hk1 => ?_) (fun E ce q t1 H1 locs1 hp hW1 hS1 hz1 hk1 hce hcv hcl => ?_)
  · obtain ⟨hp, rfl⟩ := hp
    have hat1 : va_at D vwCl (oc30 X o f) H1 := hat.kept (hk1 o hat.lt hAC)
    cases v with
    | none => exact hp.elim
    | some v =>
    cases v with
    | inr _ => exact hp.elim
    | inl r2 =>
    obtain ⟨rfl, rfl, rfl⟩ := hp
    have hne1 : ∀ kp i, M' kp i = true → ad' kp i ≠ o := fun kp i h => ext_ne hext hne hat.lt h
    refine W.eq (g2 := F0 m 10 ls [.int r2, .int 0, .ref o]) rfl ?_
    refine lv_i2l hx hb dL_bar_10 rfl ?_
    refine sw_last hx hb hK hat1 hS1 hAo dL_bar_11 (fun H2 locs2 hat2 oq2 hS2 => ?_)
    have hW2 := hW1.kept (fun kp i hi => oq2 _ (hne1 kp i hi))
    refine lv_goto hx hb dL_bar_12 (tgt := 23) (by decide) ?_
    refine lv_iconst (v := 0) hx hb dL_bar_23 (by decide +kernel) ?_
    refine W.widen (k := 2) (n := 12) (by exact Nat.le_of_ble_eq_true rfl) (by exact Nat.le_of_ble_eq_true rfl) ?_
    exact vx_ret (W.iret (v := 0) hx hb hret (fun u hu hw => ⟨⟨rfl, ad', _, hext, by rw [hu]; exact hW2, by rw [hu]; exact hat2, fun _ _ => vp_updL_0⟩, hS2.F hu⟩) hS2.2.2 dL_bar_24 hlocks)
  · obtain ⟨hc0, hex, rfl⟩ := hp
    have hat1 : va_at D vwCl (oc30 X o f) H1 := hat.kept (hk1 o hat.lt hAC)
    have hMM := hM1 hc0
    subst hMM
    have hcc : code = 1 ∨ code = 2 ∨ code = 3 := by omega
    rcases hcc with rfl | rfl | rfl
    · cases hex
      refine vx_catch (name := IOB) hown [] ⟨0, 12, 15, 24⟩ [⟨0, 12, 19, 13⟩] (by rw [htab]; rfl) (fun _ h => absurd h List.not_mem_nil) (by decide +kernel) (by decide) (hts _ (LT_in (by decide +kernel) (by decide +kernel))) (yb_at (args := #[]) (by simp [YB]) (State.WarmedH.refl s) (hY.1 (Cond.castable IOB IOB) (by simp [YB]))) hce hcv hcl ?_
      refine lv_astore hx hb dL_bar_15 hl (by decide) rfl (fun ls9 _ => ?_)
      refine lv_iconst (v := nI 1) hx hb dL_bar_17 (by decide +kernel) ?_
      refine W.widen (k := 2) (n := 12) (by exact Nat.le_of_ble_eq_true rfl) (by exact Nat.le_of_ble_eq_true rfl) ?_
      exact vx_ret (W.iret (v := nI 1) hx hb hret (fun u hu hw => ⟨⟨rfl, ad, f, Ext.refl _ _ _, by rw [hu]; exact hW1, by rw [hu]; exact hat1, fun z => by omega⟩, hS1.F hu⟩) hS1.2.2 dL_bar_18 hlocks)
    · cases hex
      refine vx_catch (name := IAE9) hown [⟨0, 12, 15, 24⟩] ⟨0, 12, 19, 13⟩ [] (by rw [htab]; rfl) (List.forall_mem_cons.mpr ⟨Or.inr ⟨by decide, IOB, hts _ (LT_in (by decide +kernel) (by decide +kernel)), hY.2.1⟩, fun _ h => absurd h List.not_mem_nil⟩) (by decide +kernel) (by decide) (hts _ (LT_in (by decide +kernel) (by decide +kernel))) (yb_at (args := #[]) (by simp [YB]) (State.WarmedH.refl s) (hY.1 (Cond.castable IAE9 IAE9) (by simp [YB]))) hce hcv hcl ?_
      refine lv_astore hx hb dL_bar_19 hl (by decide) rfl (fun ls9 _ => ?_)
      refine lv_iconst (v := nI 2) hx hb dL_bar_21 (by decide +kernel) ?_
      refine W.widen (k := 2) (n := 12) (by exact Nat.le_of_ble_eq_true rfl) (by exact Nat.le_of_ble_eq_true rfl) ?_
      exact vx_ret (W.iret (v := nI 2) hx hb hret (fun u hu hw => ⟨⟨rfl, ad, f, Ext.refl _ _ _, by rw [hu]; exact hW1, by rw [hu]; exact hat1, fun z => by omega⟩, hS1.F hu⟩) hS1.2.2 dL_bar_22 hlocks)
    · cases hex
theorem dL_open_0 : decode cL_open 0 = .ok (.aload_n 3, 1) := by decide +kernel
theorem dL_open_1 : decode cL_open 1 = .ok (.iconst 0, 1) := by decide +kernel
theorem dL_open_2 : decode cL_open 2 = .ok (.aload_n 0, 1) := by decide +kernel
theorem dL_open_3 : decode cL_open 3 = .ok (.iload_n 1, 1) := by decide +kernel
theorem dL_open_4 : decode cL_open 4 = .ok (.iload_n 2, 1) := by decide +kernel
theorem dL_open_5 : decode cL_open 5 = .ok (.invokevirtual 63, 3) := by decide +kernel
theorem dL_open_8 : decode cL_open 8 = .ok (.i2l, 1) := by decide +kernel
theorem dL_open_9 : decode cL_open 9 = .ok (.lastore, 1) := by decide +kernel
theorem dL_open_10 : decode cL_open 10 = .ok (.goto 15, 3) := by decide +kernel
theorem dL_open_13 : decode cL_open 13 = .ok (.astore 4, 2) := by decide +kernel
theorem dL_open_15 : decode cL_open 15 = .ok (.iconst 1, 1) := by decide +kernel
theorem dL_open_16 : decode cL_open 16 = .ok (.ireturn, 1) := by decide +kernel
theorem dL_open_17 : decode cL_open 17 = .ok (.astore 4, 2) := by decide +kernel
theorem dL_open_19 : decode cL_open 19 = .ok (.iconst 2, 1) := by decide +kernel
theorem dL_open_20 : decode cL_open 20 = .ok (.ireturn, 1) := by decide +kernel
theorem dL_open_21 : decode cL_open 21 = .ok (.astore 4, 2) := by decide +kernel
theorem dL_open_23 : decode cL_open 23 = .ok (.iconst 3, 1) := by decide +kernel
theorem dL_open_24 : decode cL_open 24 = .ok (.ireturn, 1) := by decide +kernel
theorem dL_open_25 : decode cL_open 25 = .ok (.iconst 0, 1) := by decide +kernel
theorem dL_open_26 : decode cL_open 26 = .ok (.ireturn, 1) := by decide +kernel
set_option maxHeartbeats 4000000 in
theorem w_open {l : Launch} (D : va_G) (X : Nat → ClassId) (ad : Nat → Nat → Nat) {M M1 : Nat → Nat → Bool} {o code : Nat} {t s' : TT} {r : Int32} (a1 a2 : Int32) (hcode : code ≤ 3) (hM1 : code ≠ 0 → M1 = M) (hM0 : M 0 0 = true) (hC : CE l yX4_open (Cond.code yX4_open cX4_open 4 (some .int) :: LT) { frames := 7, cells := 3, slots := 18, locals := 112 } D X ad M [.inr (.inl (0, 0)), .inl a1, .inl a2] t 3 18 (fun v M' t1 => PO code r (over s') v t1 ∧ M' = M1) (PX [IOB, IAE9, ISE9] code (over s'))) : CW l yL_open (Cond.codeWith yL_open cL_open 5 (some .int) [(0, 10, 13, 24), (0, 10, 17, 13), (0, 10, 21, 15)] :: LT) { frames := 8, cells := 3, slots := 18, locals := 135 } D X ad M M1 [.inr (.inl (0, 0)), .inl a1, .inl a2] [.ref o] o t 3 18 code r s' true := by
  refine wrap_of (by decide +kernel) (by exact Nat.le_of_ble_eq_true rfl) ?_
  intro p e s m args below meth c A f ls hx hb hml hts hown hK htab hlocks hret hA hE hY hAo hne hW hat hl
  have hl : lv_has ls 5 [(0, .ref (ad 0 0)), (1, .int a1), (2, .int a2), (3, .ref o)] := hl
  have hAC : ¬ AC ad M s.heap.size o := by
    rintro (⟨kp, i, h1, h2⟩ | h1)
    · exact hne kp i h1 h2.symm
    · exact absurd hat.lt (Nat.not_lt.mpr h1)
  refine lv_aload_n hx hb dL_open_0 rfl (lv_at hl 3 rfl) ?_
  refine lv_iconst (v := 0) hx hb dL_open_1 (by decide +kernel) ?_
  refine lv_aload_n hx hb dL_open_2 rfl (lv_at hl 0 rfl) ?_
  refine lv_iload_n hx hb dL_open_3 rfl (lv_at hl 1 rfl) ?_
  refine lv_iload_n hx hb dL_open_4 rfl (lv_at hl 2 rfl) ?_
  refine W.eq (g2 := F0 m 5 ls ((([.inr (.inl (0, 0)), .inl a1, .inl a2] : List VV).map (toV ad)).reverse ++ [.int 0, .ref o])) rfl ?_
  refine run_own hA va_S.rf hW (lcall_E (Ts := LT) (n := 2) (rest := [.int 0, .ref o]) hx hb hml hts hown hK hA hE hC (fun w h => h) ⟨LT_in (by decide +kernel) (by decide +kernel), LT_in (by decide +kernel) (by decide +kernel), LT_in (by decide +kernel) (by decide +kernel), LT_in (by decide +kernel) (by decide +kernel), LT_in (by decide +kernel) (by decide +kernel)⟩ (by decide +kernel) ⟨(by exact Nat.le_of_ble_eq_true rfl), (by exact Nat.le_of_ble_eq_true rfl)⟩ rfl rfl rfl ⟨0, 0, rfl, hM0, by unfold isObj; omega, rfl⟩ hW va_S.rf hl.1 (by exact Nat.le_of_ble_eq_true rfl) (by exact Nat.le_of_ble_eq_true rfl) (by exact Nat.le_of_ble_eq_true rfl) dL_open_5) (fun v t1 ad' M' H1 locs1 hp hext hW1 hS1 hz1 hk1 => ?_) (fun E ce q t1 H1 locs1 hp hW1 hS1 hz1 hk1 hce hcv hcl => ?_)
  · obtain ⟨hp, rfl⟩ := hp
    have hat1 : va_at D vwCl (oc30 X o f) H1 := hat.kept (hk1 o hat.lt hAC)
    cases v with
    | none => exact hp.elim
    | some v =>
    cases v with
    | inr _ => exact hp.elim
    | inl r2 =>
    obtain ⟨rfl, rfl, rfl⟩ := hp
    have hne1 : ∀ kp i, M' kp i = true → ad' kp i ≠ o := fun kp i h => ext_ne hext hne hat.lt h
    refine W.eq (g2 := F0 m 8 ls [.int r2, .int 0, .ref o]) rfl ?_
    refine lv_i2l hx hb dL_open_8 rfl ?_
    refine sw_last hx hb hK hat1 hS1 hAo dL_open_9 (fun H2 locs2 hat2 oq2 hS2 => ?_)
    have hW2 := hW1.kept (fun kp i hi => oq2 _ (hne1 kp i hi))
    refine lv_goto hx hb dL_open_10 (tgt := 25) (by decide) ?_
    refine lv_iconst (v := 0) hx hb dL_open_25 (by decide +kernel) ?_
    refine W.widen (k := 3) (n := 18) (by exact Nat.le_of_ble_eq_true rfl) (by exact Nat.le_of_ble_eq_true rfl) ?_
    exact vx_ret (W.iret (v := 0) hx hb hret (fun u hu hw => ⟨⟨rfl, ad', _, hext, by rw [hu]; exact hW2, by rw [hu]; exact hat2, fun _ _ => vp_updL_0⟩, hS2.F hu⟩) hS2.2.2 dL_open_26 hlocks)
  · obtain ⟨hc0, hex, rfl⟩ := hp
    have hat1 : va_at D vwCl (oc30 X o f) H1 := hat.kept (hk1 o hat.lt hAC)
    have hMM := hM1 hc0
    subst hMM
    have hcc : code = 1 ∨ code = 2 ∨ code = 3 := by omega
    rcases hcc with rfl | rfl | rfl
    · cases hex
      refine vx_catch (name := IOB) hown [] ⟨0, 10, 13, 24⟩ [⟨0, 10, 17, 13⟩, ⟨0, 10, 21, 15⟩] (by rw [htab]; rfl) (fun _ h => absurd h List.not_mem_nil) (by decide +kernel) (by decide) (hts _ (LT_in (by decide +kernel) (by decide +kernel))) (yb_at (args := #[]) (by simp [YB]) (State.WarmedH.refl s) (hY.1 (Cond.castable IOB IOB) (by simp [YB]))) hce hcv hcl ?_
      refine lv_astore hx hb dL_open_13 hl (by decide) rfl (fun ls9 _ => ?_)
      refine lv_iconst (v := nI 1) hx hb dL_open_15 (by decide +kernel) ?_
      refine W.widen (k := 3) (n := 18) (by exact Nat.le_of_ble_eq_true rfl) (by exact Nat.le_of_ble_eq_true rfl) ?_
      exact vx_ret (W.iret (v := nI 1) hx hb hret (fun u hu hw => ⟨⟨rfl, ad, f, Ext.refl _ _ _, by rw [hu]; exact hW1, by rw [hu]; exact hat1, fun z => by omega⟩, hS1.F hu⟩) hS1.2.2 dL_open_16 hlocks)
    · cases hex
      refine vx_catch (name := IAE9) hown [⟨0, 10, 13, 24⟩] ⟨0, 10, 17, 13⟩ [⟨0, 10, 21, 15⟩] (by rw [htab]; rfl) (List.forall_mem_cons.mpr ⟨Or.inr ⟨by decide, IOB, hts _ (LT_in (by decide +kernel) (by decide +kernel)), hY.2.1⟩, fun _ h => absurd h List.not_mem_nil⟩) (by decide +kernel) (by decide) (hts _ (LT_in (by decide +kernel) (by decide +kernel))) (yb_at (args := #[]) (by simp [YB]) (State.WarmedH.refl s) (hY.1 (Cond.castable IAE9 IAE9) (by simp [YB]))) hce hcv hcl ?_
      refine lv_astore hx hb dL_open_17 hl (by decide) rfl (fun ls9 _ => ?_)
      refine lv_iconst (v := nI 2) hx hb dL_open_19 (by decide +kernel) ?_
      refine W.widen (k := 3) (n := 18) (by exact Nat.le_of_ble_eq_true rfl) (by exact Nat.le_of_ble_eq_true rfl) ?_
      exact vx_ret (W.iret (v := nI 2) hx hb hret (fun u hu hw => ⟨⟨rfl, ad, f, Ext.refl _ _ _, by rw [hu]; exact hW1, by rw [hu]; exact hat1, fun z => by omega⟩, hS1.F hu⟩) hS1.2.2 dL_open_20 hlocks)
    · cases hex
      refine vx_catch (name := ISE9) hown [⟨0, 10, 13, 24⟩, ⟨0, 10, 17, 13⟩] ⟨0, 10, 21, 15⟩ [] (by rw [htab]; rfl) (List.forall_mem_cons.mpr ⟨Or.inr ⟨by decide, IOB, hts _ (LT_in (by decide +kernel) (by decide +kernel)), hY.2.2.1⟩, List.forall_mem_cons.mpr ⟨Or.inr ⟨by decide, IAE9, hts _ (LT_in (by decide +kernel) (by decide +kernel)), hY.2.2.2⟩, fun _ h => absurd h List.not_mem_nil⟩⟩) (by decide +kernel) (by decide) (hts _ (LT_in (by decide +kernel) (by decide +kernel))) (yb_at (args := #[]) (by simp [YB]) (State.WarmedH.refl s) (hY.1 (Cond.castable ISE9 ISE9) (by simp [YB]))) hce hcv hcl ?_
      refine lv_astore hx hb dL_open_21 hl (by decide) rfl (fun ls9 _ => ?_)
      refine lv_iconst (v := nI 3) hx hb dL_open_23 (by decide +kernel) ?_
      refine W.widen (k := 3) (n := 18) (by exact Nat.le_of_ble_eq_true rfl) (by exact Nat.le_of_ble_eq_true rfl) ?_
      exact vx_ret (W.iret (v := nI 3) hx hb hret (fun u hu hw => ⟨⟨rfl, ad, f, Ext.refl _ _ _, by rw [hu]; exact hW1, by rw [hu]; exact hat1, fun z => by omega⟩, hS1.F hu⟩) hS1.2.2 dL_open_24 hlocks)
theorem dL_shut_0 : decode cL_shut 0 = .ok (.aload_n 0, 1) := by decide +kernel
theorem dL_shut_1 : decode cL_shut 1 = .ok (.iload_n 1, 1) := by decide +kernel
theorem dL_shut_2 : decode cL_shut 2 = .ok (.invokevirtual 66, 3) := by decide +kernel
theorem dL_shut_5 : decode cL_shut 5 = .ok (.goto 9, 3) := by decide +kernel
theorem dL_shut_8 : decode cL_shut 8 = .ok (.astore_n 2, 1) := by decide +kernel
theorem dL_shut_9 : decode cL_shut 9 = .ok (.iconst 1, 1) := by decide +kernel
theorem dL_shut_10 : decode cL_shut 10 = .ok (.ireturn, 1) := by decide +kernel
theorem dL_shut_11 : decode cL_shut 11 = .ok (.astore_n 2, 1) := by decide +kernel
theorem dL_shut_12 : decode cL_shut 12 = .ok (.iconst 2, 1) := by decide +kernel
theorem dL_shut_13 : decode cL_shut 13 = .ok (.ireturn, 1) := by decide +kernel
theorem dL_shut_14 : decode cL_shut 14 = .ok (.iconst 0, 1) := by decide +kernel
theorem dL_shut_15 : decode cL_shut 15 = .ok (.ireturn, 1) := by decide +kernel
set_option maxHeartbeats 4000000 in
theorem w_shut {l : Launch} (D : va_G) (X : Nat → ClassId) (ad : Nat → Nat → Nat) {M M1 : Nat → Nat → Bool} {o code : Nat} {t s' : TT} {r : Int32} (a1 : Int32) (hcode : code ≤ 3) (hM1 : code ≠ 0 → M1 = M) (hM0 : M 0 0 = true) (hC : CE l yX4_shut (Cond.code yX4_shut cX4_shut 3 none :: LT) { frames := 7, cells := 2, slots := 12, locals := 111 } D X ad M [.inr (.inl (0, 0)), .inl a1] t 2 12 (fun v M' t1 => PV code (over s') v t1 ∧ M' = M1) (PX [IOB, ISE9] code (over s'))) : CW l yL_shut (Cond.codeWith yL_shut cL_shut 3 (some .int) [(0, 5, 8, 24), (0, 5, 11, 15)] :: LT) { frames := 8, cells := 2, slots := 12, locals := 133 } D X ad M M1 [.inr (.inl (0, 0)), .inl a1] [] o t 2 12 code r s' false := by
  refine wrap_of (by decide +kernel) (by exact Nat.le_of_ble_eq_true rfl) ?_
  intro p e s m args below meth c A f ls hx hb hml hts hown hK htab hlocks hret hA hE hY hAo hne hW hat hl
  have hl : lv_has ls 3 [(0, .ref (ad 0 0)), (1, .int a1)] := hl
  have hAC : ¬ AC ad M s.heap.size o := by
    rintro (⟨kp, i, h1, h2⟩ | h1)
    · exact hne kp i h1 h2.symm
    · exact absurd hat.lt (Nat.not_lt.mpr h1)
  refine lv_aload_n hx hb dL_shut_0 rfl (lv_at hl 0 rfl) ?_
  refine lv_iload_n hx hb dL_shut_1 rfl (lv_at hl 1 rfl) ?_
  refine W.eq (g2 := F0 m 2 ls ((([.inr (.inl (0, 0)), .inl a1] : List VV).map (toV ad)).reverse ++ [])) rfl ?_
  refine run_own hA va_S.rf hW (lcall_E (Ts := LT) (n := 1) (rest := []) hx hb hml hts hown hK hA hE hC (fun w h => h) ⟨LT_in (by decide +kernel) (by decide +kernel), LT_in (by decide +kernel) (by decide +kernel), LT_in (by decide +kernel) (by decide +kernel), LT_in (by decide +kernel) (by decide +kernel), LT_in (by decide +kernel) (by decide +kernel)⟩ (by decide +kernel) ⟨(by exact Nat.le_of_ble_eq_true rfl), (by exact Nat.le_of_ble_eq_true rfl)⟩ rfl rfl rfl ⟨0, 0, rfl, hM0, by unfold isObj; omega, rfl⟩ hW va_S.rf hl.1 (by exact Nat.le_of_ble_eq_true rfl) (by exact Nat.le_of_ble_eq_true rfl) (by exact Nat.le_of_ble_eq_true rfl) dL_shut_2) (fun v t1 ad' M' H1 locs1 hp hext hW1 hS1 hz1 hk1 => ?_) (fun E ce q t1 H1 locs1 hp hW1 hS1 hz1 hk1 hce hcv hcl => ?_)
  · obtain ⟨hp, rfl⟩ := hp
    have hat1 : va_at D vwCl (oc30 X o f) H1 := hat.kept (hk1 o hat.lt hAC)
    cases v with
    | some v => exact hp.elim
    | none =>
    obtain ⟨rfl, rfl⟩ := hp
    refine lv_goto hx hb dL_shut_5 (tgt := 14) (by decide) ?_
    refine lv_iconst (v := 0) hx hb dL_shut_14 (by decide +kernel) ?_
    refine W.widen (k := 2) (n := 12) (by exact Nat.le_of_ble_eq_true rfl) (by exact Nat.le_of_ble_eq_true rfl) ?_
    exact vx_ret (W.iret (v := 0) hx hb hret (fun u hu hw => ⟨⟨rfl, ad', f, hext, by rw [hu]; exact hW1, by rw [hu]; exact hat1, fun _ z => by cases z⟩, hS1.F hu⟩) hS1.2.2 dL_shut_15 hlocks)
  · obtain ⟨hc0, hex, rfl⟩ := hp
    have hat1 : va_at D vwCl (oc30 X o f) H1 := hat.kept (hk1 o hat.lt hAC)
    have hMM := hM1 hc0
    subst hMM
    have hcc : code = 1 ∨ code = 2 ∨ code = 3 := by omega
    rcases hcc with rfl | rfl | rfl
    · cases hex
      refine vx_catch (name := IOB) hown [] ⟨0, 5, 8, 24⟩ [⟨0, 5, 11, 15⟩] (by rw [htab]; rfl) (fun _ h => absurd h List.not_mem_nil) (by decide +kernel) (by decide) (hts _ (LT_in (by decide +kernel) (by decide +kernel))) (yb_at (args := #[]) (by simp [YB]) (State.WarmedH.refl s) (hY.1 (Cond.castable IOB IOB) (by simp [YB]))) hce hcv hcl ?_
      refine lv_astore_n hx hb dL_shut_8 rfl hl (by decide) rfl (fun ls9 _ => ?_)
      refine lv_iconst (v := nI 1) hx hb dL_shut_9 (by decide +kernel) ?_
      refine W.widen (k := 2) (n := 12) (by exact Nat.le_of_ble_eq_true rfl) (by exact Nat.le_of_ble_eq_true rfl) ?_
      exact vx_ret (W.iret (v := nI 1) hx hb hret (fun u hu hw => ⟨⟨rfl, ad, f, Ext.refl _ _ _, by rw [hu]; exact hW1, by rw [hu]; exact hat1, fun z => by omega⟩, hS1.F hu⟩) hS1.2.2 dL_shut_10 hlocks)
    · cases hex
      refine vx_catch (name := ISE9) hown [⟨0, 5, 8, 24⟩] ⟨0, 5, 11, 15⟩ [] (by rw [htab]; rfl) (List.forall_mem_cons.mpr ⟨Or.inr ⟨by decide, IOB, hts _ (LT_in (by decide +kernel) (by decide +kernel)), hY.2.2.1⟩, fun _ h => absurd h List.not_mem_nil⟩) (by decide +kernel) (by decide) (hts _ (LT_in (by decide +kernel) (by decide +kernel))) (yb_at (args := #[]) (by simp [YB]) (State.WarmedH.refl s) (hY.1 (Cond.castable ISE9 ISE9) (by simp [YB]))) hce hcv hcl ?_
      refine lv_astore_n hx hb dL_shut_11 rfl hl (by decide) rfl (fun ls9 _ => ?_)
      refine lv_iconst (v := nI 2) hx hb dL_shut_12 (by decide +kernel) ?_
      refine W.widen (k := 2) (n := 12) (by exact Nat.le_of_ble_eq_true rfl) (by exact Nat.le_of_ble_eq_true rfl) ?_
      exact vx_ret (W.iret (v := nI 2) hx hb hret (fun u hu hw => ⟨⟨rfl, ad, f, Ext.refl _ _ _, by rw [hu]; exact hW1, by rw [hu]; exact hat1, fun z => by omega⟩, hS1.F hu⟩) hS1.2.2 dL_shut_13 hlocks)
    · cases hex
theorem dL_hold_0 : decode cL_hold 0 = .ok (.aload_n 3, 1) := by decide +kernel
theorem dL_hold_1 : decode cL_hold 1 = .ok (.iconst 0, 1) := by decide +kernel
theorem dL_hold_2 : decode cL_hold 2 = .ok (.aload_n 0, 1) := by decide +kernel
theorem dL_hold_3 : decode cL_hold 3 = .ok (.iload_n 1, 1) := by decide +kernel
theorem dL_hold_4 : decode cL_hold 4 = .ok (.iload_n 2, 1) := by decide +kernel
theorem dL_hold_5 : decode cL_hold 5 = .ok (.invokevirtual 70, 3) := by decide +kernel
theorem dL_hold_8 : decode cL_hold 8 = .ok (.i2l, 1) := by decide +kernel
theorem dL_hold_9 : decode cL_hold 9 = .ok (.lastore, 1) := by decide +kernel
theorem dL_hold_10 : decode cL_hold 10 = .ok (.goto 15, 3) := by decide +kernel
theorem dL_hold_13 : decode cL_hold 13 = .ok (.astore 4, 2) := by decide +kernel
theorem dL_hold_15 : decode cL_hold 15 = .ok (.iconst 1, 1) := by decide +kernel
theorem dL_hold_16 : decode cL_hold 16 = .ok (.ireturn, 1) := by decide +kernel
theorem dL_hold_17 : decode cL_hold 17 = .ok (.astore 4, 2) := by decide +kernel
theorem dL_hold_19 : decode cL_hold 19 = .ok (.iconst 2, 1) := by decide +kernel
theorem dL_hold_20 : decode cL_hold 20 = .ok (.ireturn, 1) := by decide +kernel
theorem dL_hold_21 : decode cL_hold 21 = .ok (.astore 4, 2) := by decide +kernel
theorem dL_hold_23 : decode cL_hold 23 = .ok (.iconst 3, 1) := by decide +kernel
theorem dL_hold_24 : decode cL_hold 24 = .ok (.ireturn, 1) := by decide +kernel
theorem dL_hold_25 : decode cL_hold 25 = .ok (.iconst 0, 1) := by decide +kernel
theorem dL_hold_26 : decode cL_hold 26 = .ok (.ireturn, 1) := by decide +kernel
set_option maxHeartbeats 4000000 in
theorem w_hold {l : Launch} (D : va_G) (X : Nat → ClassId) (ad : Nat → Nat → Nat) {M M1 : Nat → Nat → Bool} {o code : Nat} {t s' : TT} {r : Int32} (a1 a2 : Int32) (hcode : code ≤ 3) (hM1 : code ≠ 0 → M1 = M) (hM0 : M 0 0 = true) (hC : CE l yX4_hold (Cond.code yX4_hold cX4_hold 4 (some .int) :: LT) { frames := 7, cells := 3, slots := 18, locals := 112 } D X ad M [.inr (.inl (0, 0)), .inl a1, .inl a2] t 3 18 (fun v M' t1 => PO code r (over s') v t1 ∧ M' = M1) (PX [IOB, IAE9, ISE9] code (over s'))) : CW l yL_hold (Cond.codeWith yL_hold cL_hold 5 (some .int) [(0, 10, 13, 24), (0, 10, 17, 13), (0, 10, 21, 15)] :: LT) { frames := 8, cells := 3, slots := 18, locals := 135 } D X ad M M1 [.inr (.inl (0, 0)), .inl a1, .inl a2] [.ref o] o t 3 18 code r s' true := by
  refine wrap_of (by decide +kernel) (by exact Nat.le_of_ble_eq_true rfl) ?_
  intro p e s m args below meth c A f ls hx hb hml hts hown hK htab hlocks hret hA hE hY hAo hne hW hat hl
  have hl : lv_has ls 5 [(0, .ref (ad 0 0)), (1, .int a1), (2, .int a2), (3, .ref o)] := hl
  have hAC : ¬ AC ad M s.heap.size o := by
    rintro (⟨kp, i, h1, h2⟩ | h1)
    · exact hne kp i h1 h2.symm
    · exact absurd hat.lt (Nat.not_lt.mpr h1)
  refine lv_aload_n hx hb dL_hold_0 rfl (lv_at hl 3 rfl) ?_
  refine lv_iconst (v := 0) hx hb dL_hold_1 (by decide +kernel) ?_
  refine lv_aload_n hx hb dL_hold_2 rfl (lv_at hl 0 rfl) ?_
  refine lv_iload_n hx hb dL_hold_3 rfl (lv_at hl 1 rfl) ?_
  refine lv_iload_n hx hb dL_hold_4 rfl (lv_at hl 2 rfl) ?_
  refine W.eq (g2 := F0 m 5 ls ((([.inr (.inl (0, 0)), .inl a1, .inl a2] : List VV).map (toV ad)).reverse ++ [.int 0, .ref o])) rfl ?_
  refine run_own hA va_S.rf hW (lcall_E (Ts := LT) (n := 2) (rest := [.int 0, .ref o]) hx hb hml hts hown hK hA hE hC (fun w h => h) ⟨LT_in (by decide +kernel) (by decide +kernel), LT_in (by decide +kernel) (by decide +kernel), LT_in (by decide +kernel) (by decide +kernel), LT_in (by decide +kernel) (by decide +kernel), LT_in (by decide +kernel) (by decide +kernel)⟩ (by decide +kernel) ⟨(by exact Nat.le_of_ble_eq_true rfl), (by exact Nat.le_of_ble_eq_true rfl)⟩ rfl rfl rfl ⟨0, 0, rfl, hM0, by unfold isObj; omega, rfl⟩ hW va_S.rf hl.1 (by exact Nat.le_of_ble_eq_true rfl) (by exact Nat.le_of_ble_eq_true rfl) (by exact Nat.le_of_ble_eq_true rfl) dL_hold_5) (fun v t1 ad' M' H1 locs1 hp hext hW1 hS1 hz1 hk1 => ?_) (fun E ce q t1 H1 locs1 hp hW1 hS1 hz1 hk1 hce hcv hcl => ?_)
  · obtain ⟨hp, rfl⟩ := hp
    have hat1 : va_at D vwCl (oc30 X o f) H1 := hat.kept (hk1 o hat.lt hAC)
    cases v with
    | none => exact hp.elim
    | some v =>
    cases v with
    | inr _ => exact hp.elim
    | inl r2 =>
    obtain ⟨rfl, rfl, rfl⟩ := hp
    have hne1 : ∀ kp i, M' kp i = true → ad' kp i ≠ o := fun kp i h => ext_ne hext hne hat.lt h
    refine W.eq (g2 := F0 m 8 ls [.int r2, .int 0, .ref o]) rfl ?_
    refine lv_i2l hx hb dL_hold_8 rfl ?_
    refine sw_last hx hb hK hat1 hS1 hAo dL_hold_9 (fun H2 locs2 hat2 oq2 hS2 => ?_)
    have hW2 := hW1.kept (fun kp i hi => oq2 _ (hne1 kp i hi))
    refine lv_goto hx hb dL_hold_10 (tgt := 25) (by decide) ?_
    refine lv_iconst (v := 0) hx hb dL_hold_25 (by decide +kernel) ?_
    refine W.widen (k := 3) (n := 18) (by exact Nat.le_of_ble_eq_true rfl) (by exact Nat.le_of_ble_eq_true rfl) ?_
    exact vx_ret (W.iret (v := 0) hx hb hret (fun u hu hw => ⟨⟨rfl, ad', _, hext, by rw [hu]; exact hW2, by rw [hu]; exact hat2, fun _ _ => vp_updL_0⟩, hS2.F hu⟩) hS2.2.2 dL_hold_26 hlocks)
  · obtain ⟨hc0, hex, rfl⟩ := hp
    have hat1 : va_at D vwCl (oc30 X o f) H1 := hat.kept (hk1 o hat.lt hAC)
    have hMM := hM1 hc0
    subst hMM
    have hcc : code = 1 ∨ code = 2 ∨ code = 3 := by omega
    rcases hcc with rfl | rfl | rfl
    · cases hex
      refine vx_catch (name := IOB) hown [] ⟨0, 10, 13, 24⟩ [⟨0, 10, 17, 13⟩, ⟨0, 10, 21, 15⟩] (by rw [htab]; rfl) (fun _ h => absurd h List.not_mem_nil) (by decide +kernel) (by decide) (hts _ (LT_in (by decide +kernel) (by decide +kernel))) (yb_at (args := #[]) (by simp [YB]) (State.WarmedH.refl s) (hY.1 (Cond.castable IOB IOB) (by simp [YB]))) hce hcv hcl ?_
      refine lv_astore hx hb dL_hold_13 hl (by decide) rfl (fun ls9 _ => ?_)
      refine lv_iconst (v := nI 1) hx hb dL_hold_15 (by decide +kernel) ?_
      refine W.widen (k := 3) (n := 18) (by exact Nat.le_of_ble_eq_true rfl) (by exact Nat.le_of_ble_eq_true rfl) ?_
      exact vx_ret (W.iret (v := nI 1) hx hb hret (fun u hu hw => ⟨⟨rfl, ad, f, Ext.refl _ _ _, by rw [hu]; exact hW1, by rw [hu]; exact hat1, fun z => by omega⟩, hS1.F hu⟩) hS1.2.2 dL_hold_16 hlocks)
    · cases hex
      refine vx_catch (name := IAE9) hown [⟨0, 10, 13, 24⟩] ⟨0, 10, 17, 13⟩ [⟨0, 10, 21, 15⟩] (by rw [htab]; rfl) (List.forall_mem_cons.mpr ⟨Or.inr ⟨by decide, IOB, hts _ (LT_in (by decide +kernel) (by decide +kernel)), hY.2.1⟩, fun _ h => absurd h List.not_mem_nil⟩) (by decide +kernel) (by decide) (hts _ (LT_in (by decide +kernel) (by decide +kernel))) (yb_at (args := #[]) (by simp [YB]) (State.WarmedH.refl s) (hY.1 (Cond.castable IAE9 IAE9) (by simp [YB]))) hce hcv hcl ?_
      refine lv_astore hx hb dL_hold_17 hl (by decide) rfl (fun ls9 _ => ?_)
      refine lv_iconst (v := nI 2) hx hb dL_hold_19 (by decide +kernel) ?_
      refine W.widen (k := 3) (n := 18) (by exact Nat.le_of_ble_eq_true rfl) (by exact Nat.le_of_ble_eq_true rfl) ?_
      exact vx_ret (W.iret (v := nI 2) hx hb hret (fun u hu hw => ⟨⟨rfl, ad, f, Ext.refl _ _ _, by rw [hu]; exact hW1, by rw [hu]; exact hat1, fun z => by omega⟩, hS1.F hu⟩) hS1.2.2 dL_hold_20 hlocks)
    · cases hex
      refine vx_catch (name := ISE9) hown [⟨0, 10, 13, 24⟩, ⟨0, 10, 17, 13⟩] ⟨0, 10, 21, 15⟩ [] (by rw [htab]; rfl) (List.forall_mem_cons.mpr ⟨Or.inr ⟨by decide, IOB, hts _ (LT_in (by decide +kernel) (by decide +kernel)), hY.2.2.1⟩, List.forall_mem_cons.mpr ⟨Or.inr ⟨by decide, IAE9, hts _ (LT_in (by decide +kernel) (by decide +kernel)), hY.2.2.2⟩, fun _ h => absurd h List.not_mem_nil⟩⟩) (by decide +kernel) (by decide) (hts _ (LT_in (by decide +kernel) (by decide +kernel))) (yb_at (args := #[]) (by simp [YB]) (State.WarmedH.refl s) (hY.1 (Cond.castable ISE9 ISE9) (by simp [YB]))) hce hcv hcl ?_
      refine lv_astore hx hb dL_hold_21 hl (by decide) rfl (fun ls9 _ => ?_)
      refine lv_iconst (v := nI 3) hx hb dL_hold_23 (by decide +kernel) ?_
      refine W.widen (k := 3) (n := 18) (by exact Nat.le_of_ble_eq_true rfl) (by exact Nat.le_of_ble_eq_true rfl) ?_
      exact vx_ret (W.iret (v := nI 3) hx hb hret (fun u hu hw => ⟨⟨rfl, ad, f, Ext.refl _ _ _, by rw [hu]; exact hW1, by rw [hu]; exact hat1, fun z => by omega⟩, hS1.F hu⟩) hS1.2.2 dL_hold_24 hlocks)
theorem dL_depart_0 : decode cL_depart 0 = .ok (.aload_n 2, 1) := by decide +kernel
theorem dL_depart_1 : decode cL_depart 1 = .ok (.iconst 0, 1) := by decide +kernel
theorem dL_depart_2 : decode cL_depart 2 = .ok (.aload_n 0, 1) := by decide +kernel
theorem dL_depart_3 : decode cL_depart 3 = .ok (.iload_n 1, 1) := by decide +kernel
theorem dL_depart_4 : decode cL_depart 4 = .ok (.invokevirtual 73, 3) := by decide +kernel
theorem dL_depart_7 : decode cL_depart 7 = .ok (.i2l, 1) := by decide +kernel
theorem dL_depart_8 : decode cL_depart 8 = .ok (.lastore, 1) := by decide +kernel
theorem dL_depart_9 : decode cL_depart 9 = .ok (.goto 9, 3) := by decide +kernel
theorem dL_depart_12 : decode cL_depart 12 = .ok (.astore_n 3, 1) := by decide +kernel
theorem dL_depart_13 : decode cL_depart 13 = .ok (.iconst 1, 1) := by decide +kernel
theorem dL_depart_14 : decode cL_depart 14 = .ok (.ireturn, 1) := by decide +kernel
theorem dL_depart_15 : decode cL_depart 15 = .ok (.astore_n 3, 1) := by decide +kernel
theorem dL_depart_16 : decode cL_depart 16 = .ok (.iconst 2, 1) := by decide +kernel
theorem dL_depart_17 : decode cL_depart 17 = .ok (.ireturn, 1) := by decide +kernel
theorem dL_depart_18 : decode cL_depart 18 = .ok (.iconst 0, 1) := by decide +kernel
theorem dL_depart_19 : decode cL_depart 19 = .ok (.ireturn, 1) := by decide +kernel
set_option maxHeartbeats 4000000 in
theorem w_depart {l : Launch} (D : va_G) (X : Nat → ClassId) (ad : Nat → Nat → Nat) {M M1 : Nat → Nat → Bool} {o code : Nat} {t s' : TT} {r : Int32} (a1 : Int32) (hcode : code ≤ 3) (hM1 : code ≠ 0 → M1 = M) (hM0 : M 0 0 = true) (hC : CE l yX4_depart (Cond.code yX4_depart cX4_depart 4 (some .int) :: LT) { frames := 7, cells := 2, slots := 12, locals := 111 } D X ad M [.inr (.inl (0, 0)), .inl a1] t 2 12 (fun v M' t1 => PO code r (over s') v t1 ∧ M' = M1) (PX [IOB, ISE9] code (over s'))) : CW l yL_depart (Cond.codeWith yL_depart cL_depart 4 (some .int) [(0, 9, 12, 24), (0, 9, 15, 15)] :: LT) { frames := 8, cells := 2, slots := 12, locals := 134 } D X ad M M1 [.inr (.inl (0, 0)), .inl a1] [.ref o] o t 2 12 code r s' true := by
  refine wrap_of (by decide +kernel) (by exact Nat.le_of_ble_eq_true rfl) ?_
  intro p e s m args below meth c A f ls hx hb hml hts hown hK htab hlocks hret hA hE hY hAo hne hW hat hl
  have hl : lv_has ls 4 [(0, .ref (ad 0 0)), (1, .int a1), (2, .ref o)] := hl
  have hAC : ¬ AC ad M s.heap.size o := by
    rintro (⟨kp, i, h1, h2⟩ | h1)
    · exact hne kp i h1 h2.symm
    · exact absurd hat.lt (Nat.not_lt.mpr h1)
  refine lv_aload_n hx hb dL_depart_0 rfl (lv_at hl 2 rfl) ?_
  refine lv_iconst (v := 0) hx hb dL_depart_1 (by decide +kernel) ?_
  refine lv_aload_n hx hb dL_depart_2 rfl (lv_at hl 0 rfl) ?_
  refine lv_iload_n hx hb dL_depart_3 rfl (lv_at hl 1 rfl) ?_
  refine W.eq (g2 := F0 m 4 ls ((([.inr (.inl (0, 0)), .inl a1] : List VV).map (toV ad)).reverse ++ [.int 0, .ref o])) rfl ?_
  refine run_own hA va_S.rf hW (lcall_E (Ts := LT) (n := 1) (rest := [.int 0, .ref o]) hx hb hml hts hown hK hA hE hC (fun w h => h) ⟨LT_in (by decide +kernel) (by decide +kernel), LT_in (by decide +kernel) (by decide +kernel), LT_in (by decide +kernel) (by decide +kernel), LT_in (by decide +kernel) (by decide +kernel), LT_in (by decide +kernel) (by decide +kernel)⟩ (by decide +kernel) ⟨(by exact Nat.le_of_ble_eq_true rfl), (by exact Nat.le_of_ble_eq_true rfl)⟩ rfl rfl rfl ⟨0, 0, rfl, hM0, by unfold isObj; omega, rfl⟩ hW va_S.rf hl.1 (by exact Nat.le_of_ble_eq_true rfl) (by exact Nat.le_of_ble_eq_true rfl) (by exact Nat.le_of_ble_eq_true rfl) dL_depart_4) (fun v t1 ad' M' H1 locs1 hp hext hW1 hS1 hz1 hk1 => ?_) (fun E ce q t1 H1 locs1 hp hW1 hS1 hz1 hk1 hce hcv hcl => ?_)
  · obtain ⟨hp, rfl⟩ := hp
    have hat1 : va_at D vwCl (oc30 X o f) H1 := hat.kept (hk1 o hat.lt hAC)
    cases v with
    | none => exact hp.elim
    | some v =>
    cases v with
    | inr _ => exact hp.elim
    | inl r2 =>
    obtain ⟨rfl, rfl, rfl⟩ := hp
    have hne1 : ∀ kp i, M' kp i = true → ad' kp i ≠ o := fun kp i h => ext_ne hext hne hat.lt h
    refine W.eq (g2 := F0 m 7 ls [.int r2, .int 0, .ref o]) rfl ?_
    refine lv_i2l hx hb dL_depart_7 rfl ?_
    refine sw_last hx hb hK hat1 hS1 hAo dL_depart_8 (fun H2 locs2 hat2 oq2 hS2 => ?_)
    have hW2 := hW1.kept (fun kp i hi => oq2 _ (hne1 kp i hi))
    refine lv_goto hx hb dL_depart_9 (tgt := 18) (by decide) ?_
    refine lv_iconst (v := 0) hx hb dL_depart_18 (by decide +kernel) ?_
    refine W.widen (k := 2) (n := 12) (by exact Nat.le_of_ble_eq_true rfl) (by exact Nat.le_of_ble_eq_true rfl) ?_
    exact vx_ret (W.iret (v := 0) hx hb hret (fun u hu hw => ⟨⟨rfl, ad', _, hext, by rw [hu]; exact hW2, by rw [hu]; exact hat2, fun _ _ => vp_updL_0⟩, hS2.F hu⟩) hS2.2.2 dL_depart_19 hlocks)
  · obtain ⟨hc0, hex, rfl⟩ := hp
    have hat1 : va_at D vwCl (oc30 X o f) H1 := hat.kept (hk1 o hat.lt hAC)
    have hMM := hM1 hc0
    subst hMM
    have hcc : code = 1 ∨ code = 2 ∨ code = 3 := by omega
    rcases hcc with rfl | rfl | rfl
    · cases hex
      refine vx_catch (name := IOB) hown [] ⟨0, 9, 12, 24⟩ [⟨0, 9, 15, 15⟩] (by rw [htab]; rfl) (fun _ h => absurd h List.not_mem_nil) (by decide +kernel) (by decide) (hts _ (LT_in (by decide +kernel) (by decide +kernel))) (yb_at (args := #[]) (by simp [YB]) (State.WarmedH.refl s) (hY.1 (Cond.castable IOB IOB) (by simp [YB]))) hce hcv hcl ?_
      refine lv_astore_n hx hb dL_depart_12 rfl hl (by decide) rfl (fun ls9 _ => ?_)
      refine lv_iconst (v := nI 1) hx hb dL_depart_13 (by decide +kernel) ?_
      refine W.widen (k := 2) (n := 12) (by exact Nat.le_of_ble_eq_true rfl) (by exact Nat.le_of_ble_eq_true rfl) ?_
      exact vx_ret (W.iret (v := nI 1) hx hb hret (fun u hu hw => ⟨⟨rfl, ad, f, Ext.refl _ _ _, by rw [hu]; exact hW1, by rw [hu]; exact hat1, fun z => by omega⟩, hS1.F hu⟩) hS1.2.2 dL_depart_14 hlocks)
    · cases hex
      refine vx_catch (name := ISE9) hown [⟨0, 9, 12, 24⟩] ⟨0, 9, 15, 15⟩ [] (by rw [htab]; rfl) (List.forall_mem_cons.mpr ⟨Or.inr ⟨by decide, IOB, hts _ (LT_in (by decide +kernel) (by decide +kernel)), hY.2.2.1⟩, fun _ h => absurd h List.not_mem_nil⟩) (by decide +kernel) (by decide) (hts _ (LT_in (by decide +kernel) (by decide +kernel))) (yb_at (args := #[]) (by simp [YB]) (State.WarmedH.refl s) (hY.1 (Cond.castable ISE9 ISE9) (by simp [YB]))) hce hcv hcl ?_
      refine lv_astore_n hx hb dL_depart_15 rfl hl (by decide) rfl (fun ls9 _ => ?_)
      refine lv_iconst (v := nI 2) hx hb dL_depart_16 (by decide +kernel) ?_
      refine W.widen (k := 2) (n := 12) (by exact Nat.le_of_ble_eq_true rfl) (by exact Nat.le_of_ble_eq_true rfl) ?_
      exact vx_ret (W.iret (v := nI 2) hx hb hret (fun u hu hw => ⟨⟨rfl, ad, f, Ext.refl _ _ _, by rw [hu]; exact hW1, by rw [hu]; exact hat1, fun z => by omega⟩, hS1.F hu⟩) hS1.2.2 dL_depart_17 hlocks)
    · cases hex
theorem dL_rate_0 : decode cL_rate 0 = .ok (.aload_n 3, 1) := by decide +kernel
theorem dL_rate_1 : decode cL_rate 1 = .ok (.iconst 0, 1) := by decide +kernel
theorem dL_rate_2 : decode cL_rate 2 = .ok (.aload_n 0, 1) := by decide +kernel
theorem dL_rate_3 : decode cL_rate 3 = .ok (.iload_n 1, 1) := by decide +kernel
theorem dL_rate_4 : decode cL_rate 4 = .ok (.iload_n 2, 1) := by decide +kernel
theorem dL_rate_5 : decode cL_rate 5 = .ok (.invokevirtual 76, 3) := by decide +kernel
theorem dL_rate_8 : decode cL_rate 8 = .ok (.i2l, 1) := by decide +kernel
theorem dL_rate_9 : decode cL_rate 9 = .ok (.lastore, 1) := by decide +kernel
theorem dL_rate_10 : decode cL_rate 10 = .ok (.goto 11, 3) := by decide +kernel
theorem dL_rate_13 : decode cL_rate 13 = .ok (.astore 4, 2) := by decide +kernel
theorem dL_rate_15 : decode cL_rate 15 = .ok (.iconst 1, 1) := by decide +kernel
theorem dL_rate_16 : decode cL_rate 16 = .ok (.ireturn, 1) := by decide +kernel
theorem dL_rate_17 : decode cL_rate 17 = .ok (.astore 4, 2) := by decide +kernel
theorem dL_rate_19 : decode cL_rate 19 = .ok (.iconst 2, 1) := by decide +kernel
theorem dL_rate_20 : decode cL_rate 20 = .ok (.ireturn, 1) := by decide +kernel
theorem dL_rate_21 : decode cL_rate 21 = .ok (.iconst 0, 1) := by decide +kernel
theorem dL_rate_22 : decode cL_rate 22 = .ok (.ireturn, 1) := by decide +kernel
set_option maxHeartbeats 4000000 in
theorem w_rate {l : Launch} (D : va_G) (X : Nat → ClassId) (ad : Nat → Nat → Nat) {M M1 : Nat → Nat → Bool} {o code : Nat} {t s' : TT} {r : Int32} (a1 a2 : Int32) (hcode : code ≤ 3) (hM1 : code ≠ 0 → M1 = M) (hM0 : M 0 0 = true) (hC : CE l yX4_rate (Cond.code yX4_rate cX4_rate 5 (some .int) :: LT) { frames := 7, cells := 2, slots := 12, locals := 112 } D X ad M [.inr (.inl (0, 0)), .inl a1, .inl a2] t 2 12 (fun v M' t1 => PO code r (over s') v t1 ∧ M' = M1) (PX [IOB, IAE9] code (over s'))) : CW l yL_rate (Cond.codeWith yL_rate cL_rate 5 (some .int) [(0, 10, 13, 24), (0, 10, 17, 13)] :: LT) { frames := 8, cells := 2, slots := 12, locals := 136 } D X ad M M1 [.inr (.inl (0, 0)), .inl a1, .inl a2] [.ref o] o t 2 12 code r s' true := by
  refine wrap_of (by decide +kernel) (by exact Nat.le_of_ble_eq_true rfl) ?_
  intro p e s m args below meth c A f ls hx hb hml hts hown hK htab hlocks hret hA hE hY hAo hne hW hat hl
  have hl : lv_has ls 5 [(0, .ref (ad 0 0)), (1, .int a1), (2, .int a2), (3, .ref o)] := hl
  have hAC : ¬ AC ad M s.heap.size o := by
    rintro (⟨kp, i, h1, h2⟩ | h1)
    · exact hne kp i h1 h2.symm
    · exact absurd hat.lt (Nat.not_lt.mpr h1)
  refine lv_aload_n hx hb dL_rate_0 rfl (lv_at hl 3 rfl) ?_
  refine lv_iconst (v := 0) hx hb dL_rate_1 (by decide +kernel) ?_
  refine lv_aload_n hx hb dL_rate_2 rfl (lv_at hl 0 rfl) ?_
  refine lv_iload_n hx hb dL_rate_3 rfl (lv_at hl 1 rfl) ?_
  refine lv_iload_n hx hb dL_rate_4 rfl (lv_at hl 2 rfl) ?_
  refine W.eq (g2 := F0 m 5 ls ((([.inr (.inl (0, 0)), .inl a1, .inl a2] : List VV).map (toV ad)).reverse ++ [.int 0, .ref o])) rfl ?_
  refine run_own hA va_S.rf hW (lcall_E (Ts := LT) (n := 2) (rest := [.int 0, .ref o]) hx hb hml hts hown hK hA hE hC (fun w h => h) ⟨LT_in (by decide +kernel) (by decide +kernel), LT_in (by decide +kernel) (by decide +kernel), LT_in (by decide +kernel) (by decide +kernel), LT_in (by decide +kernel) (by decide +kernel), LT_in (by decide +kernel) (by decide +kernel)⟩ (by decide +kernel) ⟨(by exact Nat.le_of_ble_eq_true rfl), (by exact Nat.le_of_ble_eq_true rfl)⟩ rfl rfl rfl ⟨0, 0, rfl, hM0, by unfold isObj; omega, rfl⟩ hW va_S.rf hl.1 (by exact Nat.le_of_ble_eq_true rfl) (by exact Nat.le_of_ble_eq_true rfl) (by exact Nat.le_of_ble_eq_true rfl) dL_rate_5) (fun v t1 ad' M' H1 locs1 hp hext hW1 hS1 hz1 hk1 => ?_) (fun E ce q t1 H1 locs1 hp hW1 hS1 hz1 hk1 hce hcv hcl => ?_)
  · obtain ⟨hp, rfl⟩ := hp
    have hat1 : va_at D vwCl (oc30 X o f) H1 := hat.kept (hk1 o hat.lt hAC)
    cases v with
    | none => exact hp.elim
    | some v =>
    cases v with
    | inr _ => exact hp.elim
    | inl r2 =>
    obtain ⟨rfl, rfl, rfl⟩ := hp
    have hne1 : ∀ kp i, M' kp i = true → ad' kp i ≠ o := fun kp i h => ext_ne hext hne hat.lt h
    refine W.eq (g2 := F0 m 8 ls [.int r2, .int 0, .ref o]) rfl ?_
    refine lv_i2l hx hb dL_rate_8 rfl ?_
    refine sw_last hx hb hK hat1 hS1 hAo dL_rate_9 (fun H2 locs2 hat2 oq2 hS2 => ?_)
    have hW2 := hW1.kept (fun kp i hi => oq2 _ (hne1 kp i hi))
    refine lv_goto hx hb dL_rate_10 (tgt := 21) (by decide) ?_
    refine lv_iconst (v := 0) hx hb dL_rate_21 (by decide +kernel) ?_
    refine W.widen (k := 2) (n := 12) (by exact Nat.le_of_ble_eq_true rfl) (by exact Nat.le_of_ble_eq_true rfl) ?_
    exact vx_ret (W.iret (v := 0) hx hb hret (fun u hu hw => ⟨⟨rfl, ad', _, hext, by rw [hu]; exact hW2, by rw [hu]; exact hat2, fun _ _ => vp_updL_0⟩, hS2.F hu⟩) hS2.2.2 dL_rate_22 hlocks)
  · obtain ⟨hc0, hex, rfl⟩ := hp
    have hat1 : va_at D vwCl (oc30 X o f) H1 := hat.kept (hk1 o hat.lt hAC)
    have hMM := hM1 hc0
    subst hMM
    have hcc : code = 1 ∨ code = 2 ∨ code = 3 := by omega
    rcases hcc with rfl | rfl | rfl
    · cases hex
      refine vx_catch (name := IOB) hown [] ⟨0, 10, 13, 24⟩ [⟨0, 10, 17, 13⟩] (by rw [htab]; rfl) (fun _ h => absurd h List.not_mem_nil) (by decide +kernel) (by decide) (hts _ (LT_in (by decide +kernel) (by decide +kernel))) (yb_at (args := #[]) (by simp [YB]) (State.WarmedH.refl s) (hY.1 (Cond.castable IOB IOB) (by simp [YB]))) hce hcv hcl ?_
      refine lv_astore hx hb dL_rate_13 hl (by decide) rfl (fun ls9 _ => ?_)
      refine lv_iconst (v := nI 1) hx hb dL_rate_15 (by decide +kernel) ?_
      refine W.widen (k := 2) (n := 12) (by exact Nat.le_of_ble_eq_true rfl) (by exact Nat.le_of_ble_eq_true rfl) ?_
      exact vx_ret (W.iret (v := nI 1) hx hb hret (fun u hu hw => ⟨⟨rfl, ad, f, Ext.refl _ _ _, by rw [hu]; exact hW1, by rw [hu]; exact hat1, fun z => by omega⟩, hS1.F hu⟩) hS1.2.2 dL_rate_16 hlocks)
    · cases hex
      refine vx_catch (name := IAE9) hown [⟨0, 10, 13, 24⟩] ⟨0, 10, 17, 13⟩ [] (by rw [htab]; rfl) (List.forall_mem_cons.mpr ⟨Or.inr ⟨by decide, IOB, hts _ (LT_in (by decide +kernel) (by decide +kernel)), hY.2.1⟩, fun _ h => absurd h List.not_mem_nil⟩) (by decide +kernel) (by decide) (hts _ (LT_in (by decide +kernel) (by decide +kernel))) (yb_at (args := #[]) (by simp [YB]) (State.WarmedH.refl s) (hY.1 (Cond.castable IAE9 IAE9) (by simp [YB]))) hce hcv hcl ?_
      refine lv_astore hx hb dL_rate_17 hl (by decide) rfl (fun ls9 _ => ?_)
      refine lv_iconst (v := nI 2) hx hb dL_rate_19 (by decide +kernel) ?_
      refine W.widen (k := 2) (n := 12) (by exact Nat.le_of_ble_eq_true rfl) (by exact Nat.le_of_ble_eq_true rfl) ?_
      exact vx_ret (W.iret (v := nI 2) hx hb hret (fun u hu hw => ⟨⟨rfl, ad, f, Ext.refl _ _ _, by rw [hu]; exact hW1, by rw [hu]; exact hat1, fun z => by omega⟩, hS1.F hu⟩) hS1.2.2 dL_rate_20 hlocks)
    · cases hex
theorem dL_platformIs_0 : decode cL_platformIs 0 = .ok (.aload_n 3, 1) := by decide +kernel
theorem dL_platformIs_1 : decode cL_platformIs 1 = .ok (.iconst 0, 1) := by decide +kernel
theorem dL_platformIs_2 : decode cL_platformIs 2 = .ok (.aload_n 0, 1) := by decide +kernel
theorem dL_platformIs_3 : decode cL_platformIs 3 = .ok (.iload_n 1, 1) := by decide +kernel
theorem dL_platformIs_4 : decode cL_platformIs 4 = .ok (.iload_n 2, 1) := by decide +kernel
theorem dL_platformIs_5 : decode cL_platformIs 5 = .ok (.invokevirtual 79, 3) := by decide +kernel
theorem dL_platformIs_8 : decode cL_platformIs 8 = .ok (.i2l, 1) := by decide +kernel
theorem dL_platformIs_9 : decode cL_platformIs 9 = .ok (.lastore, 1) := by decide +kernel
theorem dL_platformIs_10 : decode cL_platformIs 10 = .ok (.goto 11, 3) := by decide +kernel
theorem dL_platformIs_13 : decode cL_platformIs 13 = .ok (.astore 4, 2) := by decide +kernel
theorem dL_platformIs_15 : decode cL_platformIs 15 = .ok (.iconst 1, 1) := by decide +kernel
theorem dL_platformIs_16 : decode cL_platformIs 16 = .ok (.ireturn, 1) := by decide +kernel
theorem dL_platformIs_17 : decode cL_platformIs 17 = .ok (.astore 4, 2) := by decide +kernel
theorem dL_platformIs_19 : decode cL_platformIs 19 = .ok (.iconst 2, 1) := by decide +kernel
theorem dL_platformIs_20 : decode cL_platformIs 20 = .ok (.ireturn, 1) := by decide +kernel
theorem dL_platformIs_21 : decode cL_platformIs 21 = .ok (.iconst 0, 1) := by decide +kernel
theorem dL_platformIs_22 : decode cL_platformIs 22 = .ok (.ireturn, 1) := by decide +kernel
set_option maxHeartbeats 4000000 in
theorem w_platformIs {l : Launch} (D : va_G) (X : Nat → ClassId) (ad : Nat → Nat → Nat) {M M1 : Nat → Nat → Bool} {o code : Nat} {t s' : TT} {r : Int32} (a1 a2 : Int32) (hcode : code ≤ 3) (hM1 : code ≠ 0 → M1 = M) (hM0 : M 0 0 = true) (hC : CE l yX4_platformIs (Cond.code yX4_platformIs cX4_platformIs 3 (some .int) :: LT) { frames := 7, cells := 2, slots := 12, locals := 112 } D X ad M [.inr (.inl (0, 0)), .inl a1, .inl a2] t 2 12 (fun v M' t1 => PO code r (over s') v t1 ∧ M' = M1) (PX [IOB, IAE9] code (over s'))) : CW l yL_platformIs (Cond.codeWith yL_platformIs cL_platformIs 5 (some .int) [(0, 10, 13, 24), (0, 10, 17, 13)] :: LT) { frames := 8, cells := 2, slots := 12, locals := 134 } D X ad M M1 [.inr (.inl (0, 0)), .inl a1, .inl a2] [.ref o] o t 2 12 code r s' true := by
  refine wrap_of (by decide +kernel) (by exact Nat.le_of_ble_eq_true rfl) ?_
  intro p e s m args below meth c A f ls hx hb hml hts hown hK htab hlocks hret hA hE hY hAo hne hW hat hl
  have hl : lv_has ls 5 [(0, .ref (ad 0 0)), (1, .int a1), (2, .int a2), (3, .ref o)] := hl
  have hAC : ¬ AC ad M s.heap.size o := by
    rintro (⟨kp, i, h1, h2⟩ | h1)
    · exact hne kp i h1 h2.symm
    · exact absurd hat.lt (Nat.not_lt.mpr h1)
  refine lv_aload_n hx hb dL_platformIs_0 rfl (lv_at hl 3 rfl) ?_
  refine lv_iconst (v := 0) hx hb dL_platformIs_1 (by decide +kernel) ?_
  refine lv_aload_n hx hb dL_platformIs_2 rfl (lv_at hl 0 rfl) ?_
  refine lv_iload_n hx hb dL_platformIs_3 rfl (lv_at hl 1 rfl) ?_
  refine lv_iload_n hx hb dL_platformIs_4 rfl (lv_at hl 2 rfl) ?_
  refine W.eq (g2 := F0 m 5 ls ((([.inr (.inl (0, 0)), .inl a1, .inl a2] : List VV).map (toV ad)).reverse ++ [.int 0, .ref o])) rfl ?_
  refine run_own hA va_S.rf hW (lcall_E (Ts := LT) (n := 2) (rest := [.int 0, .ref o]) hx hb hml hts hown hK hA hE hC (fun w h => h) ⟨LT_in (by decide +kernel) (by decide +kernel), LT_in (by decide +kernel) (by decide +kernel), LT_in (by decide +kernel) (by decide +kernel), LT_in (by decide +kernel) (by decide +kernel), LT_in (by decide +kernel) (by decide +kernel)⟩ (by decide +kernel) ⟨(by exact Nat.le_of_ble_eq_true rfl), (by exact Nat.le_of_ble_eq_true rfl)⟩ rfl rfl rfl ⟨0, 0, rfl, hM0, by unfold isObj; omega, rfl⟩ hW va_S.rf hl.1 (by exact Nat.le_of_ble_eq_true rfl) (by exact Nat.le_of_ble_eq_true rfl) (by exact Nat.le_of_ble_eq_true rfl) dL_platformIs_5) (fun v t1 ad' M' H1 locs1 hp hext hW1 hS1 hz1 hk1 => ?_) (fun E ce q t1 H1 locs1 hp hW1 hS1 hz1 hk1 hce hcv hcl => ?_)
  · obtain ⟨hp, rfl⟩ := hp
    have hat1 : va_at D vwCl (oc30 X o f) H1 := hat.kept (hk1 o hat.lt hAC)
    cases v with
    | none => exact hp.elim
    | some v =>
    cases v with
    | inr _ => exact hp.elim
    | inl r2 =>
    obtain ⟨rfl, rfl, rfl⟩ := hp
    have hne1 : ∀ kp i, M' kp i = true → ad' kp i ≠ o := fun kp i h => ext_ne hext hne hat.lt h
    refine W.eq (g2 := F0 m 8 ls [.int r2, .int 0, .ref o]) rfl ?_
    refine lv_i2l hx hb dL_platformIs_8 rfl ?_
    refine sw_last hx hb hK hat1 hS1 hAo dL_platformIs_9 (fun H2 locs2 hat2 oq2 hS2 => ?_)
    have hW2 := hW1.kept (fun kp i hi => oq2 _ (hne1 kp i hi))
    refine lv_goto hx hb dL_platformIs_10 (tgt := 21) (by decide) ?_
    refine lv_iconst (v := 0) hx hb dL_platformIs_21 (by decide +kernel) ?_
    refine W.widen (k := 2) (n := 12) (by exact Nat.le_of_ble_eq_true rfl) (by exact Nat.le_of_ble_eq_true rfl) ?_
    exact vx_ret (W.iret (v := 0) hx hb hret (fun u hu hw => ⟨⟨rfl, ad', _, hext, by rw [hu]; exact hW2, by rw [hu]; exact hat2, fun _ _ => vp_updL_0⟩, hS2.F hu⟩) hS2.2.2 dL_platformIs_22 hlocks)
  · obtain ⟨hc0, hex, rfl⟩ := hp
    have hat1 : va_at D vwCl (oc30 X o f) H1 := hat.kept (hk1 o hat.lt hAC)
    have hMM := hM1 hc0
    subst hMM
    have hcc : code = 1 ∨ code = 2 ∨ code = 3 := by omega
    rcases hcc with rfl | rfl | rfl
    · cases hex
      refine vx_catch (name := IOB) hown [] ⟨0, 10, 13, 24⟩ [⟨0, 10, 17, 13⟩] (by rw [htab]; rfl) (fun _ h => absurd h List.not_mem_nil) (by decide +kernel) (by decide) (hts _ (LT_in (by decide +kernel) (by decide +kernel))) (yb_at (args := #[]) (by simp [YB]) (State.WarmedH.refl s) (hY.1 (Cond.castable IOB IOB) (by simp [YB]))) hce hcv hcl ?_
      refine lv_astore hx hb dL_platformIs_13 hl (by decide) rfl (fun ls9 _ => ?_)
      refine lv_iconst (v := nI 1) hx hb dL_platformIs_15 (by decide +kernel) ?_
      refine W.widen (k := 2) (n := 12) (by exact Nat.le_of_ble_eq_true rfl) (by exact Nat.le_of_ble_eq_true rfl) ?_
      exact vx_ret (W.iret (v := nI 1) hx hb hret (fun u hu hw => ⟨⟨rfl, ad, f, Ext.refl _ _ _, by rw [hu]; exact hW1, by rw [hu]; exact hat1, fun z => by omega⟩, hS1.F hu⟩) hS1.2.2 dL_platformIs_16 hlocks)
    · cases hex
      refine vx_catch (name := IAE9) hown [⟨0, 10, 13, 24⟩] ⟨0, 10, 17, 13⟩ [] (by rw [htab]; rfl) (List.forall_mem_cons.mpr ⟨Or.inr ⟨by decide, IOB, hts _ (LT_in (by decide +kernel) (by decide +kernel)), hY.2.1⟩, fun _ h => absurd h List.not_mem_nil⟩) (by decide +kernel) (by decide) (hts _ (LT_in (by decide +kernel) (by decide +kernel))) (yb_at (args := #[]) (by simp [YB]) (State.WarmedH.refl s) (hY.1 (Cond.castable IAE9 IAE9) (by simp [YB]))) hce hcv hcl ?_
      refine lv_astore hx hb dL_platformIs_17 hl (by decide) rfl (fun ls9 _ => ?_)
      refine lv_iconst (v := nI 2) hx hb dL_platformIs_19 (by decide +kernel) ?_
      refine W.widen (k := 2) (n := 12) (by exact Nat.le_of_ble_eq_true rfl) (by exact Nat.le_of_ble_eq_true rfl) ?_
      exact vx_ret (W.iret (v := nI 2) hx hb hret (fun u hu hw => ⟨⟨rfl, ad, f, Ext.refl _ _ _, by rw [hu]; exact hW1, by rw [hu]; exact hat1, fun z => by omega⟩, hS1.F hu⟩) hS1.2.2 dL_platformIs_20 hlocks)
    · cases hex
theorem dL_record_0 : decode cL_record 0 = .ok (.aload_n 3, 1) := by decide +kernel
theorem dL_record_1 : decode cL_record 1 = .ok (.iconst 0, 1) := by decide +kernel
theorem dL_record_2 : decode cL_record 2 = .ok (.aload_n 0, 1) := by decide +kernel
theorem dL_record_3 : decode cL_record 3 = .ok (.iload_n 1, 1) := by decide +kernel
theorem dL_record_4 : decode cL_record 4 = .ok (.iload_n 2, 1) := by decide +kernel
theorem dL_record_5 : decode cL_record 5 = .ok (.invokevirtual 82, 3) := by decide +kernel
theorem dL_record_8 : decode cL_record 8 = .ok (.i2l, 1) := by decide +kernel
theorem dL_record_9 : decode cL_record 9 = .ok (.lastore, 1) := by decide +kernel
theorem dL_record_10 : decode cL_record 10 = .ok (.goto 11, 3) := by decide +kernel
theorem dL_record_13 : decode cL_record 13 = .ok (.astore 4, 2) := by decide +kernel
theorem dL_record_15 : decode cL_record 15 = .ok (.iconst 1, 1) := by decide +kernel
theorem dL_record_16 : decode cL_record 16 = .ok (.ireturn, 1) := by decide +kernel
theorem dL_record_17 : decode cL_record 17 = .ok (.astore 4, 2) := by decide +kernel
theorem dL_record_19 : decode cL_record 19 = .ok (.iconst 2, 1) := by decide +kernel
theorem dL_record_20 : decode cL_record 20 = .ok (.ireturn, 1) := by decide +kernel
theorem dL_record_21 : decode cL_record 21 = .ok (.iconst 0, 1) := by decide +kernel
theorem dL_record_22 : decode cL_record 22 = .ok (.ireturn, 1) := by decide +kernel
set_option maxHeartbeats 4000000 in
theorem w_record {l : Launch} (D : va_G) (X : Nat → ClassId) (ad : Nat → Nat → Nat) {M M1 : Nat → Nat → Bool} {o code : Nat} {t s' : TT} {r : Int32} (a1 a2 : Int32) (hcode : code ≤ 3) (hM1 : code ≠ 0 → M1 = M) (hM0 : M 0 0 = true) (hC : CE l yX4_record (Cond.code yX4_record cX4_record 3 (some .int) :: LT) { frames := 7, cells := 2, slots := 12, locals := 112 } D X ad M [.inr (.inl (0, 0)), .inl a1, .inl a2] t 2 12 (fun v M' t1 => PO code r (over s') v t1 ∧ M' = M1) (PX [IOB, IAE9] code (over s'))) : CW l yL_record (Cond.codeWith yL_record cL_record 5 (some .int) [(0, 10, 13, 24), (0, 10, 17, 13)] :: LT) { frames := 8, cells := 2, slots := 12, locals := 134 } D X ad M M1 [.inr (.inl (0, 0)), .inl a1, .inl a2] [.ref o] o t 2 12 code r s' true := by
  refine wrap_of (by decide +kernel) (by exact Nat.le_of_ble_eq_true rfl) ?_
  intro p e s m args below meth c A f ls hx hb hml hts hown hK htab hlocks hret hA hE hY hAo hne hW hat hl
  have hl : lv_has ls 5 [(0, .ref (ad 0 0)), (1, .int a1), (2, .int a2), (3, .ref o)] := hl
  have hAC : ¬ AC ad M s.heap.size o := by
    rintro (⟨kp, i, h1, h2⟩ | h1)
    · exact hne kp i h1 h2.symm
    · exact absurd hat.lt (Nat.not_lt.mpr h1)
  refine lv_aload_n hx hb dL_record_0 rfl (lv_at hl 3 rfl) ?_
  refine lv_iconst (v := 0) hx hb dL_record_1 (by decide +kernel) ?_
  refine lv_aload_n hx hb dL_record_2 rfl (lv_at hl 0 rfl) ?_
  refine lv_iload_n hx hb dL_record_3 rfl (lv_at hl 1 rfl) ?_
  refine lv_iload_n hx hb dL_record_4 rfl (lv_at hl 2 rfl) ?_
  refine W.eq (g2 := F0 m 5 ls ((([.inr (.inl (0, 0)), .inl a1, .inl a2] : List VV).map (toV ad)).reverse ++ [.int 0, .ref o])) rfl ?_
  refine run_own hA va_S.rf hW (lcall_E (Ts := LT) (n := 2) (rest := [.int 0, .ref o]) hx hb hml hts hown hK hA hE hC (fun w h => h) ⟨LT_in (by decide +kernel) (by decide +kernel), LT_in (by decide +kernel) (by decide +kernel), LT_in (by decide +kernel) (by decide +kernel), LT_in (by decide +kernel) (by decide +kernel), LT_in (by decide +kernel) (by decide +kernel)⟩ (by decide +kernel) ⟨(by exact Nat.le_of_ble_eq_true rfl), (by exact Nat.le_of_ble_eq_true rfl)⟩ rfl rfl rfl ⟨0, 0, rfl, hM0, by unfold isObj; omega, rfl⟩ hW va_S.rf hl.1 (by exact Nat.le_of_ble_eq_true rfl) (by exact Nat.le_of_ble_eq_true rfl) (by exact Nat.le_of_ble_eq_true rfl) dL_record_5) (fun v t1 ad' M' H1 locs1 hp hext hW1 hS1 hz1 hk1 => ?_) (fun E ce q t1 H1 locs1 hp hW1 hS1 hz1 hk1 hce hcv hcl => ?_)
  · obtain ⟨hp, rfl⟩ := hp
    have hat1 : va_at D vwCl (oc30 X o f) H1 := hat.kept (hk1 o hat.lt hAC)
    cases v with
    | none => exact hp.elim
    | some v =>
    cases v with
    | inr _ => exact hp.elim
    | inl r2 =>
    obtain ⟨rfl, rfl, rfl⟩ := hp
    have hne1 : ∀ kp i, M' kp i = true → ad' kp i ≠ o := fun kp i h => ext_ne hext hne hat.lt h
    refine W.eq (g2 := F0 m 8 ls [.int r2, .int 0, .ref o]) rfl ?_
    refine lv_i2l hx hb dL_record_8 rfl ?_
    refine sw_last hx hb hK hat1 hS1 hAo dL_record_9 (fun H2 locs2 hat2 oq2 hS2 => ?_)
    have hW2 := hW1.kept (fun kp i hi => oq2 _ (hne1 kp i hi))
    refine lv_goto hx hb dL_record_10 (tgt := 21) (by decide) ?_
    refine lv_iconst (v := 0) hx hb dL_record_21 (by decide +kernel) ?_
    refine W.widen (k := 2) (n := 12) (by exact Nat.le_of_ble_eq_true rfl) (by exact Nat.le_of_ble_eq_true rfl) ?_
    exact vx_ret (W.iret (v := 0) hx hb hret (fun u hu hw => ⟨⟨rfl, ad', _, hext, by rw [hu]; exact hW2, by rw [hu]; exact hat2, fun _ _ => vp_updL_0⟩, hS2.F hu⟩) hS2.2.2 dL_record_22 hlocks)
  · obtain ⟨hc0, hex, rfl⟩ := hp
    have hat1 : va_at D vwCl (oc30 X o f) H1 := hat.kept (hk1 o hat.lt hAC)
    have hMM := hM1 hc0
    subst hMM
    have hcc : code = 1 ∨ code = 2 ∨ code = 3 := by omega
    rcases hcc with rfl | rfl | rfl
    · cases hex
      refine vx_catch (name := IOB) hown [] ⟨0, 10, 13, 24⟩ [⟨0, 10, 17, 13⟩] (by rw [htab]; rfl) (fun _ h => absurd h List.not_mem_nil) (by decide +kernel) (by decide) (hts _ (LT_in (by decide +kernel) (by decide +kernel))) (yb_at (args := #[]) (by simp [YB]) (State.WarmedH.refl s) (hY.1 (Cond.castable IOB IOB) (by simp [YB]))) hce hcv hcl ?_
      refine lv_astore hx hb dL_record_13 hl (by decide) rfl (fun ls9 _ => ?_)
      refine lv_iconst (v := nI 1) hx hb dL_record_15 (by decide +kernel) ?_
      refine W.widen (k := 2) (n := 12) (by exact Nat.le_of_ble_eq_true rfl) (by exact Nat.le_of_ble_eq_true rfl) ?_
      exact vx_ret (W.iret (v := nI 1) hx hb hret (fun u hu hw => ⟨⟨rfl, ad, f, Ext.refl _ _ _, by rw [hu]; exact hW1, by rw [hu]; exact hat1, fun z => by omega⟩, hS1.F hu⟩) hS1.2.2 dL_record_16 hlocks)
    · cases hex
      refine vx_catch (name := IAE9) hown [⟨0, 10, 13, 24⟩] ⟨0, 10, 17, 13⟩ [] (by rw [htab]; rfl) (List.forall_mem_cons.mpr ⟨Or.inr ⟨by decide, IOB, hts _ (LT_in (by decide +kernel) (by decide +kernel)), hY.2.1⟩, fun _ h => absurd h List.not_mem_nil⟩) (by decide +kernel) (by decide) (hts _ (LT_in (by decide +kernel) (by decide +kernel))) (yb_at (args := #[]) (by simp [YB]) (State.WarmedH.refl s) (hY.1 (Cond.castable IAE9 IAE9) (by simp [YB]))) hce hcv hcl ?_
      refine lv_astore hx hb dL_record_17 hl (by decide) rfl (fun ls9 _ => ?_)
      refine lv_iconst (v := nI 2) hx hb dL_record_19 (by decide +kernel) ?_
      refine W.widen (k := 2) (n := 12) (by exact Nat.le_of_ble_eq_true rfl) (by exact Nat.le_of_ble_eq_true rfl) ?_
      exact vx_ret (W.iret (v := nI 2) hx hb hret (fun u hu hw => ⟨⟨rfl, ad, f, Ext.refl _ _ _, by rw [hu]; exact hW1, by rw [hu]; exact hat1, fun z => by omega⟩, hS1.F hu⟩) hS1.2.2 dL_record_20 hlocks)
    · cases hex
theorem dL_placeAnew_0 : decode cL_placeAnew 0 = .ok (.aload_n 2, 1) := by decide +kernel
theorem dL_placeAnew_1 : decode cL_placeAnew 1 = .ok (.iconst 0, 1) := by decide +kernel
theorem dL_placeAnew_2 : decode cL_placeAnew 2 = .ok (.aload_n 0, 1) := by decide +kernel
theorem dL_placeAnew_3 : decode cL_placeAnew 3 = .ok (.iload_n 1, 1) := by decide +kernel
theorem dL_placeAnew_4 : decode cL_placeAnew 4 = .ok (.invokevirtual 85, 3) := by decide +kernel
theorem dL_placeAnew_7 : decode cL_placeAnew 7 = .ok (.i2l, 1) := by decide +kernel
theorem dL_placeAnew_8 : decode cL_placeAnew 8 = .ok (.lastore, 1) := by decide +kernel
theorem dL_placeAnew_9 : decode cL_placeAnew 9 = .ok (.goto 6, 3) := by decide +kernel
theorem dL_placeAnew_12 : decode cL_placeAnew 12 = .ok (.astore_n 3, 1) := by decide +kernel
theorem dL_placeAnew_13 : decode cL_placeAnew 13 = .ok (.iconst 1, 1) := by decide +kernel
theorem dL_placeAnew_14 : decode cL_placeAnew 14 = .ok (.ireturn, 1) := by decide +kernel
theorem dL_placeAnew_15 : decode cL_placeAnew 15 = .ok (.iconst 0, 1) := by decide +kernel
theorem dL_placeAnew_16 : decode cL_placeAnew 16 = .ok (.ireturn, 1) := by decide +kernel
set_option maxHeartbeats 4000000 in
theorem w_placeAnew {l : Launch} (D : va_G) (X : Nat → ClassId) (ad : Nat → Nat → Nat) {M M1 : Nat → Nat → Bool} {o code : Nat} {t s' : TT} {r : Int32} (a1 : Int32) (hcode : code ≤ 3) (hM1 : code ≠ 0 → M1 = M) (hM0 : M 0 0 = true) (hC : CE l yX4_placeAnew (Cond.code yX4_placeAnew cX4_placeAnew 2 (some .int) :: LT) { frames := 7, cells := 1, slots := 6, locals := 111 } D X ad M [.inr (.inl (0, 0)), .inl a1] t 1 6 (fun v M' t1 => PO code r (over s') v t1 ∧ M' = M1) (PX [IOB] code (over s'))) : CW l yL_placeAnew (Cond.codeWith yL_placeAnew cL_placeAnew 4 (some .int) [(0, 9, 12, 24)] :: LT) { frames := 8, cells := 1, slots := 6, locals := 132 } D X ad M M1 [.inr (.inl (0, 0)), .inl a1] [.ref o] o t 1 6 code r s' true := by
  refine wrap_of (by decide +kernel) (by exact Nat.le_of_ble_eq_true rfl) ?_
  intro p e s m args below meth c A f ls hx hb hml hts hown hK htab hlocks hret hA hE hY hAo hne hW hat hl
  have hl : lv_has ls 4 [(0, .ref (ad 0 0)), (1, .int a1), (2, .ref o)] := hl
  have hAC : ¬ AC ad M s.heap.size o := by
    rintro (⟨kp, i, h1, h2⟩ | h1)
    · exact hne kp i h1 h2.symm
    · exact absurd hat.lt (Nat.not_lt.mpr h1)
  refine lv_aload_n hx hb dL_placeAnew_0 rfl (lv_at hl 2 rfl) ?_
  refine lv_iconst (v := 0) hx hb dL_placeAnew_1 (by decide +kernel) ?_
  refine lv_aload_n hx hb dL_placeAnew_2 rfl (lv_at hl 0 rfl) ?_
  refine lv_iload_n hx hb dL_placeAnew_3 rfl (lv_at hl 1 rfl) ?_
  refine W.eq (g2 := F0 m 4 ls ((([.inr (.inl (0, 0)), .inl a1] : List VV).map (toV ad)).reverse ++ [.int 0, .ref o])) rfl ?_
  refine run_own hA va_S.rf hW (lcall_E (Ts := LT) (n := 1) (rest := [.int 0, .ref o]) hx hb hml hts hown hK hA hE hC (fun w h => h) ⟨LT_in (by decide +kernel) (by decide +kernel), LT_in (by decide +kernel) (by decide +kernel), LT_in (by decide +kernel) (by decide +kernel), LT_in (by decide +kernel) (by decide +kernel), LT_in (by decide +kernel) (by decide +kernel)⟩ (by decide +kernel) ⟨(by exact Nat.le_of_ble_eq_true rfl), (by exact Nat.le_of_ble_eq_true rfl)⟩ rfl rfl rfl ⟨0, 0, rfl, hM0, by unfold isObj; omega, rfl⟩ hW va_S.rf hl.1 (by exact Nat.le_of_ble_eq_true rfl) (by exact Nat.le_of_ble_eq_true rfl) (by exact Nat.le_of_ble_eq_true rfl) dL_placeAnew_4) (fun v t1 ad' M' H1 locs1 hp hext hW1 hS1 hz1 hk1 => ?_) (fun E ce q t1 H1 locs1 hp hW1 hS1 hz1 hk1 hce hcv hcl => ?_)
  · obtain ⟨hp, rfl⟩ := hp
    have hat1 : va_at D vwCl (oc30 X o f) H1 := hat.kept (hk1 o hat.lt hAC)
    cases v with
    | none => exact hp.elim
    | some v =>
    cases v with
    | inr _ => exact hp.elim
    | inl r2 =>
    obtain ⟨rfl, rfl, rfl⟩ := hp
    have hne1 : ∀ kp i, M' kp i = true → ad' kp i ≠ o := fun kp i h => ext_ne hext hne hat.lt h
    refine W.eq (g2 := F0 m 7 ls [.int r2, .int 0, .ref o]) rfl ?_
    refine lv_i2l hx hb dL_placeAnew_7 rfl ?_
    refine sw_last hx hb hK hat1 hS1 hAo dL_placeAnew_8 (fun H2 locs2 hat2 oq2 hS2 => ?_)
    have hW2 := hW1.kept (fun kp i hi => oq2 _ (hne1 kp i hi))
    refine lv_goto hx hb dL_placeAnew_9 (tgt := 15) (by decide) ?_
    refine lv_iconst (v := 0) hx hb dL_placeAnew_15 (by decide +kernel) ?_
    refine W.widen (k := 1) (n := 6) (by exact Nat.le_of_ble_eq_true rfl) (by exact Nat.le_of_ble_eq_true rfl) ?_
    exact vx_ret (W.iret (v := 0) hx hb hret (fun u hu hw => ⟨⟨rfl, ad', _, hext, by rw [hu]; exact hW2, by rw [hu]; exact hat2, fun _ _ => vp_updL_0⟩, hS2.F hu⟩) hS2.2.2 dL_placeAnew_16 hlocks)
  · obtain ⟨hc0, hex, rfl⟩ := hp
    have hat1 : va_at D vwCl (oc30 X o f) H1 := hat.kept (hk1 o hat.lt hAC)
    have hMM := hM1 hc0
    subst hMM
    have hcc : code = 1 ∨ code = 2 ∨ code = 3 := by omega
    rcases hcc with rfl | rfl | rfl
    · cases hex
      refine vx_catch (name := IOB) hown [] ⟨0, 9, 12, 24⟩ [] (by rw [htab]; rfl) (fun _ h => absurd h List.not_mem_nil) (by decide +kernel) (by decide) (hts _ (LT_in (by decide +kernel) (by decide +kernel))) (yb_at (args := #[]) (by simp [YB]) (State.WarmedH.refl s) (hY.1 (Cond.castable IOB IOB) (by simp [YB]))) hce hcv hcl ?_
      refine lv_astore_n hx hb dL_placeAnew_12 rfl hl (by decide) rfl (fun ls9 _ => ?_)
      refine lv_iconst (v := nI 1) hx hb dL_placeAnew_13 (by decide +kernel) ?_
      refine W.widen (k := 1) (n := 6) (by exact Nat.le_of_ble_eq_true rfl) (by exact Nat.le_of_ble_eq_true rfl) ?_
      exact vx_ret (W.iret (v := nI 1) hx hb hret (fun u hu hw => ⟨⟨rfl, ad, f, Ext.refl _ _ _, by rw [hu]; exact hW1, by rw [hu]; exact hat1, fun z => by omega⟩, hS1.F hu⟩) hS1.2.2 dL_placeAnew_14 hlocks)
    · cases hex
    · cases hex

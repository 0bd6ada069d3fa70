/-! printed (wip/p26/law.py): the second loop -/
theorem dL_law_273 : decode cL_law 273 = .ok (.iload 5, 2) := by decide +kernel
theorem dL_law_275 : decode cL_law 275 = .ok (.bipush 117, 2) := by decide +kernel
theorem dL_law_277 : decode cL_law 277 = .ok (.if_icmp .ge 339, 3) := by decide +kernel
theorem dL_law_280 : decode cL_law 280 = .ok (.iload 4, 2) := by decide +kernel
theorem dL_law_282 : decode cL_law 282 = .ok (.ifCond .eq 334, 3) := by decide +kernel
theorem dL_law_285 : decode cL_law 285 = .ok (.aload_n 0, 1) := by decide +kernel
theorem dL_law_286 : decode cL_law 286 = .ok (.iload 5, 2) := by decide +kernel
theorem dL_law_288 : decode cL_law 288 = .ok (.invokestatic 49, 3) := by decide +kernel
theorem dL_law_291 : decode cL_law 291 = .ok (.istore 6, 2) := by decide +kernel
theorem dL_law_293 : decode cL_law 293 = .ok (.iload 6, 2) := by decide +kernel
theorem dL_law_295 : decode cL_law 295 = .ok (.bipush 16, 2) := by decide +kernel
theorem dL_law_297 : decode cL_law 297 = .ok (.idiv, 1) := by decide +kernel
theorem dL_law_298 : decode cL_law 298 = .ok (.iconst 5, 1) := by decide +kernel
theorem dL_law_299 : decode cL_law 299 = .ok (.irem, 1) := by decide +kernel
theorem dL_law_300 : decode cL_law 300 = .ok (.istore 7, 2) := by decide +kernel
theorem dL_law_302 : decode cL_law 302 = .ok (.iload 6, 2) := by decide +kernel
theorem dL_law_304 : decode cL_law 304 = .ok (.sipush 256, 3) := by decide +kernel
theorem dL_law_307 : decode cL_law 307 = .ok (.idiv, 1) := by decide +kernel
theorem dL_law_308 : decode cL_law 308 = .ok (.istore 8, 2) := by decide +kernel
theorem dL_law_310 : decode cL_law 310 = .ok (.iload 6, 2) := by decide +kernel
theorem dL_law_312 : decode cL_law 312 = .ok (.bipush 16, 2) := by decide +kernel
theorem dL_law_314 : decode cL_law 314 = .ok (.irem, 1) := by decide +kernel
theorem dL_law_315 : decode cL_law 315 = .ok (.istore 9, 2) := by decide +kernel
theorem dL_law_591 : decode cL_law 591 = .ok (.iload 4, 2) := by decide +kernel
theorem dL_law_593 : decode cL_law 593 = .ok (.ifCond .eq 14, 3) := by decide +kernel
theorem dL_law_596 : decode cL_law 596 = .ok (.aload_n 1, 1) := by decide +kernel
theorem dL_law_597 : decode cL_law 597 = .ok (.invokestatic 106, 3) := by decide +kernel
theorem dL_law_600 : decode cL_law 600 = .ok (.ifCond .eq 7, 3) := by decide +kernel
theorem dL_law_603 : decode cL_law 603 = .ok (.iconst 1, 1) := by decide +kernel
theorem dL_law_604 : decode cL_law 604 = .ok (.goto 4, 3) := by decide +kernel
theorem dL_law_608 : decode cL_law 608 = .ok (.istore 4, 2) := by decide +kernel
theorem dL_law_610 : decode cL_law 610 = .ok (.iinc 5 1, 3) := by decide +kernel
theorem dL_law_613 : decode cL_law 613 = .ok (.goto (-340), 3) := by decide +kernel
theorem dL_law_616 : decode cL_law 616 = .ok (.iload 4, 2) := by decide +kernel
theorem dL_law_618 : decode cL_law 618 = .ok (.ireturn, 1) := by decide +kernel
section LW55
variable {p : Program} {l : Launch} {e : Env} {s : State} {m : MethodId} {below : List Frame} {meth : Method} {c : Code} {Q : State → Prop} {D : va_G} {X : Nat → ClassId} {b L : Nat} {xs : Nat → Int32} {fa ta x0 : Nat} {f g : Nat → Int32} {ad : Nat → Nat → Nat} {H : Heap} {locs : List Loc} {ls : Array Slot} {t : TT} {n tk k v w T K cl sl : Nat}
set_option maxHeartbeats 4000000 in
theorem law_591 (hC : LC p l s m c D X b L xs) (hG : GS n tk f g t) (hc : cl ≤ 600130) (hs : sl ≤ 7301080) (kk : ∀ (ad' : Nat → Nat → Nat) (H1 : Heap) (locs1 : List Loc) (ls1 : Array Slot), LSt D X ad' (AL s) 6 12 4 5 t fa ta f g x0 H1 → va_S (AL s) s.heap H1 locs1 → lv_has ls1 10 [(5, .int (nI (k + 1))), (4, .int 1), (3, .ref ta), (2, .ref fa), (1, .ref x0), (0, .ref b)] → W p l e room_1 s m #[Value.ref b] below meth c H1 locs1 cl sl Q (F0 m 273 ls1 [])) (hL : LSt D X ad (AL s) 6 12 4 5 t fa ta f g x0 H) (hS : va_S (AL s) s.heap H locs) (hl : lv_has ls 10 [(5, .int (nI k)), (4, .int 1), (3, .ref ta), (2, .ref fa), (1, .ref x0), (0, .ref b)]) : W p l e room_1 s m #[Value.ref b] below meth c H locs cl sl Q (F0 m 591 ls []) := by
  obtain ⟨hx, hb, hml, hts, hown, hK, hE, hX, hbl, hL9, hst⟩ := id hC
  refine lv_iload hx hb dL_law_591 (lv_at hl 1 rfl) ?_
  refine lv_if_eq hx hb dL_law_593 (tgt := 607) (by decide) (fun z => absurd z (by decide +kernel)) (fun _ => ?_)
  refine lv_aload_n hx hb dL_law_596 rfl (lv_at hl 4 rfl) ?_
  have xx1 : ad 0 0 = x0 := hL.2.2.2.2.2.2.2
  refine W.eq (g2 := F0 m 597 ls ((([.inr (.inl (0, 0))] : List VV).map (toV ad)).reverse ++ [])) (by rw [← xx1]; rfl) ?_
  refine law_SE (as := [.inr (.inl (0, 0))]) (n := 1) hC (Rr := fun v9 t9 => v9 = some (.inl 1) ∧ t9 = t) (c_L_isSafe hst (px := fun _ _ => False) (post := fun v9 t1 => ∃ t9, (fun v9 t9 => v9 = some (.inl 1) ∧ t9 = t) v9 t9 ∧ t1 = over t9) 0  _ (hl_isSafe hG ⟨t, ⟨rfl, rfl⟩, rfl⟩)).toE ⟨(LT_in (by decide +kernel) (by decide +kernel) : Cond.methodLink R_law 106 yL_isSafe ∈ LT), ws_L_isSafe.1, ws_L_isSafe.2.1, ws_L_isSafe.2.2⟩ (by decide +kernel) ⟨Nat.le_of_ble_eq_true rfl, Nat.le_of_ble_eq_true rfl⟩ rfl rfl rfl hL hS hl.1 (rest := []) (by exact Nat.le_of_ble_eq_true rfl) (by omega) (by omega) dL_law_597 (fun v9 t2 ad2 H2 locs2 hR2 hL2 hS2 => ?_)
  obtain ⟨rfl, rfl⟩ := hR2
  refine W.eq (g2 := F0 m 600 ls [.int 1]) rfl ?_
  refine lv_if_eq hx hb dL_law_600 (tgt := 607) (by decide) (fun z => absurd z (by decide +kernel)) (fun _ => ?_)
  refine lv_iconst (v := 1) hx hb dL_law_603 (by decide +kernel) ?_
  refine lv_goto hx hb dL_law_604 (tgt := 608) (by decide) ?_
  refine lv_istore (lv' := [(4, .int 1), (5, .int (nI k)), (3, .ref ta), (2, .ref fa), (1, .ref x0), (0, .ref b)]) hx hb dL_law_608 hl (by decide) rfl (fun ls1 hl1 => ?_)
  refine lv_iinc (k := 1) (lv' := [(5, .int (nI (k + 1))), (4, .int 1), (3, .ref ta), (2, .ref fa), (1, .ref x0), (0, .ref b)]) hx hb dL_law_610 hl1 rfl (nI_1 k) (by decide) rfl (fun ls2 hl2 => ?_)
  refine lv_goto hx hb dL_law_613 (tgt := 273) (by decide) ?_
  exact kk ad2 H2 locs2 ls2 hL2 hS2 hl2
set_option maxHeartbeats 4000000 in
theorem law_main (hC : LC p l s m c D X b L xs) (hr : meth.sig.returnType = ret) (hlocks : meth.locks = false) (hc : cl ≤ 600130) (hs : sl ≤ 7301080) : ∀ (q k : Nat), k + q = 117 → 27 ≤ k → ∀ (n tk : Nat) (t : TT) (ad : Nat → Nat → Nat) (H : Heap) (locs : List Loc) (ls : Array Slot), GS n tk f g t → n ≤ k → tk + 189 ≤ 7 * k → LSt D X ad (AL s) 6 12 4 5 t fa ta f g x0 H → va_S (AL s) s.heap H locs → lv_has ls 10 [(5, .int (nI k)), (4, .int 1), (3, .ref ta), (2, .ref fa), (1, .ref x0), (0, .ref b)] → W p l e room_1 s m #[Value.ref b] below meth c H locs cl sl (lw_Z below #[Value.ref b] s) (F0 m 273 ls []) := by
  intro q
  induction q with
  | zero =>
    intro k hk h27 n tk t ad H locs ls hG hn htk hL hS hl
    have : k = 117 := by omega
    subst this
    obtain ⟨hx, hb, hml, hts, hown, hK, hE, hX, hbl, hL9, hst⟩ := id hC
    refine lv_iload hx hb dL_law_273 (lv_at hl 0 rfl) ?_
    refine lv_bipush (v := 117) hx hb dL_law_275 (by decide +kernel) ?_
    refine lv_icmp_ge hx hb dL_law_277 (tgt := 616) (by decide) (fun _ => ?_) (fun z => absurd (nI_le (a := 117) (b := 117) (by omega) (by omega)) z)
    refine lv_iload hx hb dL_law_616 (lv_at hl 1 rfl) ?_
    refine va_forget hS.2.2 ?_
    refine W.widen (k := 600130) (n := 7301080) hc hs ?_
    exact lw_ret hx hb hr hlocks dL_law_618
  | succ q ih =>
    intro k hk h27 n tk t ad H locs ls hG hn htk hL hS hl
    obtain ⟨hx, hb, hml, hts, hown, hK, hE, hX, hbl, hL9, hst⟩ := id hC
    refine lv_iload hx hb dL_law_273 (lv_at hl 0 rfl) ?_
    refine lv_bipush (v := 117) hx hb dL_law_275 (by decide +kernel) ?_
    refine lv_icmp_ge hx hb dL_law_277 (tgt := 616) (by decide) (fun z => absurd z (nI_ge (a := k) (b := 117) (by omega) (by omega))) (fun _ => ?_)
    refine lv_iload hx hb dL_law_280 (lv_at hl 1 rfl) ?_
    refine lv_if_eq hx hb dL_law_282 (tgt := 616) (by decide) (fun z => absurd z (by decide +kernel)) (fun _ => ?_)
    refine lv_aload_n hx hb dL_law_285 rfl (lv_at hl 5 rfl) ?_
    refine lv_iload hx hb dL_law_286 (lv_at hl 0 rfl) ?_
    refine law_told hC hL hS hl.1 (k := k) (by omega) (rest := []) (by exact Nat.le_of_ble_eq_true rfl) (by omega) (by omega) dL_law_288 (fun v H1 locs1 hv hL1 hS1 => ?_)
    refine lv_istore (lv' := [(6, .int (nI v)), (5, .int (nI k)), (4, .int 1), (3, .ref ta), (2, .ref fa), (1, .ref x0), (0, .ref b)]) hx hb dL_law_291 hl (by decide) rfl (fun ls1 hl1 => ?_)
    refine lv_iload hx hb dL_law_293 (lv_at hl1 0 rfl) ?_
    refine lv_bipush (v := 16) hx hb dL_law_295 (by decide +kernel) ?_
    refine lv_idiv hx hb dL_law_297 (by decide +kernel) ?_
    refine lv_iconst (v := 5) hx hb dL_law_298 (by decide +kernel) ?_
    refine lv_irem hx hb dL_law_299 (by decide +kernel) ?_
    have e1 : nI v / 16 = nI (v / 16) := pk_div (d := 16) (by omega) (by omega) (by omega)
    have e2 : nI (v / 16) - nI (v / 16) / 5 * 5 = nI (v / 16 % 5) := pk_rem (d := 5) (by omega) (by omega) (by omega)
    refine W.eq (g2 := F0 m 300 ls1 [.int (nI (v / 16 % 5))]) (by rw [e1, e2]) ?_
    refine lv_istore (lv' := [(7, .int (nI (v / 16 % 5))), (6, .int (nI v)), (5, .int (nI k)), (4, .int 1), (3, .ref ta), (2, .ref fa), (1, .ref x0), (0, .ref b)]) hx hb dL_law_300 hl1 (by decide) rfl (fun ls2 hl2 => ?_)
    refine lv_iload hx hb dL_law_302 (lv_at hl2 1 rfl) ?_
    refine lv_sipush (v := 256) hx hb dL_law_304 (by decide +kernel) ?_
    refine lv_idiv hx hb dL_law_307 (by decide +kernel) ?_
    have e3 : nI v / 256 = nI (v / 256) := pk_div (d := 256) (by omega) (by omega) (by omega)
    refine W.eq (g2 := F0 m 308 ls2 [.int (nI (v / 256))]) (by rw [e3]) ?_
    refine lv_istore (lv' := [(8, .int (nI (v / 256))), (7, .int (nI (v / 16 % 5))), (6, .int (nI v)), (5, .int (nI k)), (4, .int 1), (3, .ref ta), (2, .ref fa), (1, .ref x0), (0, .ref b)]) hx hb dL_law_308 hl2 (by decide) rfl (fun ls3 hl3 => ?_)
    refine lv_iload hx hb dL_law_310 (lv_at hl3 2 rfl) ?_
    refine lv_bipush (v := 16) hx hb dL_law_312 (by decide +kernel) ?_
    refine lv_irem hx hb dL_law_314 (by decide +kernel) ?_
    have e4 : nI v - nI v / 16 * 16 = nI (v % 16) := pk_rem (d := 16) (by omega) (by omega) (by omega)
    refine W.eq (g2 := F0 m 315 ls3 [.int (nI (v % 16))]) (by rw [e4]) ?_
    refine lv_istore (lv' := [(9, .int (nI (v % 16))), (8, .int (nI (v / 256))), (7, .int (nI (v / 16 % 5))), (6, .int (nI v)), (5, .int (nI k)), (4, .int 1), (3, .ref ta), (2, .ref fa), (1, .ref x0), (0, .ref b)]) hx hb dL_law_315 hl3 (by decide) rfl (fun ls4 hl4 => ?_)
    refine law_317 (T := v / 16 % 5) (w := v / 256) (K := v % 16) (v := v) (k := k) hC hG (by omega) (by omega) (by omega) (by omega) hc hs (fun n9 tk9 t9 ad9 H9 locs9 ls9 hG9 hn9 htk9 hL9 hS9 hl9 => law_591 hC hG9 hc hs (fun ad8 H8 locs8 ls8 hL8 hS8 hl8 => ih (k + 1) (by omega) (by omega) n9 tk9 t9 ad8 H8 locs8 ls8 hG9 (by omega) (by omega) hL8 hS8 hl8) hL9 hS9 hl9) hL1 hS1 hl4
end LW55

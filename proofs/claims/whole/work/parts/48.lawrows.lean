/-! rows of the law's body: the script's numbers, its truths, the comparison of longs -/
def bz (x : Int32) : Int32 := if x = 0 then 0 else 1
theorem bz_B (x : Int32) : isB (bz x) := by
  unfold bz
  split
  · exact isB_0
  · exact isB_1
section LRW
variable {p : Program} {l : Launch} {e : Env} {R : Room} {s : State} {m : MethodId} {args : Array Value} {below : List Frame} {meth : Method} {c : Code} {Q : State → Prop} {A0 : Nat → Prop} {b9 : ByteArray} {H : Heap} {locs : List Loc} {ls : Array Slot} {pc : Nat} {cl sl : Nat} {rest : List Value}
theorem lv_lcmpE (hexec : p.tables.exec = Jvm.exec) (hb : c.code = b9) {x : Int64} (hdg : decode b9 pc = .ok (.lcmp, 1)) (k : W p l e R s m args below meth c H locs cl sl Q (F0 m (pc + 1) ls (.int 0 :: rest))) : W p l e R s m args below meth c H locs cl sl Q (F0 m pc ls (.long x :: .long x :: rest)) := by
  intro T hT X
  obtain ⟨t, a, b⟩ := k T hT X
  refine ⟨t, ?_, b⟩
  have h1 : ¬ x > x := Int64.lt_irrefl
  jvm_step X.here [X.here.top, hexec, hb, hdg, h1]
  exact a
/-- script[i + j] -/
theorem lw_arg (hx : p.tables.exec = Jvm.exec) (hb : c.code = b9) {b L i : Nat} {xs : Nat → Int32} {lv : List (Nat × Value)} (hX : va_X b L xs s s.heap) (hbl : b < s.heap.size) (hbA : ¬ A0 b) (hS : va_S A0 s.heap H locs) (hl : lv_has ls 7 lv) (h0 : (0, Value.ref b) ∈ lv) (h4 : (4, Value.int (nI i)) ∈ lv) {j : Nat} (hij : i + j < L) (hL : L ≤ 2048) {v : Int} (hv : Int32.ofInt v = nI j)
    (d0 : decode b9 pc = .ok (.aload_n 0, 1)) (d1 : decode b9 (pc + 1) = .ok (.iload 4, 2)) (d2 : decode b9 (pc + 3) = .ok (.iconst v, 1)) (d3 : decode b9 (pc + 4) = .ok (.iadd, 1)) (d4 : decode b9 (pc + 5) = .ok (.iaload, 1))
    (k : W p l e R s m args below meth c H locs cl sl Q (F0 m (pc + 6) ls (.int (xs (i + j)) :: rest))) : W p l e R s m args below meth c H locs cl sl Q (F0 m pc ls rest) := by
  refine lv_aload_n hx hb d0 rfl (hl.2.2 _ h0) ?_
  refine lv_iload hx hb d1 (hl.2.2 _ h4) ?_
  refine lv_iconst hx hb d2 hv ?_
  refine lv_iadd hx hb d3 ?_
  refine W.eq (g2 := F0 m (pc + 5) ls (.int (nI (i + j)) :: .ref b :: rest)) (by rw [nI_add]) ?_
  refine va_sld hx hb hX hbl hbA hS (vp0 hij (by omega)) d4 ?_
  rw [cl0 (by omega)]
  exact k
/-- .. != 0 -/
theorem lw_bool (hx : p.tables.exec = Jvm.exec) (hb : c.code = b9) {x : Int32} (d0 : decode b9 pc = .ok (.ifCond .eq 7, 3)) (d1 : decode b9 (pc + 3) = .ok (.iconst 1, 1)) (d2 : decode b9 (pc + 4) = .ok (.goto 4, 3)) (d3 : decode b9 (pc + 7) = .ok (.iconst 0, 1))
    (k : W p l e R s m args below meth c H locs cl sl Q (F0 m (pc + 8) ls (.int (bz x) :: rest))) : W p l e R s m args below meth c H locs cl sl Q (F0 m pc ls (.int x :: rest)) := by
  refine lv_if_eq hx hb d0 (tgt := pc + 7) (by omega) (fun z => ?_) (fun z => ?_)
  · refine lv_iconst (v := 0) hx hb d3 (by decide +kernel) ?_
    rw [show bz x = 0 from if_pos z] at k
    exact k
  · refine lv_iconst (v := 1) hx hb d1 (by decide +kernel) ?_
    refine lv_goto hx hb d2 (tgt := pc + 8) (by omega) ?_
    rw [show bz x = 1 from if_neg z] at k
    exact k
end LRW

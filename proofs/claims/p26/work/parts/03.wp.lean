/-! THE WALKER: what must hold that a method's body, from an instruction on, comes to its end with 'post' (or throws with 'px'); the kit's rows once for all bodies -/
abbrev Ent : Type := Instr × Nat × Nat × Int32 × List Nat
def lk (loc : Loc9) (k : Nat) : Option VV := match loc with
  | [] => none
  | q :: r => bif q.1 == k then some q.2 else lk r k
def st9 (loc : Loc9) (k : Nat) (v : VV) : Loc9 := (k, v) :: loc.filter (fun q => !(q.1 == k))
def isB (x : Int32) : Prop := x = 0 ∨ x = 1
def isBf (kp k : Nat) : Bool := (kp == 8 && (k == 11 || k == 12)) || (kp == 6 && k == 1) || (kp == 7 && k == 2)
def lenR (kp : Nat) : Nat := match kp with
  | 1 => 6
  | 2 => 12
  | 3 => 4
  | _ => 5
/-- the object that a reference names; one that may be null isn't -/
def drf (v : VV) (f : Nat → Nat → Prop) : Prop := match v with
  | .inl _ => False
  | .inr (.inl r) => f r.1 r.2
  | .inr (.inr r) => ¬ r.2 = -1 ∧ f r.1 r.2.toNatClampNeg
/-- a value in the form that a block wants: a number; an object of a kind; one of a kind, or null -/
def coer (kd kp : Nat) (v : VV) (f : VV → Prop) : Prop := match kd, v with
  | 0, .inl x => f (.inl x)
  | 1, .inr (.inl r) => bif r.1 == kp then f (.inr (.inl (kp, r.2))) else False
  | 2, .inr (.inl r) => bif r.1 == kp then r.2 < 1000 ∧ f (.inr (.inr (kp, nI r.2))) else False
  | 2, .inr (.inr r) => bif r.1 == kp then f (.inr (.inr (kp, r.2))) else False
  | k + 3, .inr (.inl r) => bif r.1 == kp && r.2 == k then f (.inr (.inl (kp, k))) else False
  | _, _ => False
def getAll (loc : Loc9) : List (Nat × Nat × Nat) → (List VV → Prop) → Prop
  | [], f => f []
  | q :: r, f => match lk loc q.1 with
    | some v => coer q.2.1 q.2.2 v (fun w => getAll loc r (fun ws => f (w :: ws)))
    | none => False
def stkAll : List VV → List (Nat × Nat) → (List VV → Prop) → Prop
  | [], [], f => f []
  | v :: vs, q :: r, f => coer q.1 q.2 v (fun w => stkAll vs r (fun ws => f (w :: ws)))
  | _, _, _ => False
def swP (go : Nat → Prop) (d : Nat) (x : Int32) : Nat → List Nat → Prop
  | _, [] => go d
  | k, t :: r => if x = nI k then go t else swP go d x (k + 1) r
/-- a field is read, a field is written -/
def gfP (M : Nat → Nat → Bool) (f : Option (Nat × Nat)) (t : TT) (kp i : Nat) (k : VV → Prop) : Prop := match f with
  | none => False
  | some f => bif f.1 == kp then M kp i = true ∧ (match (FL f.1)[f.2]? with | some e => k (fvv t i e) | none => False) else False
def isFin (kp k : Nat) : Bool := (kp == 5 && Nat.blt k 2) || (kp == 6 && k == 0) || (kp == 7 && Nat.blt k 2) || (kp == 8 && Nat.blt k 4)
def pfP (M : Nat → Nat → Bool) (f : Option (Nat × Nat)) (kp i : Nat) (v : VV) (k : Nat → Int32 → Prop) : Prop := match f with
  | none => False
  | some f => bif f.1 == kp && !isFin f.1 f.2 then M kp i = true ∧ (match (FL f.1)[f.2]? with
    | none => False
    | some e => match e.1, v with
      | 0, .inl x => bif isBf f.1 f.2 then isB x ∧ k e.2 x else k e.2 x
      | 2, .inr (.inl q) => bif q.1 == 5 then q.2 < 1000 ∧ k e.2 (nI q.2) else False
      | 2, .inr (.inr q) => bif q.1 == 5 then k e.2 q.2 else False
      | _, _ => False) else False
/-- one instruction -/
def stepP (M : Nat → Nat → Bool) (nL : Nat) (fld : Nat → Option (Nat × Nat)) (nA : Bool → Nat → Option (Nat × Nat × Nat)) (PC : Nat → List VV → TT → (Option VV → TT → Prop) → (String → TT → Prop) → Prop) (rk mc ms : Nat) (post : Option VV → TT → Prop) (px : String → TT → Prop)
    (ins : Instr) (pc tgt : Nat) (imm : Int32) (ts : List Nat) (loc : Loc9) (st : List VV) (t : TT) (cl sl : Nat) (go : Nat → Loc9 → List VV → TT → Nat → Nat → Prop) : Prop :=
  match ins with
  | .aload_n k => (match lk loc k.val with | some (.inr r) => go (pc + 1) loc (.inr r :: st) t cl sl | _ => False)
  | .aload k => (match lk loc k with | some (.inr r) => go (pc + 2) loc (.inr r :: st) t cl sl | _ => False)
  | .iload_n k => (match lk loc k.val with | some (.inl x) => go (pc + 1) loc (.inl x :: st) t cl sl | _ => False)
  | .iload k => (match lk loc k with | some (.inl x) => go (pc + 2) loc (.inl x :: st) t cl sl | _ => False)
  | .istore_n k => (match st with | .inl x :: r => bif Nat.blt k.val nL then go (pc + 1) (st9 loc k.val (.inl x)) r t cl sl else False | _ => False)
  | .istore k => (match st with | .inl x :: r => bif Nat.blt k nL then go (pc + 2) (st9 loc k (.inl x)) r t cl sl else False | _ => False)
  | .astore_n k => (match st with | .inr x :: r => bif Nat.blt k.val nL then go (pc + 1) (st9 loc k.val (.inr x)) r t cl sl else False | _ => False)
  | .astore k => (match st with | .inr x :: r => bif Nat.blt k nL then go (pc + 2) (st9 loc k (.inr x)) r t cl sl else False | _ => False)
  | .iconst _ => go (pc + 1) loc (.inl imm :: st) t cl sl
  | .bipush _ => go (pc + 2) loc (.inl imm :: st) t cl sl
  | .sipush _ => go (pc + 3) loc (.inl imm :: st) t cl sl
  | .iinc k _ => (match lk loc k with | some (.inl x) => bif Nat.blt k nL then go (pc + 3) (st9 loc k (.inl (x + imm))) st t cl sl else False | _ => False)
  | .iadd => (match st with | .inl y :: .inl x :: r => go (pc + 1) loc (.inl (x + y) :: r) t cl sl | _ => False)
  | .isub => (match st with | .inl y :: .inl x :: r => go (pc + 1) loc (.inl (x - y) :: r) t cl sl | _ => False)
  | .imul => (match st with | .inl y :: .inl x :: r => go (pc + 1) loc (.inl (x * y) :: r) t cl sl | _ => False)
  | .idiv => (match st with | .inl y :: .inl x :: r => ¬ y = 0 ∧ go (pc + 1) loc (.inl (x / y) :: r) t cl sl | _ => False)
  | .irem => (match st with | .inl y :: .inl x :: r => ¬ y = 0 ∧ go (pc + 1) loc (.inl (x - x / y * y) :: r) t cl sl | _ => False)
  | .pop => (match st with | _ :: r => go (pc + 1) loc r t cl sl | _ => False)
  | .iand => (match st with | .inl y :: .inl x :: r => go (pc + 1) loc (.inl (x &&& y) :: r) t cl sl | _ => False)
  | .ior => (match st with | .inl y :: .inl x :: r => go (pc + 1) loc (.inl (x ||| y) :: r) t cl sl | _ => False)
  | .ixor => (match st with | .inl y :: .inl x :: r => go (pc + 1) loc (.inl (x ^^^ y) :: r) t cl sl | _ => False)
  | .ishr => (match st with | .inl y :: .inl x :: r => go (pc + 1) loc (.inl (x >>> (y &&& 31)) :: r) t cl sl | _ => False)
  | .i2b => (match st with | .inl x :: r => go (pc + 1) loc (.inl x.toInt8.toInt32 :: r) t cl sl | _ => False)
  | .dup => (match st with | v :: r => go (pc + 1) loc (v :: v :: r) t cl sl | _ => False)
  | .dup2 => (match st with | v :: w :: r => go (pc + 1) loc (v :: w :: v :: w :: r) t cl sl | _ => False)
  | .getfield ix => (match st with | v :: r => drf v (fun kp i => gfP M (fld ix) t kp i (fun w => go (pc + 3) loc (w :: r) t cl sl)) | _ => False)
  | .putfield ix => (match st with | v :: o :: r => drf o (fun kp i => pfP M (fld ix) kp i v (fun id x => go (pc + 3) loc r (up2 t id i x) cl sl)) | _ => False)
  | .baload => (match st with
    | .inl x :: .inr (.inl (9, i)) :: r => (M 9 i = true ∧ vp_in x 1000) ∧ go (pc + 1) loc (.inl (t 35 (1000 * i + x.toNatClampNeg)) :: r) t cl sl
    | .inl x :: .inr (.inl (10, i)) :: r => (M 10 i = true ∧ vp_in x 1000) ∧ go (pc + 1) loc (.inl (t 36 (1000 * i + x.toNatClampNeg)) :: r) t cl sl
    | _ => False)
  | .bastore => (match st with
    | .inl y :: .inl x :: .inr (.inl (9, i)) :: r => (M 9 i = true ∧ vp_in x 1000) ∧ go (pc + 1) loc r (up2 t 35 (1000 * i + x.toNatClampNeg) (vp_nar .byte y)) cl sl
    | .inl y :: .inl x :: .inr (.inl (10, i)) :: r => (M 10 i = true ∧ vp_in x 1000) ∧ go (pc + 1) loc r (up2 t 36 (1000 * i + x.toNatClampNeg) (vp_nar .byte y)) cl sl
    | _ => False)
  | .aaload => (match st with | .inl x :: .inr (.inl q) :: r => bif (Nat.ble 1 q.1 && Nat.ble q.1 4) then (M q.1 q.2 = true ∧ vp_in x (lenR q.1) ∧ M (q.1 + 4) x.toNatClampNeg = true) ∧ go (pc + 1) loc (.inr (.inl (q.1 + 4, x.toNatClampNeg)) :: r) t cl sl else False | _ => False)
  | .arraylength => (match st with | .inr (.inl q) :: r => bif (q.1 == 9 || q.1 == 10) then M q.1 q.2 = true ∧ go (pc + 1) loc (.inl 1000 :: r) t cl sl else False | _ => False)
  | .if_icmp c _ => (match st with | .inl y :: .inl x :: r => (match c with
      | .eq => if x = y then go tgt loc r t cl sl else go (pc + 3) loc r t cl sl
      | .ne => if x = y then go (pc + 3) loc r t cl sl else go tgt loc r t cl sl
      | .lt => if x < y then go tgt loc r t cl sl else go (pc + 3) loc r t cl sl
      | .ge => if y ≤ x then go tgt loc r t cl sl else go (pc + 3) loc r t cl sl
      | .gt => if y < x then go tgt loc r t cl sl else go (pc + 3) loc r t cl sl
      | .le => if x ≤ y then go tgt loc r t cl sl else go (pc + 3) loc r t cl sl) | _ => False)
  | .ifCond c _ => (match st with | .inl x :: r => (match c with
      | .eq => if x = 0 then go tgt loc r t cl sl else go (pc + 3) loc r t cl sl
      | .ne => if x = 0 then go (pc + 3) loc r t cl sl else go tgt loc r t cl sl
      | .lt => if x < 0 then go tgt loc r t cl sl else go (pc + 3) loc r t cl sl
      | .ge => if 0 ≤ x then go tgt loc r t cl sl else go (pc + 3) loc r t cl sl
      | .gt => if 0 < x then go tgt loc r t cl sl else go (pc + 3) loc r t cl sl
      | .le => if x ≤ 0 then go tgt loc r t cl sl else go (pc + 3) loc r t cl sl) | _ => False)
  | .ifnull _ => (match st with
    | .inr (.inl _) :: r => go (pc + 3) loc r t cl sl
    | .inr (.inr q) :: r => if q.2 = -1 then go tgt loc r t cl sl else go (pc + 3) loc r t cl sl
    | _ => False)
  | .ifnonnull _ => (match st with
    | .inr (.inl _) :: r => go tgt loc r t cl sl
    | .inr (.inr q) :: r => if q.2 = -1 then go (pc + 3) loc r t cl sl else go tgt loc r t cl sl
    | _ => False)
  | .goto _ => go tgt loc st t cl sl
  | .tableswitch _ _ _ _ => (match st with | .inl x :: r => swP (fun q => go q loc r t cl sl) tgt x 0 ts | _ => False)
  | .aconst_null => go (pc + 1) loc (.inr (.inr (tgt, -1)) :: st) t cl sl
  | .invokevirtual ix => (match nA true ix with
    | some q => bif Nat.ble q.1 st.length && Nat.ble (st.length - q.1) 8 && Nat.ble (cl + q.2.1) mc && Nat.ble (sl + q.2.2) ms then PC ix (st.take q.1).reverse t (fun v t1 => go (pc + 3) loc (v.toList ++ st.drop q.1) t1 (cl + q.2.1) (sl + q.2.2)) px else False
    | none => False)
  | .invokestatic ix => (match nA false ix with
    | some q => bif Nat.ble q.1 st.length && Nat.ble (st.length - q.1) 8 && Nat.ble (cl + q.2.1) mc && Nat.ble (sl + q.2.2) ms then PC ix (st.take q.1).reverse t (fun v t1 => go (pc + 3) loc (v.toList ++ st.drop q.1) t1 (cl + q.2.1) (sl + q.2.2)) px else False
    | none => False)
  | .ireturn => (match st, rk with
    | [.inl x], 1 => bif Nat.ble cl mc && Nat.ble sl ms then post (some (.inl x)) t else False
    | [.inl x], 2 => bif Nat.ble cl mc && Nat.ble sl ms then isB x ∧ post (some (.inl x)) t else False
    | _, _ => False)
  | .return_ => (match st, rk with
    | [], 0 => bif Nat.ble cl mc && Nat.ble sl ms then post none t else False
    | _, _ => False)
  | .areturn => (match st, rk with
    | [.inr (.inr q)], 3 => bif Nat.ble cl mc && Nat.ble sl ms then post (some (.inr (.inr q))) t else False
    | _, _ => False)
  | _ => False
def wp (M : Nat → Nat → Bool) (nL : Nat) (tab : Nat → Option Ent) (fld : Nat → Option (Nat × Nat)) (nA : Bool → Nat → Option (Nat × Nat × Nat)) (PC : Nat → List VV → TT → (Option VV → TT → Prop) → (String → TT → Prop) → Prop) (thr : Nat → Option String) (cs : Nat → Option (List (Nat × Nat × Nat) × List (Nat × Nat) × Nat × Nat)) (Bk : Nat → List VV → List VV → TT → Prop) (rk mc ms : Nat) (post : Option VV → TT → Prop) (px : String → TT → Prop) : Nat → Nat → Loc9 → List VV → TT → Nat → Nat → Prop
  | 0, _, _, _, _, _, _ => False
  | n + 1, pc, loc, st, t, cl, sl => match thr pc with
    | some E => bif Nat.ble (cl + 1) mc && Nat.ble (sl + 6) ms && Nat.ble st.length 8 then px E t else False
    | none => match tab pc with
      | none => False
      | some en => stepP M nL fld nA PC rk mc ms post px en.1 pc en.2.2.1 en.2.2.2.1 en.2.2.2.2 loc st t cl sl (fun pc1 loc1 st1 t1 cl1 sl1 => match cs pc1 with
        | some q => bif cl1 == q.2.2.1 && sl1 == q.2.2.2 then getAll loc1 q.1 (fun vs => stkAll st1 q.2.1 (fun ws => Bk pc1 vs ws t1)) else False
        | none => wp M nL tab fld nA PC thr cs Bk rk mc ms post px n pc1 loc1 st1 t1 cl1 sl1)
/-- an entry of the table says what the bytes say -/
def entOK (b : ByteArray) (pc : Nat) (en : Ent) : Bool := decide (decode b pc = .ok (en.1, en.2.1)) && (match en.1 with
  | .if_icmp _ off => decide (en.2.1 = 3 ∧ (pc : Int) + off = (en.2.2.1 : Int))
  | .ifCond _ off => decide (en.2.1 = 3 ∧ (pc : Int) + off = (en.2.2.1 : Int))
  | .ifnull off => decide (en.2.1 = 3 ∧ (pc : Int) + off = (en.2.2.1 : Int))
  | .ifnonnull off => decide (en.2.1 = 3 ∧ (pc : Int) + off = (en.2.2.1 : Int))
  | .goto off => decide (en.2.1 = 3 ∧ (pc : Int) + off = (en.2.2.1 : Int))
  | .iconst n => decide (en.2.1 = 1 ∧ Int32.ofInt n = en.2.2.2.1)
  | .bipush n => decide (en.2.1 = 2 ∧ (Int8.ofInt n).toInt32 = en.2.2.2.1)
  | .sipush n => decide (en.2.1 = 3 ∧ (Int16.ofInt n).toInt32 = en.2.2.2.1)
  | .iinc _ n => decide (en.2.1 = 3 ∧ Int32.ofInt n = en.2.2.2.1)
  | .tableswitch d lo hi offs => decide (lo = 0 ∧ hi + 1 = (en.2.2.2.2.length : Int) ∧ (pc : Int) + d = (en.2.2.1 : Int)) && (List.range en.2.2.2.2.length).all (fun j => match offs[j]?, en.2.2.2.2[j]? with | some o, some q => decide ((pc : Int) + o = (q : Int)) | _, _ => false) && decide (en.2.2.2.2.length < 1000)
  | .aload _ => decide (en.2.1 = 2)
  | .iload _ => decide (en.2.1 = 2)
  | .istore _ => decide (en.2.1 = 2)
  | .astore _ => decide (en.2.1 = 2)
  | .getfield _ => decide (en.2.1 = 3)
  | .putfield _ => decide (en.2.1 = 3)
  | .invokevirtual _ => decide (en.2.1 = 3)
  | .invokestatic _ => decide (en.2.1 = 3)
  | _ => decide (en.2.1 = 1))
def tabOf (l : List (Nat × Ent)) (pc : Nat) : Option Ent := match l with
  | [] => none
  | q :: r => bif q.1 == pc then some q.2 else tabOf r pc
theorem tabOf_ok {b : ByteArray} : ∀ {l : List (Nat × Ent)} {pc : Nat} {en : Ent}, (l.all (fun q => entOK b q.1 q.2)) = true → tabOf l pc = some en → entOK b pc en = true
  | [], _, _, _, h => by cases h
  | q :: r, pc, en, hl, h => by
    simp only [List.all_cons, Bool.and_eq_true] at hl
    unfold tabOf at h
    cases hq : q.1 == pc with
    | true =>
      rw [hq] at h
      cases h
      have e : q.1 = pc := by simpa using hq
      rw [← e]
      exact hl.1
    | false =>
      rw [hq] at h
      exact tabOf_ok hl.2 h

/-! A machine of its own over the program as data: locals and stack as lists, references as numbers of cells, the heap as a function. -/
abbrev xLC : Type := (Nat × Nat × ((Nat → Int32) ⊕ (Nat → Option Nat))) ⊕ (Nat × List Value)
abbrev xHp : Type := Nat → xLC
abbrev xLs : Type := List (Nat × Value)
abbrev xRs : Type := Nat × xLs × List Value × xHp × Nat × Nat × Nat
def xNo : xLC := .inr (99, [])
def xcl : List vw_C := [(RX0, TX0, 7), (RX2, TX2, 2), (RX3, TX3, 9), (RX4, TX4, 6)]
def xclTy : List (Nat → FieldType) := [tyX0, tyX2, tyX3, tyX4]
def xfty (ci k : Nat) : FieldType := ((xclTy[ci]?).getD tyX0) k
def xdef : Nat → List Value := fun ci => cond (Nat.beq ci 0) [.int 0, .int 0, .int 0, .int 0, .int 0, .int 0, .int 0] (cond (Nat.beq ci 1) [.null, .int 0] (cond (Nat.beq ci 2) [.null, .null, .int 0, .int 0, .int 0, .int 0, .int 0, .int 0, .int 0] [.null, .null, .int 0, .null, .null, .null]))
def xcls (ci : Nat) : Nat := ((xcl[ci]?).map (fun q => q.2.2)).getD 0
def xup (h : xHp) (k : Nat) (c : xLC) : xHp := fun j => if j = k then c else h j
def xgo (pc : Nat) (ls : xLs) (st : List Value) (h : xHp) (n : Nat) : Option xRs := some (pc, ls, st, h, n, 0, 0)
def xld (ls : xLs) (i : Nat) : Option Value := match ls with
  | [] => none
  | q :: r => cond (Nat.beq q.1 i) (some q.2) (xld r i)
def xst1 (ls : xLs) (i : Nat) (v : Value) : xLs := (i, v) :: ls.filter (fun q => !(q.1 == i) && !(q.1 + 1 == i && q.2.category == 2))
def xst2 (ls : xLs) (i : Nat) (v : Value) : xLs := (i, v) :: ls.filter (fun q => !(q.1 == i) && (!(q.1 == i + 1) && !(q.1 + 1 == i && q.2.category == 2)))
def xpI {α : Type} (st : List Value) (k : Int32 → List Value → Option α) : Option α := match st with | .int x :: r => k x r | _ => none
def xpL {α : Type} (st : List Value) (k : Int64 → List Value → Option α) : Option α := match st with | .long x :: r => k x r | _ => none
def xpR {α : Type} (st : List Value) (k : Nat → List Value → Option α) : Option α := match st with | .ref x :: r => k x r | _ => none
def xpV {α : Type} (st : List Value) (k : Value → List Value → Option α) : Option α := match st with | v :: r => k v r | _ => none
def xgI {α : Type} (v : Option Value) (k : Int32 → Option α) : Option α := match v with | some (.int x) => k x | _ => none
def xgL {α : Type} (v : Option Value) (k : Int64 → Option α) : Option α := match v with | some (.long x) => k x | _ => none
def xgR {α : Type} (v : Option Value) (k : Nat → Option α) : Option α := match v with | some (.ref x) => k x | _ => none
def xgO {α β : Type} (v : Option β) (k : β → Option α) : Option α := match v with | some x => k x | none => none
def xcI {α : Type} (c : xLC) (k : Nat → Nat → (Nat → Int32) → Option α) : Option α := match c with | .inl (t, len, .inl f) => k t len f | _ => none
def xcQ {α : Type} (c : xLC) (k : Nat → Nat → (Nat → Option Nat) → Option α) : Option α := match c with | .inl (t, len, .inr f) => k t len f | _ => none
def xcO {α : Type} (c : xLC) (k : Nat → List Value → Option α) : Option α := match c with | .inr (ci, fs) => k ci fs | _ => none
def xcN {α : Type} (c : xLC) (k : Nat → Nat → Option α) : Option α := match c with | .inl (t, len, _) => k t len | _ => none
def xgd {α : Type} (b : Bool) (a : Option α) : Option α := cond b a none
def xgp {α : Type} (c : Prop) [Decidable c] (a : Option α) : Option α := if c then a else none
def xsw (x dflt lo hi : Int) (offs : Array Int) : Int := if x < lo ∨ hi < x then dflt else (offs[(x - lo).toNat]?).getD dflt
def xbr (c : ClassFile.Cond) (x y : Int32) (t f : Nat) : Nat := match c with
  | .eq => if x = y then t else f
  | .ne => if x = y then f else t
  | .lt => if x < y then t else f
  | .ge => if y ≤ x then t else f
  | .gt => if y < x then t else f
  | .le => if x ≤ y then t else f
def xb0 (c : ClassFile.Cond) (x : Int32) (t f : Nat) : Nat := match c with
  | .eq => if x = 0 then t else f
  | .ne => if x = 0 then f else t
  | .lt => if x < 0 then t else f
  | .ge => if 0 ≤ x then t else f
  | .gt => if 0 < x then t else f
  | .le => if x ≤ 0 then t else f
def xcw (st : List Value) : Nat := (st.map fun v => v.category).sum
/-- an instruction that is no call and no return -/
def xstp (d : Nat) (e : xEn) (pc : Nat) (ls : xLs) (st : List Value) (h : xHp) (n : Nat) : Option xRs := match e.1 with
  | .iconst _ => xgI (some e.2.2.2.2.1) fun x => xgo (pc + 1) ls (.int x :: st) h n
  | .bipush _ => xgI (some e.2.2.2.2.1) fun x => xgo (pc + 2) ls (.int x :: st) h n
  | .sipush _ => xgI (some e.2.2.2.2.1) fun x => xgo (pc + 3) ls (.int x :: st) h n
  | .ldc _ => xgI (some e.2.2.2.2.1) fun x => xgo (pc + 2) ls (.int x :: st) h n
  | .ldc_w _ => xgI (some e.2.2.2.2.1) fun x => xgo (pc + 3) ls (.int x :: st) h n
  | .lconst _ => xgL (some e.2.2.2.2.1) fun x => xgo (pc + 1) ls (.long x :: st) h n
  | .ldc2_w _ => xgL (some e.2.2.2.2.1) fun x => xgo (pc + 3) ls (.long x :: st) h n
  | .iload_n k => xgI (xld ls k) fun x => xgo (pc + 1) ls (.int x :: st) h n
  | .iload k => xgI (xld ls k) fun x => xgo (pc + 2) ls (.int x :: st) h n
  | .lload_n k => xgL (xld ls k) fun x => xgo (pc + 1) ls (.long x :: st) h n
  | .lload k => xgL (xld ls k) fun x => xgo (pc + 2) ls (.long x :: st) h n
  | .aload_n k => xgR (xld ls k) fun x => xgo (pc + 1) ls (.ref x :: st) h n
  | .aload k => xgR (xld ls k) fun x => xgo (pc + 2) ls (.ref x :: st) h n
  | .istore_n k => xpI st fun x r => xgo (pc + 1) (xst1 ls k (.int x)) r h n
  | .istore k => xpI st fun x r => xgo (pc + 2) (xst1 ls k (.int x)) r h n
  | .lstore_n k => xpL st fun x r => xgo (pc + 1) (xst2 ls k (.long x)) r h n
  | .lstore k => xpL st fun x r => xgo (pc + 2) (xst2 ls k (.long x)) r h n
  | .astore_n k => xpR st fun x r => xgo (pc + 1) (xst1 ls k (.ref x)) r h n
  | .astore k => xpR st fun x r => xgo (pc + 2) (xst1 ls k (.ref x)) r h n
  | .iinc k _ => xgI (xld ls k) fun x => xgI (some e.2.2.2.2.1) fun y => xgo (pc + 3) (xst1 ls k (.int (x + y))) st h n
  | .iadd => xpI st fun y r => xpI r fun x r => xgo (pc + 1) ls (.int (x + y) :: r) h n
  | .isub => xpI st fun y r => xpI r fun x r => xgo (pc + 1) ls (.int (x - y) :: r) h n
  | .imul => xpI st fun y r => xpI r fun x r => xgo (pc + 1) ls (.int (x * y) :: r) h n
  | .iand => xpI st fun y r => xpI r fun x r => xgo (pc + 1) ls (.int (x &&& y) :: r) h n
  | .ior => xpI st fun y r => xpI r fun x r => xgo (pc + 1) ls (.int (x ||| y) :: r) h n
  | .idiv => xpI st fun y r => xpI r fun x r => xgp (¬ y = 0) (xgo (pc + 1) ls (.int (x / y) :: r) h n)
  | .irem => xpI st fun y r => xpI r fun x r => xgp (¬ y = 0) (xgo (pc + 1) ls (.int (x - x / y * y) :: r) h n)
  | .ishl => xpI st fun y r => xpI r fun x r => xgo (pc + 1) ls (.int (x <<< (y &&& 31)) :: r) h n
  | .ishr => xpI st fun y r => xpI r fun x r => xgo (pc + 1) ls (.int (x >>> (y &&& 31)) :: r) h n
  | .iushr => xpI st fun y r => xpI r fun x r => xgo (pc + 1) ls (.int (x.toUInt32 >>> (y.toUInt32 &&& Int32.toUInt32 31)).toInt32 :: r) h n
  | .ladd => xpL st fun y r => xpL r fun x r => xgo (pc + 1) ls (.long (x + y) :: r) h n
  | .lmul => xpL st fun y r => xpL r fun x r => xgo (pc + 1) ls (.long (x * y) :: r) h n
  | .lsub => xpL st fun y r => xpL r fun x r => xgo (pc + 1) ls (.long (x - y) :: r) h n
  | .land => xpL st fun y r => xpL r fun x r => xgo (pc + 1) ls (.long (x &&& y) :: r) h n
  | .lor => xpL st fun y r => xpL r fun x r => xgo (pc + 1) ls (.long (x ||| y) :: r) h n
  | .lshl => xpI st fun y r => xpL r fun x r => xgo (pc + 1) ls (.long (x <<< (y.toInt64 &&& 63)) :: r) h n
  | .lushr => xpI st fun y r => xpL r fun x r => xgo (pc + 1) ls (.long (x.toUInt64 >>> (y.toInt64.toUInt64 &&& Int64.toUInt64 63)).toInt64 :: r) h n
  | .lcmp => xpL st fun y r => xpL r fun x r => xgo (pc + 1) ls (.int (lg_cmp x y) :: r) h n
  | .i2l => xpI st fun x r => xgo (pc + 1) ls (.long x.toInt64 :: r) h n
  | .l2i => xpL st fun x r => xgo (pc + 1) ls (.int x.toInt32 :: r) h n
  | .i2c => xpI st fun x r => xgo (pc + 1) ls (.int (x.toUInt32 % 65536).toInt32 :: r) h n
  | .dup => xpV st fun v r => xgd (v.category == 1) (xgo (pc + 1) ls (v :: v :: r) h n)
  | .dup2 => xpV st fun v r => xpV r fun w r => xgd (v.category == 1) (xgd (w.category == 1) (xgo (pc + 1) ls (v :: w :: v :: w :: r) h n))
  | .pop => xpV st fun v r => xgd (v.category == 1) (xgo (pc + 1) ls r h n)
  | .goto _ => xgo e.2.2.1 ls st h n
  | .if_icmp c _ => xpI st fun y r => xpI r fun x r => xgo (xbr c x y e.2.2.1 (pc + 3)) ls r h n
  | .ifCond c _ => xpI st fun x r => xgo (xb0 c x e.2.2.1 (pc + 3)) ls r h n
  | .tableswitch df lo hi offs => xpI st fun x r => xgp (0 ≤ (pc : Int) + xsw x.toInt df lo hi offs) (xgo ((pc : Int) + xsw x.toInt df lo hi offs).toNat ls r h n)
  | .lookupswitch df ps => xpI st fun x r => xgp (0 ≤ (pc : Int) + Op.lookupswitch.offset ps.toList df x.toInt) (xgo ((pc : Int) + Op.lookupswitch.offset ps.toList df x.toInt).toNat ls r h n)
  | .getfield _ => xpR st fun k r => xcO (h k) fun ci fs => xgd (Nat.beq ci e.2.2.1) (xgO fs[e.2.2.2.1]? fun v => xgo (pc + 3) ls (v :: r) h n)
  | .putfield _ => xpV st fun v r => xpR r fun k r => xcO (h k) fun ci fs => xgd (Nat.beq ci e.2.2.1) (xgd (fits (xfty e.2.2.1 e.2.2.2.1) v) (xgd (Nat.blt e.2.2.2.1 fs.length) (xgo (pc + 3) ls r (xup h k (.inr (ci, fs.set e.2.2.2.1 v))) n)))
  | .getstatic _ => xgo (pc + 3) ls (.ref e.2.2.1 :: st) h n
  | .iaload => xpI st fun j r => xpR r fun k r => xcI (h k) fun t len f => xgd (Nat.beq t 0) (xgp (¬ (j < 0 ∨ len ≤ j.toNatClampNeg)) (xgo (pc + 1) ls (.int (f j.toNatClampNeg) :: r) h n))
  | .baload => xpI st fun j r => xpR r fun k r => xcI (h k) fun t len f => xgd (Nat.beq t 1) (xgp (¬ (j < 0 ∨ len ≤ j.toNatClampNeg)) (xgo (pc + 1) ls (.int (f j.toNatClampNeg) :: r) h n))
  | .caload => xpI st fun j r => xpR r fun k r => xcI (h k) fun t len f => xgd (Nat.beq t 2) (xgp (¬ (j < 0 ∨ len ≤ j.toNatClampNeg)) (xgo (pc + 1) ls (.int (f j.toNatClampNeg) :: r) h n))
  | .iastore => xpI st fun x r => xpI r fun j r => xpR r fun k r => xcI (h k) fun t len f => xgd (Nat.ble 3 k) (xgd (Nat.beq t 0) (xgp (¬ (j < 0 ∨ len ≤ j.toNatClampNeg)) (xgo (pc + 1) ls r (xup h k (.inl (0, len, .inl (upd f j.toNatClampNeg x)))) n)))
  | .bastore => xpI st fun x r => xpI r fun j r => xpR r fun k r => xcI (h k) fun t len f => xgd (Nat.ble 3 k) (xgd (Nat.beq t 1) (xgp (¬ (j < 0 ∨ len ≤ j.toNatClampNeg)) (xgo (pc + 1) ls r (xup h k (.inl (1, len, .inl (upd f j.toNatClampNeg (vp_nar .boolean x))))) n)))
  | .castore => xpI st fun x r => xpI r fun j r => xpR r fun k r => xcI (h k) fun t len f => xgd (Nat.ble 3 k) (xgd (Nat.beq t 2) (xgp (¬ (j < 0 ∨ len ≤ j.toNatClampNeg)) (xgo (pc + 1) ls r (xup h k (.inl (2, len, .inl (upd f j.toNatClampNeg (vp_nar .char x))))) n)))
  | .aaload => xpI st fun j r => xpR r fun k r => xcQ (h k) fun t len f => xgd (Nat.beq t 3 || Nat.beq t 4) (xgp (¬ (j < 0 ∨ len ≤ j.toNatClampNeg)) (xgO (f j.toNatClampNeg) fun q => xgo (pc + 1) ls (.ref q :: r) h n))
  | .aastore => xpR st fun v r => xpI r fun j r => xpR r fun k r => xcQ (h k) fun t len f => xcO (h v) fun ci _ => xgd ((Nat.beq t 3 && Nat.beq ci 2) || (Nat.beq t 4 && Nat.beq ci 0)) (xgp (¬ (j < 0 ∨ len ≤ j.toNatClampNeg)) (xgo (pc + 1) ls r (xup h k (.inl (t, len, .inr (va_up f j.toNatClampNeg (some v))))) n))
  | .arraylength => xpR st fun k r => xcN (h k) fun t len => xgd (Nat.ble t 4) <| xgo (pc + 1) ls (.int (Int32.ofNat len) :: r) h n
  | .new _ => some (pc + 3, ls, .ref n :: st, xup h n (.inr (e.2.2.1, xdef e.2.2.1)), n + 1, 1, xcls e.2.2.1)
  | .newarray _ => xpI st fun m r => xgp (¬ m < 0) (xgd (Nat.ble m.toNatClampNeg 65536) (some (pc + 2, ls, .ref n :: r, xup h n (.inl (e.2.2.1, m.toNatClampNeg, .inl (fun _ => 0))), n + 1, 1, m.toNatClampNeg)))
  | .anewarray _ => xpI st fun m r => xgp (¬ m < 0) (xgd (Nat.ble m.toNatClampNeg 65536) (some (pc + 3, ls, .ref n :: r, xup h n (.inl (e.2.2.1, m.toNatClampNeg, .inr (fun _ => none))), n + 1, 1, m.toNatClampNeg)))
  | .invokespecial _ => xgd (Nat.beq e.2.2.1 1000) (xpR st fun _ r => xgd (Nat.ble (xcw r) 8) (xgd (Nat.ble 1 d) (xgo (pc + 3) ls r h n)))
  | .invokestatic _ => cond (Nat.beq e.2.2.1 1002) (xpI st fun y r => xpI r fun x r => xgd (Nat.ble (xcw r) 8 && Nat.ble 1 d) (xgo (pc + 3) ls (.int (if y < x then y else x) :: r) h n))
      (xgd (Nat.beq e.2.2.1 1001) (xpI st fun m r => xpI r fun dp r => xpR r fun k1 r => xpI r fun sp r => xpR r fun k0 r => xcI (h k0) fun t0 n0 f => xcI (h k1) fun t1 n1 g =>
      xgd (Nat.ble 3 k0 && (Nat.ble 3 k1 && (Nat.beq t0 0 && (Nat.beq t1 0 && (Nat.ble (xcw r) 8 && Nat.ble 1 d))))) (xgp (¬ sp < 0 ∧ ¬ dp < 0 ∧ ¬ m < 0 ∧ sp.toNatClampNeg + m.toNatClampNeg ≤ n0 ∧ dp.toNatClampNeg + m.toNatClampNeg ≤ n1) (xgo (pc + 3) ls r (xup h k1 (.inl (0, n1, .inl (va_cpy f g sp.toNatClampNeg dp.toNatClampNeg m.toNatClampNeg)))) n))))
  | _ => none
/-- what an instruction is: 0 a return, 1 a call, 2 another -/
def xkind (e : xEn) : Nat := match e.1 with
  | .ireturn => 0
  | .lreturn => 0
  | .return_ => 0
  | .invokevirtual _ => 1
  | .invokestatic _ => cond (Nat.ble 1000 e.2.2.1) 2 1
  | .invokespecial _ => cond (Nat.ble 1000 e.2.2.1) 2 1
  | _ => 2
def xnok (ty : FieldType) (x : Int32) : Bool := match ty with | .int => true | t => decide (narrow t (.int x) = .int x)
/-- a return: the answer, if it is one of the method's type -/
def xret (i : Nat) (e : xEn) (st : List Value) : Option (Option Value) := match e.1 with
  | .ireturn => xpI st fun x r => xgd (List.isEmpty r) (match (xMt i).2.2.2.1 with | some ty => xgd (xnok ty x) (some (some (.int x))) | none => none)
  | .lreturn => xpL st fun x r => xgd (List.isEmpty r) (match (xMt i).2.2.2.1 with | some .long => some (some (.long x)) | _ => none)
  | .return_ => xgd (List.isEmpty st) (match (xMt i).2.2.2.1 with | none => some none | some _ => none)
  | _ => none
/-- a call: the method's number, its arguments, what stays on the stack -/
def xcall (e : xEn) (st : List Value) (h : xHp) : Option (Nat × List Value × List Value) := match e.1 with
  | .invokestatic _ => xgd (Nat.ble e.2.2.2.1 st.length) (xgd (Nat.ble (xcw (st.drop e.2.2.2.1)) 8) (xgd (Nat.ble (xcw (st.take e.2.2.2.1).reverse) (xMt e.2.2.1).2.2.1) (some (e.2.2.1, (st.take e.2.2.2.1).reverse, st.drop e.2.2.2.1))))
  | .invokevirtual _ => xpR (st.drop e.2.2.2.1) fun b r => xcO (h b) fun ci _ => xgd (Nat.ble e.2.2.2.1 st.length) (xgd (Nat.ble (xcw r) 8) (xgd (Nat.beq ci (xcm e.2.2.1)) (xgd (Nat.ble (xcw (.ref b :: (st.take e.2.2.2.1).reverse)) (xMt e.2.2.1).2.2.1) (some (e.2.2.1, .ref b :: (st.take e.2.2.2.1).reverse, r)))))
  | .invokespecial _ => xpR (st.drop e.2.2.2.1) fun b r => xgd (Nat.ble e.2.2.2.1 st.length) (xgd (Nat.ble (xcw r) 8) (xgd (Nat.ble (xcw (.ref b :: (st.take e.2.2.2.1).reverse)) (xMt e.2.2.1).2.2.1) (some (e.2.2.1, .ref b :: (st.take e.2.2.2.1).reverse, r))))
  | _ => none
def xfind (i pc : Nat) : Option xEn := cond (Nat.ble pc ((xMt i).2.2.2.2.2.2.2 - 1)) (xI i pc) none
abbrev xOut : Type := Nat × List Value × Option Value × xHp × Nat × Nat × Nat
def xadd (kc ks : Nat) (r : Option xOut) : Option xOut := match r with | some (q, sq, v, h, n, a, b) => some (q, sq, v, h, n, kc + a, ks + b) | none => none
/-- a method's run: fuel, depth, the method, where it stands -/
def xex : Nat → Nat → Nat → Nat → xLs → List Value → xHp → Nat → Option xOut
  | 0, _, _, _, _, _, _, _ => none
  | f + 1, d, i, pc, ls, st, h, n => match xfind i pc with
    | none => none
    | some e => match xkind e with
      | 0 => (match xret i e st with | some v => some (pc, st, v, h, n, 0, 0) | none => none)
      | 1 => (match xcall e st h with
        | none => none
        | some (j, as, r) => (match d with
          | 0 => none
          | d' + 1 => (match xex f d' j 0 (lv_args 0 as) [] h n with
            | none => none
            | some (_, _, v, h1, n1, kc, ks) => xadd kc ks (xex f d i (pc + 3) ls (v.toList ++ r) h1 n1))))
      | _ => (match xstp d e pc ls st h n with
        | none => none
        | some (pc1, ls1, st1, h1, n1, kc, ks) => xadd kc ks (xex f d i pc1 ls1 st1 h1 n1))

/-! what a program checks of each instruction: it decodes so, its words stand in the tables -/
def xT : List Jvm.Cond := lw_tbl.filter goodWord
def xw (p : Nat) (w : Jvm.Cond) : Bool := decide (lw_tbl[p]? = some w) && goodWord w
theorem xw_mem {p : Nat} {w : Jvm.Cond} (h : xw p w = true) : w ∈ xT := by
  simp only [xw, Bool.and_eq_true, decide_eq_true_eq] at h
  exact List.mem_filter.mpr ⟨List.mem_of_getElem? h.1, h.2⟩
def xvI (v : Value) (x : Int32) : Bool := match v with | .int y => decide (x = y) | _ => false
def xvL (v : Value) (x : Int64) : Bool := match v with | .long y => decide (x = y) | _ => false
def xnm (y : MethodName) (n : Nat) : Bool := decide ((parseMethodDescriptor y.desc).map (fun d => d.parameters.length) = some n)
def xfl (i : Nat) (e : xEn) (idx : Nat) : Bool := match xcl[e.2.2.1]? with
  | some (C, T, N) => Nat.blt e.2.2.2.1 N && xw (e.2.2.2.2.2.getD 0 0) (.fieldLink (xMt i).1.cls idx C (T e.2.2.2.1).2.1 (T e.2.2.2.1).2.2.1)
  | none => false
def xff (i : Nat) (e : xEn) : Bool := match xcl[e.2.2.1]? with
  | some (C, T, _) => !(T e.2.2.2.1).2.2.2 || (decide ((xMt i).1.name = "<init>") && decide ((xMt i).1.cls = C))
  | none => false
def xchi (i pc : Nat) (e : xEn) : Bool := match e.1 with
  | .iconst m => Nat.beq e.2.1 1 && xvI e.2.2.2.2.1 (Int32.ofInt m)
  | .bipush m => Nat.beq e.2.1 2 && xvI e.2.2.2.2.1 (Int8.ofInt m).toInt32
  | .sipush m => Nat.beq e.2.1 3 && xvI e.2.2.2.2.1 (Int16.ofInt m).toInt32
  | .ldc idx => Nat.beq e.2.1 2 && (match e.2.2.2.2.1 with | .int x => xw (e.2.2.2.2.2.getD 0 0) (.constant (xMt i).1.cls idx x) | _ => false)
  | .ldc_w idx => Nat.beq e.2.1 3 && (match e.2.2.2.2.1 with | .int x => xw (e.2.2.2.2.2.getD 0 0) (.constant (xMt i).1.cls idx x) | _ => false)
  | .lconst m => Nat.beq e.2.1 1 && xvL e.2.2.2.2.1 (Int64.ofNat (m : Nat))
  | .ldc2_w idx => Nat.beq e.2.1 3 && (match e.2.2.2.2.1 with | .long x => xw (e.2.2.2.2.2.getD 0 0) (.constantLong (xMt i).1.cls idx x) | _ => false)
  | .iload _ => Nat.beq e.2.1 2
  | .lload _ => Nat.beq e.2.1 2
  | .aload _ => Nat.beq e.2.1 2
  | .istore_n k => Nat.beq e.2.1 1 && Nat.blt k (xMt i).2.2.1
  | .astore_n k => Nat.beq e.2.1 1 && Nat.blt k (xMt i).2.2.1
  | .lstore_n k => Nat.beq e.2.1 1 && Nat.blt (k + 1) (xMt i).2.2.1
  | .istore k => Nat.beq e.2.1 2 && Nat.blt k (xMt i).2.2.1
  | .astore k => Nat.beq e.2.1 2 && Nat.blt k (xMt i).2.2.1
  | .lstore k => Nat.beq e.2.1 2 && Nat.blt (k + 1) (xMt i).2.2.1
  | .iinc k m => Nat.beq e.2.1 3 && (Nat.blt k (xMt i).2.2.1 && xvI e.2.2.2.2.1 (Int32.ofInt m))
  | .goto off => Nat.beq e.2.1 3 && decide ((pc : Int) + off = (e.2.2.1 : Int))
  | .if_icmp _ off => Nat.beq e.2.1 3 && decide ((pc : Int) + off = (e.2.2.1 : Int))
  | .ifCond _ off => Nat.beq e.2.1 3 && decide ((pc : Int) + off = (e.2.2.1 : Int))
  | .tableswitch df lo hi offs => decide (offs.size = (hi - lo + 1).toNat) && decide (lo ≤ hi)
  | .lookupswitch _ ps => (ps.toList.zip (ps.toList.drop 1)).all (fun q => decide (q.1.1 < q.2.1))
  | .getfield idx => Nat.beq e.2.1 3 && xfl i e idx
  | .putfield idx => Nat.beq e.2.1 3 && (xfl i e idx && xff i e)
  | .getstatic idx => Nat.beq e.2.1 3 && (decide ((xMt i).1.cls = "BraidHorns$Track") && ((Nat.beq idx 121 && Nat.beq e.2.2.1 1) || (Nat.beq idx 95 && Nat.beq e.2.2.1 2)))
  | .new idx => Nat.beq e.2.1 3 && (match xcl[e.2.2.1]? with
      | some (C, _, N) => xw (e.2.2.2.2.2.getD 0 0) (.classLink (xMt i).1.cls idx C) && (xw (e.2.2.2.2.2.getD 1 0) (.instantiable C N) && xw (e.2.2.2.2.2.getD 2 0) (.initialized C))
      | none => false)
  | .newarray t => Nat.beq e.2.1 2 && (xw (e.2.2.2.2.2.getD 0 0) (.arrayClass (newarray.typeOf t)) && (match t with | .int => Nat.beq e.2.2.1 0 | .boolean => Nat.beq e.2.2.1 1 | .char => Nat.beq e.2.2.1 2 | _ => false))
  | .anewarray idx => Nat.beq e.2.1 3 && ((Nat.beq e.2.2.1 3 && xw (e.2.2.2.2.2.getD 0 0) (.classLink (xMt i).1.cls idx "BraidHorns$Track")) || (Nat.beq e.2.2.1 4 && xw (e.2.2.2.2.2.getD 0 0) (.classLink (xMt i).1.cls idx "BraidHorns$Carrier")))
  | .invokevirtual idx => Nat.beq e.2.1 3 && (Nat.blt e.2.2.1 96 && (xnm (xMt e.2.2.1).1 e.2.2.2.1 && (decide ((xcl[xcm e.2.2.1]?).map (fun q => q.1) = some (xMt e.2.2.1).1.cls) && (xw (e.2.2.2.2.2.getD 0 0) (.methodLink (xMt i).1.cls idx (xMt e.2.2.1).1) && (xw (e.2.2.2.2.2.getD 1 0) (.instanceMethod (xMt e.2.2.1).1) && (xw (e.2.2.2.2.2.getD 2 0) (.selects (xMt e.2.2.1).1.cls (xMt e.2.2.1).1 (xMt e.2.2.1).1) && xw (e.2.2.2.2.2.getD 3 0) (.initialized (xMt e.2.2.1).1.cls)))))))
  | .invokestatic idx => Nat.beq e.2.1 3 && cond (Nat.ble 1000 e.2.2.1) (cond (Nat.beq e.2.2.1 1002) (xw (e.2.2.2.2.2.getD 0 0) (.methodLink (xMt i).1.cls idx Lib.Math.min.name) && (xw (e.2.2.2.2.2.getD 1 0) (.static Lib.Math.min.name) && (xw (e.2.2.2.2.2.getD 2 0) (.initialized "java/lang/Math") && xw (e.2.2.2.2.2.getD 3 0) (.code Lib.Math.min.name Lib.Math.min.code 2 (some .int))))) (xw (e.2.2.2.2.2.getD 0 0) (.methodLink (xMt i).1.cls idx arraycopyName) && (xw (e.2.2.2.2.2.getD 1 0) (.native arraycopyName) && (xw (e.2.2.2.2.2.getD 2 0) (.static arraycopyName) && xw (e.2.2.2.2.2.getD 3 0) (.initialized "java/lang/System")))))
      (Nat.blt e.2.2.1 96 && (xnm (xMt e.2.2.1).1 e.2.2.2.1 && (xw (e.2.2.2.2.2.getD 0 0) (.methodLink (xMt i).1.cls idx (xMt e.2.2.1).1) && (xw (e.2.2.2.2.2.getD 1 0) (.static (xMt e.2.2.1).1) && xw (e.2.2.2.2.2.getD 2 0) (.initialized (xMt e.2.2.1).1.cls)))))
  | .invokespecial idx => Nat.beq e.2.1 3 && cond (Nat.ble 1000 e.2.2.1) (xw (e.2.2.2.2.2.getD 0 0) (.methodLink (xMt i).1.cls idx objectInit) && (xw (e.2.2.2.2.2.getD 1 0) (.instanceMethod objectInit) && xw (e.2.2.2.2.2.getD 2 0) (.code objectInit ⟨#[0xb1]⟩ 1 none)))
      (Nat.blt e.2.2.1 96 && (xnm (xMt e.2.2.1).1 e.2.2.2.1 && (decide ((xMt e.2.2.1).1.name = "<init>") && (decide ((xMt e.2.2.1).2.2.2.1 = none) && (cond (decide ((xMt i).1.cls = "BraidHorns$Track")) (Nat.beq idx 21 && decide ((xMt e.2.2.1).1 = ⟨"BraidHorns$Carrier", "<init>", "()V"⟩)) (xw (e.2.2.2.2.2.getD 0 0) (.methodLink (xMt i).1.cls idx (xMt e.2.2.1).1)) && (xw (e.2.2.2.2.2.getD 1 0) (.instanceMethod (xMt e.2.2.1).1) && xw (e.2.2.2.2.2.getD 2 0) (.initialized (xMt e.2.2.1).1.cls)))))))
  | _ => Nat.beq e.2.1 1
def xchk (i pc : Nat) (e : xEn) : Bool := decide (decode (xMt i).2.1 pc = .ok (e.1, e.2.1)) && xchi i pc e
def xmok (j : Nat) : Bool := (decide ((xMt j).1.cls ≠ "java/lang/invoke/MethodHandle") && (decide ((xMt j).1.cls ≠ "java/lang/invoke/VarHandle") && (plainName (xMt j).1.cls && Nat.ble (xMt j).2.2.1 15)))
def xckm (i : Nat) : Bool := (List.range (xMt i).2.2.2.2.2.2.2).all (fun pc => match xI i pc with | none => true | some e => xchk i pc e)

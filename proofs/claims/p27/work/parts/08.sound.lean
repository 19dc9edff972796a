/-! the interpreter's run is the machine's run -/
section XALL
variable {p : Program} {l : Launch} {e0 : Env} {R : Room} {s : State} {m : MethodId} {args : Array Value} {below : List Frame} {meth : Method} {c : Code} {H : Heap} {locs : List Loc} {cells slots : Nat} {Q : State → Prop}
variable {D : va_G} {bs : Nat → Nat} {tc : Nat → ClassId} {i d pc : Nat} {ls : xLs} {st : List Value} {h : xHp} {n pc1 : Nat} {ls1 : xLs} {st1 : List Value} {h1 : xHp} {n1 kc ks : Nat} {lsA : Array Slot}
theorem xstep {e : xEn} (X : xPre p R s m args meth c H locs cells slots D bs tc i d ls h n lsA kc ks) (hck : xchk i pc e = true) (hs : xstp d e pc ls st h n = some (pc1, ls1, st1, h1, n1, kc, ks))
    (kk : xKk p l e0 R s m args below meth c cells slots Q D bs tc i pc1 ls1 st1 h1 n1 kc ks) : W p l e0 R s m args below meth c H locs cells slots Q (F0 m pc lsA (st.map (xvm bs))) := by
  obtain ⟨hdg0, hci⟩ := (Bool.and_eq_true _ _ ▸ hck : _ ∧ _)
  have hdg := of_decide_eq_true hdg0
  clear hck hdg0
  obtain ⟨ins, len, r1, r2, v0, ps⟩ := e
  cases ins
  case iconst w0 => exact xs_iconst w0 X hdg hci hs kk
  case bipush w0 => exact xs_bipush w0 X hdg hci hs kk
  case sipush w0 => exact xs_sipush w0 X hdg hci hs kk
  case ldc w0 => exact xs_ldc w0 X hdg hci hs kk
  case ldc_w w0 => exact xs_ldc_w w0 X hdg hci hs kk
  case ldc2_w w0 => exact xs_ldc2_w w0 X hdg hci hs kk
  case lconst w0 => exact xs_lconst w0 X hdg hci hs kk
  case iload_n w0 => exact xs_iload_n w0 X hdg hci hs kk
  case iload w0 => exact xs_iload w0 X hdg hci hs kk
  case lload_n w0 => exact xs_lload_n w0 X hdg hci hs kk
  case lload w0 => exact xs_lload w0 X hdg hci hs kk
  case aload_n w0 => exact xs_aload_n w0 X hdg hci hs kk
  case aload w0 => exact xs_aload w0 X hdg hci hs kk
  case istore_n w0 => exact xs_istore_n w0 X hdg hci hs kk
  case istore w0 => exact xs_istore w0 X hdg hci hs kk
  case lstore_n w0 => exact xs_lstore_n w0 X hdg hci hs kk
  case lstore w0 => exact xs_lstore w0 X hdg hci hs kk
  case astore_n w0 => exact xs_astore_n w0 X hdg hci hs kk
  case astore w0 => exact xs_astore w0 X hdg hci hs kk
  case iinc w0 w1 => exact xs_iinc w0 w1 X hdg hci hs kk
  case iadd => exact xs_iadd  X hdg hci hs kk
  case isub => exact xs_isub  X hdg hci hs kk
  case imul => exact xs_imul  X hdg hci hs kk
  case iand => exact xs_iand  X hdg hci hs kk
  case ior => exact xs_ior  X hdg hci hs kk
  case ladd => exact xs_ladd  X hdg hci hs kk
  case lmul => exact xs_lmul  X hdg hci hs kk
  case ishr => exact xs_ishr  X hdg hci hs kk
  case ishl => exact xs_ishl  X hdg hci hs kk
  case iushr => exact xs_iushr  X hdg hci hs kk
  case idiv => exact xs_idiv  X hdg hci hs kk
  case irem => exact xs_irem  X hdg hci hs kk
  case lsub => exact xs_lsub  X hdg hci hs kk
  case land => exact xs_land  X hdg hci hs kk
  case lor => exact xs_lor  X hdg hci hs kk
  case lcmp => exact xs_lcmp  X hdg hci hs kk
  case lshl => exact xs_lshl  X hdg hci hs kk
  case lushr => exact xs_lushr  X hdg hci hs kk
  case i2l => exact xs_i2l  X hdg hci hs kk
  case l2i => exact xs_l2i  X hdg hci hs kk
  case i2c => exact xs_i2c  X hdg hci hs kk
  case dup => exact xs_dup  X hdg hci hs kk
  case pop => exact xs_pop  X hdg hci hs kk
  case dup2 => exact xs_dup2  X hdg hci hs kk
  case goto w0 => exact xs_goto w0 X hdg hci hs kk
  case tableswitch w0 w1 w2 w3 => exact xs_tableswitch w0 w1 w2 w3 X hdg hci hs kk
  case lookupswitch w0 w1 => exact xs_lookupswitch w0 w1 X hdg hci hs kk
  case getfield w0 => exact xs_getfield w0 X hdg hci hs kk
  case putfield w0 => exact xs_putfield w0 X hdg hci hs kk
  case getstatic w0 => exact xs_getstatic w0 X hdg hci hs kk
  case iaload => exact xs_iaload  X hdg hci hs kk
  case baload => exact xs_baload  X hdg hci hs kk
  case caload => exact xs_caload  X hdg hci hs kk
  case iastore => exact xs_iastore  X hdg hci hs kk
  case bastore => exact xs_bastore  X hdg hci hs kk
  case castore => exact xs_castore  X hdg hci hs kk
  case aaload => exact xs_aaload  X hdg hci hs kk
  case aastore => exact xs_aastore  X hdg hci hs kk
  case arraylength => exact xs_arraylength  X hdg hci hs kk
  case new w0 => exact xs_new w0 X hdg hci hs kk
  case newarray w0 => exact xs_newarray w0 X hdg hci hs kk
  case anewarray w0 => exact xs_anewarray w0 X hdg hci hs kk
  case invokespecial w0 => exact xs_invokespecial w0 X hdg hci hs kk
  case invokestatic w0 => exact xs_invokestatic w0 X hdg hci hs kk
  case if_icmp cn w0 =>
    cases cn
    case eq => exact xs_icmp_eq w0 X hdg hci hs kk
    case ne => exact xs_icmp_ne w0 X hdg hci hs kk
    case lt => exact xs_icmp_lt w0 X hdg hci hs kk
    case ge => exact xs_icmp_ge w0 X hdg hci hs kk
    case gt => exact xs_icmp_gt w0 X hdg hci hs kk
    case le => exact xs_icmp_le w0 X hdg hci hs kk
  case ifCond cn w0 =>
    cases cn
    case eq => exact xs_if_eq w0 X hdg hci hs kk
    case ne => exact xs_if_ne w0 X hdg hci hs kk
    case lt => exact xs_if_lt w0 X hdg hci hs kk
    case ge => exact xs_if_ge w0 X hdg hci hs kk
    case gt => exact xs_if_gt w0 X hdg hci hs kk
    case le => exact xs_if_le w0 X hdg hci hs kk
  all_goals (have hz : (none : Option xRs) = some (pc1, ls1, st1, h1, n1, kc, ks) := hs; cases hz)
/-- how a method ends: its answer, the heap, what stays -/
def xQc (D : va_G) (bs : Nat → Nat) (tc : Nat → ClassId) (v : Option Value) (h1 : xHp) (n1 kc : Nat) : Array Value → State → Outcome → State → Prop := fun _ st oc t => oc = .returned (v.map (xvm bs)) ∧ xHd D bs tc h1 n1 t.heap ∧ xRo bs h1 t t.heap ∧ va_F (xA bs) st t ∧ bs 3 + (n1 - 3) = st.heap.size + kc
def xPc (D : va_G) (bs : Nat → Nat) (tc : Nat → ClassId) (as : List Value) (h : xHp) (n : Nat) : Array Value → State → Prop := va_Pc (as.map (xvm bs)) (fun U => xHd D bs tc h n U.heap ∧ xRo bs h U U.heap ∧ xCx D bs tc U U.heap)
theorem xPc_blind {as : List Value} : FrameBlind (xPc D bs tc as h n) := by
  intro a U g mk hp
  obtain ⟨h1, h2, h3, h4, h5, h6, h7, h8, h9, h10, h11⟩ := hp
  exact ⟨h1, h2, h3.moved (u := U) (U := U.calling g mk a) (Vm.Alike.refl U.vm) (fun _ _ => rfl), h4.moved (u := U) (U := U.calling g mk a) (Vm.Alike.refl U.vm), h5.moved (u := U) (U := U.calling g mk a) (Vm.Alike.refl U.vm), h6.moved (u := U) (U := U.calling g mk a) (Vm.Alike.refl U.vm), h7.moved (u := U) (U := U.calling g mk a) (Vm.Alike.refl U.vm), h8.moved (u := U) (U := U.calling g mk a) (Vm.Alike.refl U.vm), h9.same rfl rfl, h10.same rfl rfl, h11.same rfl rfl⟩
theorem xPc_of {as : List Value} (hro : xRo bs h s s.heap) (hH : xHd D bs tc h n H) (hS : va_S (xA bs) s.heap H locs) (hcx : xCx D bs tc s s.heap) (hbs : bs 3 ≤ s.heap.size) : ∀ U : State, U.heap = H → s.WarmedH U.vm → xPc D bs tc as h n (as.map (xvm bs)).toArray U := by
  intro U hU hW
  have hq : ∀ q, q < bs 3 → U.heap[q]? = s.heap[q]? := fun q hq => by rw [hU]; exact hS.2.1 q (Nat.lt_of_lt_of_le hq hbs) (Nat.not_le.mpr hq)
  exact ⟨rfl, by rw [hU]; exact hH, hro.moved hW.alike hq, hcx.moved hW hq⟩
/-- behind a call -/
theorem xcont {v : Option Value} {a : Array Value} {st0 r : List Value} (hr : va_Run p l e0 R s m args below meth c H locs cells slots kc ks (F0 m pc lsA st0) (r.map (xvm bs)) (xQc D bs tc v h1 n1 kc a) (xA bs)) (hS : va_S (xA bs) s.heap H locs) (hbs : bs 3 ≤ s.heap.size) (hsz : H.size = s.heap.size + cells)
    (kk : ∀ (H1 : Heap) (locs1 : List Loc), xRo bs h1 s s.heap → xHd D bs tc h1 n1 H1 → va_S (xA bs) s.heap H1 locs1 → bs 3 + (n1 - 3) = s.heap.size + (cells + kc) → W p l e0 R s m args below meth c H1 locs1 (cells + kc) (slots + ks) Q (F0 m (pc + 3) lsA ((v.toList ++ r).map (xvm bs)))) : W p l e0 R s m args below meth c H locs cells slots Q (F0 m pc lsA st0) := by
  intro T hT X
  obtain ⟨v9, st₀, t, T', L, h0, X', hL, e1, e2, ⟨hv, hHd, hRo, ⟨hz, hk⟩, hn⟩, st⟩ := hr T hT X
  cases hv
  rw [h0] at hz hk hn
  have hal : s.vm.Alike t.vm := by rw [← e2]; exact X'.warmed.alike
  have hS1 : va_S (xA bs) s.heap T'.heap (locs ++ L) := by
    refine ⟨Nat.le_trans hS.1 (by rw [e1]; exact hz), fun q g1 g2 => by rw [e1, hk q (Nat.lt_of_lt_of_le g1 hS.1) g2]; exact hS.2.1 q g1 g2, fun q hq => ?_⟩
    rcases List.mem_append.mp hq with g | g
    · exact hS.2.2 q g
    · exact hL q g
  have hRo2 : xRo bs h1 s s.heap := hRo.moved hal.symm (fun q hq => by rw [← e1]; exact (hS1.2.1 q (Nat.lt_of_lt_of_le hq hbs) (Nat.not_le.mpr hq)).symm)
  have kk1 := kk T'.heap (locs ++ L) hRo2 (by rw [e1]; exact hHd) hS1 (by omega)
  have hst : ((v.map (xvm bs)).toList ++ r.map (xvm bs)) = (v.toList ++ r).map (xvm bs) := by cases v <;> simp
  obtain ⟨t2, a1, b1⟩ := kk1 T' rfl X'
  refine ⟨t2, st t2 ?_, b1⟩
  rw [hst]
  exact a1
theorem xgood {ws : List Jvm.Cond} (hw : ∀ w ∈ ws, w ∈ xT) : GoodIn xT ws := fun w h => ⟨hw w h, good_of_word (List.mem_filter.mp (hw w h)).2⟩
def xwsj (j : Nat) : List Jvm.Cond := Jvm.Cond.code (xMt j).1 (xMt j).2.1 (xMt j).2.2.1 (xMt j).2.2.2.1 :: xT
theorem xwsj_mem {j : Nat} (hj : j < 96) : ∀ w ∈ xwsj j, w ∈ xT := by
  intro w hw
  rcases List.mem_cons.mp hw with rfl | hw
  · exact List.mem_filter.mpr ⟨List.mem_of_getElem? (xmcode j (by omega)), rfl⟩
  · exact hw
theorem xlen_sl (vs : List Value) : (lg_sl vs).length = xcw vs := by
  induction vs with
  | nil => rfl
  | cons v vs ih =>
    unfold lg_sl xcw
    rw [List.flatMap_cons, List.length_append, List.map_cons, List.sum_cons]
    have ih2 : (List.flatMap (fun v => if v.category = 2 then [Slot.val v, Slot.second] else [Slot.val v]) vs).length = (vs.map fun v => v.category).sum := ih
    rw [ih2]
    rcases lv_cat v with hc | hc <;> rw [hc] <;> rfl
def xrmj (d kc ks : Nat) : Room := { frames := d, cells := kc, slots := ks, locals := 34 * d }
/-- the end of a method's run: what is asked of its return -/
def xEnd (p : Program) (l : Launch) (e0 : Env) (R : Room) (s : State) (m : MethodId) (args : Array Value) (below : List Frame) (meth : Method) (c : Code) (cells slots : Nat) (Q : State → Prop) (D : va_G) (bs : Nat → Nat) (tc : Nat → ClassId) (i : Nat) (q : Nat) (sq : List Value) (v : Option Value) (h1 : xHp) (n1 kc ks : Nat) : Prop :=
  ∀ (e : xEn) (H1 : Heap) (locs1 : List Loc) (lsB : Array Slot), xfind i q = some e → xret i e sq = some v → xRo bs h1 s s.heap → xHd D bs tc h1 n1 H1 → va_S (xA bs) s.heap H1 locs1 → bs 3 + (n1 - 3) = s.heap.size + (cells + kc) → W p l e0 R s m args below meth c H1 locs1 (cells + kc) (slots + ks) Q (F0 m q lsB (sq.map (xvm bs)))
def xSnd (f : Nat) : Prop := ∀ (l : Launch) (D : va_G) (bs : Nat → Nat) (tc : Nat → ClassId) (d i pc : Nat) (ls : xLs) (st : List Value) (h : xHp) (n q : Nat) (sq : List Value) (v : Option Value) (h1 : xHp) (n1 kc ks : Nat), i < 98 → xex f d i pc ls st h n = some (q, sq, v, h1, n1, kc, ks) →
  ∀ (p : Program) (e0 : Env) (R : Room) (s : State) (m : MethodId) (args : Array Value) (below : List Frame) (meth : Method) (c : Code) (H : Heap) (locs : List Loc) (cells slots : Nat) (Q : State → Prop) (lsA : Array Slot), xPre p R s m args meth c H locs cells slots D bs tc i d ls h n lsA kc ks → xEnd p l e0 R s m args below meth c cells slots Q D bs tc i q sq v h1 n1 kc ks →
  W p l e0 R s m args below meth c H locs cells slots Q (F0 m pc lsA (st.map (xvm bs)))
theorem xnok_ok {ty : FieldType} {x : Int32} (h : xnok ty x = true) : narrow ty (.int x) = .int x := by
  cases ty <;> first | rfl | exact of_decide_eq_true h
/-- a run of the interpreter is a contract of the method -/
theorem xmet {f : Nat} (hf : xSnd f) {j : Nat} (hj : j < 96) {as : List Value} {q : Nat} {sq : List Value} {v : Option Value} (hex : xex f d j 0 (lv_args 0 as) [] h n = some (q, sq, v, h1, n1, kc, ks)) (hal : xcw as ≤ (xMt j).2.2.1) :
    Met l (xMt j).1 (xwsj j) (xrmj d kc ks) (xPc D bs tc as h n) (xQc D bs tc v h1 n1 kc) kc ks (xA bs) := by
  have hok := xmok_of hj
  unfold xmok at hok
  simp only [Bool.and_eq_true, decide_eq_true_eq] at hok
  refine Met.ofW (cc := (xMt j).2.1) (maxL := (xMt j).2.2.1) (ret := (xMt j).2.2.2.1) hok.2.2.1 rfl ?_
  intro p e0 s m args below meth c s₁ B hml hv
  obtain ⟨rfl, hH, hro, hcx⟩ := hv
  have hx := B.exec
  have hb := B.bytes
  have hr := B.returns
  have hts0 := atoms_spec (ws := xwsj j) B.pre
  have hts : ∀ w ∈ xT, w.before (as.map (xvm bs)).toArray s = true := fun w hw => hts0 w (List.mem_cons_of_mem _ hw)
  have hown : s.vm.findClass (xMt j).1.cls = some m.cls := findClass_of_methodNamed B.named
  have hlocks := B.notSynchronized
  have hnm : meth.name = (xMt j).1.name := (name_of_methodNamed B.named B.method).1
  have hbs : bs 3 ≤ s.heap.size := by have := hH.2.2.2; omega
  have hl := lv_entry (as.map (xvm bs)) (n := (xMt j).2.2.1) (by rw [xlen_sl]; unfold xcw; rw [xcw_map]; exact hal)
  rw [lg_entry_eq]
  generalize (lg_sl (as.map (xvm bs)) ++ List.replicate ((xMt j).2.2.1 - (lg_sl (as.map (xvm bs))).length) Slot.unset).toArray = lsA at hl ⊢
  rw [xlm_args] at hl
  refine hf l D bs tc d j 0 (lv_args 0 as) [] h n q sq v h1 n1 kc ks (by omega) hex p e0 (xrmj d kc ks) s m (as.map (xvm bs)).toArray below meth c s.heap [] 0 0 _ lsA ⟨⟨hx, hb, hml, hown, hts, fun hi => by rw [hnm]; exact hi, hcx, hbs⟩, hro, hH, va_S.rf, hl, ⟨Nat.le_refl _, Nat.le_refl _⟩, by show 0 + kc ≤ kc; omega, by show 0 + ks ≤ ks; omega, by have := hH.2.2.2; omega⟩ ?_
  intro e H1 locs1 lsB he hret hro1 hH1 hS1 hz1
  have hck := xchk_of (by omega) he
  obtain ⟨hdg0, hci⟩ := (Bool.and_eq_true _ _ ▸ hck : _ ∧ _)
  have hdg := of_decide_eq_true hdg0
  rw [Nat.zero_add] at hz1
  rw [Nat.zero_add, Nat.zero_add]
  have hq : ∀ t : State, t.heap = H1 → s.WarmedH t.vm → xQc D bs tc v h1 n1 kc (as.map (xvm bs)).toArray s (.returned (v.map (xvm bs))) t := by
    intro t ht hW
    refine ⟨rfl, by rw [ht]; exact hH1, hro1.moved hW.alike (fun q hq => by rw [ht]; exact hS1.2.1 q (Nat.lt_of_lt_of_le hq hbs) (Nat.not_le.mpr hq)), hS1.F ht, hz1⟩
  obtain ⟨ins, len, r1, r2, v0, ps⟩ := e
  cases ins
  case ireturn =>
    have hlen : len = 1 := Nat.eq_of_beq_eq_true hci
    subst hlen
    obtain ⟨x, r, rfl, hreta⟩ := xpI_some (show xpI sq _ = some v from hret)
    obtain ⟨hemp, hretb⟩ := xgd_some hreta
    clear hret hreta
    have hr0 : r = [] := List.isEmpty_iff.mp hemp
    subst hr0
    split at hretb
    · next ty hty =>
      obtain ⟨hn, hretc⟩ := xgd_some hretb
      have hv : some (.int x) = v := Option.some.inj hretc
      subst hv
      exact W.zret hx hb (hr.trans hty) (xnok_ok hn) hq hS1.2.2 hdg hlocks
    · cases hretb
  case lreturn =>
    have hlen : len = 1 := Nat.eq_of_beq_eq_true hci
    subst hlen
    obtain ⟨x, r, rfl, hreta⟩ := xpL_some (show xpL sq _ = some v from hret)
    obtain ⟨hemp, hretb⟩ := xgd_some hreta
    clear hret hreta
    have hr0 : r = [] := List.isEmpty_iff.mp hemp
    subst hr0
    split at hretb
    · next hty =>
      have hv : some (.long x) = v := Option.some.inj hretb
      subst hv
      exact W.lret hx hb (hr.trans hty) hq hS1.2.2 hdg hlocks
    · cases hretb
  case return_ =>
    have hlen : len = 1 := Nat.eq_of_beq_eq_true hci
    subst hlen
    obtain ⟨hemp, hretb⟩ := xgd_some (show xgd (List.isEmpty sq) _ = some v from hret)
    clear hret
    have hr0 : sq = [] := List.isEmpty_iff.mp hemp
    subst hr0
    split at hretb
    · next hty =>
      have hv : none = v := Option.some.inj hretb
      subst hv
      exact W.vret hx hb (hr.trans hty) hq hS1.2.2 hdg hlocks
    · cases hretb
  all_goals (have hz : (none : Option (Option Value)) = some v := hret; cases hz)
theorem xtake {k : Nat} {st r : List Value} (hk : k ≤ st.length) (hd : st.drop k = r) : st.map (xvm bs) = ((st.take k).reverse.map (xvm bs)).reverse ++ r.map (xvm bs) := by
  rw [← hd, List.map_reverse, List.reverse_reverse, ← List.map_append, List.take_append_drop]
/-- a call of the interpreter is a call of the machine -/
theorem xcalls {f : Nat} (hf : xSnd f) {e : xEn} {j : Nat} {as r : List Value} {q : Nat} {sq : List Value} {v : Option Value} (X : xPre p R s m args meth c H locs cells slots D bs tc i (d + 1) ls h n lsA kc ks) (hck : xchk i pc e = true) (hkd : xkind e = 1) (hs : xcall e st h = some (j, as, r)) (hex : xex f d j 0 (lv_args 0 as) [] h n = some (q, sq, v, h1, n1, kc, ks))
    (kk : xKk p l e0 R s m args below meth c cells slots Q D bs tc i (pc + 3) ls (v.toList ++ r) h1 n1 kc ks) : W p l e0 R s m args below meth c H locs cells slots Q (F0 m pc lsA (st.map (xvm bs))) := by
  obtain ⟨⟨hx, hb, hml, hown, hts, hin, hcx, hbs⟩, hro, hH, hS, hl, ⟨hd1, hd2⟩, hc, hk2, hz⟩ := X
  obtain ⟨hdg0, hci⟩ := (Bool.and_eq_true _ _ ▸ hck : _ ∧ _)
  have hdg := of_decide_eq_true hdg0
  clear hck hdg0
  have hsz : H.size = s.heap.size + cells := by have := hH.2.2.2; omega
  have hroom : ∀ j, j < 96 → (xrmj d kc ks).frames + 1 ≤ R.frames ∧ 8 + ((xMt j).2.2.1 + 11) + (xrmj d kc ks).locals ≤ R.locals := by
    intro j hj
    have hok := xmok_of hj
    unfold xmok at hok
    simp only [Bool.and_eq_true, decide_eq_true_eq] at hok
    have h15 : (xMt j).2.2.1 ≤ 15 := Nat.le_of_ble_eq_true hok.2.2.2
    refine ⟨hd1, ?_⟩
    show 8 + ((xMt j).2.2.1 + 11) + 34 * d ≤ R.locals
    omega
  have hkk : ∀ (H1 : Heap) (locs1 : List Loc), xRo bs h1 s s.heap → xHd D bs tc h1 n1 H1 → va_S (xA bs) s.heap H1 locs1 → bs 3 + (n1 - 3) = s.heap.size + (cells + kc) → W p l e0 R s m args below meth c H1 locs1 (cells + kc) (slots + ks) Q (F0 m (pc + 3) lsA ((v.toList ++ r).map (xvm bs))) := fun H1 locs1 g1 g2 g3 g4 => kk H1 locs1 lsA g1 g2 g3 hl g4
  obtain ⟨ins, len, r1, r2, v0, ps⟩ := e
  cases ins
  case invokevirtual w0 =>
    obtain ⟨hlen0, hci⟩ := (Bool.and_eq_true _ _ ▸ hci : _ ∧ _)
    have hlen : len = 3 := Nat.eq_of_beq_eq_true hlen0
    subst hlen
    obtain ⟨hj0, hci⟩ := (Bool.and_eq_true _ _ ▸ hci : _ ∧ _)
    have hj : r1 < 96 := Nat.le_of_ble_eq_true hj0
    obtain ⟨hnm, hci⟩ := (Bool.and_eq_true _ _ ▸ hci : _ ∧ _)
    obtain ⟨hcm, hci⟩ := (Bool.and_eq_true _ _ ▸ hci : _ ∧ _)
    obtain ⟨g1, hci⟩ := (Bool.and_eq_true _ _ ▸ hci : _ ∧ _)
    obtain ⟨g2, hci⟩ := (Bool.and_eq_true _ _ ▸ hci : _ ∧ _)
    obtain ⟨g3, g4⟩ := (Bool.and_eq_true _ _ ▸ hci : _ ∧ _)
    obtain ⟨b, r', hdr, hs1⟩ := xpR_some (show xpR (st.drop r2) _ = some _ from hs)
    obtain ⟨ci, fs, hb0, hs2⟩ := xcO_some hs1
    obtain ⟨b1, hs3⟩ := xgd_some hs2
    obtain ⟨b2, hs4⟩ := xgd_some hs3
    obtain ⟨b3, hs5⟩ := xgd_some hs4
    obtain ⟨b4, hs6⟩ := xgd_some hs5
    clear hs hs1 hs2 hs3 hs4 hs5
    injection hs6 with hs7
    injection hs7 with a1 hs8
    injection hs8 with a2 a3
    subst a1; subst a2; subst a3
    have hok := xmok_of hj
    unfold xmok at hok
    simp only [Bool.and_eq_true, decide_eq_true_eq] at hok
    have hM := xmet (l := l) (D := D) (bs := bs) (tc := tc) hf hj hex (Nat.le_of_ble_eq_true b4)
    have hcl0 : (xcl[ci]?).map (fun q => q.1) = some (xMt r1).1.cls := by
      rw [Nat.eq_of_beq_eq_true b3]
      exact of_decide_eq_true hcm
    obtain ⟨⟨C, T, N⟩, hcl, hC⟩ : ∃ q, xcl[ci]? = some q ∧ q.1 = (xMt r1).1.cls := by
      cases hq : xcl[ci]? with
      | none => rw [hq] at hcl0; cases hcl0
      | some q => rw [hq] at hcl0; exact ⟨q, rfl, Option.some.inj hcl0⟩
    obtain ⟨w1, w2, w3, w4, w5, w6, w7⟩ := xcl_ok hcl
    obtain ⟨h3, hn, he⟩ := xobj hro hH hb0 w6
    have hCW := cwV (R := R) (s := s) (args := args) (own := (xMt i).1.cls) (index := w0) (C := (xMt r1).1.cls) (y := (xMt r1).1) (bytes := (xMt r1).2.1) (maxL := (xMt r1).2.2.1) (ret := (xMt r1).2.2.2.1) (ws := xwsj r1) (rm := xrmj d kc ks) (mc := kc) (ms := ks) r2 hts (xgood (by
      intro w hw
      unfold wsV at hw
      rcases List.mem_append.mp hw with hw | hw
      · simp only [List.mem_cons, List.not_mem_nil, or_false] at hw
        rcases hw with rfl | rfl | rfl | rfl
        · exact xw_mem g1
        · exact xw_mem g2
        · exact xw_mem g3
        · exact xw_mem g4
      · exact xwsj_mem hj w hw)) rfl rfl rfl ⟨rfl, hok.1, hok.2.1, of_decide_eq_true hnm⟩ (hroom r1 hj)
    have hst := xtake (bs := bs) (Nat.le_of_ble_eq_true b1) hdr
    have hrc : ∃ cell : Cell, H[xad bs b]? = some cell ∧ cell.vm.isStatics = false ∧ s.vm.findClass (xMt r1).1.cls = some cell.cls := by
      rw [← hC]
      exact va_recv hcx.1 hH.2.2.1 (ci := ci) (q0 := b - 3) hcl he
    refine xcont (va_runV (As := (st.take r2).reverse.map (xvm bs)) (rest := r'.map (xvm bs)) (b := xad bs b) (C := (xMt r1).1.cls) ⟨hx, hb, hml, hown, hts⟩ hM hCW ⟨xPc_blind, hrc, xPc_of (as := .ref b :: (st.take r2).reverse) hro hH hS hcx hbs⟩ rfl (by rw [List.length_map, List.length_reverse, List.length_take]; exact Nat.min_eq_left (Nat.le_of_ble_eq_true b1)) hl.1 hst (lv_room (by rw [xcw_map]; exact Nat.le_of_ble_eq_true b2)) hdg ⟨hc, hk2⟩) hS hbs hsz hkk
  case invokestatic w0 =>
    obtain ⟨hlen0, hci⟩ := (Bool.and_eq_true _ _ ▸ hci : _ ∧ _)
    have hlen : len = 3 := Nat.eq_of_beq_eq_true hlen0
    subst hlen
    cases hm : Nat.ble 1000 r1
    case true =>
      have hz9 : cond (Nat.ble 1000 r1) 2 1 = 1 := hkd
      rw [hm] at hz9
      cases hz9
    case false =>
      have hci9 : cond (Nat.ble 1000 r1) _ (Nat.blt r1 96 && (xnm (xMt r1).1 r2 && (xw (ps.getD 0 0) (.methodLink (xMt i).1.cls w0 (xMt r1).1) && (xw (ps.getD 1 0) (.static (xMt r1).1) && xw (ps.getD 2 0) (.initialized (xMt r1).1.cls))))) = true := hci
      rw [hm] at hci9
      clear hci
      obtain ⟨hj0, hci⟩ := (Bool.and_eq_true _ _ ▸ hci9 : _ ∧ _)
      have hj : r1 < 96 := Nat.le_of_ble_eq_true hj0
      obtain ⟨hnm, hci⟩ := (Bool.and_eq_true _ _ ▸ hci : _ ∧ _)
      obtain ⟨g1, hci⟩ := (Bool.and_eq_true _ _ ▸ hci : _ ∧ _)
      obtain ⟨g2, g3⟩ := (Bool.and_eq_true _ _ ▸ hci : _ ∧ _)
      obtain ⟨b1, hs3⟩ := xgd_some (show xgd (Nat.ble r2 st.length) _ = some _ from hs)
      obtain ⟨b2, hs4⟩ := xgd_some hs3
      obtain ⟨b4, hs6⟩ := xgd_some hs4
      clear hs hs3 hs4
      injection hs6 with hs7
      injection hs7 with a1 hs8
      injection hs8 with a2 a3
      subst a1; subst a2; subst a3
      have hok := xmok_of hj
      unfold xmok at hok
      simp only [Bool.and_eq_true, decide_eq_true_eq] at hok
      have hM := xmet (l := l) (D := D) (bs := bs) (tc := tc) hf hj hex (Nat.le_of_ble_eq_true b4)
      have hCW := va_cwS (R := R) (s := s) (args := args) (own := (xMt i).1.cls) (index := w0) (y := (xMt r1).1) (bytes := (xMt r1).2.1) (maxL := (xMt r1).2.2.1) (ret := (xMt r1).2.2.2.1) (ws := xwsj r1) (rm := xrmj d kc ks) (mc := kc) (ms := ks) r2 hts (xgood (by
        intro w hw
        unfold va_wsS at hw
        rcases List.mem_append.mp hw with hw | hw
        · simp only [List.mem_cons, List.not_mem_nil, or_false] at hw
          rcases hw with rfl | rfl | rfl
          · exact xw_mem g1
          · exact xw_mem g2
          · exact xw_mem g3
        · exact xwsj_mem hj w hw)) rfl rfl rfl ⟨hok.1, hok.2.1, of_decide_eq_true hnm⟩ (hroom r1 hj)
      have hst := xtake (bs := bs) (Nat.le_of_ble_eq_true b1) rfl
      refine xcont (va_runS (As := (st.take r2).reverse.map (xvm bs)) (rest := (st.drop r2).map (xvm bs)) ⟨hx, hb, hml, hown, hts⟩ hM hCW ⟨xPc_blind, xPc_of (as := (st.take r2).reverse) hro hH hS hcx hbs⟩ rfl (by rw [List.length_map, List.length_reverse, List.length_take]; exact Nat.min_eq_left (Nat.le_of_ble_eq_true b1)) hl.1 hst (lv_room (by rw [xcw_map]; exact Nat.le_of_ble_eq_true b2)) hdg ⟨hc, hk2⟩) hS hbs hsz hkk
  case invokespecial w0 =>
    obtain ⟨hlen0, hci⟩ := (Bool.and_eq_true _ _ ▸ hci : _ ∧ _)
    have hlen : len = 3 := Nat.eq_of_beq_eq_true hlen0
    subst hlen
    cases hm : Nat.ble 1000 r1
    case true =>
      have hz9 : cond (Nat.ble 1000 r1) 2 1 = 1 := hkd
      rw [hm] at hz9
      cases hz9
    case false =>
      have hci9 : cond (Nat.ble 1000 r1) _ (Nat.blt r1 96 && (xnm (xMt r1).1 r2 && (decide ((xMt r1).1.name = "<init>") && (decide ((xMt r1).2.2.2.1 = none) && (cond (decide ((xMt i).1.cls = "BraidHorns$Track")) (Nat.beq w0 21 && decide ((xMt r1).1 = ⟨"BraidHorns$Carrier", "<init>", "()V"⟩)) (xw (ps.getD 0 0) (.methodLink (xMt i).1.cls w0 (xMt r1).1)) && (xw (ps.getD 1 0) (.instanceMethod (xMt r1).1) && xw (ps.getD 2 0) (.initialized (xMt r1).1.cls))))))) = true := hci
      rw [hm] at hci9
      clear hci
      obtain ⟨hj0, hci⟩ := (Bool.and_eq_true _ _ ▸ hci9 : _ ∧ _)
      have hj : r1 < 96 := Nat.le_of_ble_eq_true hj0
      obtain ⟨hnm, hci⟩ := (Bool.and_eq_true _ _ ▸ hci : _ ∧ _)
      obtain ⟨hini0, hci⟩ := (Bool.and_eq_true _ _ ▸ hci : _ ∧ _)
      obtain ⟨hnone0, hci⟩ := (Bool.and_eq_true _ _ ▸ hci : _ ∧ _)
      have hini := of_decide_eq_true hini0
      have hnone := of_decide_eq_true hnone0
      obtain ⟨g1, hci⟩ := (Bool.and_eq_true _ _ ▸ hci : _ ∧ _)
      obtain ⟨g2, g3⟩ := (Bool.and_eq_true _ _ ▸ hci : _ ∧ _)
      obtain ⟨b, r', hdr, hs1⟩ := xpR_some (show xpR (st.drop r2) _ = some _ from hs)
      obtain ⟨b1, hs3⟩ := xgd_some hs1
      obtain ⟨b2, hs4⟩ := xgd_some hs3
      obtain ⟨b4, hs6⟩ := xgd_some hs4
      clear hs hs1 hs3 hs4
      injection hs6 with hs7
      injection hs7 with a1 hs8
      injection hs8 with a2 a3
      subst a1; subst a2; subst a3
      have hok := xmok_of hj
      unfold xmok at hok
      simp only [Bool.and_eq_true, decide_eq_true_eq] at hok
      have hM := xmet (l := l) (D := D) (bs := bs) (tc := tc) hf hj hex (Nat.le_of_ble_eq_true b4)
      have hst := xtake (bs := bs) (Nat.le_of_ble_eq_true b1) hdr
      have hws : xwsj r1 = Jvm.Cond.code (xMt r1).1 (xMt r1).2.1 (xMt r1).2.2.1 none :: xT := by unfold xwsj; rw [hnone]
      cases hnest : decide ((xMt i).1.cls = "BraidHorns$Track")
      case false =>
        rw [hnest] at g1
        have hCW := cwI (R := R) (s := s) (args := args) (own := (xMt i).1.cls) (index := w0) (y := (xMt r1).1) (bytes := (xMt r1).2.1) (maxL := (xMt r1).2.2.1) (ws := xwsj r1) (rm := xrmj d kc ks) (mc := kc) (ms := ks) r2 hts (xgood (xwsj_mem hj)) hws rfl rfl (hts _ (xw_mem g3)) (hts _ (xw_mem g1)) (hts _ (xw_mem g2)) hini ⟨hok.1, hok.2.1, of_decide_eq_true hnm⟩ (hroom r1 hj)
        refine xcont (va_runI (As := (st.take r2).reverse.map (xvm bs)) (rest := r'.map (xvm bs)) (b := xad bs b) ⟨hx, hb, hml, hown, hts⟩ hM hCW ⟨xPc_blind, xPc_of (as := .ref b :: (st.take r2).reverse) hro hH hS hcx hbs⟩ rfl (by rw [List.length_map, List.length_reverse, List.length_take]; exact Nat.min_eq_left (Nat.le_of_ble_eq_true b1)) hl.1 hst (lv_room (by rw [xcw_map]; exact Nat.le_of_ble_eq_true b2)) hdg ⟨hc, hk2⟩) hS hbs hsz hkk
      case true =>
        rw [hnest] at g1
        have htr := of_decide_eq_true hnest
        obtain ⟨n1a, n1b⟩ := (Bool.and_eq_true _ _ ▸ g1 : _ ∧ _)
        have e21 : w0 = 21 := Nat.eq_of_beq_eq_true n1a
        have ey := of_decide_eq_true n1b
        subst e21
        rw [htr] at hown
        have hnl : va_Nw (.methodLinkNest "BraidHorns$Track" 21 (xMt r1).1 "BraidHorns") s := by rw [ey]; exact hcx.2.2.2.2.2.2.2
        have hCW := va_cnB (R := R) (s := s) (args := args) (own := "BraidHorns$Track") (index := 21) (host := "BraidHorns") (y := (xMt r1).1) (bytes := (xMt r1).2.1) (maxL := (xMt r1).2.2.1) (ret := none) (ws := xwsj r1) (rm := xrmj d kc ks) (mc := kc) (ms := ks) r2 hts (xgood (xwsj_mem hj)) hws rfl rfl hnl (hts _ (xw_mem g3)) ⟨hok.1, hok.2.1, of_decide_eq_true hnm⟩ (hroom r1 hj)
        refine xcont (va_runIN (As := (st.take r2).reverse.map (xvm bs)) (rest := r'.map (xvm bs)) (b := xad bs b) ⟨hx, hb, hml, hown, hts⟩ hM ⟨hCW, hini, hts _ (xw_mem g2)⟩ ⟨xPc_blind, xPc_of (as := .ref b :: (st.take r2).reverse) hro hH hS hcx hbs⟩ rfl (by rw [List.length_map, List.length_reverse, List.length_take]; exact Nat.min_eq_left (Nat.le_of_ble_eq_true b1)) hl.1 hst (lv_room (by rw [xcw_map]; exact Nat.le_of_ble_eq_true b2)) hdg ⟨hc, hk2⟩) hS hbs hsz hkk
  all_goals (have hz9 : (none : Option (Nat × List Value × List Value)) = some (j, as, r) := hs; cases hz9)
end XALL
theorem xadd_some {kc ks : Nat} {r : Option xOut} {q : Nat} {sq : List Value} {v : Option Value} {h : xHp} {n a b : Nat} (hs : xadd kc ks r = some (q, sq, v, h, n, a, b)) : ∃ a' b', r = some (q, sq, v, h, n, a', b') ∧ a = kc + a' ∧ b = ks + b' := by
  unfold xadd at hs
  split at hs
  · cases hs
    exact ⟨_, _, rfl, rfl, rfl⟩
  · cases hs
theorem xsound : ∀ f : Nat, xSnd f := by
  intro f
  induction f with
  | zero =>
    intro l D bs tc d i pc ls st h n q sq v h1 n1 kc ks hi hex
    cases hex
  | succ f ih =>
    intro l D bs tc d i pc ls st h n q sq v h1 n1 kc ks hi hex p e0 R s m args below meth c H locs cells slots Q lsA X hend
    unfold xex at hex
    cases hfd : xfind i pc with
    | none => rw [hfd] at hex; cases hex
    | some e =>
      rw [hfd] at hex
      have hck := xchk_of hi hfd
      dsimp only at hex
      split at hex
      · -- a return
        split at hex
        · next v9 hret =>
          cases hex
          obtain ⟨hfx, hro, hH, hS, hl, hd, hc, hk2, hz⟩ := X
          exact hend e H locs lsA hfd hret hro hH hS hz
        · cases hex
      · next hkd =>
        split at hex
        · cases hex
        · next j as r hcall =>
          split at hex
          · cases hex
          · next d' =>
            split at hex
            · cases hex
            · next q9 sq9 v9 h9 n9 kc9 ks9 hsub =>
              obtain ⟨ka, kb, hrest, rfl, rfl⟩ := xadd_some hex
              have X0 := X
              obtain ⟨hfx, hro, hH, hS, hl, hd, hc, hk2, hz⟩ := X0
              refine xcalls ih (kc := kc9) (ks := ks9) ⟨hfx, hro, hH, hS, hl, hd, by omega, by omega, hz⟩ hck hkd hcall hsub ?_
              intro H1 locs1 lsB g1 g2 g3 g4 g5
              refine ih l D bs tc (d' + 1) i (pc + 3) ls (v9.toList ++ r) h9 n9 q sq v h1 n1 ka kb hi hrest p e0 R s m args below meth c H1 locs1 (cells + kc9) (slots + ks9) Q lsB ⟨hfx, g1, g2, g3, g4, hd, by omega, by omega, g5⟩ ?_
              intro e H2 locs2 lsC f1 f2 f3 f4 f5 f6
              have := hend e H2 locs2 lsC f1 f2 f3 f4 f5 (by omega)
              rw [Nat.add_assoc, Nat.add_assoc]
              exact this
      · next hn0 hn1 =>
        split at hex
        · cases hex
        · next pc9 ls9 st9 h9 n9 kc9 ks9 hst =>
          obtain ⟨ka, kb, hrest, rfl, rfl⟩ := xadd_some hex
          have X0 := X
          obtain ⟨hfx, hro, hH, hS, hl, hd, hc, hk2, hz⟩ := X0
          refine xstep (kc := kc9) (ks := ks9) ⟨hfx, hro, hH, hS, hl, hd, by omega, by omega, hz⟩ hck hst ?_
          intro H1 locs1 lsB g1 g2 g3 g4 g5
          refine ih l D bs tc d i pc9 ls9 st9 h9 n9 q sq v h1 n1 ka kb hi hrest p e0 R s m args below meth c H1 locs1 (cells + kc9) (slots + ks9) Q lsB ⟨hfx, g1, g2, g3, g4, hd, by omega, by omega, g5⟩ ?_
          intro e H2 locs2 lsC f1 f2 f3 f4 f5 f6
          have := hend e H2 locs2 lsC f1 f2 f3 f4 f5 (by omega)
          rw [Nat.add_assoc, Nat.add_assoc]
          exact this

/-! the claim out of one walk: the head is kit/laws/SKELETON.whole (pasted, a starting text) -/
/-! THE CLAIM OUT OF ONE WALK OF THE LAW'S BODY. Your part is whole_start (and what it stands on); all else here is the same for every law, but numbers. -/
def lw_P (b : Addr) (xs : List Int32) (args : Array Value) (s : State) : Prop := args = #[.ref b] ∧ s.IntsAt b xs ∧ xs.length ≤ 260 ∧ (Jvm.Cond.and given_1 narrow_1).before args s = true
def lw_Q (_ : Array Value) (s : State) (o : Outcome) (t : State) : Prop := o = .returned (some (.int 1)) ∧ Framed s o t [] 650502 7150742
def lw_Z (below : List Frame) (a : Array Value) (s : State) : State → Prop := fun t => ∃ o, t.status = .running ∧ Ended t below o ∧ lw_Q a s o t
/-- the law's own end, with 1 on the stack, nothing written that was there before, its room as the claim has it -/
theorem lw_ret {p : Program} {l : Launch} {e : Env} {s : State} {m : MethodId} {below : List Frame} {meth : Method} {c : Code} {b : Nat} (hx : p.tables.exec = Jvm.exec) (hb : c.code = code) (hr : meth.sig.returnType = ret) (hlocks : meth.locks = false) {pc : Nat} {H : Heap} {ls : Array Slot} (hdg : decode code pc = .ok (.ireturn, 1)) : W p l e room_1 s m #[Value.ref b] below meth c H [] 650502 7150742 (lw_Z below #[Value.ref b] s) (F0 m pc ls [.int 1]) := by
  intro T hT X
  obtain ⟨fs, hret, hrun, hended, hW, hframe⟩ := X.leave (v := some (.int 1)) (hlocks := hlocks) (fun h => by rw [hr] at h; cases h)
  have hmeth' : T.vm.method? m = some meth := X.method'
  refine ⟨T.setFrames fs, ?_, .returned (some (.int 1)), hrun, hended, rfl, ⟨_, rfl⟩, hW, hframe⟩
  jvm_step X.here [X.here.top, hx, hb, hdg, hmeth', hr, ret, narrow_b1]
  (try refine ⟨rfl, ?_⟩); (try refine ⟨rfl, ?_⟩)
  first | (intro acts; rw [hret _ acts rfl rfl rfl]) | rw [hret _ _ rfl rfl rfl]
  exact Steps.refl _
/-- what holds at the law's entry: the machine, the code, the tables' words (any of lw_tbl by 'hts w (by decide +kernel)'), the script of L ints xs at the cell b, what the Statement gives of the start (any of its parts by flat_of_before) -/
def lw_At (p : Program) (s : State) (m : MethodId) (meth : Method) (c : Code) (b L : Nat) (xs : Nat → Int32) : Prop :=
  p.tables.exec = Jvm.exec ∧ c.code = code ∧ meth.sig.returnType = ret ∧ c.maxLocals = 13 ∧ s.vm.findClass R_law = some m.cls ∧ (∀ w ∈ lw_tbl, w.before #[Value.ref b] s = true) ∧ va_X b L xs s s.heap ∧ b < s.heap.size ∧ meth.locks = false ∧ (Jvm.Cond.and given_1 narrow_1).before #[Value.ref b] s = true
/-! the law's walk out of a run of the interpreter -/
def xlo : Nat → Int32 := fun j => if j = 0 then 2 else 1
def xhi : Nat → Int32 := fun j => if j = 0 then 6 else if j = 1 then 9 else 999
def xh0 (L : Nat) (xs : Nat → Int32) : xHp := fun k => if k = 0 then .inl (0, L, .inl xs) else if k = 1 then .inl (0, 3, .inl xlo) else if k = 2 then .inl (0, 3, .inl xhi) else xNo
theorem xeq_int {args : Array Value} {s : State} {t : Term} {z : Int32} (h : (Jvm.Cond.eq t (.int z)).before args s = true) : t.eval args s none [] s = some (.int z) := by
  obtain ⟨y, h1, h2⟩ := Cond.eq_one (show (Jvm.Cond.eq t (.int z)).holds args s none s [] = true from h)
  cases h2
  exact h1
theorem xro_of {args : Array Value} {s : State} {tm : Term} {f : Nat → Int32} (harr : (Jvm.Cond.arrayOf tm .int).before args s = true) (hlen : (Term.length tm).eval args s none [] s = some (.int 3)) (hel : ∀ j : Nat, j < 3 → (Term.elem tm (.int (Int32.ofNat j))).eval args s none [] s = some (.int (f j))) : ∃ t : Nat, tm.eval args s none [] s = some (.ref t) ∧ va_X t 3 f s s.heap ∧ t < s.heap.size := by
  obtain ⟨t, ht, cell, h1, h2, h3, h4, h5, h6, -⟩ := va_Tof (f := fun j => .int (f j)) (A := fun _ => False) (N := 3) (by omega) harr hlen hel (fun _ _ h => h)
  obtain ⟨t2, cell2, g1, g2, g3⟩ := Term.length_spec hlen
  have e1 : t2 = t := by
    have := g1.symm.trans ht
    injection this with this
    injection this
  subst e1
  obtain ⟨g4, -, -, -⟩ := State.arrayAt?_spec g2
  have e2 : cell2 = cell := Option.some.inj (g4.symm.trans h1)
  subst e2
  have hsz : cell2.slots.size < 2 ^ 31 := by
    simp only [Term.eval, ht, g2, Option.bind_eq_bind, Option.bind_some] at hlen
    by_cases hlt : cell2.slots.size < 2147483648
    · exact hlt
    · simp [hlt] at hlen
  have h33 : cell2.slots.size = 3 := by
    have e3 : Int32.ofNat cell2.slots.size = Int32.ofNat 3 := h5
    have e4 := congrArg Int32.toInt e3
    rw [show (Int32.ofNat cell2.slots.size) = nI cell2.slots.size from rfl, show Int32.ofNat 3 = nI 3 from rfl, nI_toInt hsz, nI_toInt (by omega)] at e4
    omega
  exact ⟨t2, ht, ⟨cell2, h1, h2, h3, h33, h6⟩, (Array.getElem?_eq_some_iff.mp h1).1⟩
theorem xco {q : Jvm.Cond} {i : Nat} (h : lw_tbl[i]? = some q) : q ∈ lw_tbl := List.mem_of_getElem? h
set_option maxHeartbeats 4000000 in
theorem whole_open {p : Program} {e : Env} {s : State} {m : MethodId} {below : List Frame} {meth : Method} {c : Code} (l : Launch) {b L : Nat} {xs : Nat → Int32} (C0 : lw_At p s m meth c b L xs)
    {f q : Nat} {sq : List Value} {h1 : xHp} {n1 kc ks : Nat} (hex : xex f 9 97 0 [(0, .ref 0)] [] (xh0 L xs) 3 = some (q, sq, some (.int 1), h1, n1, kc, ks)) (hkc : kc ≤ 650502) (hks : ks ≤ 7150742) :
    W p l e room_1 s m #[Value.ref b] below meth c s.heap [] 0 0 (lw_Z below #[Value.ref b] s) (entryFrame m ([Value.ref b] : List Value).toArray 13) := by
  obtain ⟨hx, hb, hr, hml, hown, hts, hX, hbl, hlocks, hgv⟩ := C0
  have hf := flat_of_before _ hgv
  have hA : ∀ a : Nat, a < s.heap.size → ¬ (fun q => s.heap.size ≤ q) a := fun a h1 h2 => Nat.not_le.mpr h1 h2
  obtain ⟨b1, hb1, hX1, hl1⟩ := xro_of (f := xlo) (tm := .static "BraidHorns" "LOWEST" "[I") (s := s) (args := #[Value.ref b]) (hf _ (by decide +kernel)) (xeq_int (hf _ (by decide +kernel))) (by
    intro j hj
    match j, hj with
    | 0, _ => exact xeq_int (hf (.eq (.elem (.static "BraidHorns" "LOWEST" "[I") (.int 0)) (.int 2)) (by decide +kernel))
    | 1, _ => exact xeq_int (hf (.eq (.elem (.static "BraidHorns" "LOWEST" "[I") (.int 1)) (.int 1)) (by decide +kernel))
    | 2, _ => exact xeq_int (hf (.eq (.elem (.static "BraidHorns" "LOWEST" "[I") (.int 2)) (.int 1)) (by decide +kernel)))
  obtain ⟨b2, hb2, hX2, hl2⟩ := xro_of (f := xhi) (tm := .static "BraidHorns" "HIGHEST" "[I") (s := s) (args := #[Value.ref b]) (hf _ (by decide +kernel)) (xeq_int (hf _ (by decide +kernel))) (by
    intro j hj
    match j, hj with
    | 0, _ => exact xeq_int (hf (.eq (.elem (.static "BraidHorns" "HIGHEST" "[I") (.int 0)) (.int 6)) (by decide +kernel))
    | 1, _ => exact xeq_int (hf (.eq (.elem (.static "BraidHorns" "HIGHEST" "[I") (.int 1)) (.int 9)) (by decide +kernel))
    | 2, _ => exact xeq_int (hf (.eq (.elem (.static "BraidHorns" "HIGHEST" "[I") (.int 2)) (.int 999)) (by decide +kernel)))
  have kn : ∀ (ci : Nat) (C : String) (T : u_T) (N : Nat), xcl[ci]? = some (C, T, N) → (∃ nn, Jvm.Cond.instantiable C nn ∈ lw_tbl) → ∃ (cC : ClassId) (iS : Nat → Nat), u_Kn s C T N cC iS := by
    intro ci C T N hcl ⟨nn, hin⟩
    exact u_known (ws := lw_tbl) hts (fun w hw => (List.mem_filter.mp ((xcl_ok hcl).1 w hw)).1) (hts _ hin)
  obtain ⟨c0, i0, k0⟩ := kn 0 _ _ _ rfl ⟨7, xco (i := 33) (by decide +kernel)⟩
  obtain ⟨c1, i1, k1⟩ := kn 1 _ _ _ rfl ⟨2, xco (i := 96) (by decide +kernel)⟩
  obtain ⟨c2, i2, k2⟩ := kn 2 _ _ _ rfl ⟨9, xco (i := 26) (by decide +kernel)⟩
  obtain ⟨c3, i3, k3⟩ := kn 3 _ _ _ rfl ⟨6, xco (i := 18) (by decide +kernel)⟩
  have hKc : ∃ (D : va_G), ∀ (k : Nat) (q : vw_C), xcl[k]? = some q → u_Kn s q.1 q.2.1 q.2.2 (D.1 k) (D.2 k) := by
    refine ⟨(fun k => if k = 0 then c0 else if k = 1 then c1 else if k = 2 then c2 else c3, fun k => if k = 0 then i0 else if k = 1 then i1 else if k = 2 then i2 else i3), ?_⟩
    intro k q hq
    match k, hq with
    | 0, hq => cases hq; exact k0
    | 1, hq => cases hq; exact k1
    | 2, hq => cases hq; exact k2
    | 3, hq => cases hq; exact k3
    | k + 4, hq => simp [xcl] at hq
  obtain ⟨D, hKc⟩ := hKc
  have arr : ∀ ty : FieldType, (match ty with | .int => true | .boolean => true | .char => true | _ => false) = true → (Jvm.Cond.arrayClass ty).before #[Value.ref b] s = true → ∃ cA, ArrOfT s cA ty ∧ va_RA s cA ty := by
    intro ty hty ha
    obtain ⟨cA, kA, comp, g1, g2, g3⟩ := Cond.arrayClass_spec (show (Jvm.Cond.arrayClass ty).holds #[Value.ref b] s none s [] = true from ha)
    refine ⟨cA, fun n z => ⟨fun k h => (by cases h), kA, g2, comp, g3⟩, ?_⟩
    cases ty <;> first | exact g1 | cases hty
  have aov : ∀ C : String, va_AO C s → ∃ cA, ArrOfT s cA (.object C) ∧ va_RA s cA (.object C) := by
    intro C ha
    obtain ⟨comp, cA, kA, g1, g2, g3, g4, g5⟩ := Cond.arrayOver_spec (va_AO.use (A := #[Value.ref b]) ha)
    exact ⟨cA, fun n z => ⟨fun k h => (by cases h), kA, g3, comp, g4⟩, kA, comp, g3, g4, g1, g5⟩
  have haT : va_AO "BraidHorns$Track" s := va_AO.of (hts _ (xco (i := 94) (by decide +kernel)))
  have haC : va_AO "BraidHorns$Carrier" s := va_AO.of (hts _ (xco (i := 32) (by decide +kernel)))
  obtain ⟨t0, u0, v0⟩ := arr .int rfl (hts _ (xco (i := 64) (by decide +kernel)))
  obtain ⟨t1, u1, v1⟩ := arr .boolean rfl (hts _ (xco (i := 109) (by decide +kernel)))
  obtain ⟨t2, u2, v2⟩ := arr .char rfl (hts _ (xco (i := 110) (by decide +kernel)))
  obtain ⟨t3, u3, v3⟩ := aov _ haT
  obtain ⟨t4, u4, v4⟩ := aov _ haC
  obtain ⟨tc, htc⟩ : ∃ tc : Nat → ClassId, tc = fun k => if k = 0 then t0 else if k = 1 then t1 else if k = 2 then t2 else if k = 3 then t3 else t4 := ⟨_, rfl⟩
  have hK : va_K D xcl (xtys tc) s := by
    refine ⟨hKc, ?_⟩
    intro k q hq
    subst htc
    match k, hq with
    | 0, hq => cases hq; exact ⟨u0, v0⟩
    | 1, hq => cases hq; exact ⟨u1, v1⟩
    | 2, hq => cases hq; exact ⟨u2, v2⟩
    | 3, hq => cases hq; exact ⟨u3, v3⟩
    | 4, hq => cases hq; exact ⟨u4, v4⟩
    | k + 5, hq => simp [xtys] at hq
  obtain ⟨bs, hbs⟩ : ∃ bs : Nat → Nat, bs = fun k => if k = 0 then b else if k = 1 then b1 else if k = 2 then b2 else s.heap.size := ⟨_, rfl⟩
  have e0 : bs 0 = b := by rw [hbs]; rfl
  have e1 : bs 1 = b1 := by rw [hbs]; rfl
  have e2 : bs 2 = b2 := by rw [hbs]; rfl
  have e3 : bs 3 = s.heap.size := by rw [hbs]; rfl
  have hAA : ∀ a : Nat, a < s.heap.size → ¬ xA bs a := fun a g1 g2 => by
    have : bs 3 ≤ a := g2
    omega
  have hini : (Jvm.Cond.initialized "BraidHorns").before #[Value.ref b] s = true := hts _ (xco (i := 9) (by decide +kernel))
  have hcx : xCx D bs tc s s.heap := by
    refine ⟨hK, ?_, ?_, haT, haC, ?_, ?_, ?_⟩
    · rw [e1]
      exact va_Zof (hts _ (xco (i := 349) (by decide +kernel))) hini hb1 hAA
    · rw [e2]
      exact va_Zof (hts _ (xco (i := 262) (by decide +kernel))) hini hb2 hAA
    · exact va_Nw.of (A := #[Value.ref b]) rfl (hts _ (xco (i := 348) (by decide +kernel)))
    · exact va_Nw.of (A := #[Value.ref b]) rfl (hts _ (xco (i := 261) (by decide +kernel)))
    · exact va_Nw.of (A := #[Value.ref b]) rfl (hts _ (xco (i := 34) (by decide +kernel)))
  have hro : xRo bs (xh0 L xs) s s.heap := by
    intro k hk
    match k, hk with
    | 0, _ => exact ⟨L, xs, rfl, by rw [e0]; exact hX, by rw [e0, e3]; exact hbl⟩
    | 1, _ => exact ⟨3, xlo, rfl, by rw [e1]; exact hX1, by rw [e1, e3]; exact hl1⟩
    | 2, _ => exact ⟨3, xhi, rfl, by rw [e2]; exact hX2, by rw [e2, e3]; exact hl2⟩
  have hH : xHd D bs tc (xh0 L xs) 3 s.heap := by
    refine ⟨Nat.le_refl _, fun k hk => ?_, fun k q hq => ?_, by rw [e3]; rfl⟩
    · unfold xh0
      rw [if_neg (by omega), if_neg (by omega), if_neg (by omega)]
    · simp [xws] at hq
  have hl := lv_entry ([.ref b]) (n := 13) (Nat.le_of_ble_eq_true rfl)
  rw [lg_entry_eq]
  generalize (lg_sl ([.ref b]) ++ List.replicate (13 - (lg_sl ([.ref b])).length) Slot.unset).toArray = ls at hl ⊢
  have hxad : xad bs 0 = b := by unfold xad; rw [if_pos (by omega), e0]
  have hl : lv_has ls (xMt 97).2.2.1 (xlm bs [(0, .ref 0)]) := by
    show lv_has ls 13 [(0, .ref (xad bs 0))]
    rw [hxad]
    exact hl
  have htsT : ∀ w ∈ xT, w.before #[Value.ref b] s = true := fun w hw => hts w (List.mem_filter.mp hw).1
  refine xsound f l D bs tc 9 97 0 [(0, .ref 0)] [] (xh0 L xs) 3 q sq (some (.int 1)) h1 n1 kc ks (by omega) hex p e room_1 s m #[Value.ref b] below meth c s.heap [] 0 0 (lw_Z below #[Value.ref b] s) ls ⟨⟨hx, hb, hml, hown, htsT, fun hi => by exact absurd hi (by decide), hcx, by rw [e3]; exact Nat.le_refl _⟩, hro, hH, va_S.rf, hl, ⟨Nat.le_of_ble_eq_true rfl, Nat.le_of_ble_eq_true rfl⟩, by show 0 + kc ≤ 650502; omega, by show 0 + ks ≤ 7150742; omega, by rw [e3]⟩ ?_
  intro e5 H1 locs1 lsB he hret hro1 hH1 hS1 hz1
  have hck := xchk_of (by omega) he
  obtain ⟨hdg0, hci⟩ := (Bool.and_eq_true _ _ ▸ hck : _ ∧ _)
  have hdg := of_decide_eq_true hdg0
  refine va_forget (fun g hg => by have := hS1.2.2 g hg; have g2 : bs 3 ≤ g.base := this; omega) ?_
  refine W.widen (k := 650502) (n := 7150742) (by omega) (by omega) ?_
  obtain ⟨ins, len, r1, r2, w0, ps⟩ := e5
  cases ins
  case ireturn =>
    have hlen : len = 1 := Nat.eq_of_beq_eq_true hci
    subst hlen
    obtain ⟨x, r, rfl, hreta⟩ := xpI_some (show xpI sq _ = some (some (Value.int 1)) from hret)
    obtain ⟨hemp, hretb⟩ := xgd_some hreta
    have hr0 : r = [] := List.isEmpty_iff.mp hemp
    clear hret hreta
    subst hr0
    obtain ⟨hn, hretc⟩ := xgd_some (show xgd _ (some (some (.int x))) = some (some (Value.int 1)) from hretb)
    cases hretc
    exact lw_ret hx hb hr hlocks hdg
  case lreturn =>
    obtain ⟨x, r, rfl, hreta⟩ := xpL_some (show xpL sq _ = some (some (Value.int 1)) from hret)
    obtain ⟨hemp, hretb⟩ := xgd_some hreta
    have hz : (none : Option (Option Value)) = some (some (Value.int 1)) := hretb
    cases hz
  case return_ =>
    obtain ⟨hemp, hretb⟩ := xgd_some (show xgd (List.isEmpty sq) _ = some (some (Value.int 1)) from hret)
    have hz : (none : Option (Option Value)) = some (some (Value.int 1)) := hretb
    cases hz
  all_goals (have hz : (none : Option (Option Value)) = some (some (Value.int 1)) := hret; cases hz)

/-! an instruction of the interpreter is a step of the machine -/
theorem xgo_some {pc : Nat} {ls : xLs} {st : List Value} {h : xHp} {n pc1 : Nat} {ls1 : xLs} {st1 : List Value} {h1 : xHp} {n1 kc ks : Nat} (hs : xgo pc ls st h n = some (pc1, ls1, st1, h1, n1, kc, ks)) : pc = pc1 ∧ ls = ls1 ∧ st = st1 ∧ h = h1 ∧ n = n1 ∧ 0 = kc ∧ 0 = ks := by
  unfold xgo at hs
  injection hs with hs
  injection hs with a1 hs
  injection hs with a2 hs
  injection hs with a3 hs
  injection hs with a4 hs
  injection hs with a5 hs
  injection hs with a6 a7
  exact ⟨a1, a2, a3, a4, a5, a6, a7⟩
theorem xpI_some {α : Type} {st : List Value} {k : Int32 → List Value → Option α} {z : α} (h : xpI st k = some z) : ∃ x r, st = .int x :: r ∧ k x r = some z := by
  unfold xpI at h
  split at h
  · exact ⟨_, _, rfl, h⟩
  · cases h
theorem xpL_some {α : Type} {st : List Value} {k : Int64 → List Value → Option α} {z : α} (h : xpL st k = some z) : ∃ x r, st = .long x :: r ∧ k x r = some z := by
  unfold xpL at h
  split at h
  · exact ⟨_, _, rfl, h⟩
  · cases h
theorem xpR_some {α : Type} {st : List Value} {k : Nat → List Value → Option α} {z : α} (h : xpR st k = some z) : ∃ x r, st = .ref x :: r ∧ k x r = some z := by
  unfold xpR at h
  split at h
  · exact ⟨_, _, rfl, h⟩
  · cases h
theorem xpV_some {α : Type} {st : List Value} {k : Value → List Value → Option α} {z : α} (h : xpV st k = some z) : ∃ x r, st = x :: r ∧ k x r = some z := by
  unfold xpV at h
  split at h
  · exact ⟨_, _, rfl, h⟩
  · cases h
theorem xgI_some {α : Type} {v : Option Value} {k : Int32 → Option α} {z : α} (h : xgI v k = some z) : ∃ x, v = some (.int x) ∧ k x = some z := by
  unfold xgI at h
  split at h
  · exact ⟨_, rfl, h⟩
  · cases h
theorem xgL_some {α : Type} {v : Option Value} {k : Int64 → Option α} {z : α} (h : xgL v k = some z) : ∃ x, v = some (.long x) ∧ k x = some z := by
  unfold xgL at h
  split at h
  · exact ⟨_, rfl, h⟩
  · cases h
theorem xgR_some {α : Type} {v : Option Value} {k : Nat → Option α} {z : α} (h : xgR v k = some z) : ∃ x, v = some (.ref x) ∧ k x = some z := by
  unfold xgR at h
  split at h
  · exact ⟨_, rfl, h⟩
  · cases h
theorem xgO_some {α β : Type} {v : Option β} {k : β → Option α} {z : α} (h : xgO v k = some z) : ∃ x, v = some x ∧ k x = some z := by
  unfold xgO at h
  split at h
  · exact ⟨_, rfl, h⟩
  · cases h
theorem xcI_some {α : Type} {c : xLC} {k : Nat → Nat → (Nat → Int32) → Option α} {z : α} (h : xcI c k = some z) : ∃ t len f, c = .inl (t, len, .inl f) ∧ k t len f = some z := by
  unfold xcI at h
  split at h
  · exact ⟨_, _, _, rfl, h⟩
  · cases h
theorem xcQ_some {α : Type} {c : xLC} {k : Nat → Nat → (Nat → Option Nat) → Option α} {z : α} (h : xcQ c k = some z) : ∃ t len f, c = .inl (t, len, .inr f) ∧ k t len f = some z := by
  unfold xcQ at h
  split at h
  · exact ⟨_, _, _, rfl, h⟩
  · cases h
theorem xcO_some {α : Type} {c : xLC} {k : Nat → List Value → Option α} {z : α} (h : xcO c k = some z) : ∃ ci fs, c = .inr (ci, fs) ∧ k ci fs = some z := by
  unfold xcO at h
  split at h
  · exact ⟨_, _, rfl, h⟩
  · cases h
theorem xcN_some {α : Type} {c : xLC} {k : Nat → Nat → Option α} {z : α} (h : xcN c k = some z) : ∃ t len f, c = .inl (t, len, f) ∧ k t len = some z := by
  unfold xcN at h
  split at h
  · exact ⟨_, _, _, rfl, h⟩
  · cases h
theorem xgd_some {α : Type} {b : Bool} {a : Option α} {z : α} (h : xgd b a = some z) : b = true ∧ a = some z := by
  cases b
  · cases h
  · exact ⟨rfl, h⟩
theorem xgp_some {α : Type} {c : Prop} [Decidable c] {a : Option α} {z : α} (h : xgp c a = some z) : c ∧ a = some z := by
  unfold xgp at h
  split at h
  · next hc => exact ⟨hc, h⟩
  · cases h
theorem xcl_ok {ci : Nat} {C : String} {T : u_T} {N : Nat} (h : xcl[ci]? = some (C, T, N)) : (∀ w ∈ u_ws C T N, w ∈ xT) ∧ (∀ k, k < N → (T k).1 = C) ∧ (∀ k, k < N → parseFieldDescriptor (T k).2.2.1 = some (xfty ci k)) ∧ (∀ a, a < N → ∀ b, b < N → a ≠ b → (T a).2.1 ≠ (T b).2.1) ∧ (∀ k, k < N → defaultValue (xfty ci k) = vp_V ((xdef ci).map (fun v => v)) k) ∧ ci < 4 ∧ xcls ci = N := by
  match ci, h with
  | 0, h => cases h; exact ⟨by decide +kernel, by decide +kernel, tyX0_ok, nmX0, by decide +kernel, by omega, rfl⟩
  | 1, h => cases h; exact ⟨by decide +kernel, by decide +kernel, tyX2_ok, nmX2, by decide +kernel, by omega, rfl⟩
  | 2, h => cases h; exact ⟨by decide +kernel, by decide +kernel, tyX3_ok, nmX3, by decide +kernel, by omega, rfl⟩
  | 3, h => cases h; exact ⟨by decide +kernel, by decide +kernel, tyX4_ok, nmX4, by decide +kernel, by omega, rfl⟩
  | k + 4, h => simp [xcl] at h
def xftok (ty : FieldType) : Bool := match ty with | .int => true | .boolean => true | .object _ => true | .array _ => true | _ => false
theorem xfty_ok {ci : Nat} {C : String} {T : u_T} {N : Nat} (h : xcl[ci]? = some (C, T, N)) : ∀ k, k < N → xftok (xfty ci k) = true := by
  match ci, h with
  | 0, h => cases h; decide +kernel
  | 1, h => cases h; decide +kernel
  | 2, h => cases h; decide +kernel
  | 3, h => cases h; decide +kernel
  | k + 4, h => simp [xcl] at h
theorem xfit_all {ty : FieldType} (h : xftok ty = true) (v : Value) (hf : fits ty v = true) : narrow ty v = v := by
  cases ty
  case int => cases v <;> rfl
  case boolean =>
    cases v
    case int x => exact xfit_nar (Or.inl rfl) hf
    all_goals rfl
  case object => cases v <;> rfl
  case array => cases v <;> rfl
  all_goals cases h
theorem xfl_some {i idx : Nat} {e : xEn} (h : xfl i e idx = true) : ∃ C T N, xcl[e.2.2.1]? = some (C, T, N) ∧ e.2.2.2.1 < N ∧ Jvm.Cond.fieldLink (xMt i).1.cls idx C (T e.2.2.2.1).2.1 (T e.2.2.2.1).2.2.1 ∈ xT := by
  unfold xfl at h
  split at h
  · next C T N hc =>
    simp only [Bool.and_eq_true] at h
    exact ⟨C, T, N, hc, Nat.le_of_ble_eq_true h.1, xw_mem h.2⟩
  · cases h
theorem xdef_vm (bs : Nat → Nat) (ci : Nat) : (xdef ci).map (xvm bs) = (xdef ci).map (fun v => v) := by
  unfold xdef
  cases Nat.beq ci 0 <;> cases Nat.beq ci 1 <;> cases Nat.beq ci 2 <;> rfl
/-- what is the same all along a method's run -/
def xFx (p : Program) (s : State) (m : MethodId) (args : Array Value) (meth : Method) (c : Code) (i : Nat) (D : va_G) (bs : Nat → Nat) (tc : Nat → ClassId) : Prop :=
  p.tables.exec = Jvm.exec ∧ c.code = (xMt i).2.1 ∧ c.maxLocals = (xMt i).2.2.1 ∧ s.vm.findClass (xMt i).1.cls = some m.cls ∧ (∀ w ∈ xT, w.before args s = true) ∧ ((xMt i).1.name = "<init>" → meth.name = "<init>") ∧ xCx D bs tc s s.heap ∧ bs 3 ≤ s.heap.size
section XSTEP
variable {p : Program} {l : Launch} {e0 : Env} {R : Room} {s : State} {m : MethodId} {args : Array Value} {below : List Frame} {meth : Method} {c : Code} {H : Heap} {locs : List Loc} {cells slots : Nat} {Q : State → Prop}
variable {D : va_G} {bs : Nat → Nat} {tc : Nat → ClassId} {i d pc : Nat} {ls : xLs} {st : List Value} {h : xHp} {n pc1 : Nat} {ls1 : xLs} {st1 : List Value} {h1 : xHp} {n1 kc ks : Nat} {lsA : Array Slot} {len r1 r2 : Nat} {v0 : Value} {ps : List Nat}
/-- the machine's own bound of the heap -/
theorem xsz {g : JFrame} (kk : H.size ≤ s.heap.size + cells → W p l e0 R s m args below meth c H locs cells slots Q g) : W p l e0 R s m args below meth c H locs cells slots Q g := fun T hT X => kk (by rw [← hT]; exact X.same.2.2.1) T hT X
theorem xS_self (hS : va_S (xA bs) s.heap H locs) : va_S (xA bs) H H locs := ⟨Nat.le_refl _, fun _ _ _ => rfl, hS.2.2⟩
theorem xS_trans {H1 : Heap} {locs1 : List Loc} (hS : va_S (xA bs) s.heap H locs) (h2 : va_S (xA bs) H H1 locs1) : va_S (xA bs) s.heap H1 locs1 := ⟨Nat.le_trans hS.1 h2.1, fun q a b => (h2.2.1 q (Nat.lt_of_lt_of_le a hS.1) b).trans (hS.2.1 q a b), h2.2.2⟩
/-- behind the write of a cell -/
theorem xstore {k : Nat} {c1 : xLC} {H1 : Heap} {locs1 : List Loc} (hH : xHd D bs tc h n H) (hS : va_S (xA bs) s.heap H locs) (hz : bs 3 + (n - 3) = s.heap.size + cells) (h3 : 3 ≤ k) (hn : k < n) (hP : va_P D xcl ((xws bs tc h n).set (k - 3) (xad bs k, xent bs tc c1)) H1) (hS1 : va_S (xA bs) H H1 locs1) (hle : H1.size ≤ s.heap.size + cells) : xHd D bs tc (xup h k c1) n H1 ∧ va_S (xA bs) s.heap H1 locs1 :=
  ⟨hH.put h3 hn hP (by have e1 := hH.2.2.2; have e2 := hS1.1; omega), xS_trans hS hS1⟩
/-- behind a new cell -/
theorem xnew {c1 : xLC} {q : Nat} {H1 : Heap} {locs1 : List Loc} (hH : xHd D bs tc h n H) (hS : va_S (xA bs) s.heap H locs) (hz : bs 3 + (n - 3) = s.heap.size + cells) (hP : va_P D xcl (xws bs tc h n ++ [(q, xent bs tc c1)]) H1) (hD : va_D (xA bs) (xws bs tc h n ++ [(q, xent bs tc c1)])) (hS1 : va_S (xA bs) H H1 locs1) (hle : H1.size ≤ s.heap.size + (cells + 1)) : q = xad bs n ∧ xHd D bs tc (xup h n c1) (n + 1) H1 ∧ va_S (xA bs) s.heap H1 locs1 := by
  have e1 := hH.2.2.2
  have h3 := hH.1
  have hlast : (xws bs tc h n ++ [(q, xent bs tc c1)])[n - 3]? = some (q, xent bs tc c1) := by
    rw [List.getElem?_append_right (by rw [xws_len]; omega), xws_len]
    simp
  have hqA : bs 3 ≤ q := hD.2 _ _ hlast
  have hql : q < H1.size := (hP _ _ hlast).lt
  have hge : bs 3 + (n - 3) ≤ q := by
    rcases Nat.lt_or_ge q (bs 3 + (n - 3)) with hlt | hge
    · exfalso
      have hj : (xws bs tc h n ++ [(q, xent bs tc c1)])[q - bs 3]? = some (xad bs (q - bs 3 + 3), xent bs tc (h (q - bs 3 + 3))) := by
        rw [List.getElem?_append_left (by rw [xws_len]; omega)]
        have := xws_get (bs := bs) (tc := tc) (h := h) (n := n) (k := q - bs 3 + 3) (by omega) (by omega)
        rw [show q - bs 3 + 3 - 3 = q - bs 3 by omega] at this
        exact this
      have hx : xad bs (q - bs 3 + 3) = q := by
        unfold xad
        rw [if_neg (by omega)]
        omega
      have := hD.1 _ _ _ _ hj hlast hx
      omega
    · exact hge
  have hq : q = bs 3 + (n - 3) := by omega
  have hq2 : xad bs n = bs 3 + (n - 3) := by
    unfold xad
    rw [if_neg (by omega)]
  refine ⟨by rw [hq2]; exact hq, ⟨by omega, fun j hj => ?_, ?_, by omega⟩, xS_trans hS hS1⟩
  · have hjn : ¬ j = n := by omega
    simp only [xup, if_neg hjn]
    exact hH.2.1 j (by omega)
  · rw [← xws_push c1 h3, ← hq]
    exact hP
/-- a cell that is an object -/
theorem xobj {k ci : Nat} {fs : List Value} (hro : xRo bs h s s.heap) (hH : xHd D bs tc h n H) (hk : h k = .inr (ci, fs)) (hci : ci < 4) : 3 ≤ k ∧ k < n ∧ (xws bs tc h n)[k - 3]? = some (xad bs k, .inr (ci, fs.map (xvm bs))) := by
  have h3 : 3 ≤ k := by
    rcases Nat.lt_or_ge k 3 with hlt | hge
    · obtain ⟨len, f, e1, -⟩ := hro k hlt
      rw [hk] at e1
      cases e1
    · exact hge
  have hn : k < n := hH.lt (by
    rw [hk]
    intro e
    injection e with e
    injection e with e e2
    omega)
  refine ⟨h3, hn, ?_⟩
  rw [xws_get h3 hn, hk]
  rfl
theorem xarr {k t len : Nat} {f : Nat → Int32} (hH : xHd D bs tc h n H) (hk : h k = .inl (t, len, .inl f)) (h3 : 3 ≤ k) : k < n ∧ (xws bs tc h n)[k - 3]? = some (xad bs k, .inl (tc t, len, .inl f)) := by
  have hn : k < n := hH.lt (by rw [hk]; intro e; cases e)
  refine ⟨hn, ?_⟩
  rw [xws_get h3 hn, hk]
  rfl
theorem xarq {k t len : Nat} {f : Nat → Option Nat} (hro : xRo bs h s s.heap) (hH : xHd D bs tc h n H) (hk : h k = .inl (t, len, .inr f)) : 3 ≤ k ∧ k < n ∧ (xws bs tc h n)[k - 3]? = some (xad bs k, .inl (tc t, len, .inr (.inr (.inr (.inr (fun j => (f j).map (xad bs))))))) := by
  have h3 : 3 ≤ k := by
    rcases Nat.lt_or_ge k 3 with hlt | hge
    · obtain ⟨len, f, e1, -⟩ := hro k hlt
      rw [hk] at e1
      cases e1
    · exact hge
  have hn : k < n := hH.lt (by rw [hk]; intro e; cases e)
  refine ⟨h3, hn, ?_⟩
  rw [xws_get h3 hn, hk]
  rfl
/-- the premises of a step -/
def xPre (p : Program) (R : Room) (s : State) (m : MethodId) (args : Array Value) (meth : Method) (c : Code) (H : Heap) (locs : List Loc) (cells slots : Nat) (D : va_G) (bs : Nat → Nat) (tc : Nat → ClassId) (i d : Nat) (ls : xLs) (h : xHp) (n : Nat) (lsA : Array Slot) (kc ks : Nat) : Prop :=
  xFx p s m args meth c i D bs tc ∧ xRo bs h s s.heap ∧ xHd D bs tc h n H ∧ va_S (xA bs) s.heap H locs ∧ lv_has lsA (xMt i).2.2.1 (xlm bs ls) ∧ (d ≤ R.frames ∧ 34 * d ≤ R.locals) ∧ cells + kc ≤ R.cells ∧ slots + ks ≤ R.slots ∧ bs 3 + (n - 3) = s.heap.size + cells
/-- what a step needs of what comes behind it -/
def xKk (p : Program) (l : Launch) (e0 : Env) (R : Room) (s : State) (m : MethodId) (args : Array Value) (below : List Frame) (meth : Method) (c : Code) (cells slots : Nat) (Q : State → Prop) (D : va_G) (bs : Nat → Nat) (tc : Nat → ClassId) (i : Nat) (pc1 : Nat) (ls1 : xLs) (st1 : List Value) (h1 : xHp) (n1 kc ks : Nat) : Prop :=
  ∀ (H1 : Heap) (locs1 : List Loc) (lsB : Array Slot), xRo bs h1 s s.heap → xHd D bs tc h1 n1 H1 → va_S (xA bs) s.heap H1 locs1 → lv_has lsB (xMt i).2.2.1 (xlm bs ls1) → bs 3 + (n1 - 3) = s.heap.size + (cells + kc) → W p l e0 R s m args below meth c H1 locs1 (cells + kc) (slots + ks) Q (F0 m pc1 lsB (st1.map (xvm bs)))
theorem xs_iconst (q : Int) (X : xPre p R s m args meth c H locs cells slots D bs tc i d ls h n lsA kc ks) (hdg : decode (xMt i).2.1 pc = .ok (.iconst q, len)) (hci : xchi i pc (.iconst q, len, r1, r2, v0, ps) = true) (hs : xstp d (.iconst q, len, r1, r2, v0, ps) pc ls st h n = some (pc1, ls1, st1, h1, n1, kc, ks))
    (kk : xKk p l e0 R s m args below meth c cells slots Q D bs tc i pc1 ls1 st1 h1 n1 kc ks) : W p l e0 R s m args below meth c H locs cells slots Q (F0 m pc lsA (st.map (xvm bs))) := by
  obtain ⟨⟨hx, hb, hml, hown, hts, hin, hcx, hbs⟩, hro, hH, hS, hl, ⟨hd1, hd2⟩, hc, hk2, hz⟩ := X
  have hci0 := (Bool.and_eq_true _ _ ▸ hci : _ ∧ _)
  obtain ⟨hlen0, hci2⟩ := hci0
  have hlen : len = 1 := Nat.eq_of_beq_eq_true hlen0
  subst hlen
  obtain ⟨x, hv, hs⟩ := xgI_some hs
  have hv2 : v0 = .int x := Option.some.inj hv
  subst hv2
  obtain ⟨rfl, rfl, rfl, rfl, rfl, rfl, rfl⟩ := xgo_some hs
  have hx2 : Int32.ofInt q = x := of_decide_eq_true hci2
  exact lv_iconst hx hb hdg hx2 (kk H locs lsA hro hH hS hl hz)
theorem xs_bipush (q : Int) (X : xPre p R s m args meth c H locs cells slots D bs tc i d ls h n lsA kc ks) (hdg : decode (xMt i).2.1 pc = .ok (.bipush q, len)) (hci : xchi i pc (.bipush q, len, r1, r2, v0, ps) = true) (hs : xstp d (.bipush q, len, r1, r2, v0, ps) pc ls st h n = some (pc1, ls1, st1, h1, n1, kc, ks))
    (kk : xKk p l e0 R s m args below meth c cells slots Q D bs tc i pc1 ls1 st1 h1 n1 kc ks) : W p l e0 R s m args below meth c H locs cells slots Q (F0 m pc lsA (st.map (xvm bs))) := by
  obtain ⟨⟨hx, hb, hml, hown, hts, hin, hcx, hbs⟩, hro, hH, hS, hl, ⟨hd1, hd2⟩, hc, hk2, hz⟩ := X
  have hci0 := (Bool.and_eq_true _ _ ▸ hci : _ ∧ _)
  obtain ⟨hlen0, hci2⟩ := hci0
  have hlen : len = 2 := Nat.eq_of_beq_eq_true hlen0
  subst hlen
  obtain ⟨x, hv, hs⟩ := xgI_some hs
  have hv2 : v0 = .int x := Option.some.inj hv
  subst hv2
  obtain ⟨rfl, rfl, rfl, rfl, rfl, rfl, rfl⟩ := xgo_some hs
  have hx2 : (Int8.ofInt q).toInt32 = x := of_decide_eq_true hci2
  exact lv_bipush hx hb hdg hx2 (kk H locs lsA hro hH hS hl hz)
theorem xs_sipush (q : Int) (X : xPre p R s m args meth c H locs cells slots D bs tc i d ls h n lsA kc ks) (hdg : decode (xMt i).2.1 pc = .ok (.sipush q, len)) (hci : xchi i pc (.sipush q, len, r1, r2, v0, ps) = true) (hs : xstp d (.sipush q, len, r1, r2, v0, ps) pc ls st h n = some (pc1, ls1, st1, h1, n1, kc, ks))
    (kk : xKk p l e0 R s m args below meth c cells slots Q D bs tc i pc1 ls1 st1 h1 n1 kc ks) : W p l e0 R s m args below meth c H locs cells slots Q (F0 m pc lsA (st.map (xvm bs))) := by
  obtain ⟨⟨hx, hb, hml, hown, hts, hin, hcx, hbs⟩, hro, hH, hS, hl, ⟨hd1, hd2⟩, hc, hk2, hz⟩ := X
  have hci0 := (Bool.and_eq_true _ _ ▸ hci : _ ∧ _)
  obtain ⟨hlen0, hci2⟩ := hci0
  have hlen : len = 3 := Nat.eq_of_beq_eq_true hlen0
  subst hlen
  obtain ⟨x, hv, hs⟩ := xgI_some hs
  have hv2 : v0 = .int x := Option.some.inj hv
  subst hv2
  obtain ⟨rfl, rfl, rfl, rfl, rfl, rfl, rfl⟩ := xgo_some hs
  have hx2 : (Int16.ofInt q).toInt32 = x := of_decide_eq_true hci2
  exact lv_sipush hx hb hdg hx2 (kk H locs lsA hro hH hS hl hz)
theorem xs_lconst (q : Fin 2) (X : xPre p R s m args meth c H locs cells slots D bs tc i d ls h n lsA kc ks) (hdg : decode (xMt i).2.1 pc = .ok (.lconst q, len)) (hci : xchi i pc (.lconst q, len, r1, r2, v0, ps) = true) (hs : xstp d (.lconst q, len, r1, r2, v0, ps) pc ls st h n = some (pc1, ls1, st1, h1, n1, kc, ks))
    (kk : xKk p l e0 R s m args below meth c cells slots Q D bs tc i pc1 ls1 st1 h1 n1 kc ks) : W p l e0 R s m args below meth c H locs cells slots Q (F0 m pc lsA (st.map (xvm bs))) := by
  obtain ⟨⟨hx, hb, hml, hown, hts, hin, hcx, hbs⟩, hro, hH, hS, hl, ⟨hd1, hd2⟩, hc, hk2, hz⟩ := X
  have hci0 := (Bool.and_eq_true _ _ ▸ hci : _ ∧ _)
  obtain ⟨hlen0, hci2⟩ := hci0
  have hlen : len = 1 := Nat.eq_of_beq_eq_true hlen0
  subst hlen
  obtain ⟨x, hv, hs⟩ := xgL_some hs
  have hv2 : v0 = .long x := Option.some.inj hv
  subst hv2
  obtain ⟨rfl, rfl, rfl, rfl, rfl, rfl, rfl⟩ := xgo_some hs
  have hx2 : Int64.ofNat (q : Nat) = x := of_decide_eq_true hci2
  exact lv_lconst hx hb hdg hx2 (kk H locs lsA hro hH hS hl hz)
theorem xs_ldc (q : Nat) (X : xPre p R s m args meth c H locs cells slots D bs tc i d ls h n lsA kc ks) (hdg : decode (xMt i).2.1 pc = .ok (.ldc q, len)) (hci : xchi i pc (.ldc q, len, r1, r2, v0, ps) = true) (hs : xstp d (.ldc q, len, r1, r2, v0, ps) pc ls st h n = some (pc1, ls1, st1, h1, n1, kc, ks))
    (kk : xKk p l e0 R s m args below meth c cells slots Q D bs tc i pc1 ls1 st1 h1 n1 kc ks) : W p l e0 R s m args below meth c H locs cells slots Q (F0 m pc lsA (st.map (xvm bs))) := by
  obtain ⟨⟨hx, hb, hml, hown, hts, hin, hcx, hbs⟩, hro, hH, hS, hl, ⟨hd1, hd2⟩, hc, hk2, hz⟩ := X
  have hci0 := (Bool.and_eq_true _ _ ▸ hci : _ ∧ _)
  obtain ⟨hlen0, hci2⟩ := hci0
  have hlen : len = 2 := Nat.eq_of_beq_eq_true hlen0
  subst hlen
  obtain ⟨x, hv, hs⟩ := xgI_some hs
  have hv2 : v0 = .int x := Option.some.inj hv
  subst hv2
  obtain ⟨rfl, rfl, rfl, rfl, rfl, rfl, rfl⟩ := xgo_some hs
  exact lv_ldc hx hb hown (hts _ (xw_mem hci2)) hdg (kk H locs lsA hro hH hS hl hz)
theorem xs_ldc_w (q : Nat) (X : xPre p R s m args meth c H locs cells slots D bs tc i d ls h n lsA kc ks) (hdg : decode (xMt i).2.1 pc = .ok (.ldc_w q, len)) (hci : xchi i pc (.ldc_w q, len, r1, r2, v0, ps) = true) (hs : xstp d (.ldc_w q, len, r1, r2, v0, ps) pc ls st h n = some (pc1, ls1, st1, h1, n1, kc, ks))
    (kk : xKk p l e0 R s m args below meth c cells slots Q D bs tc i pc1 ls1 st1 h1 n1 kc ks) : W p l e0 R s m args below meth c H locs cells slots Q (F0 m pc lsA (st.map (xvm bs))) := by
  obtain ⟨⟨hx, hb, hml, hown, hts, hin, hcx, hbs⟩, hro, hH, hS, hl, ⟨hd1, hd2⟩, hc, hk2, hz⟩ := X
  have hci0 := (Bool.and_eq_true _ _ ▸ hci : _ ∧ _)
  obtain ⟨hlen0, hci2⟩ := hci0
  have hlen : len = 3 := Nat.eq_of_beq_eq_true hlen0
  subst hlen
  obtain ⟨x, hv, hs⟩ := xgI_some hs
  have hv2 : v0 = .int x := Option.some.inj hv
  subst hv2
  obtain ⟨rfl, rfl, rfl, rfl, rfl, rfl, rfl⟩ := xgo_some hs
  exact lv_ldcw hx hb hown (hts _ (xw_mem hci2)) hdg (kk H locs lsA hro hH hS hl hz)
theorem xs_ldc2_w (q : Nat) (X : xPre p R s m args meth c H locs cells slots D bs tc i d ls h n lsA kc ks) (hdg : decode (xMt i).2.1 pc = .ok (.ldc2_w q, len)) (hci : xchi i pc (.ldc2_w q, len, r1, r2, v0, ps) = true) (hs : xstp d (.ldc2_w q, len, r1, r2, v0, ps) pc ls st h n = some (pc1, ls1, st1, h1, n1, kc, ks))
    (kk : xKk p l e0 R s m args below meth c cells slots Q D bs tc i pc1 ls1 st1 h1 n1 kc ks) : W p l e0 R s m args below meth c H locs cells slots Q (F0 m pc lsA (st.map (xvm bs))) := by
  obtain ⟨⟨hx, hb, hml, hown, hts, hin, hcx, hbs⟩, hro, hH, hS, hl, ⟨hd1, hd2⟩, hc, hk2, hz⟩ := X
  have hci0 := (Bool.and_eq_true _ _ ▸ hci : _ ∧ _)
  obtain ⟨hlen0, hci2⟩ := hci0
  have hlen : len = 3 := Nat.eq_of_beq_eq_true hlen0
  subst hlen
  obtain ⟨x, hv, hs⟩ := xgL_some hs
  have hv2 : v0 = .long x := Option.some.inj hv
  subst hv2
  obtain ⟨rfl, rfl, rfl, rfl, rfl, rfl, rfl⟩ := xgo_some hs
  exact lv_ldc2 hx hb hown (hts _ (xw_mem hci2)) hdg (kk H locs lsA hro hH hS hl hz)
theorem xs_iload_n (q : Fin 4) (X : xPre p R s m args meth c H locs cells slots D bs tc i d ls h n lsA kc ks) (hdg : decode (xMt i).2.1 pc = .ok (.iload_n q, len)) (hci : xchi i pc (.iload_n q, len, r1, r2, v0, ps) = true) (hs : xstp d (.iload_n q, len, r1, r2, v0, ps) pc ls st h n = some (pc1, ls1, st1, h1, n1, kc, ks))
    (kk : xKk p l e0 R s m args below meth c cells slots Q D bs tc i pc1 ls1 st1 h1 n1 kc ks) : W p l e0 R s m args below meth c H locs cells slots Q (F0 m pc lsA (st.map (xvm bs))) := by
  obtain ⟨⟨hx, hb, hml, hown, hts, hin, hcx, hbs⟩, hro, hH, hS, hl, ⟨hd1, hd2⟩, hc, hk2, hz⟩ := X
  have hlen : len = 1 := Nat.eq_of_beq_eq_true hci
  subst hlen
  obtain ⟨x, hv, hs⟩ := xgI_some hs
  obtain ⟨rfl, rfl, rfl, rfl, rfl, rfl, rfl⟩ := xgo_some hs
  exact lv_iload_n hx hb hdg rfl (hl.2.2 _ (xlm_ld hv)) (kk H locs lsA hro hH hS hl hz)
theorem xs_iload (q : Nat) (X : xPre p R s m args meth c H locs cells slots D bs tc i d ls h n lsA kc ks) (hdg : decode (xMt i).2.1 pc = .ok (.iload q, len)) (hci : xchi i pc (.iload q, len, r1, r2, v0, ps) = true) (hs : xstp d (.iload q, len, r1, r2, v0, ps) pc ls st h n = some (pc1, ls1, st1, h1, n1, kc, ks))
    (kk : xKk p l e0 R s m args below meth c cells slots Q D bs tc i pc1 ls1 st1 h1 n1 kc ks) : W p l e0 R s m args below meth c H locs cells slots Q (F0 m pc lsA (st.map (xvm bs))) := by
  obtain ⟨⟨hx, hb, hml, hown, hts, hin, hcx, hbs⟩, hro, hH, hS, hl, ⟨hd1, hd2⟩, hc, hk2, hz⟩ := X
  have hlen : len = 2 := Nat.eq_of_beq_eq_true hci
  subst hlen
  obtain ⟨x, hv, hs⟩ := xgI_some hs
  obtain ⟨rfl, rfl, rfl, rfl, rfl, rfl, rfl⟩ := xgo_some hs
  exact lv_iload hx hb hdg (hl.2.2 _ (xlm_ld hv)) (kk H locs lsA hro hH hS hl hz)
theorem xs_lload_n (q : Fin 4) (X : xPre p R s m args meth c H locs cells slots D bs tc i d ls h n lsA kc ks) (hdg : decode (xMt i).2.1 pc = .ok (.lload_n q, len)) (hci : xchi i pc (.lload_n q, len, r1, r2, v0, ps) = true) (hs : xstp d (.lload_n q, len, r1, r2, v0, ps) pc ls st h n = some (pc1, ls1, st1, h1, n1, kc, ks))
    (kk : xKk p l e0 R s m args below meth c cells slots Q D bs tc i pc1 ls1 st1 h1 n1 kc ks) : W p l e0 R s m args below meth c H locs cells slots Q (F0 m pc lsA (st.map (xvm bs))) := by
  obtain ⟨⟨hx, hb, hml, hown, hts, hin, hcx, hbs⟩, hro, hH, hS, hl, ⟨hd1, hd2⟩, hc, hk2, hz⟩ := X
  have hlen : len = 1 := Nat.eq_of_beq_eq_true hci
  subst hlen
  obtain ⟨x, hv, hs⟩ := xgL_some hs
  obtain ⟨rfl, rfl, rfl, rfl, rfl, rfl, rfl⟩ := xgo_some hs
  exact lv_lload_n hx hb hdg rfl (hl.2.2 _ (xlm_ld hv)) (kk H locs lsA hro hH hS hl hz)
theorem xs_lload (q : Nat) (X : xPre p R s m args meth c H locs cells slots D bs tc i d ls h n lsA kc ks) (hdg : decode (xMt i).2.1 pc = .ok (.lload q, len)) (hci : xchi i pc (.lload q, len, r1, r2, v0, ps) = true) (hs : xstp d (.lload q, len, r1, r2, v0, ps) pc ls st h n = some (pc1, ls1, st1, h1, n1, kc, ks))
    (kk : xKk p l e0 R s m args below meth c cells slots Q D bs tc i pc1 ls1 st1 h1 n1 kc ks) : W p l e0 R s m args below meth c H locs cells slots Q (F0 m pc lsA (st.map (xvm bs))) := by
  obtain ⟨⟨hx, hb, hml, hown, hts, hin, hcx, hbs⟩, hro, hH, hS, hl, ⟨hd1, hd2⟩, hc, hk2, hz⟩ := X
  have hlen : len = 2 := Nat.eq_of_beq_eq_true hci
  subst hlen
  obtain ⟨x, hv, hs⟩ := xgL_some hs
  obtain ⟨rfl, rfl, rfl, rfl, rfl, rfl, rfl⟩ := xgo_some hs
  exact lv_lload hx hb hdg (hl.2.2 _ (xlm_ld hv)) (kk H locs lsA hro hH hS hl hz)
theorem xs_aload_n (q : Fin 4) (X : xPre p R s m args meth c H locs cells slots D bs tc i d ls h n lsA kc ks) (hdg : decode (xMt i).2.1 pc = .ok (.aload_n q, len)) (hci : xchi i pc (.aload_n q, len, r1, r2, v0, ps) = true) (hs : xstp d (.aload_n q, len, r1, r2, v0, ps) pc ls st h n = some (pc1, ls1, st1, h1, n1, kc, ks))
    (kk : xKk p l e0 R s m args below meth c cells slots Q D bs tc i pc1 ls1 st1 h1 n1 kc ks) : W p l e0 R s m args below meth c H locs cells slots Q (F0 m pc lsA (st.map (xvm bs))) := by
  obtain ⟨⟨hx, hb, hml, hown, hts, hin, hcx, hbs⟩, hro, hH, hS, hl, ⟨hd1, hd2⟩, hc, hk2, hz⟩ := X
  have hlen : len = 1 := Nat.eq_of_beq_eq_true hci
  subst hlen
  obtain ⟨x, hv, hs⟩ := xgR_some hs
  obtain ⟨rfl, rfl, rfl, rfl, rfl, rfl, rfl⟩ := xgo_some hs
  exact lv_aload_n hx hb hdg rfl (hl.2.2 _ (xlm_ld hv)) (kk H locs lsA hro hH hS hl hz)
theorem xs_aload (q : Nat) (X : xPre p R s m args meth c H locs cells slots D bs tc i d ls h n lsA kc ks) (hdg : decode (xMt i).2.1 pc = .ok (.aload q, len)) (hci : xchi i pc (.aload q, len, r1, r2, v0, ps) = true) (hs : xstp d (.aload q, len, r1, r2, v0, ps) pc ls st h n = some (pc1, ls1, st1, h1, n1, kc, ks))
    (kk : xKk p l e0 R s m args below meth c cells slots Q D bs tc i pc1 ls1 st1 h1 n1 kc ks) : W p l e0 R s m args below meth c H locs cells slots Q (F0 m pc lsA (st.map (xvm bs))) := by
  obtain ⟨⟨hx, hb, hml, hown, hts, hin, hcx, hbs⟩, hro, hH, hS, hl, ⟨hd1, hd2⟩, hc, hk2, hz⟩ := X
  have hlen : len = 2 := Nat.eq_of_beq_eq_true hci
  subst hlen
  obtain ⟨x, hv, hs⟩ := xgR_some hs
  obtain ⟨rfl, rfl, rfl, rfl, rfl, rfl, rfl⟩ := xgo_some hs
  exact lv_aload hx hb hdg (hl.2.2 _ (xlm_ld hv)) (kk H locs lsA hro hH hS hl hz)
theorem xs_istore_n (q : Fin 4) (X : xPre p R s m args meth c H locs cells slots D bs tc i d ls h n lsA kc ks) (hdg : decode (xMt i).2.1 pc = .ok (.istore_n q, len)) (hci : xchi i pc (.istore_n q, len, r1, r2, v0, ps) = true) (hs : xstp d (.istore_n q, len, r1, r2, v0, ps) pc ls st h n = some (pc1, ls1, st1, h1, n1, kc, ks))
    (kk : xKk p l e0 R s m args below meth c cells slots Q D bs tc i pc1 ls1 st1 h1 n1 kc ks) : W p l e0 R s m args below meth c H locs cells slots Q (F0 m pc lsA (st.map (xvm bs))) := by
  obtain ⟨⟨hx, hb, hml, hown, hts, hin, hcx, hbs⟩, hro, hH, hS, hl, ⟨hd1, hd2⟩, hc, hk2, hz⟩ := X
  have hci0 := (Bool.and_eq_true _ _ ▸ hci : _ ∧ _)
  obtain ⟨hlen0, hci2⟩ := hci0
  have hlen : len = 1 := Nat.eq_of_beq_eq_true hlen0
  subst hlen
  obtain ⟨x, r, rfl, hs⟩ := xpI_some hs
  obtain ⟨rfl, rfl, rfl, rfl, rfl, rfl, rfl⟩ := xgo_some hs
  exact lv_istore_n (lv' := xlm bs (xst1 ls q (.int x))) hx hb hdg rfl hl (Nat.le_of_ble_eq_true hci2) (xlm_st1 (v := .int x)) (fun lsB hB => kk H locs lsB hro hH hS hB hz)
theorem xs_istore (q : Nat) (X : xPre p R s m args meth c H locs cells slots D bs tc i d ls h n lsA kc ks) (hdg : decode (xMt i).2.1 pc = .ok (.istore q, len)) (hci : xchi i pc (.istore q, len, r1, r2, v0, ps) = true) (hs : xstp d (.istore q, len, r1, r2, v0, ps) pc ls st h n = some (pc1, ls1, st1, h1, n1, kc, ks))
    (kk : xKk p l e0 R s m args below meth c cells slots Q D bs tc i pc1 ls1 st1 h1 n1 kc ks) : W p l e0 R s m args below meth c H locs cells slots Q (F0 m pc lsA (st.map (xvm bs))) := by
  obtain ⟨⟨hx, hb, hml, hown, hts, hin, hcx, hbs⟩, hro, hH, hS, hl, ⟨hd1, hd2⟩, hc, hk2, hz⟩ := X
  have hci0 := (Bool.and_eq_true _ _ ▸ hci : _ ∧ _)
  obtain ⟨hlen0, hci2⟩ := hci0
  have hlen : len = 2 := Nat.eq_of_beq_eq_true hlen0
  subst hlen
  obtain ⟨x, r, rfl, hs⟩ := xpI_some hs
  obtain ⟨rfl, rfl, rfl, rfl, rfl, rfl, rfl⟩ := xgo_some hs
  exact lv_istore (lv' := xlm bs (xst1 ls q (.int x))) hx hb hdg hl (Nat.le_of_ble_eq_true hci2) (xlm_st1 (v := .int x)) (fun lsB hB => kk H locs lsB hro hH hS hB hz)
theorem xs_lstore_n (q : Fin 4) (X : xPre p R s m args meth c H locs cells slots D bs tc i d ls h n lsA kc ks) (hdg : decode (xMt i).2.1 pc = .ok (.lstore_n q, len)) (hci : xchi i pc (.lstore_n q, len, r1, r2, v0, ps) = true) (hs : xstp d (.lstore_n q, len, r1, r2, v0, ps) pc ls st h n = some (pc1, ls1, st1, h1, n1, kc, ks))
    (kk : xKk p l e0 R s m args below meth c cells slots Q D bs tc i pc1 ls1 st1 h1 n1 kc ks) : W p l e0 R s m args below meth c H locs cells slots Q (F0 m pc lsA (st.map (xvm bs))) := by
  obtain ⟨⟨hx, hb, hml, hown, hts, hin, hcx, hbs⟩, hro, hH, hS, hl, ⟨hd1, hd2⟩, hc, hk2, hz⟩ := X
  have hci0 := (Bool.and_eq_true _ _ ▸ hci : _ ∧ _)
  obtain ⟨hlen0, hci2⟩ := hci0
  have hlen : len = 1 := Nat.eq_of_beq_eq_true hlen0
  subst hlen
  obtain ⟨x, r, rfl, hs⟩ := xpL_some hs
  obtain ⟨rfl, rfl, rfl, rfl, rfl, rfl, rfl⟩ := xgo_some hs
  exact lv_lstore_n (lv' := xlm bs (xst2 ls q (.long x))) hx hb hdg rfl hl (Nat.le_of_ble_eq_true hci2) (xlm_st2 (v := .long x)) (fun lsB hB => kk H locs lsB hro hH hS hB hz)
theorem xs_lstore (q : Nat) (X : xPre p R s m args meth c H locs cells slots D bs tc i d ls h n lsA kc ks) (hdg : decode (xMt i).2.1 pc = .ok (.lstore q, len)) (hci : xchi i pc (.lstore q, len, r1, r2, v0, ps) = true) (hs : xstp d (.lstore q, len, r1, r2, v0, ps) pc ls st h n = some (pc1, ls1, st1, h1, n1, kc, ks))
    (kk : xKk p l e0 R s m args below meth c cells slots Q D bs tc i pc1 ls1 st1 h1 n1 kc ks) : W p l e0 R s m args below meth c H locs cells slots Q (F0 m pc lsA (st.map (xvm bs))) := by
  obtain ⟨⟨hx, hb, hml, hown, hts, hin, hcx, hbs⟩, hro, hH, hS, hl, ⟨hd1, hd2⟩, hc, hk2, hz⟩ := X
  have hci0 := (Bool.and_eq_true _ _ ▸ hci : _ ∧ _)
  obtain ⟨hlen0, hci2⟩ := hci0
  have hlen : len = 2 := Nat.eq_of_beq_eq_true hlen0
  subst hlen
  obtain ⟨x, r, rfl, hs⟩ := xpL_some hs
  obtain ⟨rfl, rfl, rfl, rfl, rfl, rfl, rfl⟩ := xgo_some hs
  exact lv_lstore (lv' := xlm bs (xst2 ls q (.long x))) hx hb hdg hl (Nat.le_of_ble_eq_true hci2) (xlm_st2 (v := .long x)) (fun lsB hB => kk H locs lsB hro hH hS hB hz)
theorem xs_astore_n (q : Fin 4) (X : xPre p R s m args meth c H locs cells slots D bs tc i d ls h n lsA kc ks) (hdg : decode (xMt i).2.1 pc = .ok (.astore_n q, len)) (hci : xchi i pc (.astore_n q, len, r1, r2, v0, ps) = true) (hs : xstp d (.astore_n q, len, r1, r2, v0, ps) pc ls st h n = some (pc1, ls1, st1, h1, n1, kc, ks))
    (kk : xKk p l e0 R s m args below meth c cells slots Q D bs tc i pc1 ls1 st1 h1 n1 kc ks) : W p l e0 R s m args below meth c H locs cells slots Q (F0 m pc lsA (st.map (xvm bs))) := by
  obtain ⟨⟨hx, hb, hml, hown, hts, hin, hcx, hbs⟩, hro, hH, hS, hl, ⟨hd1, hd2⟩, hc, hk2, hz⟩ := X
  have hci0 := (Bool.and_eq_true _ _ ▸ hci : _ ∧ _)
  obtain ⟨hlen0, hci2⟩ := hci0
  have hlen : len = 1 := Nat.eq_of_beq_eq_true hlen0
  subst hlen
  obtain ⟨x, r, rfl, hs⟩ := xpR_some hs
  obtain ⟨rfl, rfl, rfl, rfl, rfl, rfl, rfl⟩ := xgo_some hs
  exact lv_astore_n (lv' := xlm bs (xst1 ls q (.ref x))) hx hb hdg rfl hl (Nat.le_of_ble_eq_true hci2) (xlm_st1 (v := .ref x)) (fun lsB hB => kk H locs lsB hro hH hS hB hz)
theorem xs_astore (q : Nat) (X : xPre p R s m args meth c H locs cells slots D bs tc i d ls h n lsA kc ks) (hdg : decode (xMt i).2.1 pc = .ok (.astore q, len)) (hci : xchi i pc (.astore q, len, r1, r2, v0, ps) = true) (hs : xstp d (.astore q, len, r1, r2, v0, ps) pc ls st h n = some (pc1, ls1, st1, h1, n1, kc, ks))
    (kk : xKk p l e0 R s m args below meth c cells slots Q D bs tc i pc1 ls1 st1 h1 n1 kc ks) : W p l e0 R s m args below meth c H locs cells slots Q (F0 m pc lsA (st.map (xvm bs))) := by
  obtain ⟨⟨hx, hb, hml, hown, hts, hin, hcx, hbs⟩, hro, hH, hS, hl, ⟨hd1, hd2⟩, hc, hk2, hz⟩ := X
  have hci0 := (Bool.and_eq_true _ _ ▸ hci : _ ∧ _)
  obtain ⟨hlen0, hci2⟩ := hci0
  have hlen : len = 2 := Nat.eq_of_beq_eq_true hlen0
  subst hlen
  obtain ⟨x, r, rfl, hs⟩ := xpR_some hs
  obtain ⟨rfl, rfl, rfl, rfl, rfl, rfl, rfl⟩ := xgo_some hs
  exact lv_astore (lv' := xlm bs (xst1 ls q (.ref x))) hx hb hdg hl (Nat.le_of_ble_eq_true hci2) (xlm_st1 (v := .ref x)) (fun lsB hB => kk H locs lsB hro hH hS hB hz)
theorem xs_iinc (q : Nat) (w : Int) (X : xPre p R s m args meth c H locs cells slots D bs tc i d ls h n lsA kc ks) (hdg : decode (xMt i).2.1 pc = .ok (.iinc q w, len)) (hci : xchi i pc (.iinc q w, len, r1, r2, v0, ps) = true) (hs : xstp d (.iinc q w, len, r1, r2, v0, ps) pc ls st h n = some (pc1, ls1, st1, h1, n1, kc, ks))
    (kk : xKk p l e0 R s m args below meth c cells slots Q D bs tc i pc1 ls1 st1 h1 n1 kc ks) : W p l e0 R s m args below meth c H locs cells slots Q (F0 m pc lsA (st.map (xvm bs))) := by
  obtain ⟨⟨hx, hb, hml, hown, hts, hin, hcx, hbs⟩, hro, hH, hS, hl, ⟨hd1, hd2⟩, hc, hk2, hz⟩ := X
  have hci0 := (Bool.and_eq_true _ _ ▸ hci : _ ∧ _)
  obtain ⟨hlen0, hci2⟩ := hci0
  have hlen : len = 3 := Nat.eq_of_beq_eq_true hlen0
  subst hlen
  have hci3 := (Bool.and_eq_true _ _ ▸ hci2 : _ ∧ _)
  obtain ⟨hq, hw⟩ := hci3
  obtain ⟨x, hv, hs⟩ := xgI_some hs
  obtain ⟨y, hy, hs⟩ := xgI_some hs
  have hv2 : v0 = .int y := Option.some.inj hy
  subst hv2
  obtain ⟨rfl, rfl, rfl, rfl, rfl, rfl, rfl⟩ := xgo_some hs
  have hx2 : Int32.ofInt w = y := of_decide_eq_true hw
  obtain ⟨j, hj⟩ := List.getElem?_of_mem (xlm_ld (bs := bs) hv)
  exact lv_iinc (v := x + y) (lv' := xlm bs (xst1 ls q (.int (x + y)))) hx hb hdg hl hj (by rw [hx2]) (Nat.le_of_ble_eq_true hq) (xlm_st1 (v := .int (x + y))) (fun lsB hB => kk H locs lsB hro hH hS hB hz)
theorem xs_iadd (X : xPre p R s m args meth c H locs cells slots D bs tc i d ls h n lsA kc ks) (hdg : decode (xMt i).2.1 pc = .ok (.iadd, len)) (hci : xchi i pc (.iadd, len, r1, r2, v0, ps) = true) (hs : xstp d (.iadd, len, r1, r2, v0, ps) pc ls st h n = some (pc1, ls1, st1, h1, n1, kc, ks))
    (kk : xKk p l e0 R s m args below meth c cells slots Q D bs tc i pc1 ls1 st1 h1 n1 kc ks) : W p l e0 R s m args below meth c H locs cells slots Q (F0 m pc lsA (st.map (xvm bs))) := by
  obtain ⟨⟨hx, hb, hml, hown, hts, hin, hcx, hbs⟩, hro, hH, hS, hl, ⟨hd1, hd2⟩, hc, hk2, hz⟩ := X
  have hlen : len = 1 := Nat.eq_of_beq_eq_true hci
  subst hlen
  obtain ⟨y, r, rfl, hs⟩ := xpI_some hs
  obtain ⟨x, r, rfl, hs⟩ := xpI_some hs
  obtain ⟨rfl, rfl, rfl, rfl, rfl, rfl, rfl⟩ := xgo_some hs
  exact lv_iadd hx hb hdg (kk H locs lsA hro hH hS hl hz)
theorem xs_isub (X : xPre p R s m args meth c H locs cells slots D bs tc i d ls h n lsA kc ks) (hdg : decode (xMt i).2.1 pc = .ok (.isub, len)) (hci : xchi i pc (.isub, len, r1, r2, v0, ps) = true) (hs : xstp d (.isub, len, r1, r2, v0, ps) pc ls st h n = some (pc1, ls1, st1, h1, n1, kc, ks))
    (kk : xKk p l e0 R s m args below meth c cells slots Q D bs tc i pc1 ls1 st1 h1 n1 kc ks) : W p l e0 R s m args below meth c H locs cells slots Q (F0 m pc lsA (st.map (xvm bs))) := by
  obtain ⟨⟨hx, hb, hml, hown, hts, hin, hcx, hbs⟩, hro, hH, hS, hl, ⟨hd1, hd2⟩, hc, hk2, hz⟩ := X
  have hlen : len = 1 := Nat.eq_of_beq_eq_true hci
  subst hlen
  obtain ⟨y, r, rfl, hs⟩ := xpI_some hs
  obtain ⟨x, r, rfl, hs⟩ := xpI_some hs
  obtain ⟨rfl, rfl, rfl, rfl, rfl, rfl, rfl⟩ := xgo_some hs
  exact lv_isub hx hb hdg (kk H locs lsA hro hH hS hl hz)
theorem xs_imul (X : xPre p R s m args meth c H locs cells slots D bs tc i d ls h n lsA kc ks) (hdg : decode (xMt i).2.1 pc = .ok (.imul, len)) (hci : xchi i pc (.imul, len, r1, r2, v0, ps) = true) (hs : xstp d (.imul, len, r1, r2, v0, ps) pc ls st h n = some (pc1, ls1, st1, h1, n1, kc, ks))
    (kk : xKk p l e0 R s m args below meth c cells slots Q D bs tc i pc1 ls1 st1 h1 n1 kc ks) : W p l e0 R s m args below meth c H locs cells slots Q (F0 m pc lsA (st.map (xvm bs))) := by
  obtain ⟨⟨hx, hb, hml, hown, hts, hin, hcx, hbs⟩, hro, hH, hS, hl, ⟨hd1, hd2⟩, hc, hk2, hz⟩ := X
  have hlen : len = 1 := Nat.eq_of_beq_eq_true hci
  subst hlen
  obtain ⟨y, r, rfl, hs⟩ := xpI_some hs
  obtain ⟨x, r, rfl, hs⟩ := xpI_some hs
  obtain ⟨rfl, rfl, rfl, rfl, rfl, rfl, rfl⟩ := xgo_some hs
  exact lv_imul hx hb hdg (kk H locs lsA hro hH hS hl hz)
theorem xs_iand (X : xPre p R s m args meth c H locs cells slots D bs tc i d ls h n lsA kc ks) (hdg : decode (xMt i).2.1 pc = .ok (.iand, len)) (hci : xchi i pc (.iand, len, r1, r2, v0, ps) = true) (hs : xstp d (.iand, len, r1, r2, v0, ps) pc ls st h n = some (pc1, ls1, st1, h1, n1, kc, ks))
    (kk : xKk p l e0 R s m args below meth c cells slots Q D bs tc i pc1 ls1 st1 h1 n1 kc ks) : W p l e0 R s m args below meth c H locs cells slots Q (F0 m pc lsA (st.map (xvm bs))) := by
  obtain ⟨⟨hx, hb, hml, hown, hts, hin, hcx, hbs⟩, hro, hH, hS, hl, ⟨hd1, hd2⟩, hc, hk2, hz⟩ := X
  have hlen : len = 1 := Nat.eq_of_beq_eq_true hci
  subst hlen
  obtain ⟨y, r, rfl, hs⟩ := xpI_some hs
  obtain ⟨x, r, rfl, hs⟩ := xpI_some hs
  obtain ⟨rfl, rfl, rfl, rfl, rfl, rfl, rfl⟩ := xgo_some hs
  exact lv_iand hx hb hdg (kk H locs lsA hro hH hS hl hz)
theorem xs_ior (X : xPre p R s m args meth c H locs cells slots D bs tc i d ls h n lsA kc ks) (hdg : decode (xMt i).2.1 pc = .ok (.ior, len)) (hci : xchi i pc (.ior, len, r1, r2, v0, ps) = true) (hs : xstp d (.ior, len, r1, r2, v0, ps) pc ls st h n = some (pc1, ls1, st1, h1, n1, kc, ks))
    (kk : xKk p l e0 R s m args below meth c cells slots Q D bs tc i pc1 ls1 st1 h1 n1 kc ks) : W p l e0 R s m args below meth c H locs cells slots Q (F0 m pc lsA (st.map (xvm bs))) := by
  obtain ⟨⟨hx, hb, hml, hown, hts, hin, hcx, hbs⟩, hro, hH, hS, hl, ⟨hd1, hd2⟩, hc, hk2, hz⟩ := X
  have hlen : len = 1 := Nat.eq_of_beq_eq_true hci
  subst hlen
  obtain ⟨y, r, rfl, hs⟩ := xpI_some hs
  obtain ⟨x, r, rfl, hs⟩ := xpI_some hs
  obtain ⟨rfl, rfl, rfl, rfl, rfl, rfl, rfl⟩ := xgo_some hs
  exact lv_ior hx hb hdg (kk H locs lsA hro hH hS hl hz)
theorem xs_ishl (X : xPre p R s m args meth c H locs cells slots D bs tc i d ls h n lsA kc ks) (hdg : decode (xMt i).2.1 pc = .ok (.ishl, len)) (hci : xchi i pc (.ishl, len, r1, r2, v0, ps) = true) (hs : xstp d (.ishl, len, r1, r2, v0, ps) pc ls st h n = some (pc1, ls1, st1, h1, n1, kc, ks))
    (kk : xKk p l e0 R s m args below meth c cells slots Q D bs tc i pc1 ls1 st1 h1 n1 kc ks) : W p l e0 R s m args below meth c H locs cells slots Q (F0 m pc lsA (st.map (xvm bs))) := by
  obtain ⟨⟨hx, hb, hml, hown, hts, hin, hcx, hbs⟩, hro, hH, hS, hl, ⟨hd1, hd2⟩, hc, hk2, hz⟩ := X
  have hlen : len = 1 := Nat.eq_of_beq_eq_true hci
  subst hlen
  obtain ⟨y, r, rfl, hs⟩ := xpI_some hs
  obtain ⟨x, r, rfl, hs⟩ := xpI_some hs
  obtain ⟨rfl, rfl, rfl, rfl, rfl, rfl, rfl⟩ := xgo_some hs
  exact lv_ishl hx hb hdg (kk H locs lsA hro hH hS hl hz)
theorem xs_ishr (X : xPre p R s m args meth c H locs cells slots D bs tc i d ls h n lsA kc ks) (hdg : decode (xMt i).2.1 pc = .ok (.ishr, len)) (hci : xchi i pc (.ishr, len, r1, r2, v0, ps) = true) (hs : xstp d (.ishr, len, r1, r2, v0, ps) pc ls st h n = some (pc1, ls1, st1, h1, n1, kc, ks))
    (kk : xKk p l e0 R s m args below meth c cells slots Q D bs tc i pc1 ls1 st1 h1 n1 kc ks) : W p l e0 R s m args below meth c H locs cells slots Q (F0 m pc lsA (st.map (xvm bs))) := by
  obtain ⟨⟨hx, hb, hml, hown, hts, hin, hcx, hbs⟩, hro, hH, hS, hl, ⟨hd1, hd2⟩, hc, hk2, hz⟩ := X
  have hlen : len = 1 := Nat.eq_of_beq_eq_true hci
  subst hlen
  obtain ⟨y, r, rfl, hs⟩ := xpI_some hs
  obtain ⟨x, r, rfl, hs⟩ := xpI_some hs
  obtain ⟨rfl, rfl, rfl, rfl, rfl, rfl, rfl⟩ := xgo_some hs
  exact lv_ishr hx hb hdg (kk H locs lsA hro hH hS hl hz)
theorem xs_iushr (X : xPre p R s m args meth c H locs cells slots D bs tc i d ls h n lsA kc ks) (hdg : decode (xMt i).2.1 pc = .ok (.iushr, len)) (hci : xchi i pc (.iushr, len, r1, r2, v0, ps) = true) (hs : xstp d (.iushr, len, r1, r2, v0, ps) pc ls st h n = some (pc1, ls1, st1, h1, n1, kc, ks))
    (kk : xKk p l e0 R s m args below meth c cells slots Q D bs tc i pc1 ls1 st1 h1 n1 kc ks) : W p l e0 R s m args below meth c H locs cells slots Q (F0 m pc lsA (st.map (xvm bs))) := by
  obtain ⟨⟨hx, hb, hml, hown, hts, hin, hcx, hbs⟩, hro, hH, hS, hl, ⟨hd1, hd2⟩, hc, hk2, hz⟩ := X
  have hlen : len = 1 := Nat.eq_of_beq_eq_true hci
  subst hlen
  obtain ⟨y, r, rfl, hs⟩ := xpI_some hs
  obtain ⟨x, r, rfl, hs⟩ := xpI_some hs
  obtain ⟨rfl, rfl, rfl, rfl, rfl, rfl, rfl⟩ := xgo_some hs
  exact lv_iushr hx hb hdg rfl (kk H locs lsA hro hH hS hl hz)
theorem xs_idiv (X : xPre p R s m args meth c H locs cells slots D bs tc i d ls h n lsA kc ks) (hdg : decode (xMt i).2.1 pc = .ok (.idiv, len)) (hci : xchi i pc (.idiv, len, r1, r2, v0, ps) = true) (hs : xstp d (.idiv, len, r1, r2, v0, ps) pc ls st h n = some (pc1, ls1, st1, h1, n1, kc, ks))
    (kk : xKk p l e0 R s m args below meth c cells slots Q D bs tc i pc1 ls1 st1 h1 n1 kc ks) : W p l e0 R s m args below meth c H locs cells slots Q (F0 m pc lsA (st.map (xvm bs))) := by
  obtain ⟨⟨hx, hb, hml, hown, hts, hin, hcx, hbs⟩, hro, hH, hS, hl, ⟨hd1, hd2⟩, hc, hk2, hz⟩ := X
  have hlen : len = 1 := Nat.eq_of_beq_eq_true hci
  subst hlen
  obtain ⟨y, r, rfl, hs⟩ := xpI_some hs
  obtain ⟨x, r, rfl, hs⟩ := xpI_some hs
  obtain ⟨hne, hs⟩ := xgp_some hs
  obtain ⟨rfl, rfl, rfl, rfl, rfl, rfl, rfl⟩ := xgo_some hs
  exact lv_idiv hx hb hdg hne (kk H locs lsA hro hH hS hl hz)
theorem xs_irem (X : xPre p R s m args meth c H locs cells slots D bs tc i d ls h n lsA kc ks) (hdg : decode (xMt i).2.1 pc = .ok (.irem, len)) (hci : xchi i pc (.irem, len, r1, r2, v0, ps) = true) (hs : xstp d (.irem, len, r1, r2, v0, ps) pc ls st h n = some (pc1, ls1, st1, h1, n1, kc, ks))
    (kk : xKk p l e0 R s m args below meth c cells slots Q D bs tc i pc1 ls1 st1 h1 n1 kc ks) : W p l e0 R s m args below meth c H locs cells slots Q (F0 m pc lsA (st.map (xvm bs))) := by
  obtain ⟨⟨hx, hb, hml, hown, hts, hin, hcx, hbs⟩, hro, hH, hS, hl, ⟨hd1, hd2⟩, hc, hk2, hz⟩ := X
  have hlen : len = 1 := Nat.eq_of_beq_eq_true hci
  subst hlen
  obtain ⟨y, r, rfl, hs⟩ := xpI_some hs
  obtain ⟨x, r, rfl, hs⟩ := xpI_some hs
  obtain ⟨hne, hs⟩ := xgp_some hs
  obtain ⟨rfl, rfl, rfl, rfl, rfl, rfl, rfl⟩ := xgo_some hs
  exact lv_irem hx hb hdg hne (kk H locs lsA hro hH hS hl hz)
theorem xs_ladd (X : xPre p R s m args meth c H locs cells slots D bs tc i d ls h n lsA kc ks) (hdg : decode (xMt i).2.1 pc = .ok (.ladd, len)) (hci : xchi i pc (.ladd, len, r1, r2, v0, ps) = true) (hs : xstp d (.ladd, len, r1, r2, v0, ps) pc ls st h n = some (pc1, ls1, st1, h1, n1, kc, ks))
    (kk : xKk p l e0 R s m args below meth c cells slots Q D bs tc i pc1 ls1 st1 h1 n1 kc ks) : W p l e0 R s m args below meth c H locs cells slots Q (F0 m pc lsA (st.map (xvm bs))) := by
  obtain ⟨⟨hx, hb, hml, hown, hts, hin, hcx, hbs⟩, hro, hH, hS, hl, ⟨hd1, hd2⟩, hc, hk2, hz⟩ := X
  have hlen : len = 1 := Nat.eq_of_beq_eq_true hci
  subst hlen
  obtain ⟨y, r, rfl, hs⟩ := xpL_some hs
  obtain ⟨x, r, rfl, hs⟩ := xpL_some hs
  obtain ⟨rfl, rfl, rfl, rfl, rfl, rfl, rfl⟩ := xgo_some hs
  exact lv_ladd hx hb hdg (kk H locs lsA hro hH hS hl hz)
theorem xs_lmul (X : xPre p R s m args meth c H locs cells slots D bs tc i d ls h n lsA kc ks) (hdg : decode (xMt i).2.1 pc = .ok (.lmul, len)) (hci : xchi i pc (.lmul, len, r1, r2, v0, ps) = true) (hs : xstp d (.lmul, len, r1, r2, v0, ps) pc ls st h n = some (pc1, ls1, st1, h1, n1, kc, ks))
    (kk : xKk p l e0 R s m args below meth c cells slots Q D bs tc i pc1 ls1 st1 h1 n1 kc ks) : W p l e0 R s m args below meth c H locs cells slots Q (F0 m pc lsA (st.map (xvm bs))) := by
  obtain ⟨⟨hx, hb, hml, hown, hts, hin, hcx, hbs⟩, hro, hH, hS, hl, ⟨hd1, hd2⟩, hc, hk2, hz⟩ := X
  have hlen : len = 1 := Nat.eq_of_beq_eq_true hci
  subst hlen
  obtain ⟨y, r, rfl, hs⟩ := xpL_some hs
  obtain ⟨x, r, rfl, hs⟩ := xpL_some hs
  obtain ⟨rfl, rfl, rfl, rfl, rfl, rfl, rfl⟩ := xgo_some hs
  exact lv_lmul hx hb hdg (kk H locs lsA hro hH hS hl hz)
theorem xs_lsub (X : xPre p R s m args meth c H locs cells slots D bs tc i d ls h n lsA kc ks) (hdg : decode (xMt i).2.1 pc = .ok (.lsub, len)) (hci : xchi i pc (.lsub, len, r1, r2, v0, ps) = true) (hs : xstp d (.lsub, len, r1, r2, v0, ps) pc ls st h n = some (pc1, ls1, st1, h1, n1, kc, ks))
    (kk : xKk p l e0 R s m args below meth c cells slots Q D bs tc i pc1 ls1 st1 h1 n1 kc ks) : W p l e0 R s m args below meth c H locs cells slots Q (F0 m pc lsA (st.map (xvm bs))) := by
  obtain ⟨⟨hx, hb, hml, hown, hts, hin, hcx, hbs⟩, hro, hH, hS, hl, ⟨hd1, hd2⟩, hc, hk2, hz⟩ := X
  have hlen : len = 1 := Nat.eq_of_beq_eq_true hci
  subst hlen
  obtain ⟨y, r, rfl, hs⟩ := xpL_some hs
  obtain ⟨x, r, rfl, hs⟩ := xpL_some hs
  obtain ⟨rfl, rfl, rfl, rfl, rfl, rfl, rfl⟩ := xgo_some hs
  exact lv_lsub hx hb hdg (kk H locs lsA hro hH hS hl hz)
theorem xs_land (X : xPre p R s m args meth c H locs cells slots D bs tc i d ls h n lsA kc ks) (hdg : decode (xMt i).2.1 pc = .ok (.land, len)) (hci : xchi i pc (.land, len, r1, r2, v0, ps) = true) (hs : xstp d (.land, len, r1, r2, v0, ps) pc ls st h n = some (pc1, ls1, st1, h1, n1, kc, ks))
    (kk : xKk p l e0 R s m args below meth c cells slots Q D bs tc i pc1 ls1 st1 h1 n1 kc ks) : W p l e0 R s m args below meth c H locs cells slots Q (F0 m pc lsA (st.map (xvm bs))) := by
  obtain ⟨⟨hx, hb, hml, hown, hts, hin, hcx, hbs⟩, hro, hH, hS, hl, ⟨hd1, hd2⟩, hc, hk2, hz⟩ := X
  have hlen : len = 1 := Nat.eq_of_beq_eq_true hci
  subst hlen
  obtain ⟨y, r, rfl, hs⟩ := xpL_some hs
  obtain ⟨x, r, rfl, hs⟩ := xpL_some hs
  obtain ⟨rfl, rfl, rfl, rfl, rfl, rfl, rfl⟩ := xgo_some hs
  exact lv_land hx hb hdg (kk H locs lsA hro hH hS hl hz)
theorem xs_lor (X : xPre p R s m args meth c H locs cells slots D bs tc i d ls h n lsA kc ks) (hdg : decode (xMt i).2.1 pc = .ok (.lor, len)) (hci : xchi i pc (.lor, len, r1, r2, v0, ps) = true) (hs : xstp d (.lor, len, r1, r2, v0, ps) pc ls st h n = some (pc1, ls1, st1, h1, n1, kc, ks))
    (kk : xKk p l e0 R s m args below meth c cells slots Q D bs tc i pc1 ls1 st1 h1 n1 kc ks) : W p l e0 R s m args below meth c H locs cells slots Q (F0 m pc lsA (st.map (xvm bs))) := by
  obtain ⟨⟨hx, hb, hml, hown, hts, hin, hcx, hbs⟩, hro, hH, hS, hl, ⟨hd1, hd2⟩, hc, hk2, hz⟩ := X
  have hlen : len = 1 := Nat.eq_of_beq_eq_true hci
  subst hlen
  obtain ⟨y, r, rfl, hs⟩ := xpL_some hs
  obtain ⟨x, r, rfl, hs⟩ := xpL_some hs
  obtain ⟨rfl, rfl, rfl, rfl, rfl, rfl, rfl⟩ := xgo_some hs
  exact lv_lor hx hb hdg (kk H locs lsA hro hH hS hl hz)
theorem xs_lcmp (X : xPre p R s m args meth c H locs cells slots D bs tc i d ls h n lsA kc ks) (hdg : decode (xMt i).2.1 pc = .ok (.lcmp, len)) (hci : xchi i pc (.lcmp, len, r1, r2, v0, ps) = true) (hs : xstp d (.lcmp, len, r1, r2, v0, ps) pc ls st h n = some (pc1, ls1, st1, h1, n1, kc, ks))
    (kk : xKk p l e0 R s m args below meth c cells slots Q D bs tc i pc1 ls1 st1 h1 n1 kc ks) : W p l e0 R s m args below meth c H locs cells slots Q (F0 m pc lsA (st.map (xvm bs))) := by
  obtain ⟨⟨hx, hb, hml, hown, hts, hin, hcx, hbs⟩, hro, hH, hS, hl, ⟨hd1, hd2⟩, hc, hk2, hz⟩ := X
  have hlen : len = 1 := Nat.eq_of_beq_eq_true hci
  subst hlen
  obtain ⟨y, r, rfl, hs⟩ := xpL_some hs
  obtain ⟨x, r, rfl, hs⟩ := xpL_some hs
  obtain ⟨rfl, rfl, rfl, rfl, rfl, rfl, rfl⟩ := xgo_some hs
  exact W.lcmp hx hb hdg (kk H locs lsA hro hH hS hl hz)
theorem xs_lshl (X : xPre p R s m args meth c H locs cells slots D bs tc i d ls h n lsA kc ks) (hdg : decode (xMt i).2.1 pc = .ok (.lshl, len)) (hci : xchi i pc (.lshl, len, r1, r2, v0, ps) = true) (hs : xstp d (.lshl, len, r1, r2, v0, ps) pc ls st h n = some (pc1, ls1, st1, h1, n1, kc, ks))
    (kk : xKk p l e0 R s m args below meth c cells slots Q D bs tc i pc1 ls1 st1 h1 n1 kc ks) : W p l e0 R s m args below meth c H locs cells slots Q (F0 m pc lsA (st.map (xvm bs))) := by
  obtain ⟨⟨hx, hb, hml, hown, hts, hin, hcx, hbs⟩, hro, hH, hS, hl, ⟨hd1, hd2⟩, hc, hk2, hz⟩ := X
  have hlen : len = 1 := Nat.eq_of_beq_eq_true hci
  subst hlen
  obtain ⟨y, r, rfl, hs⟩ := xpI_some hs
  obtain ⟨x, r, rfl, hs⟩ := xpL_some hs
  obtain ⟨rfl, rfl, rfl, rfl, rfl, rfl, rfl⟩ := xgo_some hs
  exact lv_lshl hx hb hdg rfl (kk H locs lsA hro hH hS hl hz)
theorem xs_lushr (X : xPre p R s m args meth c H locs cells slots D bs tc i d ls h n lsA kc ks) (hdg : decode (xMt i).2.1 pc = .ok (.lushr, len)) (hci : xchi i pc (.lushr, len, r1, r2, v0, ps) = true) (hs : xstp d (.lushr, len, r1, r2, v0, ps) pc ls st h n = some (pc1, ls1, st1, h1, n1, kc, ks))
    (kk : xKk p l e0 R s m args below meth c cells slots Q D bs tc i pc1 ls1 st1 h1 n1 kc ks) : W p l e0 R s m args below meth c H locs cells slots Q (F0 m pc lsA (st.map (xvm bs))) := by
  obtain ⟨⟨hx, hb, hml, hown, hts, hin, hcx, hbs⟩, hro, hH, hS, hl, ⟨hd1, hd2⟩, hc, hk2, hz⟩ := X
  have hlen : len = 1 := Nat.eq_of_beq_eq_true hci
  subst hlen
  obtain ⟨y, r, rfl, hs⟩ := xpI_some hs
  obtain ⟨x, r, rfl, hs⟩ := xpL_some hs
  obtain ⟨rfl, rfl, rfl, rfl, rfl, rfl, rfl⟩ := xgo_some hs
  exact lv_lushr hx hb hdg rfl (kk H locs lsA hro hH hS hl hz)
theorem xs_i2l (X : xPre p R s m args meth c H locs cells slots D bs tc i d ls h n lsA kc ks) (hdg : decode (xMt i).2.1 pc = .ok (.i2l, len)) (hci : xchi i pc (.i2l, len, r1, r2, v0, ps) = true) (hs : xstp d (.i2l, len, r1, r2, v0, ps) pc ls st h n = some (pc1, ls1, st1, h1, n1, kc, ks))
    (kk : xKk p l e0 R s m args below meth c cells slots Q D bs tc i pc1 ls1 st1 h1 n1 kc ks) : W p l e0 R s m args below meth c H locs cells slots Q (F0 m pc lsA (st.map (xvm bs))) := by
  obtain ⟨⟨hx, hb, hml, hown, hts, hin, hcx, hbs⟩, hro, hH, hS, hl, ⟨hd1, hd2⟩, hc, hk2, hz⟩ := X
  have hlen : len = 1 := Nat.eq_of_beq_eq_true hci
  subst hlen
  obtain ⟨x, r, rfl, hs⟩ := xpI_some hs
  obtain ⟨rfl, rfl, rfl, rfl, rfl, rfl, rfl⟩ := xgo_some hs
  exact lv_i2l hx hb hdg rfl (kk H locs lsA hro hH hS hl hz)
theorem xs_l2i (X : xPre p R s m args meth c H locs cells slots D bs tc i d ls h n lsA kc ks) (hdg : decode (xMt i).2.1 pc = .ok (.l2i, len)) (hci : xchi i pc (.l2i, len, r1, r2, v0, ps) = true) (hs : xstp d (.l2i, len, r1, r2, v0, ps) pc ls st h n = some (pc1, ls1, st1, h1, n1, kc, ks))
    (kk : xKk p l e0 R s m args below meth c cells slots Q D bs tc i pc1 ls1 st1 h1 n1 kc ks) : W p l e0 R s m args below meth c H locs cells slots Q (F0 m pc lsA (st.map (xvm bs))) := by
  obtain ⟨⟨hx, hb, hml, hown, hts, hin, hcx, hbs⟩, hro, hH, hS, hl, ⟨hd1, hd2⟩, hc, hk2, hz⟩ := X
  have hlen : len = 1 := Nat.eq_of_beq_eq_true hci
  subst hlen
  obtain ⟨x, r, rfl, hs⟩ := xpL_some hs
  obtain ⟨rfl, rfl, rfl, rfl, rfl, rfl, rfl⟩ := xgo_some hs
  exact lv_l2i hx hb hdg rfl (kk H locs lsA hro hH hS hl hz)
theorem xs_i2c (X : xPre p R s m args meth c H locs cells slots D bs tc i d ls h n lsA kc ks) (hdg : decode (xMt i).2.1 pc = .ok (.i2c, len)) (hci : xchi i pc (.i2c, len, r1, r2, v0, ps) = true) (hs : xstp d (.i2c, len, r1, r2, v0, ps) pc ls st h n = some (pc1, ls1, st1, h1, n1, kc, ks))
    (kk : xKk p l e0 R s m args below meth c cells slots Q D bs tc i pc1 ls1 st1 h1 n1 kc ks) : W p l e0 R s m args below meth c H locs cells slots Q (F0 m pc lsA (st.map (xvm bs))) := by
  obtain ⟨⟨hx, hb, hml, hown, hts, hin, hcx, hbs⟩, hro, hH, hS, hl, ⟨hd1, hd2⟩, hc, hk2, hz⟩ := X
  have hlen : len = 1 := Nat.eq_of_beq_eq_true hci
  subst hlen
  obtain ⟨x, r, rfl, hs⟩ := xpI_some hs
  obtain ⟨rfl, rfl, rfl, rfl, rfl, rfl, rfl⟩ := xgo_some hs
  exact lv_i2c hx hb hdg rfl (kk H locs lsA hro hH hS hl hz)
theorem xs_dup (X : xPre p R s m args meth c H locs cells slots D bs tc i d ls h n lsA kc ks) (hdg : decode (xMt i).2.1 pc = .ok (.dup, len)) (hci : xchi i pc (.dup, len, r1, r2, v0, ps) = true) (hs : xstp d (.dup, len, r1, r2, v0, ps) pc ls st h n = some (pc1, ls1, st1, h1, n1, kc, ks))
    (kk : xKk p l e0 R s m args below meth c cells slots Q D bs tc i pc1 ls1 st1 h1 n1 kc ks) : W p l e0 R s m args below meth c H locs cells slots Q (F0 m pc lsA (st.map (xvm bs))) := by
  obtain ⟨⟨hx, hb, hml, hown, hts, hin, hcx, hbs⟩, hro, hH, hS, hl, ⟨hd1, hd2⟩, hc, hk2, hz⟩ := X
  have hlen : len = 1 := Nat.eq_of_beq_eq_true hci
  subst hlen
  obtain ⟨v, r, rfl, hs⟩ := xpV_some hs
  obtain ⟨hc1, hs⟩ := xgd_some hs
  obtain ⟨rfl, rfl, rfl, rfl, rfl, rfl, rfl⟩ := xgo_some hs
  exact lv_dup hx hb hdg (by rw [xvm_cat]; exact eq_of_beq hc1) (kk H locs lsA hro hH hS hl hz)
theorem xs_pop (X : xPre p R s m args meth c H locs cells slots D bs tc i d ls h n lsA kc ks) (hdg : decode (xMt i).2.1 pc = .ok (.pop, len)) (hci : xchi i pc (.pop, len, r1, r2, v0, ps) = true) (hs : xstp d (.pop, len, r1, r2, v0, ps) pc ls st h n = some (pc1, ls1, st1, h1, n1, kc, ks))
    (kk : xKk p l e0 R s m args below meth c cells slots Q D bs tc i pc1 ls1 st1 h1 n1 kc ks) : W p l e0 R s m args below meth c H locs cells slots Q (F0 m pc lsA (st.map (xvm bs))) := by
  obtain ⟨⟨hx, hb, hml, hown, hts, hin, hcx, hbs⟩, hro, hH, hS, hl, ⟨hd1, hd2⟩, hc, hk2, hz⟩ := X
  have hlen : len = 1 := Nat.eq_of_beq_eq_true hci
  subst hlen
  obtain ⟨v, r, rfl, hs⟩ := xpV_some hs
  obtain ⟨hc1, hs⟩ := xgd_some hs
  obtain ⟨rfl, rfl, rfl, rfl, rfl, rfl, rfl⟩ := xgo_some hs
  exact lv_pop hx hb hdg (by rw [xvm_cat]; exact eq_of_beq hc1) (kk H locs lsA hro hH hS hl hz)
theorem xs_dup2 (X : xPre p R s m args meth c H locs cells slots D bs tc i d ls h n lsA kc ks) (hdg : decode (xMt i).2.1 pc = .ok (.dup2, len)) (hci : xchi i pc (.dup2, len, r1, r2, v0, ps) = true) (hs : xstp d (.dup2, len, r1, r2, v0, ps) pc ls st h n = some (pc1, ls1, st1, h1, n1, kc, ks))
    (kk : xKk p l e0 R s m args below meth c cells slots Q D bs tc i pc1 ls1 st1 h1 n1 kc ks) : W p l e0 R s m args below meth c H locs cells slots Q (F0 m pc lsA (st.map (xvm bs))) := by
  obtain ⟨⟨hx, hb, hml, hown, hts, hin, hcx, hbs⟩, hro, hH, hS, hl, ⟨hd1, hd2⟩, hc, hk2, hz⟩ := X
  have hlen : len = 1 := Nat.eq_of_beq_eq_true hci
  subst hlen
  obtain ⟨v, r, rfl, hs⟩ := xpV_some hs
  obtain ⟨w, r, rfl, hs⟩ := xpV_some hs
  obtain ⟨hc1, hs⟩ := xgd_some hs
  obtain ⟨hc2, hs⟩ := xgd_some hs
  obtain ⟨rfl, rfl, rfl, rfl, rfl, rfl, rfl⟩ := xgo_some hs
  exact lv_dup2_11 hx hb hdg (by rw [xvm_cat]; exact eq_of_beq hc1) (by rw [xvm_cat]; exact eq_of_beq hc2) (kk H locs lsA hro hH hS hl hz)
theorem xs_goto (q : Int) (X : xPre p R s m args meth c H locs cells slots D bs tc i d ls h n lsA kc ks) (hdg : decode (xMt i).2.1 pc = .ok (.goto q, len)) (hci : xchi i pc (.goto q, len, r1, r2, v0, ps) = true) (hs : xstp d (.goto q, len, r1, r2, v0, ps) pc ls st h n = some (pc1, ls1, st1, h1, n1, kc, ks))
    (kk : xKk p l e0 R s m args below meth c cells slots Q D bs tc i pc1 ls1 st1 h1 n1 kc ks) : W p l e0 R s m args below meth c H locs cells slots Q (F0 m pc lsA (st.map (xvm bs))) := by
  obtain ⟨⟨hx, hb, hml, hown, hts, hin, hcx, hbs⟩, hro, hH, hS, hl, ⟨hd1, hd2⟩, hc, hk2, hz⟩ := X
  have hci0 := (Bool.and_eq_true _ _ ▸ hci : _ ∧ _)
  obtain ⟨hlen0, hci2⟩ := hci0
  have hlen : len = 3 := Nat.eq_of_beq_eq_true hlen0
  subst hlen
  obtain ⟨rfl, rfl, rfl, rfl, rfl, rfl, rfl⟩ := xgo_some hs
  exact lv_goto hx hb hdg (of_decide_eq_true hci2) (kk H locs lsA hro hH hS hl hz)
theorem xs_icmp_eq (q : Int) (X : xPre p R s m args meth c H locs cells slots D bs tc i d ls h n lsA kc ks) (hdg : decode (xMt i).2.1 pc = .ok (.if_icmp .eq q, len)) (hci : xchi i pc (.if_icmp .eq q, len, r1, r2, v0, ps) = true) (hs : xstp d (.if_icmp .eq q, len, r1, r2, v0, ps) pc ls st h n = some (pc1, ls1, st1, h1, n1, kc, ks))
    (kk : xKk p l e0 R s m args below meth c cells slots Q D bs tc i pc1 ls1 st1 h1 n1 kc ks) : W p l e0 R s m args below meth c H locs cells slots Q (F0 m pc lsA (st.map (xvm bs))) := by
  obtain ⟨⟨hx, hb, hml, hown, hts, hin, hcx, hbs⟩, hro, hH, hS, hl, ⟨hd1, hd2⟩, hc, hk2, hz⟩ := X
  have hci0 := (Bool.and_eq_true _ _ ▸ hci : _ ∧ _)
  obtain ⟨hlen0, hci2⟩ := hci0
  have hlen : len = 3 := Nat.eq_of_beq_eq_true hlen0
  subst hlen
  obtain ⟨y, r, rfl, hs⟩ := xpI_some hs
  obtain ⟨x, r, rfl, hs⟩ := xpI_some hs
  obtain ⟨rfl, rfl, rfl, rfl, rfl, rfl, rfl⟩ := xgo_some hs
  refine lv_icmp_eq hx hb hdg (of_decide_eq_true hci2) (fun hq => ?_) (fun hq => ?_)
  · have k1 := kk H locs lsA hro hH hS hl hz
    rw [show xbr .eq x y r1 (pc + 3) = r1 from if_pos hq] at k1
    exact k1
  · have k1 := kk H locs lsA hro hH hS hl hz
    rw [show xbr .eq x y r1 (pc + 3) = pc + 3 from if_neg hq] at k1
    exact k1
theorem xs_if_eq (q : Int) (X : xPre p R s m args meth c H locs cells slots D bs tc i d ls h n lsA kc ks) (hdg : decode (xMt i).2.1 pc = .ok (.ifCond .eq q, len)) (hci : xchi i pc (.ifCond .eq q, len, r1, r2, v0, ps) = true) (hs : xstp d (.ifCond .eq q, len, r1, r2, v0, ps) pc ls st h n = some (pc1, ls1, st1, h1, n1, kc, ks))
    (kk : xKk p l e0 R s m args below meth c cells slots Q D bs tc i pc1 ls1 st1 h1 n1 kc ks) : W p l e0 R s m args below meth c H locs cells slots Q (F0 m pc lsA (st.map (xvm bs))) := by
  obtain ⟨⟨hx, hb, hml, hown, hts, hin, hcx, hbs⟩, hro, hH, hS, hl, ⟨hd1, hd2⟩, hc, hk2, hz⟩ := X
  have hci0 := (Bool.and_eq_true _ _ ▸ hci : _ ∧ _)
  obtain ⟨hlen0, hci2⟩ := hci0
  have hlen : len = 3 := Nat.eq_of_beq_eq_true hlen0
  subst hlen
  obtain ⟨x, r, rfl, hs⟩ := xpI_some hs
  obtain ⟨rfl, rfl, rfl, rfl, rfl, rfl, rfl⟩ := xgo_some hs
  refine lv_if_eq hx hb hdg (of_decide_eq_true hci2) (fun hq => ?_) (fun hq => ?_)
  · have k1 := kk H locs lsA hro hH hS hl hz
    rw [show xb0 .eq x r1 (pc + 3) = r1 from if_pos hq] at k1
    exact k1
  · have k1 := kk H locs lsA hro hH hS hl hz
    rw [show xb0 .eq x r1 (pc + 3) = pc + 3 from if_neg hq] at k1
    exact k1
theorem xs_icmp_ne (q : Int) (X : xPre p R s m args meth c H locs cells slots D bs tc i d ls h n lsA kc ks) (hdg : decode (xMt i).2.1 pc = .ok (.if_icmp .ne q, len)) (hci : xchi i pc (.if_icmp .ne q, len, r1, r2, v0, ps) = true) (hs : xstp d (.if_icmp .ne q, len, r1, r2, v0, ps) pc ls st h n = some (pc1, ls1, st1, h1, n1, kc, ks))
    (kk : xKk p l e0 R s m args below meth c cells slots Q D bs tc i pc1 ls1 st1 h1 n1 kc ks) : W p l e0 R s m args below meth c H locs cells slots Q (F0 m pc lsA (st.map (xvm bs))) := by
  obtain ⟨⟨hx, hb, hml, hown, hts, hin, hcx, hbs⟩, hro, hH, hS, hl, ⟨hd1, hd2⟩, hc, hk2, hz⟩ := X
  have hci0 := (Bool.and_eq_true _ _ ▸ hci : _ ∧ _)
  obtain ⟨hlen0, hci2⟩ := hci0
  have hlen : len = 3 := Nat.eq_of_beq_eq_true hlen0
  subst hlen
  obtain ⟨y, r, rfl, hs⟩ := xpI_some hs
  obtain ⟨x, r, rfl, hs⟩ := xpI_some hs
  obtain ⟨rfl, rfl, rfl, rfl, rfl, rfl, rfl⟩ := xgo_some hs
  refine lv_icmp_ne hx hb hdg (of_decide_eq_true hci2) (fun hq => ?_) (fun hq => ?_)
  · have k1 := kk H locs lsA hro hH hS hl hz
    rw [show xbr .ne x y r1 (pc + 3) = r1 from if_neg hq] at k1
    exact k1
  · have k1 := kk H locs lsA hro hH hS hl hz
    rw [show xbr .ne x y r1 (pc + 3) = pc + 3 from if_pos hq] at k1
    exact k1
theorem xs_if_ne (q : Int) (X : xPre p R s m args meth c H locs cells slots D bs tc i d ls h n lsA kc ks) (hdg : decode (xMt i).2.1 pc = .ok (.ifCond .ne q, len)) (hci : xchi i pc (.ifCond .ne q, len, r1, r2, v0, ps) = true) (hs : xstp d (.ifCond .ne q, len, r1, r2, v0, ps) pc ls st h n = some (pc1, ls1, st1, h1, n1, kc, ks))
    (kk : xKk p l e0 R s m args below meth c cells slots Q D bs tc i pc1 ls1 st1 h1 n1 kc ks) : W p l e0 R s m args below meth c H locs cells slots Q (F0 m pc lsA (st.map (xvm bs))) := by
  obtain ⟨⟨hx, hb, hml, hown, hts, hin, hcx, hbs⟩, hro, hH, hS, hl, ⟨hd1, hd2⟩, hc, hk2, hz⟩ := X
  have hci0 := (Bool.and_eq_true _ _ ▸ hci : _ ∧ _)
  obtain ⟨hlen0, hci2⟩ := hci0
  have hlen : len = 3 := Nat.eq_of_beq_eq_true hlen0
  subst hlen
  obtain ⟨x, r, rfl, hs⟩ := xpI_some hs
  obtain ⟨rfl, rfl, rfl, rfl, rfl, rfl, rfl⟩ := xgo_some hs
  refine lv_if_ne hx hb hdg (of_decide_eq_true hci2) (fun hq => ?_) (fun hq => ?_)
  · have k1 := kk H locs lsA hro hH hS hl hz
    rw [show xb0 .ne x r1 (pc + 3) = r1 from if_neg hq] at k1
    exact k1
  · have k1 := kk H locs lsA hro hH hS hl hz
    rw [show xb0 .ne x r1 (pc + 3) = pc + 3 from if_pos hq] at k1
    exact k1
theorem xs_icmp_lt (q : Int) (X : xPre p R s m args meth c H locs cells slots D bs tc i d ls h n lsA kc ks) (hdg : decode (xMt i).2.1 pc = .ok (.if_icmp .lt q, len)) (hci : xchi i pc (.if_icmp .lt q, len, r1, r2, v0, ps) = true) (hs : xstp d (.if_icmp .lt q, len, r1, r2, v0, ps) pc ls st h n = some (pc1, ls1, st1, h1, n1, kc, ks))
    (kk : xKk p l e0 R s m args below meth c cells slots Q D bs tc i pc1 ls1 st1 h1 n1 kc ks) : W p l e0 R s m args below meth c H locs cells slots Q (F0 m pc lsA (st.map (xvm bs))) := by
  obtain ⟨⟨hx, hb, hml, hown, hts, hin, hcx, hbs⟩, hro, hH, hS, hl, ⟨hd1, hd2⟩, hc, hk2, hz⟩ := X
  have hci0 := (Bool.and_eq_true _ _ ▸ hci : _ ∧ _)
  obtain ⟨hlen0, hci2⟩ := hci0
  have hlen : len = 3 := Nat.eq_of_beq_eq_true hlen0
  subst hlen
  obtain ⟨y, r, rfl, hs⟩ := xpI_some hs
  obtain ⟨x, r, rfl, hs⟩ := xpI_some hs
  obtain ⟨rfl, rfl, rfl, rfl, rfl, rfl, rfl⟩ := xgo_some hs
  refine lv_icmp_lt hx hb hdg (of_decide_eq_true hci2) (fun hq => ?_) (fun hq => ?_)
  · have k1 := kk H locs lsA hro hH hS hl hz
    rw [show xbr .lt x y r1 (pc + 3) = r1 from if_pos hq] at k1
    exact k1
  · have k1 := kk H locs lsA hro hH hS hl hz
    rw [show xbr .lt x y r1 (pc + 3) = pc + 3 from if_neg hq] at k1
    exact k1
theorem xs_if_lt (q : Int) (X : xPre p R s m args meth c H locs cells slots D bs tc i d ls h n lsA kc ks) (hdg : decode (xMt i).2.1 pc = .ok (.ifCond .lt q, len)) (hci : xchi i pc (.ifCond .lt q, len, r1, r2, v0, ps) = true) (hs : xstp d (.ifCond .lt q, len, r1, r2, v0, ps) pc ls st h n = some (pc1, ls1, st1, h1, n1, kc, ks))
    (kk : xKk p l e0 R s m args below meth c cells slots Q D bs tc i pc1 ls1 st1 h1 n1 kc ks) : W p l e0 R s m args below meth c H locs cells slots Q (F0 m pc lsA (st.map (xvm bs))) := by
  obtain ⟨⟨hx, hb, hml, hown, hts, hin, hcx, hbs⟩, hro, hH, hS, hl, ⟨hd1, hd2⟩, hc, hk2, hz⟩ := X
  have hci0 := (Bool.and_eq_true _ _ ▸ hci : _ ∧ _)
  obtain ⟨hlen0, hci2⟩ := hci0
  have hlen : len = 3 := Nat.eq_of_beq_eq_true hlen0
  subst hlen
  obtain ⟨x, r, rfl, hs⟩ := xpI_some hs
  obtain ⟨rfl, rfl, rfl, rfl, rfl, rfl, rfl⟩ := xgo_some hs
  refine lv_if_lt hx hb hdg (of_decide_eq_true hci2) (fun hq => ?_) (fun hq => ?_)
  · have k1 := kk H locs lsA hro hH hS hl hz
    rw [show xb0 .lt x r1 (pc + 3) = r1 from if_pos hq] at k1
    exact k1
  · have k1 := kk H locs lsA hro hH hS hl hz
    rw [show xb0 .lt x r1 (pc + 3) = pc + 3 from if_neg hq] at k1
    exact k1
theorem xs_icmp_ge (q : Int) (X : xPre p R s m args meth c H locs cells slots D bs tc i d ls h n lsA kc ks) (hdg : decode (xMt i).2.1 pc = .ok (.if_icmp .ge q, len)) (hci : xchi i pc (.if_icmp .ge q, len, r1, r2, v0, ps) = true) (hs : xstp d (.if_icmp .ge q, len, r1, r2, v0, ps) pc ls st h n = some (pc1, ls1, st1, h1, n1, kc, ks))
    (kk : xKk p l e0 R s m args below meth c cells slots Q D bs tc i pc1 ls1 st1 h1 n1 kc ks) : W p l e0 R s m args below meth c H locs cells slots Q (F0 m pc lsA (st.map (xvm bs))) := by
  obtain ⟨⟨hx, hb, hml, hown, hts, hin, hcx, hbs⟩, hro, hH, hS, hl, ⟨hd1, hd2⟩, hc, hk2, hz⟩ := X
  have hci0 := (Bool.and_eq_true _ _ ▸ hci : _ ∧ _)
  obtain ⟨hlen0, hci2⟩ := hci0
  have hlen : len = 3 := Nat.eq_of_beq_eq_true hlen0
  subst hlen
  obtain ⟨y, r, rfl, hs⟩ := xpI_some hs
  obtain ⟨x, r, rfl, hs⟩ := xpI_some hs
  obtain ⟨rfl, rfl, rfl, rfl, rfl, rfl, rfl⟩ := xgo_some hs
  refine lv_icmp_ge hx hb hdg (of_decide_eq_true hci2) (fun hq => ?_) (fun hq => ?_)
  · have k1 := kk H locs lsA hro hH hS hl hz
    rw [show xbr .ge x y r1 (pc + 3) = r1 from if_pos hq] at k1
    exact k1
  · have k1 := kk H locs lsA hro hH hS hl hz
    rw [show xbr .ge x y r1 (pc + 3) = pc + 3 from if_neg hq] at k1
    exact k1
theorem xs_if_ge (q : Int) (X : xPre p R s m args meth c H locs cells slots D bs tc i d ls h n lsA kc ks) (hdg : decode (xMt i).2.1 pc = .ok (.ifCond .ge q, len)) (hci : xchi i pc (.ifCond .ge q, len, r1, r2, v0, ps) = true) (hs : xstp d (.ifCond .ge q, len, r1, r2, v0, ps) pc ls st h n = some (pc1, ls1, st1, h1, n1, kc, ks))
    (kk : xKk p l e0 R s m args below meth c cells slots Q D bs tc i pc1 ls1 st1 h1 n1 kc ks) : W p l e0 R s m args below meth c H locs cells slots Q (F0 m pc lsA (st.map (xvm bs))) := by
  obtain ⟨⟨hx, hb, hml, hown, hts, hin, hcx, hbs⟩, hro, hH, hS, hl, ⟨hd1, hd2⟩, hc, hk2, hz⟩ := X
  have hci0 := (Bool.and_eq_true _ _ ▸ hci : _ ∧ _)
  obtain ⟨hlen0, hci2⟩ := hci0
  have hlen : len = 3 := Nat.eq_of_beq_eq_true hlen0
  subst hlen
  obtain ⟨x, r, rfl, hs⟩ := xpI_some hs
  obtain ⟨rfl, rfl, rfl, rfl, rfl, rfl, rfl⟩ := xgo_some hs
  refine lv_if_ge hx hb hdg (of_decide_eq_true hci2) (fun hq => ?_) (fun hq => ?_)
  · have k1 := kk H locs lsA hro hH hS hl hz
    rw [show xb0 .ge x r1 (pc + 3) = r1 from if_pos hq] at k1
    exact k1
  · have k1 := kk H locs lsA hro hH hS hl hz
    rw [show xb0 .ge x r1 (pc + 3) = pc + 3 from if_neg hq] at k1
    exact k1
theorem xs_icmp_gt (q : Int) (X : xPre p R s m args meth c H locs cells slots D bs tc i d ls h n lsA kc ks) (hdg : decode (xMt i).2.1 pc = .ok (.if_icmp .gt q, len)) (hci : xchi i pc (.if_icmp .gt q, len, r1, r2, v0, ps) = true) (hs : xstp d (.if_icmp .gt q, len, r1, r2, v0, ps) pc ls st h n = some (pc1, ls1, st1, h1, n1, kc, ks))
    (kk : xKk p l e0 R s m args below meth c cells slots Q D bs tc i pc1 ls1 st1 h1 n1 kc ks) : W p l e0 R s m args below meth c H locs cells slots Q (F0 m pc lsA (st.map (xvm bs))) := by
  obtain ⟨⟨hx, hb, hml, hown, hts, hin, hcx, hbs⟩, hro, hH, hS, hl, ⟨hd1, hd2⟩, hc, hk2, hz⟩ := X
  have hci0 := (Bool.and_eq_true _ _ ▸ hci : _ ∧ _)
  obtain ⟨hlen0, hci2⟩ := hci0
  have hlen : len = 3 := Nat.eq_of_beq_eq_true hlen0
  subst hlen
  obtain ⟨y, r, rfl, hs⟩ := xpI_some hs
  obtain ⟨x, r, rfl, hs⟩ := xpI_some hs
  obtain ⟨rfl, rfl, rfl, rfl, rfl, rfl, rfl⟩ := xgo_some hs
  refine lv_icmp_gt hx hb hdg (of_decide_eq_true hci2) (fun hq => ?_) (fun hq => ?_)
  · have k1 := kk H locs lsA hro hH hS hl hz
    rw [show xbr .gt x y r1 (pc + 3) = r1 from if_pos hq] at k1
    exact k1
  · have k1 := kk H locs lsA hro hH hS hl hz
    rw [show xbr .gt x y r1 (pc + 3) = pc + 3 from if_neg hq] at k1
    exact k1
theorem xs_if_gt (q : Int) (X : xPre p R s m args meth c H locs cells slots D bs tc i d ls h n lsA kc ks) (hdg : decode (xMt i).2.1 pc = .ok (.ifCond .gt q, len)) (hci : xchi i pc (.ifCond .gt q, len, r1, r2, v0, ps) = true) (hs : xstp d (.ifCond .gt q, len, r1, r2, v0, ps) pc ls st h n = some (pc1, ls1, st1, h1, n1, kc, ks))
    (kk : xKk p l e0 R s m args below meth c cells slots Q D bs tc i pc1 ls1 st1 h1 n1 kc ks) : W p l e0 R s m args below meth c H locs cells slots Q (F0 m pc lsA (st.map (xvm bs))) := by
  obtain ⟨⟨hx, hb, hml, hown, hts, hin, hcx, hbs⟩, hro, hH, hS, hl, ⟨hd1, hd2⟩, hc, hk2, hz⟩ := X
  have hci0 := (Bool.and_eq_true _ _ ▸ hci : _ ∧ _)
  obtain ⟨hlen0, hci2⟩ := hci0
  have hlen : len = 3 := Nat.eq_of_beq_eq_true hlen0
  subst hlen
  obtain ⟨x, r, rfl, hs⟩ := xpI_some hs
  obtain ⟨rfl, rfl, rfl, rfl, rfl, rfl, rfl⟩ := xgo_some hs
  refine lv_if_gt hx hb hdg (of_decide_eq_true hci2) (fun hq => ?_) (fun hq => ?_)
  · have k1 := kk H locs lsA hro hH hS hl hz
    rw [show xb0 .gt x r1 (pc + 3) = r1 from if_pos hq] at k1
    exact k1
  · have k1 := kk H locs lsA hro hH hS hl hz
    rw [show xb0 .gt x r1 (pc + 3) = pc + 3 from if_neg hq] at k1
    exact k1
theorem xs_icmp_le (q : Int) (X : xPre p R s m args meth c H locs cells slots D bs tc i d ls h n lsA kc ks) (hdg : decode (xMt i).2.1 pc = .ok (.if_icmp .le q, len)) (hci : xchi i pc (.if_icmp .le q, len, r1, r2, v0, ps) = true) (hs : xstp d (.if_icmp .le q, len, r1, r2, v0, ps) pc ls st h n = some (pc1, ls1, st1, h1, n1, kc, ks))
    (kk : xKk p l e0 R s m args below meth c cells slots Q D bs tc i pc1 ls1 st1 h1 n1 kc ks) : W p l e0 R s m args below meth c H locs cells slots Q (F0 m pc lsA (st.map (xvm bs))) := by
  obtain ⟨⟨hx, hb, hml, hown, hts, hin, hcx, hbs⟩, hro, hH, hS, hl, ⟨hd1, hd2⟩, hc, hk2, hz⟩ := X
  have hci0 := (Bool.and_eq_true _ _ ▸ hci : _ ∧ _)
  obtain ⟨hlen0, hci2⟩ := hci0
  have hlen : len = 3 := Nat.eq_of_beq_eq_true hlen0
  subst hlen
  obtain ⟨y, r, rfl, hs⟩ := xpI_some hs
  obtain ⟨x, r, rfl, hs⟩ := xpI_some hs
  obtain ⟨rfl, rfl, rfl, rfl, rfl, rfl, rfl⟩ := xgo_some hs
  refine lv_icmp_le hx hb hdg (of_decide_eq_true hci2) (fun hq => ?_) (fun hq => ?_)
  · have k1 := kk H locs lsA hro hH hS hl hz
    rw [show xbr .le x y r1 (pc + 3) = r1 from if_pos hq] at k1
    exact k1
  · have k1 := kk H locs lsA hro hH hS hl hz
    rw [show xbr .le x y r1 (pc + 3) = pc + 3 from if_neg hq] at k1
    exact k1
theorem xs_if_le (q : Int) (X : xPre p R s m args meth c H locs cells slots D bs tc i d ls h n lsA kc ks) (hdg : decode (xMt i).2.1 pc = .ok (.ifCond .le q, len)) (hci : xchi i pc (.ifCond .le q, len, r1, r2, v0, ps) = true) (hs : xstp d (.ifCond .le q, len, r1, r2, v0, ps) pc ls st h n = some (pc1, ls1, st1, h1, n1, kc, ks))
    (kk : xKk p l e0 R s m args below meth c cells slots Q D bs tc i pc1 ls1 st1 h1 n1 kc ks) : W p l e0 R s m args below meth c H locs cells slots Q (F0 m pc lsA (st.map (xvm bs))) := by
  obtain ⟨⟨hx, hb, hml, hown, hts, hin, hcx, hbs⟩, hro, hH, hS, hl, ⟨hd1, hd2⟩, hc, hk2, hz⟩ := X
  have hci0 := (Bool.and_eq_true _ _ ▸ hci : _ ∧ _)
  obtain ⟨hlen0, hci2⟩ := hci0
  have hlen : len = 3 := Nat.eq_of_beq_eq_true hlen0
  subst hlen
  obtain ⟨x, r, rfl, hs⟩ := xpI_some hs
  obtain ⟨rfl, rfl, rfl, rfl, rfl, rfl, rfl⟩ := xgo_some hs
  refine lv_if_le hx hb hdg (of_decide_eq_true hci2) (fun hq => ?_) (fun hq => ?_)
  · have k1 := kk H locs lsA hro hH hS hl hz
    rw [show xb0 .le x r1 (pc + 3) = r1 from if_pos hq] at k1
    exact k1
  · have k1 := kk H locs lsA hro hH hS hl hz
    rw [show xb0 .le x r1 (pc + 3) = pc + 3 from if_neg hq] at k1
    exact k1
theorem xs_tableswitch (df lo hi : Int) (offs : Array Int) (X : xPre p R s m args meth c H locs cells slots D bs tc i d ls h n lsA kc ks) (hdg : decode (xMt i).2.1 pc = .ok (.tableswitch df lo hi offs, len)) (hci : xchi i pc (.tableswitch df lo hi offs, len, r1, r2, v0, ps) = true) (hs : xstp d (.tableswitch df lo hi offs, len, r1, r2, v0, ps) pc ls st h n = some (pc1, ls1, st1, h1, n1, kc, ks))
    (kk : xKk p l e0 R s m args below meth c cells slots Q D bs tc i pc1 ls1 st1 h1 n1 kc ks) : W p l e0 R s m args below meth c H locs cells slots Q (F0 m pc lsA (st.map (xvm bs))) := by
  obtain ⟨⟨hx, hb, hml, hown, hts, hin, hcx, hbs⟩, hro, hH, hS, hl, ⟨hd1, hd2⟩, hc, hk2, hz⟩ := X
  have hci3 := (Bool.and_eq_true _ _ ▸ hci : _ ∧ _)
  have hsz : offs.size = (hi - lo + 1).toNat := of_decide_eq_true hci3.1
  obtain ⟨x, r, rfl, hs⟩ := xpI_some hs
  obtain ⟨hp, hs⟩ := xgp_some hs
  obtain ⟨rfl, rfl, rfl, rfl, rfl, rfl, rfl⟩ := xgo_some hs
  have k1 := kk H locs lsA hro hH hS hl hz
  by_cases hout : x.toInt < lo ∨ hi < x.toInt
  · have e1 : xsw x.toInt df lo hi offs = df := if_pos hout
    rw [e1] at hp k1
    exact lv_tableOut (tgt := ((pc : Int) + df).toNat) hx hb hdg hout (Int.toNat_of_nonneg hp).symm k1
  · have h1 : ¬ x.toInt < lo := fun q => hout (Or.inl q)
    have h2 : ¬ hi < x.toInt := fun q => hout (Or.inr q)
    have hlt : (x.toInt - lo).toNat < offs.size := by rw [hsz]; omega
    have e1 : xsw x.toInt df lo hi offs = offs[(x.toInt - lo).toNat] := by
      unfold xsw
      rw [if_neg hout, Array.getElem?_eq_getElem hlt]
      rfl
    rw [e1] at hp k1
    exact lv_tableIn (tgt := ((pc : Int) + offs[(x.toInt - lo).toNat]).toNat) hx hb hdg h1 h2 (Array.getElem?_eq_getElem hlt) (Int.toNat_of_nonneg hp).symm k1
theorem xs_lookupswitch (df : Int) (qs : Array (Int × Int)) (X : xPre p R s m args meth c H locs cells slots D bs tc i d ls h n lsA kc ks) (hdg : decode (xMt i).2.1 pc = .ok (.lookupswitch df qs, len)) (hci : xchi i pc (.lookupswitch df qs, len, r1, r2, v0, ps) = true) (hs : xstp d (.lookupswitch df qs, len, r1, r2, v0, ps) pc ls st h n = some (pc1, ls1, st1, h1, n1, kc, ks))
    (kk : xKk p l e0 R s m args below meth c cells slots Q D bs tc i pc1 ls1 st1 h1 n1 kc ks) : W p l e0 R s m args below meth c H locs cells slots Q (F0 m pc lsA (st.map (xvm bs))) := by
  obtain ⟨⟨hx, hb, hml, hown, hts, hin, hcx, hbs⟩, hro, hH, hS, hl, ⟨hd1, hd2⟩, hc, hk2, hz⟩ := X
  obtain ⟨x, r, rfl, hs⟩ := xpI_some hs
  obtain ⟨hp, hs⟩ := xgp_some hs
  obtain ⟨rfl, rfl, rfl, rfl, rfl, rfl, rfl⟩ := xgo_some hs
  exact lv_lookup (tgt := ((pc : Int) + Op.lookupswitch.offset qs.toList df x.toInt).toNat) hx hb hdg hci rfl (Int.toNat_of_nonneg hp).symm (kk H locs lsA hro hH hS hl hz)
theorem xs_getfield (q : Nat) (X : xPre p R s m args meth c H locs cells slots D bs tc i d ls h n lsA kc ks) (hdg : decode (xMt i).2.1 pc = .ok (.getfield q, len)) (hci : xchi i pc (.getfield q, len, r1, r2, v0, ps) = true) (hs : xstp d (.getfield q, len, r1, r2, v0, ps) pc ls st h n = some (pc1, ls1, st1, h1, n1, kc, ks))
    (kk : xKk p l e0 R s m args below meth c cells slots Q D bs tc i pc1 ls1 st1 h1 n1 kc ks) : W p l e0 R s m args below meth c H locs cells slots Q (F0 m pc lsA (st.map (xvm bs))) := by
  obtain ⟨⟨hx, hb, hml, hown, hts, hin, hcx, hbs⟩, hro, hH, hS, hl, ⟨hd1, hd2⟩, hc, hk2, hz⟩ := X
  have hci0 := (Bool.and_eq_true _ _ ▸ hci : _ ∧ _)
  obtain ⟨hlen0, hci2⟩ := hci0
  have hlen : len = 3 := Nat.eq_of_beq_eq_true hlen0
  subst hlen
  obtain ⟨C, T, N, hcl, hN, hw⟩ := xfl_some hci2
  obtain ⟨k, r, rfl, hs⟩ := xpR_some hs
  obtain ⟨ci, fs, hk, hs⟩ := xcO_some hs
  obtain ⟨hb1, hs⟩ := xgd_some hs
  have hb2 : ci = r1 := Nat.eq_of_beq_eq_true hb1
  subst hb2
  obtain ⟨v, hv, hs⟩ := xgO_some hs
  obtain ⟨rfl, rfl, rfl, rfl, rfl, rfl, rfl⟩ := xgo_some hs
  obtain ⟨w1, w2, w3, w4, w5, w6, w7⟩ := xcl_ok hcl
  obtain ⟨h3, hn, he⟩ := xobj hro hH hk w6
  exact va_get (v := xvm bs v) hx hb hts w1 hown hcx.1 hH.2.2.1 (k - 3) he hcl r2 hN (hts _ hw) (fun z hz => by rw [w2 _ hN] at hz; exact hz) (by rw [List.getElem?_map]; exact congrArg (Option.map (xvm bs)) hv) hdg (kk H locs lsA hro hH hS hl hz)
theorem xs_putfield (q : Nat) (X : xPre p R s m args meth c H locs cells slots D bs tc i d ls h n lsA kc ks) (hdg : decode (xMt i).2.1 pc = .ok (.putfield q, len)) (hci : xchi i pc (.putfield q, len, r1, r2, v0, ps) = true) (hs : xstp d (.putfield q, len, r1, r2, v0, ps) pc ls st h n = some (pc1, ls1, st1, h1, n1, kc, ks))
    (kk : xKk p l e0 R s m args below meth c cells slots Q D bs tc i pc1 ls1 st1 h1 n1 kc ks) : W p l e0 R s m args below meth c H locs cells slots Q (F0 m pc lsA (st.map (xvm bs))) := by
  obtain ⟨⟨hx, hb, hml, hown, hts, hin, hcx, hbs⟩, hro, hH, hS, hl, ⟨hd1, hd2⟩, hc, hk2, hz⟩ := X
  have hci0 := (Bool.and_eq_true _ _ ▸ hci : _ ∧ _)
  obtain ⟨hlen0, hci2⟩ := hci0
  have hlen : len = 3 := Nat.eq_of_beq_eq_true hlen0
  subst hlen
  have hci4 := (Bool.and_eq_true _ _ ▸ hci2 : _ ∧ _)
  obtain ⟨hci5, hci6⟩ := hci4
  obtain ⟨C, T, N, hcl, hN, hw⟩ := xfl_some hci5
  obtain ⟨v, r, rfl, hs⟩ := xpV_some hs
  obtain ⟨k, r, rfl, hs⟩ := xpR_some hs
  obtain ⟨ci, fs, hk, hs⟩ := xcO_some hs
  obtain ⟨hb1, hs⟩ := xgd_some hs
  have hb2 : ci = r1 := Nat.eq_of_beq_eq_true hb1
  subst hb2
  obtain ⟨hft, hs⟩ := xgd_some hs
  obtain ⟨hfl, hs⟩ := xgd_some hs
  have hfl2 : r2 < fs.length := Nat.le_of_ble_eq_true hfl
  obtain ⟨rfl, rfl, rfl, rfl, rfl, rfl, rfl⟩ := xgo_some hs
  obtain ⟨w1, w2, w3, w4, w5, w6, w7⟩ := xcl_ok hcl
  obtain ⟨h3, hn, he⟩ := xobj hro hH hk w6
  have hnar : narrow (xfty ci r2) (xvm bs v) = xvm bs v := xfit_all (xfty_ok hcl r2 hN) _ (by rw [xfit_vm]; exact hft)
  have hset : ∀ (H1 : Heap) (locs1 : List Loc), va_P D xcl ((xws bs tc h n).set (k - 3) (xad bs k, .inr (ci, (fs.map (xvm bs)).set r2 (xvm bs v)))) H1 → va_D (xA bs) ((xws bs tc h n).set (k - 3) (xad bs k, .inr (ci, (fs.map (xvm bs)).set r2 (xvm bs v)))) → va_S (xA bs) H H1 locs1 → W p l e0 R s m args below meth c H1 locs1 cells slots Q (F0 m (pc + 3) lsA (r.map (xvm bs))) := by
    intro H1 locs1 g1 g2 g3
    refine xsz fun hle => ?_
    rw [← List.map_set] at g1
    obtain ⟨y1, y2⟩ := xstore (c1 := .inr (ci, fs.set r2 v)) hH hS hz h3 hn g1 g3 hle
    exact kk H1 locs1 lsA (hro.put h3) y1 y2 hl hz
  by_cases hfin : (T r2).2.2.2 = true
  · have hff : xff i (.putfield q, 3, ci, r2, v0, ps) = true := hci6
    unfold xff at hff
    rw [hcl] at hff
    simp only [hfin, Bool.not_true, Bool.false_or, Bool.and_eq_true, decide_eq_true_eq] at hff
    exact va_putF (v := xvm bs v) hx hb hts w1 _ w3 w4 hown hcx.1 hH.2.2.1 xws_D (xS_self hS) (k - 3) he hcl r2 hN (hts _ hw) (fun z hz => by rw [w2 _ hN] at hz; exact hz) hfin (hin hff.1) (by rw [w2 _ hN]; exact hff.2.symm) (w3 _ hN) hnar (by rw [xfit_vm]; exact hft) (by rw [List.length_map]; exact hfl2) hdg hset
  · exact va_put (v := xvm bs v) hx hb hts w1 _ w3 w4 hown hcx.1 hH.2.2.1 xws_D (xS_self hS) (k - 3) he hcl r2 hN (hts _ hw) (fun z hz => by rw [w2 _ hN] at hz; exact hz) (by simpa using hfin) (w3 _ hN) hnar (by rw [xfit_vm]; exact hft) (by rw [List.length_map]; exact hfl2) hdg hset
theorem xs_getstatic (q : Nat) (X : xPre p R s m args meth c H locs cells slots D bs tc i d ls h n lsA kc ks) (hdg : decode (xMt i).2.1 pc = .ok (.getstatic q, len)) (hci : xchi i pc (.getstatic q, len, r1, r2, v0, ps) = true) (hs : xstp d (.getstatic q, len, r1, r2, v0, ps) pc ls st h n = some (pc1, ls1, st1, h1, n1, kc, ks))
    (kk : xKk p l e0 R s m args below meth c cells slots Q D bs tc i pc1 ls1 st1 h1 n1 kc ks) : W p l e0 R s m args below meth c H locs cells slots Q (F0 m pc lsA (st.map (xvm bs))) := by
  obtain ⟨⟨hx, hb, hml, hown, hts, hin, hcx, hbs⟩, hro, hH, hS, hl, ⟨hd1, hd2⟩, hc, hk2, hz⟩ := X
  have hci0 := (Bool.and_eq_true _ _ ▸ hci : _ ∧ _)
  obtain ⟨hlen0, hci2⟩ := hci0
  have hlen : len = 3 := Nat.eq_of_beq_eq_true hlen0
  subst hlen
  obtain ⟨rfl, rfl, rfl, rfl, rfl, rfl, rfl⟩ := xgo_some hs
  obtain ⟨hown2, hci4⟩ := (Bool.and_eq_true _ _ ▸ hci2 : _ ∧ _)
  have hown3 : (xMt i).1.cls = "BraidHorns$Track" := of_decide_eq_true hown2
  rw [hown3] at hown
  obtain ⟨k1, k2, k3, k4, k5, k6, k7, k8⟩ := hcx
  rcases (Bool.or_eq_true _ _ ▸ hci4 : _ ∨ _) with hq | hq
  · obtain ⟨hq1, hq2⟩ := (Bool.and_eq_true _ _ ▸ hq : _ ∧ _)
    have e1 : q = 121 := Nat.eq_of_beq_eq_true hq1
    have e2 : r1 = 1 := Nat.eq_of_beq_eq_true hq2
    subst e1; subst e2
    exact va_getsN hx hb k2 hS hown (k6.use rfl) (fun _ hz => hz) hdg (kk H locs lsA hro hH hS hl hz)
  · obtain ⟨hq1, hq2⟩ := (Bool.and_eq_true _ _ ▸ hq : _ ∧ _)
    have e1 : q = 95 := Nat.eq_of_beq_eq_true hq1
    have e2 : r1 = 2 := Nat.eq_of_beq_eq_true hq2
    subst e1; subst e2
    exact va_getsN hx hb k3 hS hown (k7.use rfl) (fun _ hz => hz) hdg (kk H locs lsA hro hH hS hl hz)
theorem xs_iaload (X : xPre p R s m args meth c H locs cells slots D bs tc i d ls h n lsA kc ks) (hdg : decode (xMt i).2.1 pc = .ok (.iaload, len)) (hci : xchi i pc (.iaload, len, r1, r2, v0, ps) = true) (hs : xstp d (.iaload, len, r1, r2, v0, ps) pc ls st h n = some (pc1, ls1, st1, h1, n1, kc, ks))
    (kk : xKk p l e0 R s m args below meth c cells slots Q D bs tc i pc1 ls1 st1 h1 n1 kc ks) : W p l e0 R s m args below meth c H locs cells slots Q (F0 m pc lsA (st.map (xvm bs))) := by
  obtain ⟨⟨hx, hb, hml, hown, hts, hin, hcx, hbs⟩, hro, hH, hS, hl, ⟨hd1, hd2⟩, hc, hk2, hz⟩ := X
  have hlen : len = 1 := Nat.eq_of_beq_eq_true hci
  subst hlen
  obtain ⟨j, r, rfl, hs⟩ := xpI_some hs
  obtain ⟨k, r, rfl, hs⟩ := xpR_some hs
  obtain ⟨t, ln, f, hk, hs⟩ := xcI_some hs
  obtain ⟨hb1, hs⟩ := xgd_some hs
  have hb2 : t = 0 := Nat.eq_of_beq_eq_true hb1
  subst hb2
  obtain ⟨hj, hs⟩ := xgp_some hs
  obtain ⟨rfl, rfl, rfl, rfl, rfl, rfl, rfl⟩ := xgo_some hs
  rcases Nat.lt_or_ge k 3 with hlt | h3
  · obtain ⟨len2, f2, e1, e2, e3⟩ := hro k hlt
    rw [hk] at e1
    injection e1 with e1
    injection e1 with _ e1
    injection e1 with ea eb
    injection eb with eb
    subst ea; subst eb
    have ea : xad bs k = bs k := if_pos hlt
    show W p l e0 R s m args below meth c H locs cells slots Q (F0 m pc lsA (.int j :: .ref (xad bs k) :: r.map (xvm bs)))
    rw [ea]
    exact va_sld hx hb e2 (Nat.lt_of_lt_of_le e3 hbs) (Nat.not_le.mpr e3) hS hj hdg (kk H locs lsA hro hH hS hl hz)
  · obtain ⟨hn, he⟩ := xarr hH hk h3
    exact va_iald hx hb hcx.1 hH.2.2.1 (k - 3) 0 he rfl hj hdg (kk H locs lsA hro hH hS hl hz)
theorem xs_baload (X : xPre p R s m args meth c H locs cells slots D bs tc i d ls h n lsA kc ks) (hdg : decode (xMt i).2.1 pc = .ok (.baload, len)) (hci : xchi i pc (.baload, len, r1, r2, v0, ps) = true) (hs : xstp d (.baload, len, r1, r2, v0, ps) pc ls st h n = some (pc1, ls1, st1, h1, n1, kc, ks))
    (kk : xKk p l e0 R s m args below meth c cells slots Q D bs tc i pc1 ls1 st1 h1 n1 kc ks) : W p l e0 R s m args below meth c H locs cells slots Q (F0 m pc lsA (st.map (xvm bs))) := by
  obtain ⟨⟨hx, hb, hml, hown, hts, hin, hcx, hbs⟩, hro, hH, hS, hl, ⟨hd1, hd2⟩, hc, hk2, hz⟩ := X
  have hlen : len = 1 := Nat.eq_of_beq_eq_true hci
  subst hlen
  obtain ⟨j, r, rfl, hs⟩ := xpI_some hs
  obtain ⟨k, r, rfl, hs⟩ := xpR_some hs
  obtain ⟨t, ln, f, hk, hs⟩ := xcI_some hs
  obtain ⟨hb1, hs⟩ := xgd_some hs
  have hb2 : t = 1 := Nat.eq_of_beq_eq_true hb1
  subst hb2
  obtain ⟨hj, hs⟩ := xgp_some hs
  obtain ⟨rfl, rfl, rfl, rfl, rfl, rfl, rfl⟩ := xgo_some hs
  have h3 : 3 ≤ k := by
    rcases Nat.lt_or_ge k 3 with hlt | hge
    · obtain ⟨_, _, e1, -⟩ := hro k hlt
      rw [hk] at e1
      cases e1
    · exact hge
  obtain ⟨hn, he⟩ := xarr hH hk h3
  exact va_zald hx hb hcx.1 hH.2.2.1 (k - 3) 1 he rfl hj hdg (kk H locs lsA hro hH hS hl hz)
theorem xs_caload (X : xPre p R s m args meth c H locs cells slots D bs tc i d ls h n lsA kc ks) (hdg : decode (xMt i).2.1 pc = .ok (.caload, len)) (hci : xchi i pc (.caload, len, r1, r2, v0, ps) = true) (hs : xstp d (.caload, len, r1, r2, v0, ps) pc ls st h n = some (pc1, ls1, st1, h1, n1, kc, ks))
    (kk : xKk p l e0 R s m args below meth c cells slots Q D bs tc i pc1 ls1 st1 h1 n1 kc ks) : W p l e0 R s m args below meth c H locs cells slots Q (F0 m pc lsA (st.map (xvm bs))) := by
  obtain ⟨⟨hx, hb, hml, hown, hts, hin, hcx, hbs⟩, hro, hH, hS, hl, ⟨hd1, hd2⟩, hc, hk2, hz⟩ := X
  have hlen : len = 1 := Nat.eq_of_beq_eq_true hci
  subst hlen
  obtain ⟨j, r, rfl, hs⟩ := xpI_some hs
  obtain ⟨k, r, rfl, hs⟩ := xpR_some hs
  obtain ⟨t, ln, f, hk, hs⟩ := xcI_some hs
  obtain ⟨hb1, hs⟩ := xgd_some hs
  have hb2 : t = 2 := Nat.eq_of_beq_eq_true hb1
  subst hb2
  obtain ⟨hj, hs⟩ := xgp_some hs
  obtain ⟨rfl, rfl, rfl, rfl, rfl, rfl, rfl⟩ := xgo_some hs
  have h3 : 3 ≤ k := by
    rcases Nat.lt_or_ge k 3 with hlt | hge
    · obtain ⟨_, _, e1, -⟩ := hro k hlt
      rw [hk] at e1
      cases e1
    · exact hge
  obtain ⟨hn, he⟩ := xarr hH hk h3
  exact va_cald hx hb hcx.1 hH.2.2.1 (k - 3) 2 he rfl hj hdg (kk H locs lsA hro hH hS hl hz)
theorem xs_iastore (X : xPre p R s m args meth c H locs cells slots D bs tc i d ls h n lsA kc ks) (hdg : decode (xMt i).2.1 pc = .ok (.iastore, len)) (hci : xchi i pc (.iastore, len, r1, r2, v0, ps) = true) (hs : xstp d (.iastore, len, r1, r2, v0, ps) pc ls st h n = some (pc1, ls1, st1, h1, n1, kc, ks))
    (kk : xKk p l e0 R s m args below meth c cells slots Q D bs tc i pc1 ls1 st1 h1 n1 kc ks) : W p l e0 R s m args below meth c H locs cells slots Q (F0 m pc lsA (st.map (xvm bs))) := by
  obtain ⟨⟨hx, hb, hml, hown, hts, hin, hcx, hbs⟩, hro, hH, hS, hl, ⟨hd1, hd2⟩, hc, hk2, hz⟩ := X
  have hlen : len = 1 := Nat.eq_of_beq_eq_true hci
  subst hlen
  obtain ⟨x, r, rfl, hs⟩ := xpI_some hs
  obtain ⟨j, r, rfl, hs⟩ := xpI_some hs
  obtain ⟨k, r, rfl, hs⟩ := xpR_some hs
  obtain ⟨t, ln, f, hk, hs⟩ := xcI_some hs
  obtain ⟨h3b, hs⟩ := xgd_some hs
  have h3 : 3 ≤ k := Nat.le_of_ble_eq_true h3b
  obtain ⟨hb1, hs⟩ := xgd_some hs
  have hb2 : t = 0 := Nat.eq_of_beq_eq_true hb1
  subst hb2
  obtain ⟨hj, hs⟩ := xgp_some hs
  obtain ⟨rfl, rfl, rfl, rfl, rfl, rfl, rfl⟩ := xgo_some hs
  obtain ⟨hn, he⟩ := xarr hH hk h3
  refine va_iast hx hb hcx.1 hH.2.2.1 xws_D (xS_self hS) (k - 3) 0 he rfl hj hdg (fun H1 locs1 g1 g2 g3 => xsz fun hle => ?_)
  obtain ⟨y1, y2⟩ := xstore (c1 := .inl (0, ln, .inl (upd f j.toNatClampNeg x))) hH hS hz h3 hn g1 g3 hle
  exact kk H1 locs1 lsA (hro.put h3) y1 y2 hl hz
theorem xs_bastore (X : xPre p R s m args meth c H locs cells slots D bs tc i d ls h n lsA kc ks) (hdg : decode (xMt i).2.1 pc = .ok (.bastore, len)) (hci : xchi i pc (.bastore, len, r1, r2, v0, ps) = true) (hs : xstp d (.bastore, len, r1, r2, v0, ps) pc ls st h n = some (pc1, ls1, st1, h1, n1, kc, ks))
    (kk : xKk p l e0 R s m args below meth c cells slots Q D bs tc i pc1 ls1 st1 h1 n1 kc ks) : W p l e0 R s m args below meth c H locs cells slots Q (F0 m pc lsA (st.map (xvm bs))) := by
  obtain ⟨⟨hx, hb, hml, hown, hts, hin, hcx, hbs⟩, hro, hH, hS, hl, ⟨hd1, hd2⟩, hc, hk2, hz⟩ := X
  have hlen : len = 1 := Nat.eq_of_beq_eq_true hci
  subst hlen
  obtain ⟨x, r, rfl, hs⟩ := xpI_some hs
  obtain ⟨j, r, rfl, hs⟩ := xpI_some hs
  obtain ⟨k, r, rfl, hs⟩ := xpR_some hs
  obtain ⟨t, ln, f, hk, hs⟩ := xcI_some hs
  obtain ⟨h3b, hs⟩ := xgd_some hs
  have h3 : 3 ≤ k := Nat.le_of_ble_eq_true h3b
  obtain ⟨hb1, hs⟩ := xgd_some hs
  have hb2 : t = 1 := Nat.eq_of_beq_eq_true hb1
  subst hb2
  obtain ⟨hj, hs⟩ := xgp_some hs
  obtain ⟨rfl, rfl, rfl, rfl, rfl, rfl, rfl⟩ := xgo_some hs
  obtain ⟨hn, he⟩ := xarr hH hk h3
  refine va_zast hx hb hcx.1 hH.2.2.1 xws_D (xS_self hS) (k - 3) 1 he rfl hj hdg (fun H1 locs1 g1 g2 g3 => xsz fun hle => ?_)
  obtain ⟨y1, y2⟩ := xstore (c1 := .inl (1, ln, .inl (upd f j.toNatClampNeg (vp_nar .boolean x)))) hH hS hz h3 hn g1 g3 hle
  exact kk H1 locs1 lsA (hro.put h3) y1 y2 hl hz
theorem xs_castore (X : xPre p R s m args meth c H locs cells slots D bs tc i d ls h n lsA kc ks) (hdg : decode (xMt i).2.1 pc = .ok (.castore, len)) (hci : xchi i pc (.castore, len, r1, r2, v0, ps) = true) (hs : xstp d (.castore, len, r1, r2, v0, ps) pc ls st h n = some (pc1, ls1, st1, h1, n1, kc, ks))
    (kk : xKk p l e0 R s m args below meth c cells slots Q D bs tc i pc1 ls1 st1 h1 n1 kc ks) : W p l e0 R s m args below meth c H locs cells slots Q (F0 m pc lsA (st.map (xvm bs))) := by
  obtain ⟨⟨hx, hb, hml, hown, hts, hin, hcx, hbs⟩, hro, hH, hS, hl, ⟨hd1, hd2⟩, hc, hk2, hz⟩ := X
  have hlen : len = 1 := Nat.eq_of_beq_eq_true hci
  subst hlen
  obtain ⟨x, r, rfl, hs⟩ := xpI_some hs
  obtain ⟨j, r, rfl, hs⟩ := xpI_some hs
  obtain ⟨k, r, rfl, hs⟩ := xpR_some hs
  obtain ⟨t, ln, f, hk, hs⟩ := xcI_some hs
  obtain ⟨h3b, hs⟩ := xgd_some hs
  have h3 : 3 ≤ k := Nat.le_of_ble_eq_true h3b
  obtain ⟨hb1, hs⟩ := xgd_some hs
  have hb2 : t = 2 := Nat.eq_of_beq_eq_true hb1
  subst hb2
  obtain ⟨hj, hs⟩ := xgp_some hs
  obtain ⟨rfl, rfl, rfl, rfl, rfl, rfl, rfl⟩ := xgo_some hs
  obtain ⟨hn, he⟩ := xarr hH hk h3
  refine va_cast hx hb hcx.1 hH.2.2.1 xws_D (xS_self hS) (k - 3) 2 he rfl hj hdg (fun H1 locs1 g1 g2 g3 => xsz fun hle => ?_)
  obtain ⟨y1, y2⟩ := xstore (c1 := .inl (2, ln, .inl (upd f j.toNatClampNeg (vp_nar .char x)))) hH hS hz h3 hn g1 g3 hle
  exact kk H1 locs1 lsA (hro.put h3) y1 y2 hl hz
theorem xs_aaload (X : xPre p R s m args meth c H locs cells slots D bs tc i d ls h n lsA kc ks) (hdg : decode (xMt i).2.1 pc = .ok (.aaload, len)) (hci : xchi i pc (.aaload, len, r1, r2, v0, ps) = true) (hs : xstp d (.aaload, len, r1, r2, v0, ps) pc ls st h n = some (pc1, ls1, st1, h1, n1, kc, ks))
    (kk : xKk p l e0 R s m args below meth c cells slots Q D bs tc i pc1 ls1 st1 h1 n1 kc ks) : W p l e0 R s m args below meth c H locs cells slots Q (F0 m pc lsA (st.map (xvm bs))) := by
  obtain ⟨⟨hx, hb, hml, hown, hts, hin, hcx, hbs⟩, hro, hH, hS, hl, ⟨hd1, hd2⟩, hc, hk2, hz⟩ := X
  have hlen : len = 1 := Nat.eq_of_beq_eq_true hci
  subst hlen
  obtain ⟨j, r, rfl, hs⟩ := xpI_some hs
  obtain ⟨k, r, rfl, hs⟩ := xpR_some hs
  obtain ⟨t, ln, f, hk, hs⟩ := xcQ_some hs
  obtain ⟨hb1, hs⟩ := xgd_some hs
  obtain ⟨hj, hs⟩ := xgp_some hs
  obtain ⟨q, hq, hs⟩ := xgO_some hs
  obtain ⟨rfl, rfl, rfl, rfl, rfl, rfl, rfl⟩ := xgo_some hs
  obtain ⟨h3, hn, he⟩ := xarq hro hH hk
  have k1 := kk H locs lsA hro hH hS hl hz
  have e1 : va_rf ((f j.toNatClampNeg).map (xad bs)) = .ref (xad bs q) := by rw [hq]; rfl
  rcases (Bool.or_eq_true _ _ ▸ hb1 : _ ∨ _) with hb2 | hb2
  · have hb3 : t = 3 := Nat.eq_of_beq_eq_true hb2
    subst hb3
    exact va_aldq (C := "BraidHorns$Track") hx hb hcx.1 hH.2.2.1 (k - 3) 3 he rfl hj hdg (by rw [e1]; exact k1)
  · have hb3 : t = 4 := Nat.eq_of_beq_eq_true hb2
    subst hb3
    exact va_aldq (C := "BraidHorns$Carrier") hx hb hcx.1 hH.2.2.1 (k - 3) 4 he rfl hj hdg (by rw [e1]; exact k1)
theorem xs_aastore (X : xPre p R s m args meth c H locs cells slots D bs tc i d ls h n lsA kc ks) (hdg : decode (xMt i).2.1 pc = .ok (.aastore, len)) (hci : xchi i pc (.aastore, len, r1, r2, v0, ps) = true) (hs : xstp d (.aastore, len, r1, r2, v0, ps) pc ls st h n = some (pc1, ls1, st1, h1, n1, kc, ks))
    (kk : xKk p l e0 R s m args below meth c cells slots Q D bs tc i pc1 ls1 st1 h1 n1 kc ks) : W p l e0 R s m args below meth c H locs cells slots Q (F0 m pc lsA (st.map (xvm bs))) := by
  obtain ⟨⟨hx, hb, hml, hown, hts, hin, hcx, hbs⟩, hro, hH, hS, hl, ⟨hd1, hd2⟩, hc, hk2, hz⟩ := X
  have hlen : len = 1 := Nat.eq_of_beq_eq_true hci
  subst hlen
  obtain ⟨v, r, rfl, hs⟩ := xpR_some hs
  obtain ⟨j, r, rfl, hs⟩ := xpI_some hs
  obtain ⟨k, r, rfl, hs⟩ := xpR_some hs
  obtain ⟨t, ln, f, hk, hs⟩ := xcQ_some hs
  obtain ⟨ci, fs, hv, hs⟩ := xcO_some hs
  obtain ⟨hb1, hs⟩ := xgd_some hs
  obtain ⟨hj, hs⟩ := xgp_some hs
  obtain ⟨rfl, rfl, rfl, rfl, rfl, rfl, rfl⟩ := xgo_some hs
  obtain ⟨h3, hn, he⟩ := xarq hro hH hk
  have hup : (fun q => (va_up f j.toNatClampNeg (some v) q).map (xad bs)) = va_up (fun q => (f q).map (xad bs)) j.toNatClampNeg (some (xad bs v)) := by
    funext q
    simp only [va_up]
    split <;> rfl
  have hkk : ∀ (H1 : Heap) (locs1 : List Loc), va_P D xcl ((xws bs tc h n).set (k - 3) (xad bs k, .inl (tc t, ln, .inr (.inr (.inr (.inr (va_up (fun q => (f q).map (xad bs)) j.toNatClampNeg (some (xad bs v)))))))) ) H1 → va_D (xA bs) ((xws bs tc h n).set (k - 3) (xad bs k, .inl (tc t, ln, .inr (.inr (.inr (.inr (va_up (fun q => (f q).map (xad bs)) j.toNatClampNeg (some (xad bs v)))))))) ) → va_S (xA bs) H H1 locs1 → W p l e0 R s m args below meth c H1 locs1 cells slots Q (F0 m (pc + 1) lsA (r.map (xvm bs))) := by
    intro H1 locs1 g1 g2 g3
    refine xsz fun hle => ?_
    rw [← hup] at g1
    obtain ⟨y1, y2⟩ := xstore (c1 := .inl (t, ln, .inr (va_up f j.toNatClampNeg (some v)))) hH hS hz h3 hn g1 g3 hle
    exact kk H1 locs1 lsA (hro.put h3) y1 y2 hl hz
  rcases (Bool.or_eq_true _ _ ▸ hb1 : _ ∨ _) with hb2 | hb2
  · obtain ⟨q1, q2⟩ := (Bool.and_eq_true _ _ ▸ hb2 : _ ∧ _)
    have e1 : t = 3 := Nat.eq_of_beq_eq_true q1
    have e2 : ci = 2 := Nat.eq_of_beq_eq_true q2
    subst e1; subst e2
    obtain ⟨v3, vn, ve⟩ := xobj hro hH hv (by omega)
    exact va_astq (r := (RX3, TX3, 9)) hx hb hcx.1 hH.2.2.1 xws_D (xS_self hS) (k - 3) 3 (v - 3) 2 he rfl ve rfl hj hdg hkk
  · obtain ⟨q1, q2⟩ := (Bool.and_eq_true _ _ ▸ hb2 : _ ∧ _)
    have e1 : t = 4 := Nat.eq_of_beq_eq_true q1
    have e2 : ci = 0 := Nat.eq_of_beq_eq_true q2
    subst e1; subst e2
    obtain ⟨v3, vn, ve⟩ := xobj hro hH hv (by omega)
    exact va_astq (r := (RX0, TX0, 7)) hx hb hcx.1 hH.2.2.1 xws_D (xS_self hS) (k - 3) 4 (v - 3) 0 he rfl ve rfl hj hdg hkk
theorem xs_arraylength (X : xPre p R s m args meth c H locs cells slots D bs tc i d ls h n lsA kc ks) (hdg : decode (xMt i).2.1 pc = .ok (.arraylength, len)) (hci : xchi i pc (.arraylength, len, r1, r2, v0, ps) = true) (hs : xstp d (.arraylength, len, r1, r2, v0, ps) pc ls st h n = some (pc1, ls1, st1, h1, n1, kc, ks))
    (kk : xKk p l e0 R s m args below meth c cells slots Q D bs tc i pc1 ls1 st1 h1 n1 kc ks) : W p l e0 R s m args below meth c H locs cells slots Q (F0 m pc lsA (st.map (xvm bs))) := by
  obtain ⟨⟨hx, hb, hml, hown, hts, hin, hcx, hbs⟩, hro, hH, hS, hl, ⟨hd1, hd2⟩, hc, hk2, hz⟩ := X
  have hlen : len = 1 := Nat.eq_of_beq_eq_true hci
  subst hlen
  obtain ⟨k, r, rfl, hs⟩ := xpR_some hs
  obtain ⟨t, ln, f, hk, hs⟩ := xcN_some hs
  obtain ⟨ht0, hs⟩ := xgd_some hs
  have ht : t ≤ 4 := Nat.le_of_ble_eq_true ht0
  obtain ⟨rfl, rfl, rfl, rfl, rfl, rfl, rfl⟩ := xgo_some hs
  rcases Nat.lt_or_ge k 3 with hlt | h3
  · obtain ⟨len2, f2, e1, e2, e3⟩ := hro k hlt
    rw [hk] at e1
    injection e1 with e1
    injection e1 with _ e1
    injection e1 with ea eb
    subst ea
    have ea : xad bs k = bs k := if_pos hlt
    show W p l e0 R s m args below meth c H locs cells slots Q (F0 m pc lsA (.ref (xad bs k) :: r.map (xvm bs)))
    rw [ea]
    exact va_slen hx hb e2 (Nat.lt_of_lt_of_le e3 hbs) (Nat.not_le.mpr e3) hS hdg (kk H locs lsA hro hH hS hl hz)
  · obtain ⟨q, hq⟩ : ∃ q, (xtys tc)[t]? = some (tc t, q) := by
      match t, ht with
      | 0, _ => exact ⟨_, rfl⟩
      | 1, _ => exact ⟨_, rfl⟩
      | 2, _ => exact ⟨_, rfl⟩
      | 3, _ => exact ⟨_, rfl⟩
      | 4, _ => exact ⟨_, rfl⟩
    rcases f with f | f
    · obtain ⟨hn, he⟩ := xarr hH hk h3
      exact va_alen hx hb hcx.1 hH.2.2.1 (k - 3) t he hq rfl hdg (kk H locs lsA hro hH hS hl hz)
    · obtain ⟨h3, hn, he⟩ := xarq hro hH hk
      exact va_alen hx hb hcx.1 hH.2.2.1 (k - 3) t he hq rfl hdg (kk H locs lsA hro hH hS hl hz)
theorem xs_new (q : Nat) (X : xPre p R s m args meth c H locs cells slots D bs tc i d ls h n lsA kc ks) (hdg : decode (xMt i).2.1 pc = .ok (.new q, len)) (hci : xchi i pc (.new q, len, r1, r2, v0, ps) = true) (hs : xstp d (.new q, len, r1, r2, v0, ps) pc ls st h n = some (pc1, ls1, st1, h1, n1, kc, ks))
    (kk : xKk p l e0 R s m args below meth c cells slots Q D bs tc i pc1 ls1 st1 h1 n1 kc ks) : W p l e0 R s m args below meth c H locs cells slots Q (F0 m pc lsA (st.map (xvm bs))) := by
  obtain ⟨⟨hx, hb, hml, hown, hts, hin, hcx, hbs⟩, hro, hH, hS, hl, ⟨hd1, hd2⟩, hc, hk2, hz⟩ := X
  have hci0 := (Bool.and_eq_true _ _ ▸ hci : _ ∧ _)
  obtain ⟨hlen0, hci2⟩ := hci0
  have hlen : len = 3 := Nat.eq_of_beq_eq_true hlen0
  subst hlen
  split at hci2
  · next C T N hcl =>
    obtain ⟨g1, g2⟩ := (Bool.and_eq_true _ _ ▸ hci2 : _ ∧ _)
    obtain ⟨g2, g3⟩ := (Bool.and_eq_true _ _ ▸ g2 : _ ∧ _)
    obtain ⟨w1, w2, w3, w4, w5, w6, w7⟩ := xcl_ok hcl
    injection hs with hs
    injection hs with a1 hs
    injection hs with a2 hs
    injection hs with a3 hs
    injection hs with a4 hs
    injection hs with a5 hs
    injection hs with a6 a7
    subst a1; subst a2; subst a3; subst a4; subst a5; subst a6
    have a8 : N = ks := by rw [← w7]; exact a7
    subst a8
    refine va_new (fs := (xdef r1).map (fun v => v)) hx hb hts w1 _ w3 hown (hts _ (xw_mem g1)) (hts _ (xw_mem g2)) (hts _ (xw_mem g3)) hcx.1 hH.2.2.1 xws_D (xS_self hS) (fun q hq => Nat.le_trans (by have e1 := hH.2.2.2; show bs 3 ≤ H.size; omega) hq) hcl w5 hc hk2 hdg (fun q H1 f1 f2 f3 => xsz fun hle => ?_)
    rw [← xdef_vm bs] at f1 f2
    obtain ⟨y1, y2, y3⟩ := xnew (c1 := .inr (r1, xdef r1)) hH hS hz f1 f2 f3 hle
    subst y1
    exact kk H1 locs lsA (hro.put hH.1) y2 y3 hl (by have := hH.1; omega)
  · cases hci2
theorem xs_newarray (q : ArrayType) (X : xPre p R s m args meth c H locs cells slots D bs tc i d ls h n lsA kc ks) (hdg : decode (xMt i).2.1 pc = .ok (.newarray q, len)) (hci : xchi i pc (.newarray q, len, r1, r2, v0, ps) = true) (hs : xstp d (.newarray q, len, r1, r2, v0, ps) pc ls st h n = some (pc1, ls1, st1, h1, n1, kc, ks))
    (kk : xKk p l e0 R s m args below meth c cells slots Q D bs tc i pc1 ls1 st1 h1 n1 kc ks) : W p l e0 R s m args below meth c H locs cells slots Q (F0 m pc lsA (st.map (xvm bs))) := by
  obtain ⟨⟨hx, hb, hml, hown, hts, hin, hcx, hbs⟩, hro, hH, hS, hl, ⟨hd1, hd2⟩, hc, hk2, hz⟩ := X
  have hci0 := (Bool.and_eq_true _ _ ▸ hci : _ ∧ _)
  obtain ⟨hlen0, hci2⟩ := hci0
  have hlen : len = 2 := Nat.eq_of_beq_eq_true hlen0
  subst hlen
  obtain ⟨x, r, rfl, hs⟩ := xpI_some hs
  obtain ⟨hx0, hs⟩ := xgp_some hs
  obtain ⟨hle0, hs⟩ := xgd_some hs
  have hle1 : x.toNatClampNeg ≤ 65536 := Nat.le_of_ble_eq_true hle0
  injection hs with hs
  injection hs with a1 hs
  injection hs with a2 hs
  injection hs with a3 hs
  injection hs with a4 hs
  injection hs with a5 hs
  injection hs with a6 a7
  subst a1; subst a2; subst a3; subst a4; subst a5; subst a6; subst a7
  obtain ⟨hg1, hg2⟩ := (Bool.and_eq_true _ _ ▸ hci2 : _ ∧ _)
  cases q
  case int =>
    have e1 : r1 = 0 := Nat.eq_of_beq_eq_true hg2
    subst e1
    refine va_newa (atype := .int) (a0 := (x.toNatClampNeg, .inl (fun _ => 0))) hx hb (hts _ (xw_mem hg1)) rfl hcx.1 hH.2.2.1 xws_D (xS_self hS) (fun q hq => Nat.le_trans (by have e1 := hH.2.2.2; show bs 3 ≤ H.size; omega) hq) (fun cA => rfl) hx0 rfl (by show x.toNatClampNeg * 4 ≤ 536870912; omega) hc hk2 hdg (fun q cA H1 f0 f1 f2 f3 => xsz fun hle => ?_)
    have hcA : cA = tc 0 := by
      have g1 := (f0.2 5 (cA, .int) rfl).2
      have g2 := (hcx.1.2 0 (tc 0, .int) rfl).2
      exact Option.some.inj (g1.symm.trans g2)
    subst hcA
    obtain ⟨y1, y2, y3⟩ := xnew (c1 := .inl (0, x.toNatClampNeg, .inl (fun _ => 0))) hH hS hz f1 f2 f3 hle
    subst y1
    exact kk H1 locs lsA (hro.put hH.1) y2 y3 hl (by have := hH.1; omega)
  case boolean =>
    have e1 : r1 = 1 := Nat.eq_of_beq_eq_true hg2
    subst e1
    refine va_newa (atype := .boolean) (a0 := (x.toNatClampNeg, .inl (fun _ => 0))) hx hb (hts _ (xw_mem hg1)) rfl hcx.1 hH.2.2.1 xws_D (xS_self hS) (fun q hq => Nat.le_trans (by have e1 := hH.2.2.2; show bs 3 ≤ H.size; omega) hq) (fun cA => rfl) hx0 rfl (by show x.toNatClampNeg * 1 ≤ 536870912; omega) hc hk2 hdg (fun q cA H1 f0 f1 f2 f3 => xsz fun hle => ?_)
    have hcA : cA = tc 1 := by
      have g1 := (f0.2 5 (cA, .boolean) rfl).2
      have g2 := (hcx.1.2 1 (tc 1, .boolean) rfl).2
      exact Option.some.inj (g1.symm.trans g2)
    subst hcA
    obtain ⟨y1, y2, y3⟩ := xnew (c1 := .inl (1, x.toNatClampNeg, .inl (fun _ => 0))) hH hS hz f1 f2 f3 hle
    subst y1
    exact kk H1 locs lsA (hro.put hH.1) y2 y3 hl (by have := hH.1; omega)
  case char =>
    have e1 : r1 = 2 := Nat.eq_of_beq_eq_true hg2
    subst e1
    refine va_newa (atype := .char) (a0 := (x.toNatClampNeg, .inl (fun _ => 0))) hx hb (hts _ (xw_mem hg1)) rfl hcx.1 hH.2.2.1 xws_D (xS_self hS) (fun q hq => Nat.le_trans (by have e1 := hH.2.2.2; show bs 3 ≤ H.size; omega) hq) (fun cA => rfl) hx0 rfl (by show x.toNatClampNeg * 2 ≤ 536870912; omega) hc hk2 hdg (fun q cA H1 f0 f1 f2 f3 => xsz fun hle => ?_)
    have hcA : cA = tc 2 := by
      have g1 := (f0.2 5 (cA, .char) rfl).2
      have g2 := (hcx.1.2 2 (tc 2, .char) rfl).2
      exact Option.some.inj (g1.symm.trans g2)
    subst hcA
    obtain ⟨y1, y2, y3⟩ := xnew (c1 := .inl (2, x.toNatClampNeg, .inl (fun _ => 0))) hH hS hz f1 f2 f3 hle
    subst y1
    exact kk H1 locs lsA (hro.put hH.1) y2 y3 hl (by have := hH.1; omega)
  all_goals cases hg2
theorem xs_anewarray (q : Nat) (X : xPre p R s m args meth c H locs cells slots D bs tc i d ls h n lsA kc ks) (hdg : decode (xMt i).2.1 pc = .ok (.anewarray q, len)) (hci : xchi i pc (.anewarray q, len, r1, r2, v0, ps) = true) (hs : xstp d (.anewarray q, len, r1, r2, v0, ps) pc ls st h n = some (pc1, ls1, st1, h1, n1, kc, ks))
    (kk : xKk p l e0 R s m args below meth c cells slots Q D bs tc i pc1 ls1 st1 h1 n1 kc ks) : W p l e0 R s m args below meth c H locs cells slots Q (F0 m pc lsA (st.map (xvm bs))) := by
  obtain ⟨⟨hx, hb, hml, hown, hts, hin, hcx, hbs⟩, hro, hH, hS, hl, ⟨hd1, hd2⟩, hc, hk2, hz⟩ := X
  have hci0 := (Bool.and_eq_true _ _ ▸ hci : _ ∧ _)
  obtain ⟨hlen0, hci2⟩ := hci0
  have hlen : len = 3 := Nat.eq_of_beq_eq_true hlen0
  subst hlen
  obtain ⟨x, r, rfl, hs⟩ := xpI_some hs
  obtain ⟨hx0, hs⟩ := xgp_some hs
  obtain ⟨hle0, hs⟩ := xgd_some hs
  have hle1 : x.toNatClampNeg ≤ 65536 := Nat.le_of_ble_eq_true hle0
  injection hs with hs
  injection hs with a1 hs
  injection hs with a2 hs
  injection hs with a3 hs
  injection hs with a4 hs
  injection hs with a5 hs
  injection hs with a6 a7
  subst a1; subst a2; subst a3; subst a4; subst a5; subst a6; subst a7
  rcases (Bool.or_eq_true _ _ ▸ hci2 : _ ∨ _) with hg | hg
  · obtain ⟨hg1, hg2⟩ := (Bool.and_eq_true _ _ ▸ hg : _ ∧ _)
    have e1 : r1 = 3 := Nat.eq_of_beq_eq_true hg1
    subst e1
    refine va_newq (C := "BraidHorns$Track") hx hb hown (hts _ (xw_mem hg2)) hcx.2.2.2.1 hcx.1 hH.2.2.1 xws_D (xS_self hS) (fun q hq => Nat.le_trans (by have e1 := hH.2.2.2; show bs 3 ≤ H.size; omega) hq) hx0 rfl (by omega) hc hk2 hdg (fun q cA H1 f0 f1 f2 f3 => xsz fun hle => ?_)
    have hcA : cA = tc 3 := by
      obtain ⟨_, _, _, _, _, g1⟩ := (f0.2 5 (cA, .object "BraidHorns$Track") rfl).2
      obtain ⟨_, _, _, _, _, g2⟩ := (hcx.1.2 3 (tc 3, .object "BraidHorns$Track") rfl).2
      exact Option.some.inj (g1.symm.trans g2)
    subst hcA
    obtain ⟨y1, y2, y3⟩ := xnew (c1 := .inl (3, x.toNatClampNeg, .inr (fun _ => none))) hH hS hz f1 f2 f3 hle
    subst y1
    exact kk H1 locs lsA (hro.put hH.1) y2 y3 hl (by have := hH.1; omega)
  · obtain ⟨hg1, hg2⟩ := (Bool.and_eq_true _ _ ▸ hg : _ ∧ _)
    have e1 : r1 = 4 := Nat.eq_of_beq_eq_true hg1
    subst e1
    refine va_newq (C := "BraidHorns$Carrier") hx hb hown (hts _ (xw_mem hg2)) hcx.2.2.2.2.1 hcx.1 hH.2.2.1 xws_D (xS_self hS) (fun q hq => Nat.le_trans (by have e1 := hH.2.2.2; show bs 3 ≤ H.size; omega) hq) hx0 rfl (by omega) hc hk2 hdg (fun q cA H1 f0 f1 f2 f3 => xsz fun hle => ?_)
    have hcA : cA = tc 4 := by
      obtain ⟨_, _, _, _, _, g1⟩ := (f0.2 5 (cA, .object "BraidHorns$Carrier") rfl).2
      obtain ⟨_, _, _, _, _, g2⟩ := (hcx.1.2 4 (tc 4, .object "BraidHorns$Carrier") rfl).2
      exact Option.some.inj (g1.symm.trans g2)
    subst hcA
    obtain ⟨y1, y2, y3⟩ := xnew (c1 := .inl (4, x.toNatClampNeg, .inr (fun _ => none))) hH hS hz f1 f2 f3 hle
    subst y1
    exact kk H1 locs lsA (hro.put hH.1) y2 y3 hl (by have := hH.1; omega)
theorem xs_invokespecial (q : Nat) (X : xPre p R s m args meth c H locs cells slots D bs tc i d ls h n lsA kc ks) (hdg : decode (xMt i).2.1 pc = .ok (.invokespecial q, len)) (hci : xchi i pc (.invokespecial q, len, r1, r2, v0, ps) = true) (hs : xstp d (.invokespecial q, len, r1, r2, v0, ps) pc ls st h n = some (pc1, ls1, st1, h1, n1, kc, ks))
    (kk : xKk p l e0 R s m args below meth c cells slots Q D bs tc i pc1 ls1 st1 h1 n1 kc ks) : W p l e0 R s m args below meth c H locs cells slots Q (F0 m pc lsA (st.map (xvm bs))) := by
  obtain ⟨⟨hx, hb, hml, hown, hts, hin, hcx, hbs⟩, hro, hH, hS, hl, ⟨hd1, hd2⟩, hc, hk2, hz⟩ := X
  have hci0 := (Bool.and_eq_true _ _ ▸ hci : _ ∧ _)
  obtain ⟨hlen0, hci2⟩ := hci0
  have hlen : len = 3 := Nat.eq_of_beq_eq_true hlen0
  subst hlen
  obtain ⟨hb1, hs9⟩ := xgd_some hs
  have hb2 : r1 = 1000 := Nat.eq_of_beq_eq_true hb1
  clear hs hb1
  subst hb2
  obtain ⟨k, r, rfl, hs⟩ := xpR_some hs9
  obtain ⟨hw8, hs⟩ := xgd_some hs
  obtain ⟨hd0, hs⟩ := xgd_some hs
  have hw9 : xcw r ≤ 8 := Nat.le_of_ble_eq_true hw8
  have hd9 : 1 ≤ d := Nat.le_of_ble_eq_true hd0
  obtain ⟨rfl, rfl, rfl, rfl, rfl, rfl, rfl⟩ := xgo_some hs
  have hci3 : (xw (ps.getD 0 0) (.methodLink (xMt i).1.cls q objectInit) && (xw (ps.getD 1 0) (.instanceMethod objectInit) && xw (ps.getD 2 0) (.code objectInit ⟨#[0xb1]⟩ 1 none))) = true := hci2
  obtain ⟨g1, g2⟩ := (Bool.and_eq_true _ _ ▸ hci3 : _ ∧ _)
  obtain ⟨g2, g3⟩ := (Bool.and_eq_true _ _ ▸ g2 : _ ∧ _)
  refine W.objInit (a := xad bs k) (rest := r.map (xvm bs)) hx hb hown (hts _ (xw_mem g1)) (hts _ (xw_mem g2)) (hts _ (xw_mem g3)) rfl (by rw [hml]; exact hl.1) rfl hdg (by omega) (by rw [xcw_map]; show 2 * 0 + _ + 12 ≤ _; omega) ?_
  exact kk H locs lsA hro hH hS hl hz
theorem xs_invokestatic (q : Nat) (X : xPre p R s m args meth c H locs cells slots D bs tc i d ls h n lsA kc ks) (hdg : decode (xMt i).2.1 pc = .ok (.invokestatic q, len)) (hci : xchi i pc (.invokestatic q, len, r1, r2, v0, ps) = true) (hs : xstp d (.invokestatic q, len, r1, r2, v0, ps) pc ls st h n = some (pc1, ls1, st1, h1, n1, kc, ks))
    (kk : xKk p l e0 R s m args below meth c cells slots Q D bs tc i pc1 ls1 st1 h1 n1 kc ks) : W p l e0 R s m args below meth c H locs cells slots Q (F0 m pc lsA (st.map (xvm bs))) := by
  obtain ⟨⟨hx, hb, hml, hown, hts, hin, hcx, hbs⟩, hro, hH, hS, hl, ⟨hd1, hd2⟩, hc, hk2, hz⟩ := X
  have hci0 := (Bool.and_eq_true _ _ ▸ hci : _ ∧ _)
  obtain ⟨hlen0, hci2⟩ := hci0
  have hlen : len = 3 := Nat.eq_of_beq_eq_true hlen0
  subst hlen
  cases hm : Nat.beq r1 1002
  case true =>
    have hs2 : (cond (Nat.beq r1 1002) (xpI st fun y r => xpI r fun x r => xgd (Nat.ble (xcw r) 8 && Nat.ble 1 d) (xgo (pc + 3) ls (.int (if y < x then y else x) :: r) h n)) _ : Option xRs) = some (pc1, ls1, st1, h1, n1, kc, ks) := hs
    rw [hm] at hs2
    clear hs
    have hm2 : r1 = 1002 := Nat.eq_of_beq_eq_true hm
    clear hm
    subst hm2
    obtain ⟨y, r, rfl, hs⟩ := xpI_some hs2
    clear hs2
    obtain ⟨x, r, rfl, hs⟩ := xpI_some hs
    obtain ⟨hb1, hs⟩ := xgd_some hs
    obtain ⟨hb2, hb3⟩ := (Bool.and_eq_true _ _ ▸ hb1 : _ ∧ _)
    have hw9 : xcw r ≤ 8 := Nat.le_of_ble_eq_true hb2
    have hd9 : 1 ≤ d := Nat.le_of_ble_eq_true hb3
    obtain ⟨rfl, rfl, rfl, rfl, rfl, rfl, rfl⟩ := xgo_some hs
    have hci3 : (xw (ps.getD 0 0) (.methodLink (xMt i).1.cls q Lib.Math.min.name) && (xw (ps.getD 1 0) (.static Lib.Math.min.name) && (xw (ps.getD 2 0) (.initialized "java/lang/Math") && xw (ps.getD 3 0) (.code Lib.Math.min.name Lib.Math.min.code 2 (some .int))))) = true := hci2
    obtain ⟨g1, g2⟩ := (Bool.and_eq_true _ _ ▸ hci3 : _ ∧ _)
    obtain ⟨g2, g3⟩ := (Bool.and_eq_true _ _ ▸ g2 : _ ∧ _)
    obtain ⟨g3, g4⟩ := (Bool.and_eq_true _ _ ▸ g3 : _ ∧ _)
    exact va_mmin hx hb (by rw [hml]; exact hl.1.symm) hown (hts _ (xw_mem g1)) (hts _ (xw_mem g2)) (hts _ (xw_mem g3)) (hts _ (xw_mem g4)) (by omega) (by rw [xcw_map]; omega) (by omega) (by omega) hdg (kk H locs lsA hro hH hS hl hz)
  case false =>
    have hs2 : (cond (Nat.beq r1 1002) _ (xgd (Nat.beq r1 1001) (xpI st fun m r => xpI r fun dp r => xpR r fun k1 r => xpI r fun sp r => xpR r fun k0 r => xcI (h k0) fun t0 n0 f => xcI (h k1) fun t1 n1 g =>
      xgd (Nat.ble 3 k0 && (Nat.ble 3 k1 && (Nat.beq t0 0 && (Nat.beq t1 0 && (Nat.ble (xcw r) 8 && Nat.ble 1 d))))) (xgp (¬ sp < 0 ∧ ¬ dp < 0 ∧ ¬ m < 0 ∧ sp.toNatClampNeg + m.toNatClampNeg ≤ n0 ∧ dp.toNatClampNeg + m.toNatClampNeg ≤ n1) (xgo (pc + 3) ls r (xup h k1 (.inl (0, n1, .inl (va_cpy f g sp.toNatClampNeg dp.toNatClampNeg m.toNatClampNeg)))) n)))) : Option xRs) = some (pc1, ls1, st1, h1, n1, kc, ks) := hs
    rw [hm] at hs2
    clear hs
    obtain ⟨hb1, hs⟩ := xgd_some hs2
    clear hs2 hm
    have hm2 : r1 = 1001 := Nat.eq_of_beq_eq_true hb1
    clear hb1
    subst hm2
    obtain ⟨x, r, rfl, hsa⟩ := xpI_some hs
    obtain ⟨dp, r, rfl, hsb⟩ := xpI_some hsa
    obtain ⟨k1, r, rfl, hsc⟩ := xpR_some hsb
    obtain ⟨sp, r, rfl, hsd⟩ := xpI_some hsc
    obtain ⟨k0, r, rfl, hse⟩ := xpR_some hsd
    obtain ⟨t0, n0, f, hk0, hsf⟩ := xcI_some hse
    obtain ⟨t1, n9, g, hk1, hsg⟩ := xcI_some hsf
    obtain ⟨hb, hs9⟩ := xgd_some hsg
    clear hs hsa hsb hsc hsd hse hsf hsg
    simp only [Bool.and_eq_true] at hb
    obtain ⟨b1, b2, b3, b4, b5, b6⟩ := hb
    have c1 : 3 ≤ k0 := Nat.le_of_ble_eq_true b1
    have c2 : 3 ≤ k1 := Nat.le_of_ble_eq_true b2
    have c3 : t0 = 0 := Nat.eq_of_beq_eq_true b3
    have c4 : t1 = 0 := Nat.eq_of_beq_eq_true b4
    have c5 : xcw r ≤ 8 := Nat.le_of_ble_eq_true b5
    have c6 : 1 ≤ d := Nat.le_of_ble_eq_true b6
    subst c3; subst c4
    obtain ⟨⟨p1, p2, p3, p4, p5⟩, hs⟩ := xgp_some hs9
    obtain ⟨rfl, rfl, rfl, rfl, rfl, rfl, rfl⟩ := xgo_some hs
    have hci3 : (xw (ps.getD 0 0) (.methodLink (xMt i).1.cls q arraycopyName) && (xw (ps.getD 1 0) (.native arraycopyName) && (xw (ps.getD 2 0) (.static arraycopyName) && xw (ps.getD 3 0) (.initialized "java/lang/System")))) = true := hci2
    obtain ⟨g1, g2⟩ := (Bool.and_eq_true _ _ ▸ hci3 : _ ∧ _)
    obtain ⟨g2, g3⟩ := (Bool.and_eq_true _ _ ▸ g2 : _ ∧ _)
    obtain ⟨g3, g4⟩ := (Bool.and_eq_true _ _ ▸ g3 : _ ∧ _)
    obtain ⟨hn0, he0⟩ := xarr hH hk0 c1
    obtain ⟨hn1, he1⟩ := xarr hH hk1 c2
    refine va_copyi (ty := .int) hx (by assumption) (by rw [hml]; exact hl.1.symm) hown (hts _ (xw_mem g1)) (hts _ (xw_mem g2)) (hts _ (xw_mem g3)) (hts _ (xw_mem g4)) hcx.1 hH.2.2.1 xws_D (xS_self hS) (k0 - 3) (k1 - 3) 0 0 he0 he1 rfl rfl rfl p1 p2 p3 p4 p5 (fun _ _ => rfl) (by omega) (by rw [xcw_map]; show _ + ((5 + 2) + 11) ≤ _; omega) hdg (fun H1 locs1 f1 f2 f3 => xsz fun hle => ?_)
    obtain ⟨y1, y2⟩ := xstore (c1 := .inl (0, n9, .inl (va_cpy f g sp.toNatClampNeg dp.toNatClampNeg x.toNatClampNeg))) hH hS hz c2 hn1 f1 f3 hle
    exact kk H1 locs1 lsA (hro.put c2) y1 y2 hl hz
end XSTEP

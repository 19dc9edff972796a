/-! the world: a heap of numbered cells laid over the machine's heap -/
def xad (bs : Nat → Nat) (k : Nat) : Nat := if k < 3 then bs k else bs 3 + (k - 3)
def xvm (bs : Nat → Nat) (v : Value) : Value := match v with
  | .ref k => .ref (xad bs k)
  | .int x => .int x
  | .long x => .long x
  | .float x => .float x
  | .double x => .double x
  | .null => .null
  | .retAddr x => .retAddr x
def xent (bs : Nat → Nat) (tc : Nat → ClassId) (c : xLC) : va_E := match c with
  | .inl (t, len, .inl f) => .inl (tc t, len, .inl f)
  | .inl (t, len, .inr f) => .inl (tc t, len, .inr (.inr (.inr (.inr (fun j => (f j).map (xad bs))))))
  | .inr (ci, fs) => .inr (ci, fs.map (xvm bs))
def xws (bs : Nat → Nat) (tc : Nat → ClassId) (h : xHp) (n : Nat) : va_W := (List.range (n - 3)).map (fun j => (xad bs (j + 3), xent bs tc (h (j + 3))))
def xtys (tc : Nat → ClassId) : List (ClassId × FieldType) := [(tc 0, .int), (tc 1, .boolean), (tc 2, .char), (tc 3, .object "BraidHorns$Track"), (tc 4, .object "BraidHorns$Carrier")]
def xA (bs : Nat → Nat) : Nat → Prop := fun q => bs 3 ≤ q
def xlm (bs : Nat → Nat) (ls : xLs) : xLs := ls.map (fun q => (q.1, xvm bs q.2))
theorem xvm_cat (bs : Nat → Nat) (v : Value) : (xvm bs v).category = v.category := by cases v <;> rfl
theorem xws_get {bs : Nat → Nat} {tc : Nat → ClassId} {h : xHp} {n k : Nat} (h3 : 3 ≤ k) (hn : k < n) : (xws bs tc h n)[k - 3]? = some (xad bs k, xent bs tc (h k)) := by
  have e : k - 3 + 3 = k := by omega
  unfold xws
  rw [List.getElem?_map, List.getElem?_range (by omega)]
  simp only [Option.map_some, e]
theorem xws_len {bs : Nat → Nat} {tc : Nat → ClassId} {h : xHp} {n : Nat} : (xws bs tc h n).length = n - 3 := by simp [xws]
theorem xws_set {bs : Nat → Nat} {tc : Nat → ClassId} {h : xHp} {n k : Nat} (c : xLC) (h3 : 3 ≤ k) (hn : k < n) : (xws bs tc h n).set (k - 3) (xad bs k, xent bs tc c) = xws bs tc (xup h k c) n := by
  apply List.ext_getElem?
  intro j
  rw [List.getElem?_set, xws_len]
  by_cases hj : j < n - 3
  · have e1 := xws_get (bs := bs) (tc := tc) (h := h) (n := n) (k := j + 3) (by omega) (by omega)
    have e2 := xws_get (bs := bs) (tc := tc) (h := xup h k c) (n := n) (k := j + 3) (by omega) (by omega)
    have e3 : j + 3 - 3 = j := by omega
    rw [e3] at e1 e2
    rw [e1, e2]
    by_cases hq : k - 3 = j
    · have hk : j + 3 = k := by omega
      rw [if_pos hq, if_pos (by omega), hk]
      simp [xup]
    · rw [if_neg hq]
      have hk : ¬ j + 3 = k := by omega
      simp [xup, hk]
  · have l1 : (xws bs tc h n)[j]? = none := List.getElem?_eq_none (by rw [xws_len]; omega)
    have l2 : (xws bs tc (xup h k c) n)[j]? = none := List.getElem?_eq_none (by rw [xws_len]; omega)
    rw [l1, l2, if_neg (by omega)]
theorem xws_push {bs : Nat → Nat} {tc : Nat → ClassId} {h : xHp} {n : Nat} (c : xLC) (h3 : 3 ≤ n) : xws bs tc h n ++ [(bs 3 + (n - 3), xent bs tc c)] = xws bs tc (xup h n c) (n + 1) := by
  have e : n + 1 - 3 = (n - 3) + 1 := by omega
  have e2 : n - 3 + 3 = n := by omega
  unfold xws
  rw [e, List.range_succ, List.map_append]
  congr 1
  · apply List.map_congr_left
    intro j hj
    have := List.mem_range.mp hj
    have hk : ¬ j + 3 = n := by omega
    simp [xup, hk]
  · simp only [List.map_cons, List.map_nil, e2]
    have hn : ¬ n < 3 := by omega
    simp [xup, xad, hn]
theorem xws_D {bs : Nat → Nat} {tc : Nat → ClassId} {h : xHp} {n : Nat} : va_D (xA bs) (xws bs tc h n) := by
  have key : ∀ (i : Nat) (p : Nat × va_E), (xws bs tc h n)[i]? = some p → p.1 = bs 3 + i := by
    intro i p hp
    have hi : i < n - 3 := by have := (List.getElem?_eq_some_iff.mp hp).1; rwa [xws_len] at this
    have e1 := xws_get (bs := bs) (tc := tc) (h := h) (n := n) (k := i + 3) (by omega) (by omega)
    have e3 : i + 3 - 3 = i := by omega
    rw [e3] at e1
    rw [e1] at hp
    cases hp
    show xad bs (i + 3) = bs 3 + i
    unfold xad
    rw [if_neg (by omega)]
    omega
  refine ⟨fun i j p q hi hj e => ?_, fun k q hk => ?_⟩
  · have := key i p hi
    have := key j q hj
    omega
  · have := key k q hk
    show bs 3 ≤ q.1
    omega
/-- the heap holds the numbered cells -/
def xHd (D : va_G) (bs : Nat → Nat) (tc : Nat → ClassId) (h : xHp) (n : Nat) (H : Heap) : Prop := 3 ≤ n ∧ (∀ k, n ≤ k → h k = xNo) ∧ va_P D xcl (xws bs tc h n) H ∧ H.size = bs 3 + (n - 3)
/-- the three cells that nobody writes: the script and two tables -/
def xRo (bs : Nat → Nat) (h : xHp) (U : State) (H : Heap) : Prop := ∀ k, k < 3 → ∃ (len : Nat) (f : Nat → Int32), h k = .inl (0, len, .inl f) ∧ va_X (bs k) len f U H ∧ bs k < bs 3
/-- what the machine says of its tables, the same all along -/
def xCx (D : va_G) (bs : Nat → Nat) (tc : Nat → ClassId) (U : State) (H : Heap) : Prop :=
  va_K D xcl (xtys tc) U ∧ va_Z "BraidHorns" "LOWEST" "[I" (.ref (bs 1)) (xA bs) U H ∧ va_Z "BraidHorns" "HIGHEST" "[I" (.ref (bs 2)) (xA bs) U H ∧ va_AO "BraidHorns$Track" U ∧ va_AO "BraidHorns$Carrier" U ∧
  va_Nw (.fieldLinkNest "BraidHorns$Track" 121 "BraidHorns" "LOWEST" "[I" "BraidHorns") U ∧ va_Nw (.fieldLinkNest "BraidHorns$Track" 95 "BraidHorns" "HIGHEST" "[I" "BraidHorns") U ∧ va_Nw (.methodLinkNest "BraidHorns$Track" 21 ⟨"BraidHorns$Carrier", "<init>", "()V"⟩ "BraidHorns") U
theorem xRo.moved {bs : Nat → Nat} {h : xHp} {u U : State} {H H1 : Heap} (hvm : u.vm.Alike U.vm) (hq : ∀ q, q < bs 3 → H1[q]? = H[q]?) (hr : xRo bs h u H) : xRo bs h U H1 := by
  intro k hk
  obtain ⟨len, f, h1, h2, h3⟩ := hr k hk
  exact ⟨len, f, h1, (h2.kept (hq _ h3)).moved hvm, h3⟩
theorem xCx.moved {D : va_G} {bs : Nat → Nat} {tc : Nat → ClassId} {u U : State} {H H1 : Heap} (hW : u.WarmedH U.vm) (hq : ∀ q, q < bs 3 → H1[q]? = H[q]?) (hc : xCx D bs tc u H) : xCx D bs tc U H1 := by
  obtain ⟨h1, h2, h3, h4, h5, h6, h7, h8⟩ := hc
  exact ⟨h1.moved hW.alike, (h2.kept (fun a _ ha => hq a (Nat.not_le.mp ha))).moved hW.alike, (h3.kept (fun a _ ha => hq a (Nat.not_le.mp ha))).moved hW.alike, h4.moved hW.alike, h5.moved hW.alike, h6.warmF hW, h7.warmF hW, h8.warmM hW⟩
theorem xHd.lt {D : va_G} {bs : Nat → Nat} {tc : Nat → ClassId} {h : xHp} {n : Nat} {H : Heap} (hh : xHd D bs tc h n H) {k : Nat} (hk : h k ≠ xNo) : k < n := Nat.not_le.mp fun q => hk (hh.2.1 k q)
/-- the write of a cell -/
theorem xHd.put {D : va_G} {bs : Nat → Nat} {tc : Nat → ClassId} {h : xHp} {n k : Nat} {H H1 : Heap} {c : xLC} (hh : xHd D bs tc h n H) (h3 : 3 ≤ k) (hn : k < n) (hP : va_P D xcl ((xws bs tc h n).set (k - 3) (xad bs k, xent bs tc c)) H1) (hz : H1.size = H.size) : xHd D bs tc (xup h k c) n H1 := by
  refine ⟨hh.1, fun j hj => ?_, by rw [← xws_set c h3 hn]; exact hP, by rw [hz]; exact hh.2.2.2⟩
  have hk : ¬ j = k := by omega
  simp only [xup, if_neg hk]
  exact hh.2.1 j hj
theorem xRo.put {bs : Nat → Nat} {h : xHp} {U : State} {H : Heap} {k : Nat} {c : xLC} (hr : xRo bs h U H) (h3 : 3 ≤ k) : xRo bs (xup h k c) U H := by
  intro j hj
  obtain ⟨len, f, h1, h2⟩ := hr j hj
  exact ⟨len, f, by simp only [xup, if_neg (show ¬ j = k by omega)]; exact h1, h2⟩
theorem xlm_ld {bs : Nat → Nat} {ls : xLs} {i : Nat} {v : Value} (h : xld ls i = some v) : (i, xvm bs v) ∈ xlm bs ls := by
  induction ls with
  | nil => cases h
  | cons q r ih =>
    unfold xld at h
    cases hb : Nat.beq q.1 i with
    | true =>
      rw [hb] at h
      have e : q.1 = i := Nat.eq_of_beq_eq_true hb
      have e2 : q.2 = v := Option.some.inj h
      unfold xlm
      rw [List.map_cons, e, e2]
      exact List.mem_cons_self
    | false =>
      rw [hb] at h
      exact List.mem_cons_of_mem _ (ih h)
theorem xlm_st1 {bs : Nat → Nat} {ls : xLs} {i : Nat} {v : Value} : (i, xvm bs v) :: (xlm bs ls).filter (fun q => !(q.1 == i) && !(q.1 + 1 == i && q.2.category == 2)) = xlm bs (xst1 ls i v) := by
  unfold xst1 xlm
  rw [List.map_cons, List.filter_map]
  congr 2
  apply List.filter_congr
  intro q _
  simp only [Function.comp, xvm_cat]
theorem xlm_st2 {bs : Nat → Nat} {ls : xLs} {i : Nat} {v : Value} : (i, xvm bs v) :: (xlm bs ls).filter (fun q => !(q.1 == i) && (!(q.1 == i + 1) && !(q.1 + 1 == i && q.2.category == 2))) = xlm bs (xst2 ls i v) := by
  unfold xst2 xlm
  rw [List.map_cons, List.filter_map]
  congr 2
  apply List.filter_congr
  intro q _
  simp only [Function.comp, xvm_cat]
theorem xlm_args {bs : Nat → Nat} (vs : List Value) : ∀ i, lv_args i (vs.map (xvm bs)) = xlm bs (lv_args i vs) := by
  induction vs with
  | nil => intro i; rfl
  | cons v vs ih =>
    intro i
    show (i, xvm bs v) :: lv_args (if (xvm bs v).category = 2 then i + 2 else i + 1) (vs.map (xvm bs)) = (i, xvm bs v) :: xlm bs (lv_args (if v.category = 2 then i + 2 else i + 1) vs)
    rw [xvm_cat, ih]
theorem xcw_map {bs : Nat → Nat} (st : List Value) : ((st.map (xvm bs)).map fun v => v.category).sum = xcw st := by
  unfold xcw
  rw [List.map_map]
  congr 1
  apply List.map_congr_left
  intro v _
  exact xvm_cat bs v
theorem xfit_vm {bs : Nat → Nat} (ty : FieldType) (v : Value) : fits ty (xvm bs v) = fits ty v := by cases v <;> cases ty <;> rfl
theorem xfit_nar {ty : FieldType} {x : Int32} (h : ty = .boolean ∨ ty = .int) (hf : fits ty (.int x) = true) : narrow ty (.int x) = .int x := by
  rcases h with rfl | rfl
  · have h2 : (x == 0 || x == 1) = true := hf
    simp only [Bool.or_eq_true, beq_iff_eq] at h2
    rcases h2 with rfl | rfl <;> decide
  · rfl

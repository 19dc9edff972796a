/-! fewer locals: a run with some of the locals is a run with all -/
def xnk (ls : xLs) : Prop := (ls.map (fun q => q.1)).Nodup
def xsub (a b : xLs) : Prop := ∀ i v, xld a i = some v → xld b i = some v
theorem xld_cons {q : Nat × Value} {ls : xLs} {i : Nat} : xld (q :: ls) i = cond (Nat.beq q.1 i) (some q.2) (xld ls i) := rfl
theorem xld_mem {ls : xLs} {i : Nat} {v : Value} (h : xld ls i = some v) : (i, v) ∈ ls := by
  induction ls with
  | nil => cases h
  | cons q r ih =>
    rw [xld_cons] at h
    cases hb : Nat.beq q.1 i with
    | true =>
      rw [hb] at h
      have e : q.1 = i := Nat.eq_of_beq_eq_true hb
      have e2 : q.2 = v := Option.some.inj h
      rw [← e, ← e2]
      exact List.mem_cons_self
    | false => rw [hb] at h; exact List.mem_cons_of_mem _ (ih h)
theorem xld_keep {p : Nat × Value → Bool} {ls : xLs} {i : Nat} {v : Value} (h : xld ls i = some v) (hp : p (i, v) = true) : xld (ls.filter p) i = some v := by
  induction ls with
  | nil => cases h
  | cons q r ih =>
    rw [xld_cons] at h
    cases hb : Nat.beq q.1 i with
    | true =>
      rw [hb] at h
      have e : q.1 = i := Nat.eq_of_beq_eq_true hb
      have e2 : q.2 = v := Option.some.inj h
      have eq : q = (i, v) := by rw [← e, ← e2]
      rw [eq, List.filter_cons_of_pos hp, xld_cons]
      show cond (Nat.beq i i) (some v) _ = some v
      rw [Nat.beq_refl]
      rfl
    | false =>
      rw [hb] at h
      cases hq : p q with
      | true =>
        rw [List.filter_cons_of_pos hq, xld_cons, hb]
        exact ih h
      | false =>
        rw [List.filter_cons_of_neg (by rw [hq]; decide)]
        exact ih h
theorem xld_from {p : Nat × Value → Bool} {ls : xLs} {i : Nat} {v : Value} (hn : xnk ls) (h : xld (ls.filter p) i = some v) : xld ls i = some v ∧ p (i, v) = true := by
  induction ls with
  | nil => cases h
  | cons q r ih =>
    have hn2 : q.1 ∉ r.map (fun q => q.1) ∧ xnk r := List.nodup_cons.mp hn
    cases hq : p q with
    | true =>
      rw [List.filter_cons_of_pos hq, xld_cons] at h
      rw [xld_cons]
      cases hb : Nat.beq q.1 i with
      | true =>
        rw [hb] at h
        have e : q.1 = i := Nat.eq_of_beq_eq_true hb
        have e2 : q.2 = v := Option.some.inj h
        refine ⟨h, ?_⟩
        rw [← e, ← e2]
        exact hq
      | false =>
        rw [hb] at h
        exact ih hn2.2 h
    | false =>
      rw [List.filter_cons_of_neg (by rw [hq]; decide)] at h
      have h2 := ih hn2.2 h
      rw [xld_cons]
      cases hb : Nat.beq q.1 i with
      | true =>
        have e : q.1 = i := Nat.eq_of_beq_eq_true hb
        exfalso
        apply hn2.1
        rw [e]
        exact List.mem_map.mpr ⟨(i, v), xld_mem h2.1, rfl⟩
      | false => exact h2
theorem xsub_st {p : Nat × Value → Bool} {a b : xLs} {i : Nat} {v : Value} (hn : xnk a) (hs : xsub a b) : xsub ((i, v) :: a.filter p) ((i, v) :: b.filter p) := by
  intro j w h
  rw [xld_cons] at h ⊢
  cases hb : Nat.beq (i, v).1 j with
  | true => rw [hb] at h; exact h
  | false =>
    rw [hb] at h
    obtain ⟨h1, h2⟩ := xld_from hn h
    exact xld_keep (hs _ _ h1) h2
theorem xnk_st {p : Nat × Value → Bool} {a : xLs} {i : Nat} {v : Value} (hn : xnk a) (hp : ∀ w, p (i, w) = false) : xnk ((i, v) :: a.filter p) := by
  refine List.nodup_cons.mpr ⟨fun hm => ?_, ?_⟩
  · obtain ⟨q, hq, he⟩ := List.mem_map.mp hm
    have h1 := (List.mem_filter.mp hq).2
    have he2 : q.1 = i := he
    have : q = (i, q.2) := by rw [← he2]
    rw [this, hp] at h1
    cases h1
  · exact List.Sublist.nodup (List.Sublist.map _ List.filter_sublist) hn
theorem xnk_st1 {a : xLs} {i : Nat} {v : Value} (hn : xnk a) : xnk (xst1 a i v) := xnk_st hn (fun w => by simp)
theorem xnk_st2 {a : xLs} {i : Nat} {v : Value} (hn : xnk a) : xnk (xst2 a i v) := xnk_st hn (fun w => by simp)
def xset (ls : xLs) (r : xRs) : xRs := (r.1, ls, r.2.2)
theorem xpI_map {st : List Value} {k : Int32 → List Value → Option xRs} {g : xRs → xRs} : (xpI st k).map g = xpI st (fun x r => (k x r).map g) := by unfold xpI; split <;> rfl
theorem xpL_map {st : List Value} {k : Int64 → List Value → Option xRs} {g : xRs → xRs} : (xpL st k).map g = xpL st (fun x r => (k x r).map g) := by unfold xpL; split <;> rfl
theorem xpR_map {st : List Value} {k : Nat → List Value → Option xRs} {g : xRs → xRs} : (xpR st k).map g = xpR st (fun x r => (k x r).map g) := by unfold xpR; split <;> rfl
theorem xpV_map {st : List Value} {k : Value → List Value → Option xRs} {g : xRs → xRs} : (xpV st k).map g = xpV st (fun x r => (k x r).map g) := by unfold xpV; split <;> rfl
theorem xgI_map {v : Option Value} {k : Int32 → Option xRs} {g : xRs → xRs} : (xgI v k).map g = xgI v (fun x => (k x).map g) := by unfold xgI; split <;> rfl
theorem xgL_map {v : Option Value} {k : Int64 → Option xRs} {g : xRs → xRs} : (xgL v k).map g = xgL v (fun x => (k x).map g) := by unfold xgL; split <;> rfl
theorem xgO_map {β : Type} {v : Option β} {k : β → Option xRs} {g : xRs → xRs} : (xgO v k).map g = xgO v (fun x => (k x).map g) := by unfold xgO; split <;> rfl
theorem xcI_map {c : xLC} {k : Nat → Nat → (Nat → Int32) → Option xRs} {g : xRs → xRs} : (xcI c k).map g = xcI c (fun t l f => (k t l f).map g) := by unfold xcI; split <;> rfl
theorem xcQ_map {c : xLC} {k : Nat → Nat → (Nat → Option Nat) → Option xRs} {g : xRs → xRs} : (xcQ c k).map g = xcQ c (fun t l f => (k t l f).map g) := by unfold xcQ; split <;> rfl
theorem xcO_map {c : xLC} {k : Nat → List Value → Option xRs} {g : xRs → xRs} : (xcO c k).map g = xcO c (fun t l => (k t l).map g) := by unfold xcO; split <;> rfl
theorem xcN_map {c : xLC} {k : Nat → Nat → Option xRs} {g : xRs → xRs} : (xcN c k).map g = xcN c (fun t l => (k t l).map g) := by unfold xcN; split <;> rfl
theorem xgd_map {b : Bool} {a : Option xRs} {g : xRs → xRs} : (xgd b a).map g = xgd b (a.map g) := by cases b <;> rfl
theorem xcond_map {b : Bool} {a c : Option xRs} {g : xRs → xRs} : (cond b a c).map g = cond b (a.map g) (c.map g) := by cases b <;> rfl
theorem xgp_map {c : Prop} [Decidable c] {a : Option xRs} {g : xRs → xRs} : (xgp c a).map g = xgp c (a.map g) := by unfold xgp; split <;> rfl
theorem xgo_map {pc : Nat} {ls ls' : xLs} {st : List Value} {h : xHp} {n : Nat} : (xgo pc ls' st h n).map (xset ls) = xgo pc ls st h n := rfl
def xloc (i : Instr) : Bool := match i with
  | .iload_n _ => true | .iload _ => true | .lload_n _ => true | .lload _ => true | .aload_n _ => true | .aload _ => true
  | .istore_n _ => true | .istore _ => true | .lstore_n _ => true | .lstore _ => true | .astore_n _ => true | .astore _ => true | .iinc _ _ => true | _ => false
theorem xstp_ls {d : Nat} {e : xEn} {pc : Nat} {ls ls' : xLs} {st : List Value} {h : xHp} {n : Nat} (hl : xloc e.1 = false) : (xstp d e pc ls' st h n).map (xset ls) = xstp d e pc ls st h n := by
  obtain ⟨ins, len, r1, r2, v0, ps⟩ := e
  cases ins <;> first | (simp only [xstp, xpI_map, xpL_map, xpR_map, xpV_map, xgI_map, xgL_map, xgO_map, xcI_map, xcQ_map, xcO_map, xcN_map, xgd_map, xcond_map, xgp_map, xgo_map, Option.map_some]; done) | (simp only [xstp, xpI_map, xpL_map, xpR_map, xpV_map, xgI_map, xgL_map, xgO_map, xcI_map, xcQ_map, xcO_map, xcN_map, xgd_map, xcond_map, xgp_map, xgo_map, Option.map_some]; rfl) | rfl | cases hl
theorem xstp_sub {d : Nat} {e : xEn} {pc : Nat} {ls0 ls : xLs} {st : List Value} {h : xHp} {n pc1 : Nat} {ls1 : xLs} {st1 : List Value} {h1 : xHp} {n1 kc ks : Nat} (hn : xnk ls0) (hsub : xsub ls0 ls) (hs : xstp d e pc ls0 st h n = some (pc1, ls1, st1, h1, n1, kc, ks)) : ∃ ls2, xstp d e pc ls st h n = some (pc1, ls2, st1, h1, n1, kc, ks) ∧ xsub ls1 ls2 ∧ xnk ls1 := by
  cases hl : xloc e.1 with
  | false =>
    have h1 := xstp_ls (d := d) (pc := pc) (ls := ls) (ls' := ls0) (st := st) (h := h) (n := n) hl
    have h2 := xstp_ls (d := d) (pc := pc) (ls := ls0) (ls' := ls0) (st := st) (h := h) (n := n) hl
    rw [hs] at h1 h2
    have e2 : ls0 = ls1 := by
      have h3 := Option.some.inj h2
      exact congrArg (fun r : xRs => r.2.1) h3
    subst e2
    exact ⟨ls, h1.symm, hsub, hn⟩
  | true =>
    obtain ⟨ins, len, r1, r2, v0, ps⟩ := e
    cases ins
    case iload_n w =>
      obtain ⟨x, hv, hs2⟩ := xgI_some (show xgI (xld ls0 w) _ = some _ from hs)
      clear hs
      obtain ⟨rfl, rfl, rfl, rfl, rfl, rfl, rfl⟩ := xgo_some hs2
      refine ⟨ls, ?_, hsub, hn⟩
      show xgI (xld ls w) _ = some _
      rw [hsub _ _ hv]
      rfl
    case iload w =>
      obtain ⟨x, hv, hs2⟩ := xgI_some (show xgI (xld ls0 w) _ = some _ from hs)
      clear hs
      obtain ⟨rfl, rfl, rfl, rfl, rfl, rfl, rfl⟩ := xgo_some hs2
      refine ⟨ls, ?_, hsub, hn⟩
      show xgI (xld ls w) _ = some _
      rw [hsub _ _ hv]
      rfl
    case lload_n w =>
      obtain ⟨x, hv, hs2⟩ := xgL_some (show xgL (xld ls0 w) _ = some _ from hs)
      clear hs
      obtain ⟨rfl, rfl, rfl, rfl, rfl, rfl, rfl⟩ := xgo_some hs2
      refine ⟨ls, ?_, hsub, hn⟩
      show xgL (xld ls w) _ = some _
      rw [hsub _ _ hv]
      rfl
    case lload w =>
      obtain ⟨x, hv, hs2⟩ := xgL_some (show xgL (xld ls0 w) _ = some _ from hs)
      clear hs
      obtain ⟨rfl, rfl, rfl, rfl, rfl, rfl, rfl⟩ := xgo_some hs2
      refine ⟨ls, ?_, hsub, hn⟩
      show xgL (xld ls w) _ = some _
      rw [hsub _ _ hv]
      rfl
    case aload_n w =>
      obtain ⟨x, hv, hs2⟩ := xgR_some (show xgR (xld ls0 w) _ = some _ from hs)
      clear hs
      obtain ⟨rfl, rfl, rfl, rfl, rfl, rfl, rfl⟩ := xgo_some hs2
      refine ⟨ls, ?_, hsub, hn⟩
      show xgR (xld ls w) _ = some _
      rw [hsub _ _ hv]
      rfl
    case aload w =>
      obtain ⟨x, hv, hs2⟩ := xgR_some (show xgR (xld ls0 w) _ = some _ from hs)
      clear hs
      obtain ⟨rfl, rfl, rfl, rfl, rfl, rfl, rfl⟩ := xgo_some hs2
      refine ⟨ls, ?_, hsub, hn⟩
      show xgR (xld ls w) _ = some _
      rw [hsub _ _ hv]
      rfl
    case istore_n w =>
      obtain ⟨x, r, rfl, hs2⟩ := xpI_some (show xpI st _ = some _ from hs)
      clear hs
      obtain ⟨rfl, rfl, rfl, rfl, rfl, rfl, rfl⟩ := xgo_some hs2
      exact ⟨_, rfl, xsub_st hn hsub, xnk_st1 hn⟩
    case istore w =>
      obtain ⟨x, r, rfl, hs2⟩ := xpI_some (show xpI st _ = some _ from hs)
      clear hs
      obtain ⟨rfl, rfl, rfl, rfl, rfl, rfl, rfl⟩ := xgo_some hs2
      exact ⟨_, rfl, xsub_st hn hsub, xnk_st1 hn⟩
    case lstore_n w =>
      obtain ⟨x, r, rfl, hs2⟩ := xpL_some (show xpL st _ = some _ from hs)
      clear hs
      obtain ⟨rfl, rfl, rfl, rfl, rfl, rfl, rfl⟩ := xgo_some hs2
      exact ⟨_, rfl, xsub_st hn hsub, xnk_st2 hn⟩
    case lstore w =>
      obtain ⟨x, r, rfl, hs2⟩ := xpL_some (show xpL st _ = some _ from hs)
      clear hs
      obtain ⟨rfl, rfl, rfl, rfl, rfl, rfl, rfl⟩ := xgo_some hs2
      exact ⟨_, rfl, xsub_st hn hsub, xnk_st2 hn⟩
    case astore_n w =>
      obtain ⟨x, r, rfl, hs2⟩ := xpR_some (show xpR st _ = some _ from hs)
      clear hs
      obtain ⟨rfl, rfl, rfl, rfl, rfl, rfl, rfl⟩ := xgo_some hs2
      exact ⟨_, rfl, xsub_st hn hsub, xnk_st1 hn⟩
    case astore w =>
      obtain ⟨x, r, rfl, hs2⟩ := xpR_some (show xpR st _ = some _ from hs)
      clear hs
      obtain ⟨rfl, rfl, rfl, rfl, rfl, rfl, rfl⟩ := xgo_some hs2
      exact ⟨_, rfl, xsub_st hn hsub, xnk_st1 hn⟩
    case iinc w w2 =>
      obtain ⟨x, hv, hs2⟩ := xgI_some (show xgI (xld ls0 w) _ = some _ from hs)
      clear hs
      obtain ⟨y, hy, hs3⟩ := xgI_some hs2
      clear hs2
      obtain ⟨rfl, rfl, rfl, rfl, rfl, rfl, rfl⟩ := xgo_some hs3
      refine ⟨xst1 ls w (.int (x + y)), ?_, xsub_st hn hsub, xnk_st1 hn⟩
      show xgI (xld ls w) _ = some _
      rw [hsub _ _ hv]
      have hy2 : v0 = .int y := Option.some.inj hy
      subst hy2
      rfl
    all_goals cases hl
theorem xex_sub : ∀ (f d i pc : Nat) (ls0 ls : xLs) (st : List Value) (h : xHp) (n : Nat) (r : xOut), xnk ls0 → xsub ls0 ls → xex f d i pc ls0 st h n = some r → xex f d i pc ls st h n = some r := by
  intro f
  induction f with
  | zero => intro d i pc ls0 ls st h n r hn hsub hr; cases hr
  | succ f ih =>
    intro d i pc ls0 ls st h n r hn hsub hr
    unfold xex at hr ⊢
    cases hfd : xfind i pc with
    | none => rw [hfd] at hr; cases hr
    | some e =>
      rw [hfd] at hr
      dsimp only at hr ⊢
      split at hr
      · exact hr
      · split at hr
        · cases hr
        · next j as r0 hc =>
          split at hr
          · cases hr
          · next d' =>
            split at hr
            · cases hr
            · next q9 sq9 v9 h9 n9 kc9 ks9 hsub9 =>
              obtain ⟨q, sq, v, h1, n1, a, b⟩ := r
              obtain ⟨a', b', hrest, rfl, rfl⟩ := xadd_some hr
              exact xadd_of (ih _ _ _ _ _ _ _ _ _ hn hsub hrest)
      · split at hr
        · cases hr
        · next pc9 ls9 st9 h9 n9 kc9 ks9 hst =>
          obtain ⟨q, sq, v, h1, n1, a, b⟩ := r
          obtain ⟨a', b', hrest, rfl, rfl⟩ := xadd_some hr
          obtain ⟨ls2, g1, g2, g3⟩ := xstp_sub hn hsub hst
          rw [g1]
          exact xadd_of (ih _ _ _ _ _ _ _ _ _ g3 g2 hrest)
theorem xsub_of {a b : xLs} (h : ∀ q ∈ a, xld b q.1 = some q.2) : xsub a b := fun i v hv => h (i, v) (xld_mem hv)
section RN2
variable {d i pc : Nat} {ls : xLs} {st : List Value} {h h' : xHp} {n n' : Nat} {v : Option Value}
theorem Rn.locals (ls0 : xLs) (hn : xnk ls0) (hs : ∀ q ∈ ls0, xld ls q.1 = some q.2) (kk : Rn d i pc ls0 st h n v h' n') : Rn d i pc ls st h n v h' n' := by
  obtain ⟨f, q, sq, hr⟩ := kk
  exact ⟨f, q, sq, xex_sub f d i pc ls0 ls st h n _ hn (xsub_of hs) hr⟩
theorem Rn.l1 (a : Nat) (x : Value) (h1 : xld ls a = some x) (kk : Rn d i pc [(a, x)] st h n v h' n') : Rn d i pc ls st h n v h' n' := Rn.locals [(a, x)] (by simp [xnk]) (by intro q hq; rw [List.mem_singleton.mp hq]; exact h1) kk
theorem Rn.l2 {a b : Nat} {x y : Value} (hab : Nat.beq a b = false) (h1 : xld ls a = some x) (h2 : xld ls b = some y) (kk : Rn d i pc [(a, x), (b, y)] st h n v h' n') : Rn d i pc ls st h n v h' n' := Rn.locals [(a, x), (b, y)] (by have := Nat.ne_of_beq_eq_false hab; simp [xnk, this]) (by intro q hq; simp only [List.mem_cons, List.not_mem_nil, or_false] at hq; rcases hq with rfl | rfl <;> assumption) kk
/-- the value and the heap behind a return, as they are wanted -/
theorem Rn.retE {e : xEn} {v0 : Option Value} (hf : xfind i pc = some e) (hk : xkind e = 0) (hr : xret i e st = some v0) (hv : v0 = v) (hh : h = h') : Rn d i pc ls st h n v h' n := by
  subst hv; subst hh
  exact Rn.ret hf hk hr
/-- other words for the heap, the stack, the locals -/
theorem Rn.heap {h2 : xHp} (e : h = h2) (kk : Rn d i pc ls st h2 n v h' n') : Rn d i pc ls st h n v h' n' := e ▸ kk
theorem Rn.stk {st2 : List Value} (e : st = st2) (kk : Rn d i pc ls st2 h n v h' n') : Rn d i pc ls st h n v h' n' := e ▸ kk
end RN2

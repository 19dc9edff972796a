/-! the law: its loop and its run -/
theorem z0_gi : GI z0 3 0 0 := by
  obtain ⟨e1, e2⟩ := z0_v
  have no : ∀ c, c < 10 → zt z0 c = true → False := fun c hc q => by rw [e1 c hc] at q; cases q
  refine ⟨⟨⟨rfl, by omega, by omega, fun c hc q => (no c hc q).elim, fun c hc => Or.inl (e2 c hc).2.1, fun c e hc he q => (no c hc q).elim, fun c hc => ⟨0, by omega, (e2 c hc).1⟩, ⟨60, by omega, rfl⟩⟩, ⟨2, by omega, rfl⟩, 0, by omega, rfl⟩, fun c e hc he q => (no c hc q).elim, ⟨0, 0, 0, rfl, rfl, rfl, by omega, by omega, by omega, by omega, ?_, fun e he q => (no e he q).elim⟩, ?_, 2, by omega, by omega, rfl⟩
  · have k : ∀ n, n ≤ 10 → nSum z0 5 n = 0 := by
      intro n
      induction n with
      | zero => intro _; rfl
      | succ n ih =>
        intro hn
        rw [nSum_s, ih (by omega)]
        unfold tmN
        rw [e1 n (by omega)]
        rfl
    rw [k 10 (Nat.le_refl _)]
    exact Nat.le_refl _
  · have k : ∀ n, n ≤ 10 → mSum z0 1 n = 0 := by
      intro n
      induction n with
      | zero => intro _; rfl
      | succ n ih =>
        intro hn
        rw [mSum_s, ih (by omega)]
        unfold tm
        rw [e1 n (by omega)]
        rfl
    rw [k 10 (Nat.le_refl _)]
    rfl
theorem z0_many : mMany z0 10 = 0 := by
  obtain ⟨e1, e2⟩ := z0_v
  have k : ∀ n, n ≤ 10 → mMany z0 n = 0 := by
    intro n
    induction n with
    | zero => intro _; rfl
    | succ n ih =>
      intro hn
      rw [mMany_s, ih (by omega), e1 n (by omega)]
      rfl
  exact k 10 (Nat.le_refl _)
section LAW6
variable {L : Nat} {xs : Nat → Int32}
theorem st_init {g : xHp} (H : PO L xs g) : ST (.inl (0, L, .inl xs)) 0 z0 z0 none none g := by
  obtain ⟨⟨a0, a1, a2, a3, a4, a5⟩, ⟨R, r1, r2⟩, ⟨R2, q1, q2⟩, b1, b2, b3⟩ := H
  have e : pOn (fun _ => 0) 0 (bO (nI 0) R R2 (fun _ => 0) (tOn z0 s0z g)) = g := by
    rw [tOn_id a4, bO_id (ch := nI 0) (show g 3 = .inr (3, [.ref 4, .ref 17, .int (nI 0), .ref 109, .ref 136, .ref 137]) from a3) r1 q1 b1, pOn_id b2 b3]
  exact ⟨fun _ => 0, R, R2, fun i => 1 + i, fun _ => z0, fun _ => s0z, s0z, fun _ => 0, g, e.symm, a0, by omega, fun k hk => ⟨r2 k hk, by show 1 ≤ 1 + k; omega, by show 1 + k ≤ 7; omega⟩, fun k m _ _ q => by have q2 : 1 + k = 1 + m := q; omega, ⟨q2 0 (by omega), q2 1 (by omega)⟩, fun t t1 t2 => a5 t t1 t2, a1, a2, fun k hk => by omega, fun h0 => by omega, rfl, rfl⟩
theorem lb_C {c c0 : Nat} {z t : Nat → Int32} {u0 u1 : Option (Nat → Int32)} {h : xHp} {P B S : Nat} (hS : ST (.inl (0, L, .inl xs)) c0 z t u0 u1 h) (hI : GI z P B S) (hSb : S ≤ 10000) (k : Nat) (hk : k < 60) (x : Nat) (hx : x < 2 ^ 31) (sn : Int64) (r : Int32) : ∃ h1, ST (.inl (0, L, .inl xs)) c0 z t u0 u1 h1 ∧ ∀ v h', Rn 9 97 232 [(0, .ref 0), (1, .ref 3), (2, .int 1), (3, .int (nI k)), (4, .int (nI x)), (5, .long sn), (7, .int (nI c)), (8, .int r)] [] h1 139 v h' 139 → Rn 9 97 198 [(0, .ref 0), (1, .ref 3), (3, .int (nI k)), (4, .int (nI x)), (5, .long sn), (7, .int (nI c)), (8, .int r)] [] h 139 v h' 139 := by
  have w := l_whole 3 139 hS hI hSb
  have e1 : rm (nI k) 7 = nI (k % 7) := rm_n (b := 7) (by omega) (by omega) (by omega)
  have e2 : nI x / 7 = nI (x / 7) := pk_div (d := 7) hx (by omega) (by omega)
  by_cases g : rm (nI k) 7 = 6
  · obtain ⟨h1, S1, r1⟩ := l_refuses 1 139 hS hI.gp (x / 7) (by omega)
    refine ⟨h1, S1, fun v h' kk => ?_⟩
    refine Rn.steps 1 rfl ?_
    refine Rn.call rfl rfl rfl (w) ?_
    refine Rn.steps 3 rfl ?_
    refine Rn.irem rfl rfl (by decide) ?_
    refine Rn.bt 2 rfl (g) ?_
    refine Rn.steps 3 rfl ?_
    refine Rn.idiv rfl rfl (by decide) ?_
    rw [e2]
    refine Rn.call rfl rfl rfl (r1) ?_
    refine Rn.steps 4 rfl ?_
    exact Rn.lx [(0, .ref 0), (1, .ref 3), (2, .int 1), (3, .int (nI k)), (4, .int (nI x)), (5, .long sn), (7, .int (nI c)), (8, .int r)] [0, 1, 2, 3, 4, 5, 7, 8] rfl (by decide) ⟨rfl, rfl, rfl, rfl, rfl, rfl, rfl, rfl, trivial⟩ kk
  · refine ⟨h, hS, fun v h' kk => ?_⟩
    refine Rn.steps 1 rfl ?_
    refine Rn.call rfl rfl rfl (w) ?_
    refine Rn.steps 3 rfl ?_
    refine Rn.irem rfl rfl (by decide) ?_
    refine Rn.bf 2 rfl (g) ?_
    refine Rn.steps 3 rfl ?_
    exact Rn.lx [(0, .ref 0), (1, .ref 3), (2, .int 1), (3, .int (nI k)), (4, .int (nI x)), (5, .long sn), (7, .int (nI c)), (8, .int r)] [0, 1, 2, 3, 4, 5, 7, 8] rfl (by decide) ⟨rfl, rfl, rfl, rfl, rfl, rfl, rfl, rfl, trivial⟩ kk
theorem lb_D {c : Nat} {z z' : Nat → Int32} {u0 : Option (Nat → Int32)} {h : xHp} {P P' B S : Nat} (hc : c ≤ 6) (hG : GP z P) (hS : ST (.inl (0, L, .inl xs)) (up c) z' z u0 (some z0) h) (hI : GI z' P' B S) (k : Nat) (hk : k < 60) (x : Nat) (hx : x < 2 ^ 31) (K : ∀ c z t u0 P h1, ST (.inl (0, L, .inl xs)) c z t u0 (some z0) h1 → GI z P B S → ∃ h', Rn 9 97 100 [(0, .ref 0), (1, .ref 3), (2, .int 1), (3, .int (nI (k + 1)))] [] h1 139 (some (.int 1)) h' 139) : ∃ h', Rn 9 97 232 [(0, .ref 0), (1, .ref 3), (2, .int 1), (3, .int (nI k)), (4, .int (nI x)), (5, .long (snF z)), (7, .int (nI c)), (8, .int 1)] [] h 139 (some (.int 1)) h' 139 := by
  have hG1 := hI.gp
  have hf := hG1.2.2.2.2.1
  have e1 : nI x / 17 = nI (x / 17) := pk_div (d := 17) hx (by omega) (by omega)
  by_cases g : rm (nI (x / 17)) 4 = 0
  · obtain ⟨fs, hb⟩ := hS.h3
    obtain ⟨h1, S1, r1⟩ := k_save0 6 139 hS hf
    obtain ⟨f1, b1⟩ := S1.h3
    obtain ⟨c', ec⟩ : ∃ c', up c = c' + 1 := ⟨up c - 1, by unfold up; by_cases q : c < 6 <;> simp [q]⟩
    rw [ec] at S1
    obtain ⟨h2, t2, S2, r2⟩ := k_undo 6 139 S1 hG.2.2.2.2.1
    obtain ⟨f2, b2⟩ := S2.h3
    obtain ⟨h3, S3, r3⟩ := k_res0 5 139 S2 hG.2.2.2.2.1
    obtain ⟨h', k1⟩ := K _ _ _ _ _ _ S3 hI
    have s1 := l_seen 5 139 hS hf
    have s2 := l_seen 5 139 S2 hG.2.2.2.2.1
    have s3 := l_seen 5 139 S3 hf
    have qb := l_bits 8 139 (h := h) z'
    refine ⟨h', ?_⟩
    generalize snF z = sn at s2 ⊢
    generalize snF z' = sm at s1 s3
    by_cases c6 : c < 6
    · have e2 : c' = c := by unfold up at ec; rw [if_pos c6] at ec; omega
      subst e2
      have c7 : ¬ 6 ≤ nI c' := nI_ge (b := 6) c6 (by omega)
      refine Rn.steps 7 rfl ?_
      refine Rn.idiv rfl rfl (by decide) ?_
      rw [e1]
      refine Rn.steps 1 rfl ?_
      refine Rn.irem rfl rfl (by decide) ?_
      refine Rn.bt 1 rfl (g) ?_
      refine Rn.steps 1 rfl ?_
      refine Rn.call rfl rfl rfl (s1) ?_
      refine Rn.steps 3 rfl ?_
      refine Rn.callO rfl rfl rfl hb rfl rfl rfl rfl rfl rfl (k_count_1 6 139 hS) ?_
      refine Rn.call rfl rfl rfl (qb) ?_
      refine Rn.steps 3 rfl ?_
      refine Rn.callO rfl rfl rfl hb rfl rfl rfl rfl rfl rfl (r1) ?_
      refine Rn.bt 2 rfl (rfl) ?_
      refine Rn.steps 1 rfl ?_
      refine Rn.callO rfl rfl rfl b1 rfl rfl rfl rfl rfl rfl (r2) ?_
      refine Rn.bf 3 rfl (c7) ?_
      refine Rn.bt 3 rfl (rfl) ?_
      refine Rn.steps 1 rfl ?_
      refine Rn.call rfl rfl rfl (s2) ?_
      refine Rn.bt 3 rfl (lg0.mpr rfl) ?_
      refine Rn.steps 2 rfl ?_
      refine Rn.callO rfl rfl rfl b2 rfl rfl rfl rfl rfl rfl (r3) ?_
      refine Rn.bt 2 rfl (rfl) ?_
      refine Rn.steps 1 rfl ?_
      refine Rn.call rfl rfl rfl (s3) ?_
      refine Rn.bt 3 rfl (lg0.mpr rfl) ?_
      refine Rn.steps 5 rfl ?_
      exact Rn.lx [(0, .ref 0), (1, .ref 3), (2, .int 1), (3, .int (nI (k + 1)))] [0, 1, 2, 3] rfl (by decide) ⟨rfl, rfl, rfl, (by rw [← nI_1 k]; rfl), trivial⟩ k1
    · have e2 : c = 6 := by omega
      subst e2
      have e3 : c' = 5 := by have : (6 : Nat) = c' + 1 := ec; omega
      subst e3
      refine Rn.steps 7 rfl ?_
      refine Rn.idiv rfl rfl (by decide) ?_
      rw [e1]
      refine Rn.steps 1 rfl ?_
      refine Rn.irem rfl rfl (by decide) ?_
      refine Rn.bt 1 rfl (g) ?_
      refine Rn.steps 1 rfl ?_
      refine Rn.call rfl rfl rfl (s1) ?_
      refine Rn.steps 3 rfl ?_
      refine Rn.callO rfl rfl rfl hb rfl rfl rfl rfl rfl rfl (k_count_1 6 139 hS) ?_
      refine Rn.call rfl rfl rfl (qb) ?_
      refine Rn.steps 3 rfl ?_
      refine Rn.callO rfl rfl rfl hb rfl rfl rfl rfl rfl rfl (r1) ?_
      refine Rn.bt 2 rfl (rfl) ?_
      refine Rn.steps 1 rfl ?_
      refine Rn.callO rfl rfl rfl b1 rfl rfl rfl rfl rfl rfl (r2) ?_
      refine Rn.steps 6 rfl ?_
      refine Rn.call rfl rfl rfl (s2) ?_
      refine Rn.bt 3 rfl (lg0.mpr rfl) ?_
      refine Rn.steps 2 rfl ?_
      refine Rn.callO rfl rfl rfl b2 rfl rfl rfl rfl rfl rfl (r3) ?_
      refine Rn.bt 2 rfl (rfl) ?_
      refine Rn.steps 1 rfl ?_
      refine Rn.call rfl rfl rfl (s3) ?_
      refine Rn.bt 3 rfl (lg0.mpr rfl) ?_
      refine Rn.steps 5 rfl ?_
      exact Rn.lx [(0, .ref 0), (1, .ref 3), (2, .int 1), (3, .int (nI (k + 1)))] [0, 1, 2, 3] rfl (by decide) ⟨rfl, rfl, rfl, (by rw [← nI_1 k]; rfl), trivial⟩ k1
  · obtain ⟨h', k1⟩ := K _ _ _ _ _ _ hS hI
    refine ⟨h', ?_⟩
    generalize snF z = sn
    refine Rn.steps 7 rfl ?_
    refine Rn.idiv rfl rfl (by decide) ?_
    rw [e1]
    refine Rn.steps 1 rfl ?_
    refine Rn.irem rfl rfl (by decide) ?_
    refine Rn.bf 1 rfl (g) ?_
    refine Rn.steps 2 rfl ?_
    exact Rn.lx [(0, .ref 0), (1, .ref 3), (2, .int 1), (3, .int (nI (k + 1)))] [0, 1, 2, 3] rfl (by decide) ⟨rfl, rfl, rfl, (by rw [← nI_1 k]; rfl), trivial⟩ k1
theorem lb_body {c : Nat} {z t : Nat → Int32} {u0 : Option (Nat → Int32)} {h : xHp} {P : Nat} (hL : L ≤ 260) (k : Nat) (hk : k < 60) (hS : ST (.inl (0, L, .inl xs)) c z t u0 (some z0) h) (hI : GI z P k (99 * k)) (K : ∀ c z t u0 P h1, ST (.inl (0, L, .inl xs)) c z t u0 (some z0) h1 → GI z P (k + 1) (99 * (k + 1)) → ∃ h', Rn 9 97 100 [(0, .ref 0), (1, .ref 3), (2, .int 1), (3, .int (nI (k + 1)))] [] h1 139 (some (.int 1)) h' 139) : ∃ h', Rn 9 97 100 [(0, .ref 0), (1, .ref 3), (2, .int 1), (3, .int (nI k))] [] h 139 (some (.int 1)) h' 139 := by
  have hG := hI.gp
  have hf := hG.2.2.2.2.1
  have hc := hS.c6
  obtain ⟨fs, hb⟩ := hS.h3
  obtain ⟨x, hx, r0⟩ := l_cell 8 139 hS.h0 hL k (by omega)
  obtain ⟨r, h1, r1, ao⟩ := l_act 2 139 hS hI (by omega) (by omega) x hx
  have s0 := l_seen 5 139 hS hf
  have q0 := k_count_14 6 139 hS
  rcases ao with ⟨er, S1⟩ | ⟨er, z', P', S1, hI1⟩
  · subst er
    obtain ⟨f1, b1⟩ := S1.h3
    have q1 := k_count_14 6 139 S1
    have s1 := l_seen 5 139 S1 hf
    generalize snF z = sn at s0 s1
    obtain ⟨h2, S2, C⟩ := lb_C S1 hI (by omega) k hk x hx (c := c) sn 0
    obtain ⟨h', k1⟩ := K _ _ _ _ _ _ S2 (hI.le (by omega) (by omega))
    refine ⟨h', ?_⟩
    have D : Rn 9 97 232 [(0, .ref 0), (1, .ref 3), (2, .int 1), (3, .int (nI k)), (4, .int (nI x)), (5, .long sn), (7, .int (nI c)), (8, .int 0)] [] h2 139 (some (.int 1)) h' 139 := by
      refine Rn.steps 7 rfl ?_
      exact Rn.lx [(0, .ref 0), (1, .ref 3), (2, .int 1), (3, .int (nI (k + 1)))] [0, 1, 2, 3] rfl (by decide) ⟨rfl, rfl, rfl, (by rw [← nI_1 k]; rfl), trivial⟩ k1
    have E := C _ _ D
    refine Rn.bf 3 rfl (nI_ge (a := k) (b := 60) hk (by omega)) ?_
    refine Rn.steps 4 rfl ?_
    refine Rn.call rfl rfl rfl (r0) ?_
    refine Rn.steps 2 rfl ?_
    refine Rn.call rfl rfl rfl (s0) ?_
    refine Rn.steps 3 rfl ?_
    refine Rn.callO rfl rfl rfl hb rfl rfl rfl rfl rfl rfl (q0) ?_
    refine Rn.steps 3 rfl ?_
    refine Rn.call rfl rfl rfl (r1) ?_
    refine Rn.steps 3 rfl ?_
    refine Rn.callO rfl rfl rfl b1 rfl rfl rfl rfl rfl rfl (q1) ?_
    refine Rn.bt 8 rfl (rfl) ?_
    refine Rn.steps 1 rfl ?_
    refine Rn.call rfl rfl rfl (s1) ?_
    refine Rn.bt 3 rfl (lg0.mpr rfl) ?_
    refine Rn.steps 1 rfl ?_
    exact Rn.lx [(0, .ref 0), (1, .ref 3), (3, .int (nI k)), (4, .int (nI x)), (5, .long sn), (7, .int (nI c)), (8, .int 0)] [0, 1, 3, 4, 5, 7, 8] rfl (by decide) ⟨rfl, rfl, rfl, rfl, rfl, rfl, rfl, trivial⟩ E
  · subst er
    obtain ⟨f1, b1⟩ := S1.h3
    have q1 := k_count_14 6 139 S1
    obtain ⟨h2, S2, C⟩ := lb_C S1 hI1 (by omega) k hk x hx (c := c) (snF z) 1
    obtain ⟨h', D⟩ := lb_D hc hG S2 (hI1.le (B' := k + 1) (S' := 99 * (k + 1)) (by omega) (by omega)) k hk x hx K
    refine ⟨h', ?_⟩
    have E := C _ _ D
    generalize snF z = sn at s0 E
    by_cases c6 : c < 6
    · have c7 : ¬ 6 ≤ nI c := nI_ge (b := 6) c6 (by omega)
      have eu : nI (up c) = nI c + 1 := by unfold up; rw [if_pos c6, nI_1]
      refine Rn.bf 3 rfl (nI_ge (a := k) (b := 60) hk (by omega)) ?_
      refine Rn.steps 4 rfl ?_
      refine Rn.call rfl rfl rfl (r0) ?_
      refine Rn.steps 2 rfl ?_
      refine Rn.call rfl rfl rfl (s0) ?_
      refine Rn.steps 3 rfl ?_
      refine Rn.callO rfl rfl rfl hb rfl rfl rfl rfl rfl rfl (q0) ?_
      refine Rn.steps 3 rfl ?_
      refine Rn.call rfl rfl rfl (r1) ?_
      refine Rn.steps 3 rfl ?_
      refine Rn.callO rfl rfl rfl b1 rfl rfl rfl rfl rfl rfl (q1) ?_
      refine Rn.bf 9 rfl (c7) ?_
      refine Rn.bt 5 rfl (eu) ?_
      exact Rn.lx [(0, .ref 0), (1, .ref 3), (3, .int (nI k)), (4, .int (nI x)), (5, .long sn), (7, .int (nI c)), (8, .int 1)] [0, 1, 3, 4, 5, 7, 8] rfl (by decide) ⟨rfl, rfl, rfl, rfl, rfl, rfl, rfl, trivial⟩ E
    · have c7 : 6 ≤ nI c := nI_le (a := 6) (by omega) (by omega)
      have eu : nI (up c) = 6 := by unfold up; rw [if_neg c6]; rfl
      refine Rn.bf 3 rfl (nI_ge (a := k) (b := 60) hk (by omega)) ?_
      refine Rn.steps 4 rfl ?_
      refine Rn.call rfl rfl rfl (r0) ?_
      refine Rn.steps 2 rfl ?_
      refine Rn.call rfl rfl rfl (s0) ?_
      refine Rn.steps 3 rfl ?_
      refine Rn.callO rfl rfl rfl hb rfl rfl rfl rfl rfl rfl (q0) ?_
      refine Rn.steps 3 rfl ?_
      refine Rn.call rfl rfl rfl (r1) ?_
      refine Rn.steps 3 rfl ?_
      refine Rn.callO rfl rfl rfl b1 rfl rfl rfl rfl rfl rfl (q1) ?_
      refine Rn.bt 9 rfl (c7) ?_
      refine Rn.bt 2 rfl (eu) ?_
      exact Rn.lx [(0, .ref 0), (1, .ref 3), (3, .int (nI k)), (4, .int (nI x)), (5, .long sn), (7, .int (nI c)), (8, .int 1)] [0, 1, 3, 4, 5, 7, 8] rfl (by decide) ⟨rfl, rfl, rfl, rfl, rfl, rfl, rfl, trivial⟩ E
theorem lb_end {c : Nat} {z t : Nat → Int32} {u0 : Option (Nat → Int32)} {h : xHp} {P B S : Nat} (hS : ST (.inl (0, L, .inl xs)) c z t u0 (some z0) h) (hI : GI z P B S) (hSb : S ≤ 10000) : ∃ h', Rn 9 97 100 [(0, .ref 0), (1, .ref 3), (2, .int 1), (3, .int (nI 60))] [] h 139 (some (.int 1)) h' 139 := by
  have hf := hI.gp.2.2.2.2.1
  obtain ⟨fs, hb⟩ := hS.h3
  obtain ⟨h1, S1, r1⟩ := k_res1 5 139 hS hf
  rw [z0_many] at r1
  obtain ⟨f1, b1⟩ := S1.h3
  have q := k_count_2 6 139 S1
  rw [show z0 3 = 0 from rfl] at q
  obtain ⟨c', ec⟩ : ∃ c', up c = c' + 1 := ⟨up c - 1, by unfold up; by_cases q : c < 6 <;> simp [q]⟩
  have hc' := S1.c6
  rw [ec] at S1 hc'
  obtain ⟨h2, t2, S2, r2⟩ := k_undo 6 139 S1 hf
  have w := l_whole 3 139 S2 hI hSb
  have n0 : ¬ nI c' < 0 := nI_pos (by omega)
  refine ⟨h2, ?_⟩
  refine Rn.steps 7 rfl ?_
  refine Rn.callO rfl rfl rfl hb rfl rfl rfl rfl rfl rfl (r1) ?_
  refine Rn.steps 3 rfl ?_
  refine Rn.callO rfl rfl rfl b1 rfl rfl rfl rfl rfl rfl (q) ?_
  refine Rn.steps 2 rfl ?_
  refine Rn.callO rfl rfl rfl b1 rfl rfl rfl rfl rfl rfl (r2) ?_
  refine Rn.bf 1 rfl (n0) ?_
  refine Rn.steps 1 rfl ?_
  refine Rn.call rfl rfl rfl (w) ?_
  refine Rn.steps 3 rfl ?_
  exact Rn.retE rfl rfl rfl rfl rfl
theorem lb_loop (hL : L ≤ 260) : ∀ m k, k + m = 60 → ∀ c z t u0 P h, ST (.inl (0, L, .inl xs)) c z t u0 (some z0) h → GI z P k (99 * k) → ∃ h', Rn 9 97 100 [(0, .ref 0), (1, .ref 3), (2, .int 1), (3, .int (nI k))] [] h 139 (some (.int 1)) h' 139 := by
  intro m
  induction m with
  | zero =>
    intro k hk c z t u0 P h hS hI
    have e : k = 60 := by omega
    subst e
    exact lb_end hS hI (by omega)
  | succ m ih =>
    intro k hk c z t u0 P h hS hI
    exact lb_body hL k (by omega) hS hI (fun c z t u0 P h1 g1 g2 => ih (k + 1) (by omega) c z t u0 P h1 g1 g2)
theorem lb_start (hL : L ≤ 260) {g : xHp} (H : PO L xs g) : ∃ h', Rn 9 97 8 [(0, .ref 0), (1, .ref 3)] [] g 139 (some (.int 1)) h' 139 := by
  have hS := st_init H
  have hG := z0_gi.gp
  have hf := hG.2.2.2.2.1
  obtain ⟨fs, hb⟩ := hS.h3
  have q0 := k_count_0 6 139 hS
  have q11 := k_count_11 6 139 hS
  have q12 := k_count_12 6 139 hS
  rw [show 2 * z0 0 = 6 from rfl] at q0
  rw [show z0 1 = 2 from rfl] at q11
  rw [show z0 2 = 60 from rfl] at q12
  obtain ⟨h1, S1, r1⟩ := l_refuses 1 139 hS hG 0 (by omega)
  obtain ⟨h2, S2, r2⟩ := l_refuses 1 139 S1 hG 1 (by omega)
  obtain ⟨f2, b2⟩ := S2.h3
  obtain ⟨h3, S3, r3⟩ := k_save1 6 139 S2 hf
  rw [z0_many] at r3
  obtain ⟨h', kk⟩ := lb_loop hL 60 0 (by omega) _ _ _ _ _ _ S3 z0_gi
  refine ⟨h', ?_⟩
  refine Rn.steps 1 rfl ?_
  refine Rn.callO rfl rfl rfl hb rfl rfl rfl rfl rfl rfl (k_undo_no 6 139 hS rfl) ?_
  refine Rn.steps 4 rfl ?_
  refine Rn.callO rfl rfl rfl hb rfl rfl rfl rfl rfl rfl (k_res_not0 6 139 hS) ?_
  refine Rn.steps 4 rfl ?_
  refine Rn.callO rfl rfl rfl hb rfl rfl rfl rfl rfl rfl (k_res_not1 6 139 hS) ?_
  refine Rn.steps 4 rfl ?_
  refine Rn.callO rfl rfl rfl hb rfl rfl rfl rfl rfl rfl (q0) ?_
  refine Rn.steps 4 rfl ?_
  refine Rn.callO rfl rfl rfl hb rfl rfl rfl rfl rfl rfl (q11) ?_
  refine Rn.steps 4 rfl ?_
  refine Rn.callO rfl rfl rfl hb rfl rfl rfl rfl rfl rfl (q12) ?_
  refine Rn.steps 4 rfl ?_
  refine Rn.call rfl rfl rfl (r1) ?_
  refine Rn.steps 3 rfl ?_
  refine Rn.call rfl rfl rfl (r2) ?_
  refine Rn.steps 3 rfl ?_
  refine Rn.callO rfl rfl rfl b2 rfl rfl rfl rfl rfl rfl (r3) ?_
  refine Rn.steps 6 rfl ?_
  exact Rn.lx [(0, .ref 0), (1, .ref 3), (2, .int 1), (3, .int (nI 0))] [0, 1, 2, 3] rfl (by decide) ⟨rfl, rfl, rfl, rfl, trivial⟩ kk
theorem law_run (hL : L ≤ 260) : ∃ h', RC 650502 7150742 9 97 0 [(0, .ref 0)] [] (xh0 L xs) 3 (some (.int 1)) h' 139 := by
  obtain ⟨hc, c1, c2⟩ := i_class (d := 5) L xs
  obtain ⟨h', k⟩ := lb_start (L := L) (xs := xs) hL c2
  refine ⟨h', ?_⟩
  refine RC.step (a := 600000) (b := 7000000) (pc1 := 3) (c1 := 1) (s1 := 6) (h1 := xup (xh0 L xs) 3 (.inr (3, xdef 3))) (n1 := 4) rfl rfl rfl (by omega) (by omega) ?_
  refine RC.steps 1 rfl ?_
  refine RC.call (a1 := 140) (b1 := 1100) (a2 := 500000) (b2 := 6000000) rfl rfl rfl (by omega) (by omega) c1 ?_
  refine RC.steps 1 rfl ?_
  exact RC.of (Rn.lx [(0, .ref 0), (1, .ref 3)] [0, 1] rfl (by decide) ⟨rfl, rfl, trivial⟩ k)
end LAW6

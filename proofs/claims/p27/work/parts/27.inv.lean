/-! what holds of the track behind each act of the law -/
theorem fl_ne {p : Nat} (h : p < 48) : zt (fun _ => nI p) 0 = true := decide_eq_true (nI_no6 h)
def tmN (z : Nat → Int32) (q e : Nat) : Nat := cond (zt z e) (z (10 + 7 * e + q)).toNatClampNeg 0
def nSum (z : Nat → Int32) (q : Nat) : Nat → Nat | 0 => 0 | c + 1 => nSum z q c + tmN z q c
theorem nSum_s (z : Nat → Int32) (q c : Nat) : nSum z q (c + 1) = nSum z q c + tmN z q c := rfl
theorem tpm_s (z : Nat → Int32) (c : Nat) : tpm z (c + 1) = cond (zt z c) (tpm z c + 1) (tpm z c) := rfl
theorem nSum_cg {z z' : Nat → Int32} {q : Nat} : ∀ n, (∀ e, e < n → tmN z' q e = tmN z q e) → nSum z' q n = nSum z q n := by
  intro n
  induction n with
  | zero => intro _; rfl
  | succ n ih => intro h; unfold nSum; rw [ih (fun e he => h e (by omega)), h n (by omega)]
theorem nSum_ch {z z' : Nat → Int32} {q c : Nat} : ∀ n, c < n → (∀ e, e < n → ¬ e = c → tmN z' q e = tmN z q e) → nSum z' q n + tmN z q c = nSum z q n + tmN z' q c := by
  intro n
  induction n with
  | zero => intro h; omega
  | succ n ih =>
    intro h g
    unfold nSum
    by_cases e : c = n
    · subst e
      rw [nSum_cg c (fun e he => g e (by omega) (by omega))]
      omega
    · have := ih (by omega) (fun e he => g e (by omega))
      rw [g n (by omega) (fun q => e q.symm)]
      omega
theorem mSum_n {z : Nat → Int32} {q : Nat} : ∀ n, (∀ e, e < n → zt z e = true → ∃ w, w < 2 ^ 31 ∧ z (10 + 7 * e + q) = nI w) → mSum z q n = nI (nSum z q n) := by
  intro n
  induction n with
  | zero => intro _; rfl
  | succ n ih =>
    intro h
    rw [mSum_s, nSum_s, ih (fun e he => h e (by omega))]
    unfold tm tmN
    cases hz : zt z n with
    | false => show nI _ + 0 = nI (_ + 0); rw [Int32.add_zero, Nat.add_zero]
    | true =>
      obtain ⟨w, w1, w2⟩ := h n (by omega) hz
      show nI _ + z (10 + 7 * n + q) = nI (_ + (z (10 + 7 * n + q)).toNatClampNeg)
      rw [w2, nI_clamp w1, nI_add]
theorem many_n (z : Nat → Int32) : ∀ c, mMany z c = nI (tpm z c) := by
  intro c
  induction c with
  | zero => rfl
  | succ c ih =>
    rw [mMany_s, tpm_s, ih]
    cases zt z c with
    | false => exact Int32.add_zero _
    | true => exact nI_1 _
/-- the side on which a carrier goes by next: 1 inside, 3 outside -/
def sdN (P p : Nat) : Nat := if p % 2 = 0 then tN p % 4 else tN (oN P (tN p)) % 4
def sdB (P p : Nat) : Bool := (Nat.beq (sdN P p) 1 || Nat.beq (sdN P p) 3) && ((Nat.beq (p % 2) 0 && (Nat.beq (tN p % 2) 1 && (Nat.beq (oN P (tN p)) (tN p) && Nat.beq (sdN P (tN p) + sdN P p) 4))) || (Nat.beq (p % 2) 1 && (Nat.beq (tN p % 2) 0 && (Nat.beq (oN P (tN p) % 2) 0 && (Nat.beq (sdN P (oN P (tN p))) (sdN P p) && !Nat.beq (oN P (tN p)) (tN p))))))
theorem sd_all : ((List.range 7).all fun P => (List.range 48).all fun p => !(Nat.ble 2 P && Nat.blt p (8 * P)) || sdB P p) = true := by decide +kernel
theorem sd_ok {P p : Nat} (h2 : 2 ≤ P) (h6 : P ≤ 6) (hp : p < 8 * P) : (sdN P p = 1 ∨ sdN P p = 3) ∧ ((p % 2 = 0 ∧ tN p % 2 = 1 ∧ oN P (tN p) = tN p ∧ sdN P (tN p) + sdN P p = 4) ∨ (p % 2 = 1 ∧ tN p % 2 = 0 ∧ oN P (tN p) % 2 = 0 ∧ sdN P (oN P (tN p)) = sdN P p ∧ ¬ oN P (tN p) = tN p)) := by
  have h := List.all_eq_true.mp (List.all_eq_true.mp sd_all P (List.mem_range.mpr (by omega))) p (List.mem_range.mpr (by omega))
  rw [show Nat.ble 2 P = true from Nat.ble_eq_true_of_le h2, show Nat.blt p (8 * P) = true from Nat.ble_eq_true_of_le hp] at h
  have h : sdB P p = true := h
  unfold sdB at h
  simp only [Bool.and_eq_true, Bool.or_eq_true, Bool.not_eq_true', Nat.beq_eq] at h
  obtain ⟨h1, h3⟩ := h
  refine ⟨h1, ?_⟩
  rcases h3 with ⟨a, b, c, e⟩ | ⟨a, b, c, e, f⟩
  · exact Or.inl ⟨a, b, c, e⟩
  · exact Or.inr ⟨a, b, c, e, Nat.ne_of_beq_eq_false f⟩
def Rl (P p i o w : Nat) : Prop := ((p % 2 = 0 ∧ (w = 2 * (i + o) ∨ w = 2 * (i + o) + 1)) ∨ (p % 2 = 1 ∧ (w = 2 * (i + o) ∨ w + 1 = 2 * (i + o)))) ∧ (i = o ∨ (i = o + 1 ∧ sdN P p = 3) ∨ (o = i + 1 ∧ sdN P p = 1))
theorem Rl.new (P p : Nat) : Rl P p 0 0 0 := ⟨by omega, Or.inl rfl⟩
theorem Rl.st {P p i o w : Nat} (h2 : 2 ≤ P) (h6 : P ≤ 6) (hp : p < 8 * P) (h : Rl P p i o w) : Rl P (oN P (tN p)) (i + if tN p % 4 = 1 then 1 else 0) (o + if tN p % 4 = 3 then 1 else 0) (w + 1) := by
  obtain ⟨s1, s2⟩ := sd_ok h2 h6 hp
  obtain ⟨r1, r2⟩ := h
  rcases s2 with ⟨a, b, c, e⟩ | ⟨a, b, c, e, f⟩
  · have es : sdN P p = tN p % 4 := by unfold sdN; rw [if_pos a]
    rw [c]
    unfold Rl
    by_cases g : tN p % 4 = 1
    · rw [if_pos g, if_neg (by omega)]
      exact ⟨by omega, by omega⟩
    · have g3 : tN p % 4 = 3 := by omega
      rw [if_neg g, if_pos g3]
      exact ⟨by omega, by omega⟩
  · rw [if_neg (by omega), if_neg (by omega)]
    unfold Rl
    rw [e]
    exact ⟨by omega, by omega⟩
theorem Rl.out {P p i o w : Nat} (h : Rl P p i o w) : 2 * (i + o) ≤ w + 1 ∧ w ≤ 2 * (i + o) + 1 ∧ i < o + 2 ∧ o < i + 2 := by
  obtain ⟨r1, r2⟩ := h
  omega
def Sd (z : Nat → Int32) (P st : Nat) : Prop := ∀ e, e < 10 → zt z e = true → ∃ p i o w, p < 8 * P ∧ z (10 + 7 * e) = nI p ∧ z (10 + 7 * e + 3) = nI i ∧ z (10 + 7 * e + 4) = nI o ∧ z (10 + 7 * e + 5) = nI w ∧ Rl P p i o w ∧ w ≤ st
def Ct (z : Nat → Int32) (P : Nat) : Prop := ∀ c e, c < 10 → e < 10 → zt z c = true → zt z e = true → ∀ p, p < 8 * P → z (10 + 7 * c) = nI p → p % 2 = 0 → ¬ z (10 + 7 * e) = nI (oN P p)
def NB (z : Nat → Int32) (P S : Nat) : Prop := ∃ st cd sp, z 3 = nI st ∧ z 4 = nI cd ∧ z 8 = nI sp ∧ st ≤ S ∧ st ≤ cd ∧ cd ≤ 9 * st ∧ sp ≤ 10 * st ∧ nSum z 5 10 ≤ sp ∧ Sd z P st
def GI (z : Nat → Int32) (P B S : Nat) : Prop := GB z P B ∧ Ct z P ∧ NB z P S ∧ z 7 = z 6 + mSum z 1 10 + z 8 ∧ ∃ v, 1 ≤ v ∧ v ≤ 9 ∧ z 1 = nI v
section INV
variable {z : Nat → Int32} {P B S : Nat}
theorem GI.gp (h : GI z P B S) : GP z P := h.1.1
theorem NB.le (h : NB z P S) {S' : Nat} (hS : S ≤ S') : NB z P S' := by
  obtain ⟨st, cd, sp, a1, a2, a3, a4, a5⟩ := h
  exact ⟨st, cd, sp, a1, a2, a3, by omega, a5⟩
theorem GI.le (h : GI z P B S) {B' S' : Nat} (hB : B ≤ B') (hS : S ≤ S') : GI z P B' S' := ⟨h.1.le hB, h.2.1, h.2.2.1.le hS, h.2.2.2⟩
/-- nothing of what the numbers and places say is different -/
theorem NB.cg {z' : Nat → Int32} (h : NB z P S) (h3 : z' 3 = z 3) (h4 : z' 4 = z 4) (h8 : z' 8 = z 8) (hs : ∀ e, e < 10 → z' (10 + 7 * e) = z (10 + 7 * e) ∧ z' (10 + 7 * e + 3) = z (10 + 7 * e + 3) ∧ z' (10 + 7 * e + 4) = z (10 + 7 * e + 4) ∧ z' (10 + 7 * e + 5) = z (10 + 7 * e + 5)) : NB z' P S := by
  obtain ⟨st, cd, sp, a1, a2, a3, a4, a5, a6, a7, a8, a9⟩ := h
  have hz : ∀ e, e < 10 → zt z' e = zt z e := fun e he => by unfold zt; rw [(hs e he).1]
  refine ⟨st, cd, sp, h3.trans a1, h4.trans a2, h8.trans a3, a4, a5, a6, a7, ?_, fun e he q => ?_⟩
  · rw [nSum_cg (z := z) 10 (fun e he => by unfold tmN; rw [hz e he, (hs e he).2.2.2])]
    exact a8
  · rw [hz e he] at q
    obtain ⟨p, i, o, w, b1, b2, b3, b4, b5, b6⟩ := a9 e he q
    obtain ⟨c1, c2, c3, c4⟩ := hs e he
    exact ⟨p, i, o, w, b1, c1.trans b2, c2.trans b3, c3.trans b4, c4.trans b5, b6⟩
theorem Ct.cg {z' : Nat → Int32} (h : Ct z P) (hs : ∀ e, e < 10 → z' (10 + 7 * e) = z (10 + 7 * e)) : Ct z' P := by
  have hz : ∀ e, e < 10 → zt z' e = zt z e := fun e he => by unfold zt; rw [hs e he]
  intro c e hc he h1 h2 p hp q
  rw [hz c hc] at h1
  rw [hz e he] at h2
  rw [hs c hc] at q
  rw [hs e he]
  exact h c e hc he h1 h2 p hp q
theorem tm_cg {z' : Nat → Int32} {q e : Nat} (h0 : z' (10 + 7 * e) = z (10 + 7 * e)) (hq : z' (10 + 7 * e + q) = z (10 + 7 * e + q)) : tm z' q e = tm z q e := by
  unfold tm zt
  rw [h0, hq]
theorem tmN_cg {z' : Nat → Int32} {q e : Nat} (h0 : z' (10 + 7 * e) = z (10 + 7 * e)) (hq : z' (10 + 7 * e + q) = z (10 + 7 * e + q)) : tmN z' q e = tmN z q e := by
  unfold tmN zt
  rw [h0, hq]
theorem GI.u9 (h : GI z P B S) (x : Int32) : GI (upd z 9 x) P B S := by
  obtain ⟨a1, a2, a3, a4, a5⟩ := h
  refine ⟨⟨a1.1.u9 x, a1.2.cg (upd_ne (by omega)) (upd_ne (by omega)) (Nat.le_refl _)⟩, a2.cg (fun e he => upd_ne (by omega)), a3.cg (upd_ne (by omega)) (upd_ne (by omega)) (upd_ne (by omega)) (fun e he => ⟨upd_ne (by omega), upd_ne (by omega), upd_ne (by omega), upd_ne (by omega)⟩), ?_, ?_⟩
  · rw [upd_ne (by omega), upd_ne (by omega), upd_ne (by omega), mSum_cg 10 (fun e he => tm_cg (upd_ne (by omega)) (upd_ne (by omega)))]
    exact a4
  · rw [upd_ne (by omega)]
    exact a5
/-- an end snaps, is tied -/
theorem GI.brk (h : GI z P B S) {c : Nat} (hc : c < 10) : GI (upd z (10 + 7 * c + 2) 1) P B S := by
  obtain ⟨a1, a2, a3, a4, a5⟩ := h
  refine ⟨a1.brk hc, a2.cg (fun e he => upd_ne (by omega)), a3.cg (upd_ne (by omega)) (upd_ne (by omega)) (upd_ne (by omega)) (fun e he => ⟨upd_ne (by omega), upd_ne (by omega), upd_ne (by omega), upd_ne (by omega)⟩), ?_, ?_⟩
  · rw [upd_ne (by omega), upd_ne (by omega), upd_ne (by omega), mSum_cg 10 (fun e he => tm_cg (upd_ne (by omega)) (upd_ne (by omega)))]
    exact a4
  · rw [upd_ne (by omega)]
    exact a5
theorem GI.tie (h : GI z P B S) {c : Nat} (hc : c < 10) : GI (tieZ z c) P (B + 1) S := by
  obtain ⟨a1, a2, a3, a4, a5⟩ := h
  refine ⟨a1.tie hc, a2.cg (fun e he => tieZ_o c (by omega) (by omega)), a3.cg (tieZ_o c (by omega) (by omega)) (tieZ_o c (by omega) (by omega)) (tieZ_o c (by omega) (by omega)) (fun e he => ⟨tieZ_o c (by omega) (by omega), tieZ_o c (by omega) (by omega), tieZ_o c (by omega) (by omega), tieZ_o c (by omega) (by omega)⟩), ?_, ?_⟩
  · rw [tieZ_o c (by omega) (by omega), tieZ_o c (by omega) (by omega), tieZ_o c (by omega) (by omega), mSum_cg 10 (fun e he => tm_cg (tieZ_o c (by omega) (by omega)) (tieZ_o c (by omega) (by omega)))]
    exact a4
  · rw [tieZ_o c (by omega) (by omega)]
    exact a5
/-- a carrier is put -/
theorem newZ_345 (c : Nat) (p : Int32) : newZ z c p (10 + 7 * c + 3) = 0 ∧ newZ z c p (10 + 7 * c + 4) = 0 ∧ newZ z c p (10 + 7 * c + 5) = 0 := by
  rw [newZ_beg]
  unfold begZ
  refine ⟨?_, ?_, ?_⟩ <;> rw [upd_ne (by omega), upd_ne (by omega), upd_ne (by omega), layN_in (by omega)]
theorem newZ_7 (c : Nat) (p : Int32) : newZ z c p 7 = z 7 + z 2 := by
  rw [newZ_beg, upd_eq]
theorem newZ_zt (c p : Nat) (hp : p < 48) : zt (newZ z c (nI p)) c = true := by
  unfold zt
  rw [newZ_0]
  exact decide_eq_true (nI_no6 hp)
theorem newZ_zo (c : Nat) (p : Int32) {e : Nat} (h : ¬ e = c) : zt (newZ z c p) e = zt z e := by
  unfold zt
  rw [newZ_o c p (by omega) (by omega)]
theorem oN_ne {P p : Nat} (h2 : 2 ≤ P) (h6 : P ≤ 6) (hp : p < 8 * P) (he : p % 2 = 0) : ¬ oN P p = p := by
  have h := perm_ok h2 h6 hp
  intro q
  rcases (by omega : p % 4 = 0 ∨ p % 4 = 2) with g | g
  · have := h.2.2.2.2.2 g; omega
  · have := h.2.2.2.2.1 g; omega
theorem GI.new (h : GI z P B S) {c p : Nat} (hc : c < 10) (hz : zt z c = false) (hp : p < 8 * P) (hf : ¬ p ∈ pl z 10) (hf2 : ¬ oN P p ∈ pl z 10) : GI (newZ z c (nI p)) P B S := by
  obtain ⟨a1, a2, a3, a4, a5⟩ := h
  have h2 := a1.1.2.1
  have h6 := a1.1.2.2.1
  have hi := a1.1.2.2.2.1
  have hpl := perm_ok h2 h6 hp
  refine ⟨a1.new hc hp hf, fun u e hu he g1 g2 q hq q1 q2 q3 => ?_, ?_, ?_, ?_⟩
  · by_cases e1 : u = c
    · subst e1
      rw [newZ_0] at q1
      have e3 : p = q := (nI_eq (by omega) (by omega)).mp q1
      subst e3
      by_cases e2 : e = u
      · subst e2
        rw [newZ_0] at q3
        exact oN_ne h2 h6 hp q2 ((nI_eq (by omega) (by omega)).mp q3).symm
      · rw [newZ_o u _ (by omega) (by omega)] at q3
        rw [newZ_zo u _ e2] at g2
        exact hf2 ((pl_mem hi h6 (by omega) 10 (Nat.le_refl _)).mpr ⟨e, he, g2, q3⟩)
    · rw [newZ_o c _ (by omega) (by omega)] at q1
      rw [newZ_zo c _ e1] at g1
      by_cases e2 : e = c
      · subst e2
        rw [newZ_0] at q3
        have hq2 := perm_ok h2 h6 hq
        have e3 : p = oN P q := (nI_eq (by omega) (by omega)).mp q3
        apply hf2
        rw [e3, hq2.1]
        exact (pl_mem hi h6 (by omega) 10 (Nat.le_refl _)).mpr ⟨u, hu, g1, q1⟩
      · rw [newZ_o c _ (by omega) (by omega)] at q3
        rw [newZ_zo c _ e2] at g2
        exact a2 u e hu he g1 g2 q hq q1 q2 q3
  · obtain ⟨st, cd, sp, b1, b2, b3, b4, b5, b6, b7, b8, b9⟩ := a3
    refine ⟨st, cd, sp, (newZ_o c _ (by omega) (by omega)).trans b1, (newZ_o c _ (by omega) (by omega)).trans b2, (newZ_o c _ (by omega) (by omega)).trans b3, b4, b5, b6, b7, ?_, fun e he q => ?_⟩
    · have k := nSum_ch (z := z) (z' := newZ z c (nI p)) (q := 5) (c := c) 10 hc (fun e he hn => tmN_cg (newZ_o c _ (by omega) (by omega)) (newZ_o c _ (by omega) (by omega)))
      have k2 : tmN (newZ z c (nI p)) 5 c = 0 := by
        unfold tmN
        rw [(newZ_345 c _).2.2, newZ_zt c p (by omega)]
        rfl
      omega
    · by_cases e1 : e = c
      · subst e1
        exact ⟨p, 0, 0, 0, hp, newZ_0 e _, (newZ_345 e _).1, (newZ_345 e _).2.1, (newZ_345 e _).2.2, Rl.new P p, Nat.zero_le _⟩
      · rw [newZ_zo c _ e1] at q
        obtain ⟨p', i, o, w, c1, c2, c3, c4, c5, c6⟩ := b9 e he q
        exact ⟨p', i, o, w, c1, (newZ_o c _ (by omega) (by omega)).trans c2, (newZ_o c _ (by omega) (by omega)).trans c3, (newZ_o c _ (by omega) (by omega)).trans c4, (newZ_o c _ (by omega) (by omega)).trans c5, c6⟩
  · have k := mSum_ch (z := z) (z' := newZ z c (nI p)) (q := 1) (c := c) 10 hc (fun e he hn => tm_cg (newZ_o c _ (by omega) (by omega)) (newZ_o c _ (by omega) (by omega)))
    have k1 : tm z 1 c = 0 := by unfold tm; rw [hz]; rfl
    have k2 : tm (newZ z c (nI p)) 1 c = z 2 := by
      unfold tm
      rw [newZ_1, newZ_zt c p (by omega)]
      rfl
    rw [k1, k2] at k
    rw [newZ_7, newZ_o c _ (by omega) (by omega), newZ_o c _ (by omega) (by omega)]
    grind
  · rw [newZ_o c _ (by omega) (by omega)]
    exact a5
/-- a carrier is taken out -/
theorem toZ_zt (c : Nat) : zt (toZ z c) c = false := by
  show decide (¬ upd (upd z 6 (z 6 + z (10 + 7 * c + 1))) (10 + 7 * c) (-6) (10 + 7 * c) = -6) = false
  rw [upd_eq]
  rfl
theorem toZ_zo (c : Nat) {e : Nat} (h : ¬ e = c) : zt (toZ z c) e = zt z e := by
  unfold zt
  rw [toZ_o c (by omega) (by omega)]
theorem toZ_6 (c : Nat) : toZ z c 6 = z 6 + z (10 + 7 * c + 1) := by
  unfold toZ
  rw [upd_ne (by omega), upd_eq]
theorem GI.to (h : GI z P B S) {c : Nat} (hc : c < 10) (hz : zt z c = true) : GI (toZ z c) P B S := by
  obtain ⟨a1, a2, a3, a4, a5⟩ := h
  have nz : ∀ e, zt (toZ z c) e = true → ¬ e = c := fun e q g => by rw [g, toZ_zt] at q; cases q
  refine ⟨a1.to hc, fun u e hu he g1 g2 q hq q1 q2 => ?_, ?_, ?_, ?_⟩
  · have e1 := nz u g1
    have e2 := nz e g2
    rw [toZ_zo c e1] at g1
    rw [toZ_zo c e2] at g2
    rw [toZ_o c (by omega) (by omega)] at q1
    rw [toZ_o c (by omega) (by omega)]
    exact a2 u e hu he g1 g2 q hq q1 q2
  · obtain ⟨st, cd, sp, b1, b2, b3, b4, b5, b6, b7, b8, b9⟩ := a3
    refine ⟨st, cd, sp, (toZ_o c (by omega) (by omega)).trans b1, (toZ_o c (by omega) (by omega)).trans b2, (toZ_o c (by omega) (by omega)).trans b3, b4, b5, b6, b7, ?_, fun e he q => ?_⟩
    · have k := nSum_ch (z := z) (z' := toZ z c) (q := 5) (c := c) 10 hc (fun e he hn => tmN_cg (toZ_o c (by omega) (by omega)) (toZ_o c (by omega) (by omega)))
      have k2 : tmN (toZ z c) 5 c = 0 := by unfold tmN; rw [toZ_zt]; rfl
      omega
    · have e1 := nz e q
      rw [toZ_zo c e1] at q
      obtain ⟨p', i, o, w, c1, c2, c3, c4, c5, c6⟩ := b9 e he q
      exact ⟨p', i, o, w, c1, (toZ_o c (by omega) (by omega)).trans c2, (toZ_o c (by omega) (by omega)).trans c3, (toZ_o c (by omega) (by omega)).trans c4, (toZ_o c (by omega) (by omega)).trans c5, c6⟩
  · have k := mSum_ch (z := z) (z' := toZ z c) (q := 1) (c := c) 10 hc (fun e he hn => tm_cg (toZ_o c (by omega) (by omega)) (toZ_o c (by omega) (by omega)))
    have k1 : tm z 1 c = z (10 + 7 * c + 1) := by unfold tm; rw [hz]; rfl
    have k2 : tm (toZ z c) 1 c = 0 := by unfold tm; rw [toZ_zt]; rfl
    rw [k1, k2] at k
    rw [toZ_6, toZ_o c (by omega) (by omega), toZ_o c (by omega) (by omega)]
    grind
  · rw [toZ_o c (by omega) (by omega)]
    exact a5
/-- a carrier gets a full bobbin -/
theorem refZ_6 (c : Nat) : refZ z c 6 = z 6 + z (10 + 7 * c + 1) := by
  unfold refZ fillZ
  rw [upd_ne (by omega), upd_ne (by omega), upd_eq]
theorem refZ_7 (c : Nat) : refZ z c 7 = z 7 + z 2 := by
  unfold refZ fillZ
  rw [upd_eq, upd_ne (by omega), upd_ne (by omega), upd_ne (by omega), upd_ne (by omega)]
theorem refZ_zt (c : Nat) {e : Nat} : zt (refZ z c) e = zt z e := by
  unfold zt
  rw [refZ_o c (by omega) (by omega) (by omega)]
theorem GI.ref (h : GI z P B S) {c : Nat} (hc : c < 10) (hz : zt z c = true) : GI (refZ z c) P B S := by
  obtain ⟨a1, a2, a3, a4, a5⟩ := h
  refine ⟨a1.ref hc, a2.cg (fun e he => refZ_o c (by omega) (by omega) (by omega)), a3.cg (refZ_o c (by omega) (by omega) (by omega)) (refZ_o c (by omega) (by omega) (by omega)) (refZ_o c (by omega) (by omega) (by omega)) (fun e he => ⟨refZ_o c (by omega) (by omega) (by omega), refZ_o c (by omega) (by omega) (by omega), refZ_o c (by omega) (by omega) (by omega), refZ_o c (by omega) (by omega) (by omega)⟩), ?_, ?_⟩
  · have k := mSum_ch (z := z) (z' := refZ z c) (q := 1) (c := c) 10 hc (fun e he hn => tm_cg (refZ_o c (by omega) (by omega) (by omega)) (refZ_o c (by omega) (by omega) (by omega)))
    have k1 : tm z 1 c = z (10 + 7 * c + 1) := by unfold tm; rw [hz]; rfl
    have k2 : tm (refZ z c) 1 c = z 2 := by unfold tm; rw [refZ_zt, hz, refZ_1]; rfl
    rw [k1, k2] at k
    rw [refZ_6, refZ_7, refZ_o c (by omega) (by omega) (by omega)]
    grind
  · rw [refZ_o c (by omega) (by omega) (by omega)]
    exact a5
/-- settings -/
theorem GI.set1 (h : GI z P B S) {v : Nat} (v1 : 1 ≤ v) (v9 : v ≤ 9) : GI (upd z 1 (nI v)) P B S := by
  obtain ⟨a1, a2, a3, a4, a5⟩ := h
  obtain ⟨k, k1, k2⟩ := a1.2.2
  refine ⟨⟨a1.1.cg (upd_ne (by omega)) (upd_ne (by omega)) (fun e he i hi => upd_ne (by omega)), ⟨v, v9, upd_eq⟩, k, k1, (upd_ne (by omega)).trans k2⟩, a2.cg (fun e he => upd_ne (by omega)), a3.cg (upd_ne (by omega)) (upd_ne (by omega)) (upd_ne (by omega)) (fun e he => ⟨upd_ne (by omega), upd_ne (by omega), upd_ne (by omega), upd_ne (by omega)⟩), ?_, v, v1, v9, upd_eq⟩
  rw [upd_ne (by omega), upd_ne (by omega), upd_ne (by omega), mSum_cg 10 (fun e he => tm_cg (upd_ne (by omega)) (upd_ne (by omega)))]
  exact a4
theorem GI.set2 (h : GI z P B S) {v : Nat} (v9 : v ≤ 999) : GI (upd z 2 (nI v)) P B S := by
  obtain ⟨a1, a2, a3, a4, a5⟩ := h
  obtain ⟨b0, b1, b2, b3, b4, b5, b6, b7⟩ := a1.1
  refine ⟨⟨⟨(upd_ne (by omega)).trans b0, b1, b2, fun c hc q => ?_, fun c hc => ?_, fun c e hc he q1 q2 => ?_, fun c hc => ?_, v, v9, upd_eq⟩, a1.2.cg (upd_ne (by omega)) (upd_ne (by omega)) (Nat.le_refl _)⟩, a2.cg (fun e he => upd_ne (by omega)), a3.cg (upd_ne (by omega)) (upd_ne (by omega)) (upd_ne (by omega)) (fun e he => ⟨upd_ne (by omega), upd_ne (by omega), upd_ne (by omega), upd_ne (by omega)⟩), ?_, ?_⟩
  · rw [zt_ne (by omega)] at q; rw [upd_ne (by omega)]; exact b3 c hc q
  · rw [upd_ne (by omega)]; exact b4 c hc
  · rw [zt_ne (by omega)] at q1 q2; rw [upd_ne (by omega), upd_ne (by omega)]; exact b5 c e hc he q1 q2
  · rw [upd_ne (by omega)]; exact b6 c hc
  · rw [upd_ne (by omega), upd_ne (by omega), upd_ne (by omega), mSum_cg 10 (fun e he => tm_cg (upd_ne (by omega)) (upd_ne (by omega)))]
    exact a4
  · rw [upd_ne (by omega)]
    exact a5
theorem GI.set0 (h : GI z P B S) (hn : ∀ c, c < 10 → zt z c = false) {v : Nat} (v2 : 2 ≤ v) (v6 : v ≤ 6) : GI (upd z 0 (nI v)) v B S := by
  obtain ⟨a1, a2, a3, a4, a5⟩ := h
  obtain ⟨b0, b1, b2, b3, b4, b5, b6, b7⟩ := a1.1
  have zf : ∀ c, c < 10 → zt (upd z 0 (nI v)) c = false := fun c hc => by rw [zt_ne (by omega)]; exact hn c hc
  obtain ⟨u, u1, u2⟩ := b7
  refine ⟨⟨⟨upd_eq, v2, v6, fun c hc q => ?_, fun c hc => ?_, fun c e hc he q1 q2 => ?_, fun c hc => ?_, u, u1, (upd_ne (by omega)).trans u2⟩, a1.2.cg (upd_ne (by omega)) (upd_ne (by omega)) (Nat.le_refl _)⟩, fun c e hc he q => ?_, ?_, ?_, ?_⟩
  · rw [zf c hc] at q; cases q
  · rw [upd_ne (by omega)]; exact b4 c hc
  · rw [zf c hc] at q1; cases q1
  · rw [upd_ne (by omega)]; exact b6 c hc
  · rw [zf c hc] at q; cases q
  · obtain ⟨st, cd, sp, c1, c2, c3, c4, c5, c6, c7, c8, c9⟩ := a3
    refine ⟨st, cd, sp, (upd_ne (by omega)).trans c1, (upd_ne (by omega)).trans c2, (upd_ne (by omega)).trans c3, c4, c5, c6, c7, ?_, fun e he q => ?_⟩
    · rw [nSum_cg 10 (fun e he => tmN_cg (upd_ne (by omega)) (upd_ne (by omega)))]
      exact c8
    · rw [zf e he] at q; cases q
  · rw [upd_ne (by omega), upd_ne (by omega), upd_ne (by omega), mSum_cg 10 (fun e he => tm_cg (upd_ne (by omega)) (upd_ne (by omega)))]
    exact a4
  · rw [upd_ne (by omega)]
    exact a5
end INV

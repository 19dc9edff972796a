/-! sets of places as masks -/
def tb (x : Int64) (j : Nat) : Bool := x.toBitVec.getLsbD j
theorem tb_ext {x y : Int64} (h : ∀ j, j < 64 → tb x j = tb y j) : x = y := Int64.toBitVec_inj.mp (BitVec.eq_of_getLsbD_eq (fun i hi => h i hi))
theorem tb_and (x y : Int64) (j : Nat) : tb (x &&& y) j = (tb x j && tb y j) := BitVec.getLsbD_and
theorem tb_or (x y : Int64) (j : Nat) : tb (x ||| y) j = (tb x j || tb y j) := BitVec.getLsbD_or
theorem tb_0 (j : Nat) : tb 0 j = false := by
  show (0#64).getLsbD j = false
  simp
theorem tb_hi (x : Int64) {j : Nat} (h : 64 ≤ j) : tb x j = false := BitVec.getLsbD_of_ge _ _ h
theorem amt_l : ∀ k, k < 64 → (((nI k).toInt64 &&& 63).toBitVec.smod 64).toNat = k := by decide +kernel
theorem amt_r : ∀ k, k < 64 → (((nI k).toInt64.toUInt64 &&& Int64.toUInt64 63) % 64).toBitVec.toNat = k := by decide +kernel
theorem tb_shl (x : Int64) {k j : Nat} (hk : k < 64) : tb (shl x (nI k)) j = (decide (j < 64) && (!decide (j < k) && tb x (j - k))) := by
  unfold shl tb
  show (x.toBitVec <<< (((nI k).toInt64 &&& 63).toBitVec.smod 64)).getLsbD j = _
  rw [BitVec.shiftLeft_eq', amt_l k hk, BitVec.getLsbD_shiftLeft, Bool.and_assoc]
theorem tb_shr (x : Int64) {k j : Nat} (hk : k < 64) : tb (shr x (nI k)) j = tb x (k + j) := by
  unfold shr tb
  show (x.toBitVec >>> (((nI k).toInt64.toUInt64 &&& Int64.toUInt64 63) % 64).toBitVec).getLsbD j = _
  rw [BitVec.ushiftRight_eq', amt_r k hk, BitVec.getLsbD_ushiftRight]
theorem tb_shl1 {p j : Nat} (hp : p < 64) : tb (shl 1 (nI p)) j = (decide (j < 64) && decide (j = p)) := by
  rw [tb_shl 1 hp]
  have h1 : ∀ m, tb 1 m = decide (m = 0) := by
    intro m
    show (1#64).getLsbD m = _
    rw [BitVec.getLsbD_one]
    simp
  rw [h1]
  congr 1
  by_cases h : j = p
  · subst h; simp
  · rw [decide_eq_false h]
    by_cases g : j < p
    · rw [decide_eq_true g]; rfl
    · rw [decide_eq_false g, decide_eq_false (by omega)]; rfl
def Lin (f : Int64 → Int64) : Prop := ∀ x y, f (x ||| y) = f x ||| f y
theorem Lin.and (c : Int64) : Lin (fun x => x &&& c) := by
  intro x y
  refine tb_ext (fun j _ => ?_)
  simp only [tb_and, tb_or]
  cases tb x j <;> cases tb y j <;> cases tb c j <;> rfl
theorem Lin.shl (k : Nat) (hk : k < 64) : Lin (fun x => shl x (nI k)) := by
  intro x y
  refine tb_ext (fun j _ => ?_)
  simp only [tb_shl _ hk, tb_or]
  cases decide (j < 64) <;> cases decide (j < k) <;> simp
theorem Lin.shr (k : Nat) (hk : k < 64) : Lin (fun x => shr x (nI k)) := by
  intro x y
  refine tb_ext (fun j _ => ?_)
  simp only [tb_shr _ hk, tb_or]
theorem Lin.or {f g : Int64 → Int64} (hf : Lin f) (hg : Lin g) : Lin (fun x => f x ||| g x) := by
  intro x y
  show f (x ||| y) ||| g (x ||| y) = (f x ||| g x) ||| (f y ||| g y)
  rw [hf, hg]
  refine tb_ext (fun j _ => ?_)
  simp only [tb_or]
  cases tb (f x) j <;> cases tb (f y) j <;> cases tb (g x) j <;> cases tb (g y) j <;> rfl
theorem Lin.comp {f g : Int64 → Int64} (hf : Lin f) (hg : Lin g) : Lin (fun x => f (g x)) := by
  intro x y
  show f (g (x ||| y)) = _
  rw [hg, hf]
theorem LinAT : Lin aT :=
  Lin.or (Lin.or (Lin.comp (Lin.shl 1 (by omega)) (Lin.comp (Lin.and (-150119987579017)) (Lin.and 16557351571215))) (Lin.comp (Lin.shr 3 (by omega)) (Lin.comp (Lin.and 150119987579016) (Lin.and 16557351571215))))
    (Lin.or (Lin.comp (Lin.shr 1 (by omega)) (Lin.comp (Lin.and (-18764998447378)) (Lin.and 264917625139440))) (Lin.comp (Lin.shl 3 (by omega)) (Lin.comp (Lin.and 18764998447377) (Lin.and 264917625139440))))
theorem LinNx {P : Nat} (h2 : 2 ≤ P) (h6 : P ≤ 6) : Lin (fun x => nx x (nI (2 * P))) := by
  have e : (4 : Int32) * nI (2 * P) - 6 = nI (8 * P - 6) := by
    rw [show (4 : Int32) = nI 4 from rfl, show (6 : Int32) = nI 6 from rfl, pk_mul, pk_sub (by omega)]
    congr 1
    omega
  unfold nx
  rw [e]
  exact Lin.comp (Lin.and _) (Lin.or (Lin.shl 6 (by omega)) (Lin.shr (8 * P - 6) (by omega)))
theorem LinBk {P : Nat} (h2 : 2 ≤ P) (h6 : P ≤ 6) : Lin (fun x => bk x (nI (2 * P))) := by
  have e : (4 : Int32) * nI (2 * P) - 6 = nI (8 * P - 6) := by
    rw [show (4 : Int32) = nI 4 from rfl, show (6 : Int32) = nI 6 from rfl, pk_mul, pk_sub (by omega)]
    congr 1
    omega
  unfold bk
  rw [e]
  exact Lin.comp (Lin.and _) (Lin.or (Lin.shr 6 (by omega)) (Lin.shl (8 * P - 6) (by omega)))
theorem LinAP {P : Nat} (h2 : 2 ≤ P) (h6 : P ≤ 6) : Lin (fun x => aP x (nI (2 * P))) :=
  Lin.or (Lin.or (Lin.and _) (Lin.comp (LinNx h2 h6) (Lin.and _))) (Lin.comp (LinBk h2 h6) (Lin.and _))
def msk : List Nat → Int64 | [] => 0 | p :: r => shl 1 (nI p) ||| msk r
def Lo (l : List Nat) : Prop := ∀ p, p ∈ l → p < 48
theorem msk_tb {l : List Nat} (h : Lo l) {j : Nat} : tb (msk l) j = decide (j ∈ l) := by
  induction l with
  | nil => rw [msk, tb_0]; simp
  | cons p r ih =>
    have hp : p < 48 := h p (by simp)
    have hr : Lo r := fun x hx => h x (by simp [hx])
    rw [msk, tb_or, ih hr, tb_shl1 (by omega)]
    by_cases e : j = p
    · subst e; simp; omega
    · simp [e]
theorem msk_app (l : List Nat) (p : Nat) : msk (l ++ [p]) = msk l ||| shl 1 (nI p) := by
  induction l with
  | nil =>
    show shl 1 (nI p) ||| 0 = 0 ||| shl 1 (nI p)
    refine tb_ext (fun j _ => ?_)
    rw [tb_or, tb_or, Bool.or_comm]
  | cons q r ih =>
    show shl 1 (nI q) ||| msk (r ++ [p]) = (shl 1 (nI q) ||| msk r) ||| shl 1 (nI p)
    rw [ih]
    refine tb_ext (fun j _ => ?_)
    simp only [tb_or, Bool.or_assoc]
theorem msk_appl (l r : List Nat) : msk (l ++ r) = msk l ||| msk r := by
  induction l with
  | nil =>
    show msk r = 0 ||| msk r
    refine tb_ext (fun j _ => ?_)
    rw [tb_or, tb_0, Bool.false_or]
  | cons q s ih =>
    show shl 1 (nI q) ||| msk (s ++ r) = (shl 1 (nI q) ||| msk s) ||| msk r
    rw [ih]
    refine tb_ext (fun j _ => ?_)
    simp only [tb_or, Bool.or_assoc]
theorem msk_lin {f : Int64 → Int64} {σ : Nat → List Nat} {N : Nat} (hf : Lin f) (h0 : f 0 = 0) (hs : ∀ p, p < N → f (shl 1 (nI p)) = msk (σ p)) : ∀ l : List Nat, (∀ p, p ∈ l → p < N) → f (msk l) = msk (l.flatMap σ) := by
  intro l
  induction l with
  | nil => intro _; exact h0
  | cons p r ih =>
    intro h
    show f (shl 1 (nI p) ||| msk r) = msk (σ p ++ r.flatMap σ)
    rw [hf, hs p (h p (by simp)), ih (fun x hx => h x (by simp [hx])), msk_appl]
theorem msk_inj {l r : List Nat} (hl : Lo l) (hr : Lo r) : msk l = msk r ↔ ∀ j, j ∈ l ↔ j ∈ r := by
  constructor
  · intro h j
    have h2 : tb (msk l) j = tb (msk r) j := by rw [h]
    rw [msk_tb hl, msk_tb hr] at h2
    exact decide_eq_decide.mp h2
  · intro h
    refine tb_ext (fun j _ => ?_)
    rw [msk_tb hl, msk_tb hr]
    exact decide_eq_decide.mpr (h j)
theorem msk_0 {l : List Nat} (hl : Lo l) : msk l = 0 ↔ l = [] := by
  rw [show (0 : Int64) = msk [] from rfl, msk_inj hl (fun p hp => by simp at hp)]
  constructor
  · intro h
    cases l with
    | nil => rfl
    | cons a r => exact absurd ((h a).mp (by simp)) (by simp)
  · intro h; subst h; intro j; rfl
theorem msk_m1 {l : List Nat} (hl : Lo l) : ¬ msk l = -1 := by
  intro h
  have h2 : tb (msk l) 63 = tb (-1) 63 := by rw [h]
  rw [msk_tb hl, show tb (-1) 63 = true by decide +kernel] at h2
  exact absurd (hl 63 (of_decide_eq_true h2)) (by omega)
theorem aT_all : ((List.range 48).all fun p => decide (aT (shl 1 (nI p)) = msk [tN p])) = true := by decide +kernel
theorem flat1 (f : Nat → Nat) (l : List Nat) : l.flatMap (fun p => [f p]) = l.map f := by
  induction l with
  | nil => rfl
  | cons a r ih => rw [List.flatMap_cons, ih]; rfl
theorem aT_msk {l : List Nat} (hl : Lo l) : aT (msk l) = msk (l.map tN) := by
  rw [← flat1]
  refine msk_lin (N := 48) LinAT (by decide +kernel) (fun p hp => ?_) l hl
  exact of_decide_eq_true (List.all_eq_true.mp aT_all p (List.mem_range.mpr hp))
theorem aP_all : ((List.range 7).all fun P => (List.range 48).all fun p => !(Nat.ble 2 P && Nat.blt p (8 * P)) || decide (aP (shl 1 (nI p)) (nI (2 * P)) = msk [oN P p])) = true := by decide +kernel
theorem aP_0 : ((List.range 7).all fun P => decide (aP 0 (nI (2 * P)) = 0)) = true := by decide +kernel
theorem aP_msk {P : Nat} (h2 : 2 ≤ P) (h6 : P ≤ 6) {l : List Nat} (hl : ∀ p, p ∈ l → p < 8 * P) : aP (msk l) (nI (2 * P)) = msk (l.map (oN P)) := by
  rw [← flat1]
  refine msk_lin (f := fun x => aP x (nI (2 * P))) (N := 8 * P) (LinAP h2 h6) (of_decide_eq_true (List.all_eq_true.mp aP_0 P (List.mem_range.mpr (by omega)))) (fun p hp => ?_) l hl
  have h := List.all_eq_true.mp (List.all_eq_true.mp aP_all P (List.mem_range.mpr (by omega))) p (List.mem_range.mpr (by omega))
  rw [show Nat.ble 2 P = true from Nat.ble_eq_true_of_le h2, show Nat.blt p (8 * P) = true from Nat.ble_eq_true_of_le hp] at h
  exact of_decide_eq_true h
def s0 (p : Nat) : List Nat := if p % 4 = 0 then [p] else []
def s2 (P p : Nat) : List Nat := if p % 4 = 2 then [oN P p] else []
theorem n0_all : ((List.range 48).all fun p => decide (shl 1 (nI p) &&& 18764998447377 = msk (s0 p))) = true := by decide +kernel
theorem n2_all : ((List.range 7).all fun P => (List.range 48).all fun p => !(Nat.ble 2 P && Nat.blt p (8 * P)) || decide (bk (shl 1 (nI p) &&& 75059993789508) (nI (2 * P)) = msk (s2 P p))) = true := by decide +kernel
theorem n2_0 : ((List.range 7).all fun P => decide (bk (0 &&& 75059993789508) (nI (2 * P)) = 0)) = true := by decide +kernel
theorem mts_msk {P : Nat} (h2 : 2 ≤ P) (h6 : P ≤ 6) {l : List Nat} (hl : ∀ p, p ∈ l → p < 8 * P) : mts (msk l) (nI (2 * P)) = msk (l.flatMap s0) &&& msk (l.flatMap (s2 P)) := by
  have h48 : Lo l := fun p hp => by have := hl p hp; omega
  unfold mts
  have e1 : msk l &&& 18764998447377 = msk (l.flatMap s0) := by
    refine msk_lin (f := fun x => x &&& 18764998447377) (N := 48) (Lin.and _) (by decide +kernel) (fun p hp => ?_) l h48
    exact of_decide_eq_true (List.all_eq_true.mp n0_all p (List.mem_range.mpr hp))
  have e2 : bk (msk l &&& 75059993789508) (nI (2 * P)) = msk (l.flatMap (s2 P)) := by
    refine msk_lin (f := fun x => bk (x &&& 75059993789508) (nI (2 * P))) (N := 8 * P) (Lin.comp (f := fun x => bk x (nI (2 * P))) (LinBk h2 h6) (Lin.and _)) (of_decide_eq_true (List.all_eq_true.mp n2_0 P (List.mem_range.mpr (by omega)))) (fun p hp => ?_) l hl
    have h := List.all_eq_true.mp (List.all_eq_true.mp n2_all P (List.mem_range.mpr (by omega))) p (List.mem_range.mpr (by omega))
    rw [show Nat.ble 2 P = true from Nat.ble_eq_true_of_le h2, show Nat.blt p (8 * P) = true from Nat.ble_eq_true_of_le hp] at h
    exact of_decide_eq_true h
  rw [e1, e2]
/-- turning and passing are one to one -/
theorem perm_all : ((List.range 7).all fun P => (List.range 48).all fun p => !(Nat.ble 2 P && Nat.blt p (8 * P)) || (Nat.beq (oN P (oN P p)) p && (Nat.beq (tN (tN (tN (tN p)))) p && (Nat.blt (tN p) (8 * P) && (Nat.blt (oN P p) (8 * P) && (!Nat.beq (p % 4) 2 || Nat.beq (oN P p % 4) 0) && (!Nat.beq (p % 4) 0 || Nat.beq (oN P p % 4) 2)))))) = true := by decide +kernel
theorem perm_ok {P p : Nat} (h2 : 2 ≤ P) (h6 : P ≤ 6) (hp : p < 8 * P) : oN P (oN P p) = p ∧ tN (tN (tN (tN p))) = p ∧ tN p < 8 * P ∧ oN P p < 8 * P ∧ (p % 4 = 2 → oN P p % 4 = 0) ∧ (p % 4 = 0 → oN P p % 4 = 2) := by
  have h := List.all_eq_true.mp (List.all_eq_true.mp perm_all P (List.mem_range.mpr (by omega))) p (List.mem_range.mpr (by omega))
  rw [show Nat.ble 2 P = true from Nat.ble_eq_true_of_le h2, show Nat.blt p (8 * P) = true from Nat.ble_eq_true_of_le hp] at h
  simp only [Bool.not_true, Bool.false_or, Bool.and_eq_true, Bool.and_self, Bool.or_eq_true, Bool.not_eq_true'] at h
  obtain ⟨a, b, c, ⟨e, f⟩, g⟩ := h
  refine ⟨Nat.eq_of_beq_eq_true a, Nat.eq_of_beq_eq_true b, Nat.le_of_ble_eq_true c, Nat.le_of_ble_eq_true e, fun q => ?_, fun q => ?_⟩
  · rcases f with f | f
    · rw [q] at f; cases f
    · exact Nat.eq_of_beq_eq_true f
  · rcases g with g | g
    · rw [q] at g; cases g
    · exact Nat.eq_of_beq_eq_true g
/-- two would meet at a contact, the places being turned -/
def mtg (P : Nat) (l : List Nat) (c : Nat) : Prop := 4 * c ∈ l ∧ oN P (4 * c) ∈ l
theorem mts_tb {P : Nat} (h2 : 2 ≤ P) (h6 : P ≤ 6) {l : List Nat} (hl : ∀ p, p ∈ l → p < 8 * P) (j : Nat) : tb (mts (msk l) (nI (2 * P))) j = true ↔ (j % 4 = 0 ∧ j ∈ l ∧ oN P j ∈ l) := by
  have h48 : Lo l := fun p hp => by have := hl p hp; omega
  have L0 : Lo (l.flatMap s0) := by
    intro p hp
    obtain ⟨a, ha, hb⟩ := List.mem_flatMap.mp hp
    unfold s0 at hb
    split at hb
    · rw [List.mem_singleton.mp hb]; exact h48 a ha
    · simp at hb
  have L2 : Lo (l.flatMap (s2 P)) := by
    intro p hp
    obtain ⟨a, ha, hb⟩ := List.mem_flatMap.mp hp
    unfold s2 at hb
    split at hb
    · rw [List.mem_singleton.mp hb]
      have := (perm_ok h2 h6 (hl a ha)).2.2.2.1
      omega
    · simp at hb
  rw [mts_msk h2 h6 hl, tb_and, msk_tb L0, msk_tb L2, Bool.and_eq_true, decide_eq_true_eq, decide_eq_true_eq]
  constructor
  · rintro ⟨q0, q2⟩
    obtain ⟨a, ha, hb⟩ := List.mem_flatMap.mp q0
    unfold s0 at hb
    split at hb
    · next h0 =>
      have ea : j = a := List.mem_singleton.mp hb
      subst ea
      obtain ⟨e, he, hb2⟩ := List.mem_flatMap.mp q2
      unfold s2 at hb2
      split at hb2
      · have ee : j = oN P e := List.mem_singleton.mp hb2
        refine ⟨h0, ha, ?_⟩
        rw [ee, (perm_ok h2 h6 (hl e he)).1]
        exact he
      · simp at hb2
    · simp at hb
  · rintro ⟨q0, q1, q2⟩
    have hj := hl j q1
    have k := perm_ok h2 h6 hj
    refine ⟨List.mem_flatMap.mpr ⟨j, q1, ?_⟩, List.mem_flatMap.mpr ⟨oN P j, q2, ?_⟩⟩
    · unfold s0; rw [if_pos q0]; simp
    · unfold s2; rw [if_pos (k.2.2.2.2.2 q0), k.1]; simp
theorem mts_bit {P : Nat} (h2 : 2 ≤ P) (h6 : P ≤ 6) {l : List Nat} (hl : ∀ p, p ∈ l → p < 8 * P) {c : Nat} (hc : c < 16) : shr (mts (msk l) (nI (2 * P))) (4 * nI c) &&& 1 = 0 ↔ ¬ mtg P l c := by
  have e : (4 : Int32) * nI c = nI (4 * c) := by rw [show (4 : Int32) = nI 4 from rfl, pk_mul]
  have hb := mts_tb h2 h6 hl (4 * c)
  have h1 : ∀ m, tb 1 m = decide (m = 0) := by
    intro m
    show (1#64).getLsbD m = _
    rw [BitVec.getLsbD_one]
    simp
  rw [e]
  constructor
  · intro h g
    have h3 := hb.mpr ⟨by omega, g.1, g.2⟩
    have h4 : tb (shr (mts (msk l) (nI (2 * P))) (nI (4 * c)) &&& 1) 0 = false := by rw [h]; exact tb_0 0
    rw [tb_and, tb_shr _ (by omega), h1, Nat.add_zero, h3] at h4
    cases h4
  · intro h
    refine tb_ext (fun j _ => ?_)
    rw [tb_and, tb_shr _ (by omega), h1, tb_0]
    by_cases hj : j = 0
    · subst hj
      rw [Nat.add_zero]
      cases hx : tb (mts (msk l) (nI (2 * P))) (4 * c) with
      | false => rfl
      | true => exact (h ⟨(hb.mp hx).2.1, (hb.mp hx).2.2⟩).elim
    · rw [decide_eq_false hj, Bool.and_false]
theorem mts_0 {P : Nat} (h2 : 2 ≤ P) (h6 : P ≤ 6) {l : List Nat} (hl : ∀ p, p ∈ l → p < 8 * P) : mts (msk l) (nI (2 * P)) = 0 ↔ ∀ c, c < 2 * P → ¬ mtg P l c := by
  constructor
  · intro h c hc g
    have h3 := (mts_tb h2 h6 hl (4 * c)).mpr ⟨by omega, g.1, g.2⟩
    rw [h, tb_0] at h3
    cases h3
  · intro h
    refine tb_ext (fun j _ => ?_)
    rw [tb_0]
    cases hx : tb (mts (msk l) (nI (2 * P))) j with
    | false => rfl
    | true =>
      obtain ⟨a, b, c⟩ := (mts_tb h2 h6 hl j).mp hx
      have hj := hl j b
      have e : 4 * (j / 4) = j := by omega
      exact (h (j / 4) (by omega) (by unfold mtg; rw [e]; exact ⟨b, c⟩)).elim

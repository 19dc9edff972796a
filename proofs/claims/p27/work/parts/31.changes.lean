/-! each change of the object, as the law sees it -/
section CHANGES
variable {X : xLC} {c : Nat} {z t : Nat → Int32} {u0 u1 : Option (Nat → Int32)} {h : xHp} {P : Nat}
variable (d n : Nat)
theorem c_set_bad (hS : ST X c z t u0 u1 h) (hf : Fl z) (x y : Int32) (hx : isV x y = false) : ∃ h', ST X c z t u0 u1 h' ∧ Rn (d + 3) 61 0 [(0, .ref 3), (1, .int x), (2, .int y)] [] h n (some (.int (-2))) h' n :=
  g_set_no d n hS hf x y (-2) (by decide) (fun s G g1 g2 => ⟨s, t_cs_bad (d + 1) n z s G g1 g2 x y hx⟩)
theorem c_set_not (hS : ST X c z t u0 u1 h) (hf : Fl z) (y : Int32) (hy : isV 0 y = true) (hm : ¬ mSet z 10 = 0) : ∃ h', ST X c z t u0 u1 h' ∧ Rn (d + 3) 61 0 [(0, .ref 3), (1, .int 0), (2, .int y)] [] h n (some (.int (-5))) h' n :=
  g_set_no d n hS hf 0 y (-5) (by decide) (fun s G g1 g2 => ⟨s, t_cs_not (d + 1) n z s G g1 g2 y hy hm⟩)
theorem c_set_0 (hS : ST X c z t u0 u1 h) (hG : GP z P) (y : Int32) (hy : isV 0 y = true) (hm : mSet z 10 = 0) : ∃ h', ST X (up c) (upd z 0 y) z u0 u1 h' ∧ Rn (d + 3) 61 0 [(0, .ref 3), (1, .int 0), (2, .int y)] [] h n (some (.int (z 0))) h' n :=
  g_set_ok d n hS hG.2.2.2.2.1 0 y (z 0) (upd z 0 y) (by rw [hG.1]; have := hG.2.2.1; exact nI_pos (by omega)) (fun s G g1 g2 => ⟨s, t_cs_0 (d + 1) n z s G g1 g2 y hy hm⟩)
theorem c_set_1 (hS : ST X c z t u0 u1 h) (hf : Fl z) (h1 : ¬ z 1 < 0) (y : Int32) (hy : isV 1 y = true) : ∃ h', ST X (up c) (upd z 1 y) z u0 u1 h' ∧ Rn (d + 3) 61 0 [(0, .ref 3), (1, .int 1), (2, .int y)] [] h n (some (.int (z 1))) h' n :=
  g_set_ok d n hS hf 1 y (z 1) (upd z 1 y) h1 (fun s G g1 g2 => ⟨s, t_cs_1 (d + 1) n z s G g1 g2 y hy⟩)
theorem c_set_2 (hS : ST X c z t u0 u1 h) (hG : GP z P) (y : Int32) (hy : isV 2 y = true) : ∃ h', ST X (up c) (upd z 2 y) z u0 u1 h' ∧ Rn (d + 3) 61 0 [(0, .ref 3), (1, .int 2), (2, .int y)] [] h n (some (.int (z 2))) h' n :=
  g_set_ok d n hS hG.2.2.2.2.1 2 y (z 2) (upd z 2 y) (by obtain ⟨v, v1, v2⟩ := hG.2.2.2.2.2.2.2; rw [v2]; exact nI_pos (by omega)) (fun s G g1 g2 => ⟨s, t_cs_2 (d + 1) n z s G g1 g2 y hy⟩)
theorem c_car_bad (hS : ST X c z t u0 u1 h) (hG : GP z P) (x y : Int32) (hp : isPl (2 * z 0) x y = false) : ∃ h', ST X c z t u0 u1 h' ∧ Rn (d + 3) 62 0 [(0, .ref 3), (1, .int x), (2, .int y)] [] h n (some (.int (-1))) h' n :=
  g_carrier_no d n hS hG.2.2.2.2.1 x y (-1) (by decide) (fun s G g1 g2 => ⟨s, t_ins_pl d n z s G P hG.1 hG.2.1 hG.2.2.1 x y hp⟩)
theorem c_car_fit (hS : ST X c z t u0 u1 h) (hG : GP z P) (x y : Int32) (hp : isPl (2 * z 0) x y = true) (p : Nat) (hp8 : p < 8 * P) (hpe : 4 * x + y = nI p) (hfit : ¬ (¬ p ∈ pl z 10 ∧ ¬ oN P p ∈ pl z 10)) : ∃ h', ST X c z t u0 u1 h' ∧ Rn (d + 3) 62 0 [(0, .ref 3), (1, .int x), (2, .int y)] [] h n (some (.int (-5))) h' n :=
  g_carrier_no d n hS hG.2.2.2.2.1 x y (-5) (by decide) (fun s G g1 g2 => ⟨s, t_ins_fit d n z s G P hG.1 hG.2.1 hG.2.2.1 x y hp p hp8 hpe (by rw [hG.fit hp8]; exact decide_eq_false hfit)⟩)
theorem c_car_full (hS : ST X c z t u0 u1 h) (hG : GP z P) (x y : Int32) (hp : isPl (2 * z 0) x y = true) (p : Nat) (hp8 : p < 8 * P) (hpe : 4 * x + y = nI p) (hfit : ¬ p ∈ pl z 10 ∧ ¬ oN P p ∈ pl z 10) (ha : ∀ j, j < 10 → zt z j = true) : ∃ h', ST X c z t u0 u1 h' ∧ Rn (d + 3) 62 0 [(0, .ref 3), (1, .int x), (2, .int y)] [] h n (some (.int (-4))) h' n :=
  g_carrier_no d n hS hG.2.2.2.2.1 x y (-4) (by decide) (fun s G g1 g2 => ⟨s, t_ins_full d n z s G P hG.1 hG.2.1 hG.2.2.1 x y hp p hp8 hpe (by rw [hG.fit hp8]; exact decide_eq_true hfit) ha⟩)
theorem c_car_ok (hS : ST X c z t u0 u1 h) (hG : GP z P) (x y : Int32) (hp : isPl (2 * z 0) x y = true) (p : Nat) (hp8 : p < 8 * P) (hpe : 4 * x + y = nI p) (hfit : ¬ p ∈ pl z 10 ∧ ¬ oN P p ∈ pl z 10) (e : Nat) (he : e < 10) (hz : zt z e = false) (ha : ∀ j, j < e → zt z j = true) : ∃ h', ST X (up c) (newZ z e (nI p)) z u0 u1 h' ∧ Rn (d + 3) 62 0 [(0, .ref 3), (1, .int x), (2, .int y)] [] h n (some (.int (nI e))) h' n :=
  g_carrier_ok d n hS hG.2.2.2.2.1 x y (nI e) (newZ z e (nI p)) (nI_pos (by omega)) (fun s G g1 g2 => ⟨_, t_ins d n z s G P hG.1 hG.2.1 hG.2.2.1 x y hp p hp8 hpe (by rw [hG.fit hp8]; exact decide_eq_true hfit) e he hz ha⟩)
theorem c_to_bad (hS : ST X c z t u0 u1 h) (hf : Fl z) (x : Int32) (hx : isC z x = false) : ∃ h', ST X c z t u0 u1 h' ∧ Rn (d + 3) 63 0 [(0, .ref 3), (1, .int x)] [] h n (some (.int (-1))) h' n :=
  g_takeOut_no d n hS hf x (-1) (by decide) (fun s G g1 g2 => ⟨s, t_rem_bad (d + 1) n z s G x hx⟩)
theorem c_to_ok (hS : ST X c z t u0 u1 h) (hG : GP z P) (e : Nat) (he : e < 10) (hz : zt z e = true) : ∃ h', ST X (up c) (toZ z e) z u0 u1 h' ∧ Rn (d + 3) 63 0 [(0, .ref 3), (1, .int (nI e))] [] h n (some (.int (z (10 + 7 * e + 1)))) h' n :=
  g_takeOut_ok d n hS hG.2.2.2.2.1 (nI e) (z (10 + 7 * e + 1)) (toZ z e) (by obtain ⟨v, v1, v2⟩ := hG.2.2.2.2.2.2.1 e he; rw [v2]; exact nI_pos (by omega)) (fun s G g1 g2 => ⟨_, t_rem (d + 1) n z s G e he hz⟩)
theorem c_ref_bad (hS : ST X c z t u0 u1 h) (hf : Fl z) (x : Int32) (hx : isC z x = false) : ∃ h', ST X c z t u0 u1 h' ∧ Rn (d + 3) 67 0 [(0, .ref 3), (1, .int x)] [] h n (some (.int (-1))) h' n :=
  g_refill_no d n hS hf x (-1) (by decide) (fun s G g1 g2 => ⟨s, t_bob_bad (d + 1) n z s G x hx⟩)
theorem c_ref_ok (hS : ST X c z t u0 u1 h) (hG : GP z P) (e : Nat) (he : e < 10) (hz : zt z e = true) : ∃ h', ST X (up c) (refZ z e) z u0 u1 h' ∧ Rn (d + 3) 67 0 [(0, .ref 3), (1, .int (nI e))] [] h n (some (.int (z (10 + 7 * e + 1)))) h' n :=
  g_refill_ok d n hS hG.2.2.2.2.1 (nI e) (z (10 + 7 * e + 1)) (refZ z e) (by obtain ⟨v, v1, v2⟩ := hG.2.2.2.2.2.2.1 e he; rw [v2]; exact nI_pos (by omega)) (fun s G g1 g2 => ⟨_, t_bob (d + 1) n z s G e he hz⟩)
theorem c_snap_bad (hS : ST X c z t u0 u1 h) (hf : Fl z) (x : Int32) (hx : isC z x = false) : ∃ h', ST X c z t u0 u1 h' ∧ Rn (d + 3) 65 0 [(0, .ref 3), (1, .int x)] [] h n (some (.int (-1))) h' n :=
  g_snap_no d n hS hf x (-1) (by decide) (fun s G g1 g2 => ⟨s, t_brk_bad (d + 1) n z s G x hx⟩)
theorem c_snap_not (hS : ST X c z t u0 u1 h) (hf : Fl z) (e : Nat) (he : e < 10) (hz : zt z e = true) (hb : ¬ z (10 + 7 * e + 2) = 0) : ∃ h', ST X c z t u0 u1 h' ∧ Rn (d + 3) 65 0 [(0, .ref 3), (1, .int (nI e))] [] h n (some (.int (-5))) h' n :=
  g_snap_no d n hS hf (nI e) (-5) (by decide) (fun s G g1 g2 => ⟨s, t_brk_not (d + 1) n z s G e he hz hb⟩)
theorem c_snap_ok (hS : ST X c z t u0 u1 h) (hG : GP z P) (e : Nat) (he : e < 10) (hz : zt z e = true) (hb : z (10 + 7 * e + 2) = 0) : ∃ h', ST X (up c) (upd z (10 + 7 * e + 2) 1) z u0 u1 h' ∧ Rn (d + 3) 65 0 [(0, .ref 3), (1, .int (nI e))] [] h n (some (.int (mSum z 2 10 + 1))) h' n := by
  have hf := hG.2.2.2.2.1
  have hf2 : Fl (upd z (10 + 7 * e + 2) 1) := by
    intro u hu
    by_cases g : u = e
    · subst g; exact Or.inr upd_eq
    · rw [upd_ne (by omega)]; exact hf u hu
  have zs : ∀ u, zt (upd z (10 + 7 * e + 2) 1) u = zt z u := fun u => zt_ne (by omega)
  have k := mSum_ch (z := z) (z' := upd z (10 + 7 * e + 2) 1) (q := 2) (c := e) 10 he (fun u hu hn => tm_cg (upd_ne (by omega)) (upd_ne (by omega)))
  have k1 : tm z 2 e = 0 := by unfold tm; rw [hz, hb]; rfl
  have k2 : tm (upd z (10 + 7 * e + 2) 1) 2 e = 1 := by unfold tm; rw [zs, hz, upd_eq]; rfl
  rw [k1, k2] at k
  have k3 : mSum (upd z (10 + 7 * e + 2) 1) 2 10 = mSum z 2 10 + 1 := by grind
  obtain ⟨m, m1, m2⟩ := fl_sum hf 10 (Nat.le_refl _)
  rw [← k3]
  exact g_snap_ok d n hS hf (nI e) _ _ (by rw [k3, m2, nI_1]; exact nI_pos (by omega)) (fun s G g1 g2 => ⟨_, t_brk (d + 1) n z s G e he hz hb hf2⟩)
theorem c_tie_bad (hS : ST X c z t u0 u1 h) (hf : Fl z) (x : Int32) (hx : isC z x = false) : ∃ h', ST X c z t u0 u1 h' ∧ Rn (d + 3) 66 0 [(0, .ref 3), (1, .int x)] [] h n (some (.int (-1))) h' n :=
  g_tie_no d n hS hf x (-1) (by decide) (fun s G g1 g2 => ⟨s, t_mend_bad (d + 1) n z s G x hx⟩)
theorem c_tie_not (hS : ST X c z t u0 u1 h) (hf : Fl z) (e : Nat) (he : e < 10) (hz : zt z e = true) (hb : z (10 + 7 * e + 2) = 0) : ∃ h', ST X c z t u0 u1 h' ∧ Rn (d + 3) 66 0 [(0, .ref 3), (1, .int (nI e))] [] h n (some (.int (-5))) h' n :=
  g_tie_no d n hS hf (nI e) (-5) (by decide) (fun s G g1 g2 => ⟨s, t_mend_not (d + 1) n z s G e he hz hb⟩)
theorem c_tie_ok (hS : ST X c z t u0 u1 h) (hf : Fl z) (e : Nat) (he : e < 10) (hz : zt z e = true) (hb : ¬ z (10 + 7 * e + 2) = 0) (k : Nat) (hk : k ≤ 1000000) (h5 : z 5 = nI k) : ∃ h', ST X (up c) (tieZ z e) z u0 u1 h' ∧ Rn (d + 3) 66 0 [(0, .ref 3), (1, .int (nI e))] [] h n (some (.int (z 5 + 1))) h' n := by
  rw [← tieZ_5 e]
  exact g_tie_ok d n hS hf (nI e) _ _ (by rw [tieZ_5, h5, nI_1]; exact nI_pos (by omega)) (fun s G g1 g2 => ⟨_, t_mend (d + 1) n z s G e he hz hb⟩)
theorem c_run_bad (hS : ST X c z t u0 u1 h) (hf : Fl z) (x : Int32) (hx : decide (1 ≤ x ∧ x ≤ 99) = false) : ∃ h', ST X c z t u0 u1 h' ∧ Rn (d + 4) 64 0 [(0, .ref 3), (1, .int x)] [] h n (some (.int (-2))) h' n := by
  have e : wnr z x = -2 := by unfold wnr; rw [hx]; rfl
  exact g_run_no d n hS hf x (-2) (by decide) (fun s G g1 g2 => ⟨s, by
    have := t_adv_bad d n z s G x (by rw [e]; decide)
    rw [e] at this
    exact this⟩)
theorem c_run_ok (hS : ST X c z t u0 u1 h) (hG : GP z P) (N : Nat) (h1 : 1 ≤ N) (h9 : N ≤ 99) (hs : z 3 + nI N ≤ 9999) (hr : (adF N 0 z).1 ≤ 99) : ∃ h', ST X (up c) (adF N 0 z).2 z u0 u1 h' ∧ Rn (d + 4) 64 0 [(0, .ref 3), (1, .int (nI N))] [] h n (some (.int (nI (adF N 0 z).1))) h' n :=
  g_run_ok d n hS hG.2.2.2.2.1 (nI N) _ _ (nI_pos (by omega)) (fun s G g1 g2 => ⟨s, t_adv d n z s G g2 P hG.1 hG.2.1 hG.2.2.1 hG.2.2.2.2.1 hG.2.2.2.1 N h1 h9 hs⟩)
end CHANGES

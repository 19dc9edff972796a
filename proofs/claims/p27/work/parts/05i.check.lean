/-! the checks of methods, together -/
theorem xmok_all : (List.range 96).all xmok = true := by decide +kernel
theorem xckm_all : ∀ i, i < 98 → xckm i = true := by
  intro i hi
  by_cases h13 : i < 13
  · exact List.all_eq_true.mp xck_0 i (List.mem_range'_1.mpr ⟨by omega, by omega⟩)
  by_cases h26 : i < 26
  · exact List.all_eq_true.mp xck_13 i (List.mem_range'_1.mpr ⟨by omega, by omega⟩)
  by_cases h39 : i < 39
  · exact List.all_eq_true.mp xck_26 i (List.mem_range'_1.mpr ⟨by omega, by omega⟩)
  by_cases h52 : i < 52
  · exact List.all_eq_true.mp xck_39 i (List.mem_range'_1.mpr ⟨by omega, by omega⟩)
  by_cases h65 : i < 65
  · exact List.all_eq_true.mp xck_52 i (List.mem_range'_1.mpr ⟨by omega, by omega⟩)
  by_cases h78 : i < 78
  · exact List.all_eq_true.mp xck_65 i (List.mem_range'_1.mpr ⟨by omega, by omega⟩)
  by_cases h86 : i < 86
  · exact List.all_eq_true.mp xck_78 i (List.mem_range'_1.mpr ⟨by omega, by omega⟩)
  by_cases h88 : i < 88
  · exact List.all_eq_true.mp xck_86 i (List.mem_range'_1.mpr ⟨by omega, by omega⟩)
  by_cases h89 : i < 89
  · exact List.all_eq_true.mp xck_88 i (List.mem_range'_1.mpr ⟨by omega, by omega⟩)
  by_cases h90 : i < 90
  · exact List.all_eq_true.mp xck_89 i (List.mem_range'_1.mpr ⟨by omega, by omega⟩)
  by_cases h93 : i < 93
  · exact List.all_eq_true.mp xck_90 i (List.mem_range'_1.mpr ⟨by omega, by omega⟩)
  by_cases h95 : i < 95
  · exact List.all_eq_true.mp xck_93 i (List.mem_range'_1.mpr ⟨by omega, by omega⟩)
  by_cases h96 : i < 96
  · exact List.all_eq_true.mp xck_95 i (List.mem_range'_1.mpr ⟨by omega, by omega⟩)
  by_cases h97 : i < 97
  · exact List.all_eq_true.mp xck_96 i (List.mem_range'_1.mpr ⟨by omega, by omega⟩)
  by_cases h98 : i < 98
  · exact List.all_eq_true.mp xck_97 i (List.mem_range'_1.mpr ⟨by omega, by omega⟩)
  exact absurd hi h98
theorem xpos_all : (List.range 98).all (fun i => Nat.blt 0 (xMt i).2.2.2.2.2.2.2) = true := by decide +kernel
theorem xpos (i : Nat) (hi : i < 98) : 0 < (xMt i).2.2.2.2.2.2.2 := Nat.le_of_ble_eq_true (List.all_eq_true.mp xpos_all i (List.mem_range.mpr hi))
theorem xmok_of {j : Nat} (h : j < 96) : xmok j = true := List.all_eq_true.mp xmok_all j (List.mem_range.mpr h)
theorem xchk_of {i pc : Nat} {e : xEn} (hi : i < 98) (h : xfind i pc = some e) : xchk i pc e = true := by
  unfold xfind at h
  cases hb : Nat.ble pc ((xMt i).2.2.2.2.2.2.2 - 1) with
  | false => rw [hb] at h; cases h
  | true =>
    rw [hb] at h
    have h1 := xckm_all i hi
    unfold xckm at h1
    have hle : pc ≤ (xMt i).2.2.2.2.2.2.2 - 1 := Nat.le_of_ble_eq_true hb
    by_cases hz : pc < (xMt i).2.2.2.2.2.2.2
    · have h2 := List.all_eq_true.mp h1 pc (List.mem_range.mpr hz)
      have h3 : xI i pc = some e := h
      rw [h3] at h2
      exact h2
    · exact absurd (xpos i hi) (by omega)


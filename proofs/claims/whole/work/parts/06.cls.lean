/-! ===== rows: fields ===== -/
theorem inT0 : ∀ w ∈ wsX00, w ∈ TW := by decide +kernel
theorem inT1 : ∀ w ∈ wsX10, w ∈ TW := by decide +kernel
theorem inT2 : ∀ w ∈ wsX20, w ∈ TW := by decide +kernel
theorem inT3 : ∀ w ∈ wsX30, w ∈ TW := by decide +kernel
theorem inT4 : ∀ w ∈ wsX40, w ∈ TW := by decide +kernel
theorem inT5 : ∀ w ∈ wsX50, w ∈ TW := by decide +kernel
theorem inT6 : ∀ w ∈ wsX60, w ∈ TW := by decide +kernel
theorem inT7 : ∀ w ∈ wsX70, w ∈ TW := by decide +kernel
theorem inT8 : ∀ w ∈ wsX80, w ∈ TW := by decide +kernel
theorem inT9 : ∀ w ∈ wsX90, w ∈ TW := by decide +kernel
theorem cl_all {c : Nat} {r : vw_C} (h : vwCl[c]? = some r) : (∀ w ∈ u_ws r.1 r.2.1 r.2.2, w ∈ TW) ∧ (∀ k, k < r.2.2 → parseFieldDescriptor (r.2.1 k).2.2.1 = some (tyF c k)) ∧ (∀ a, a < r.2.2 → ∀ b, b < r.2.2 → a ≠ b → (r.2.1 a).2.1 ≠ (r.2.1 b).2.1) := by
  match c, h with
  | 0, h => cases h; exact ⟨inT0, tyX0_ok, nmX0⟩
  | 1, h => cases h; exact ⟨inT1, tyX1_ok, nmX1⟩
  | 2, h => cases h; exact ⟨inT2, tyX2_ok, nmX2⟩
  | 3, h => cases h; exact ⟨inT3, tyX3_ok, nmX3⟩
  | 4, h => cases h; exact ⟨inT4, tyX4_ok, nmX4⟩
  | 5, h => cases h; exact ⟨inT5, tyX5_ok, nmX5⟩
  | 6, h => cases h; exact ⟨inT6, tyX6_ok, nmX6⟩
  | 7, h => cases h; exact ⟨inT7, tyX7_ok, nmX7⟩
  | 8, h => cases h; exact ⟨inT8, tyX8_ok, nmX8⟩
  | 9, h => cases h; exact ⟨inT9, tyX9_ok, nmX9⟩
  | c + 10, h => exact absurd (vwCl_lt h) (by omega)

def exW (k ic : Nat) : Prop := ∀ w ∈ (vx_atS RX8 ic (exN k) ["java/lang/RuntimeException", "java/lang/Exception"]).filter goodWord, w ∈ TW
theorem exW1 : exW 1 115 := by
  unfold exW
  decide +kernel
theorem exW2 : exW 2 126 := by
  unfold exW
  decide +kernel
theorem exW3 : exW 3 140 := by
  unfold exW
  decide +kernel
def exB (k : Nat) : List Cond := Cond.castable (exN k) (exN k) :: declL.map Cond.declares
def exA (k ic : Nat) : Prop := exW k ic ∧ (∀ w ∈ (vx_atS RX8 ic (exN k) ["java/lang/RuntimeException", "java/lang/Exception"]).filter (fun w => !goodWord w), w ∈ exB k) ∧ ((vx_atS RX8 ic (exN k) ["java/lang/RuntimeException", "java/lang/Exception"]).all vx_ot = true) ∧ Bundle.fit (exN k) = true
theorem exA1 : exA 1 115 := ⟨exW1, by decide +kernel, by decide +kernel, by decide +kernel⟩
theorem exA2 : exA 2 126 := ⟨exW2, by decide +kernel, by decide +kernel, by decide +kernel⟩
theorem exA3 : exA 3 140 := ⟨exW3, by decide +kernel, by decide +kernel, by decide +kernel⟩

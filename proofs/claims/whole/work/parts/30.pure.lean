/-! ===== bits of Int32 (this family is pasted out of kit/laws/BITS.to-paste) ===== -/
def bt (x : Int32) (i : Nat) : Bool := x.toBitVec.getLsbD i
theorem b_ext {x y : Int32} (h : ∀ i, i < 32 → bt x i = bt y i) : x = y := Int32.toBitVec_inj.mp (BitVec.eq_of_getLsbD_eq (fun i hi => h i hi))
theorem b_or (x y : Int32) (i : Nat) : bt (x ||| y) i = (bt x i || bt y i) := by unfold bt; rw [Int32.toBitVec_or, BitVec.getLsbD_or]
theorem b_and (x y : Int32) (i : Nat) : bt (x &&& y) i = (bt x i && bt y i) := by unfold bt; rw [Int32.toBitVec_and, BitVec.getLsbD_and]
theorem b_xor (x y : Int32) (i : Nat) : bt (x ^^^ y) i = (bt x i ^^ bt y i) := by unfold bt; rw [Int32.toBitVec_xor, BitVec.getLsbD_xor]
theorem b_big {x : Int32} {i : Nat} (h : 32 ≤ i) : bt x i = false := BitVec.getLsbD_of_ge _ _ h
theorem b_255 (i : Nat) : bt 255 i = decide (i < 8) := by
  rcases Nat.lt_or_ge i 32 with h | h
  · exact (by decide +kernel : ∀ i, i < 32 → bt 255 i = decide (i < 8)) i h
  · rw [b_big h, decide_eq_false (by omega)]
theorem b_65535 (i : Nat) : bt 65535 i = decide (i < 16) := by
  rcases Nat.lt_or_ge i 32 with h | h
  · exact (by decide +kernel : ∀ i, i < 32 → bt 65535 i = decide (i < 16)) i h
  · rw [b_big h, decide_eq_false (by omega)]
theorem b_m1 : ∀ i, i < 32 → bt (-1) i = true := by decide +kernel
theorem b_0 (i : Nat) : bt 0 i = false := BitVec.getLsbD_zero
theorem s_l : ∀ n, n < 32 → ((nI n &&& 31).toBitVec.smod 32).toNat = n := by decide +kernel
theorem s_u : ∀ n, n < 32 → (((nI n).toUInt32 &&& Int32.toUInt32 31).toBitVec % 32).toNat = n := by decide +kernel
theorem b_shl (n : Nat) (hn : n < 32) (x : Int32) {i : Nat} (hi : i < 32) : bt (x <<< (nI n &&& 31)) i = (decide (n ≤ i) && bt x (i - n)) := by
  unfold bt
  rw [Int32.toBitVec_shiftLeft]
  show (x.toBitVec <<< ((nI n &&& 31).toBitVec.smod 32).toNat).getLsbD i = _
  rw [s_l n hn, BitVec.getLsbD_shiftLeft]
  rcases Nat.lt_or_ge i n with h | h
  · simp [h, Nat.not_le.mpr h]
  · simp [hi, h, Nat.not_lt.mpr h]
theorem b_ushr (n : Nat) (hn : n < 32) (x : Int32) (i : Nat) : bt ((x.toUInt32 >>> ((nI n).toUInt32 &&& Int32.toUInt32 31)).toInt32) i = bt x (n + i) := by
  show (x.toUInt32 >>> ((nI n).toUInt32 &&& Int32.toUInt32 31)).toBitVec.getLsbD i = x.toUInt32.toBitVec.getLsbD (n + i)
  rw [UInt32.toBitVec_shiftRight]
  show (x.toUInt32.toBitVec >>> (((nI n).toUInt32 &&& Int32.toUInt32 31).toBitVec % 32).toNat).getLsbD i = _
  rw [s_u n hn, BitVec.getLsbD_ushiftRight]
theorem b_sshr (n : Nat) (hn : n < 32) (x : Int32) {i : Nat} (hi : i < 32) : bt (x >>> (nI n &&& 31)) i = if n + i < 32 then bt x (n + i) else bt x 31 := by
  unfold bt
  rw [Int32.toBitVec_shiftRight]
  show (x.toBitVec.sshiftRight ((nI n &&& 31).toBitVec.smod 32).toNat).getLsbD i = _
  rw [s_l n hn, BitVec.getLsbD_sshiftRight, BitVec.msb_eq_getLsbD_last]
  simp [hi]
/-! ===== small facts about ints ===== -/
theorem bt_1 : ∀ i, bt 1 i = decide (i = 0) := by
  intro i
  rcases Nat.lt_or_ge i 32 with h | h
  · exact (by decide +kernel : ∀ i, i < 32 → bt 1 i = decide (i = 0)) i h
  · rw [b_big h, decide_eq_false (by omega)]
theorem bt_tst (n : Nat) (hn : n < 32) (x : Int32) : ((x >>> (nI n &&& 31)) &&& 1) = if bt x n then 1 else 0 := by
  apply b_ext
  intro i hi
  rw [b_and, bt_1, b_sshr n hn x hi]
  by_cases h0 : i = 0
  · subst h0
    rw [if_pos (by omega)]
    cases hb : bt x n <;> simp [hb, b_0, bt_1]
  · cases hb : bt x n <;> simp [h0, b_0, bt_1]
theorem bt_tst0 (n : Nat) (hn : n < 32) (x : Int32) : ((x >>> (nI n &&& 31)) &&& 1) = 0 ↔ bt x n = false := by
  rw [bt_tst n hn x]
  cases bt x n <;> decide
theorem bt_one (n : Nat) (hn : n < 32) {i : Nat} (hi : i < 32) : bt ((1 : Int32) <<< (nI n &&& 31)) i = decide (i = n) := by
  rw [b_shl n hn 1 hi, bt_1]
  by_cases h : i = n
  · subst h; simp
  · by_cases h2 : n ≤ i
    · simp [h2, h]; omega
    · simp [h2, h]
theorem nI_inj {a b : Nat} (ha : a < 2 ^ 31) (hb : b < 2 ^ 31) (h : nI a = nI b) : a = b := (nI_eq ha hb).mp h
/-- an int between two bounds is a natural number -/
theorem nI_mem {x : Int32} {n : Nat} (hn : n < 2 ^ 31) (h0 : ¬ x < 0) (h1 : x < nI n) : ∃ k, k < n ∧ x = nI k := by
  obtain ⟨k, hk, rfl⟩ := nI_of h0
  exact ⟨k, (nI_ltI hk hn).mp h1, rfl⟩
/-! ===== memories over one graph ===== -/
abbrev Mem : Type := Nat → Nat → Int32
abbrev Gr : Type := (Nat → Nat) × (Nat → Nat) × (Nat → Nat → Option Nat)
def mm (g : Gr) (I : Mem) (J : Nat → Nat → Int64) (Z : Option Nat) : AH := (g.1, g.2.1, I, J, g.2.2, Z)
section Ops
variable {g : Gr} {I : Mem} {J : Nat → Nat → Int64} {Z : Option Nat} {c a k n : Nat} {x : Int32}
theorem gI_m (h : g.1 a = c + 1) : gI c a k (mm g I J Z) = some (I a k) := if_pos h
theorem gJ_m (h : g.1 a = c + 1) : gJ c a k (mm g I J Z) = some (J a k) := if_pos h
theorem gP_m (h : g.1 a = c + 1) {b : Nat} (hp : g.2.2 a k = some b) : gP c a k (mm g I J Z) = some b := (if_pos h).trans hp
theorem pI_m (h : g.1 a = c + 1) : pI c a k x (mm g I J Z) = some (mm g (up2 I a k x) J Z) := if_pos h
theorem pZ_m (h : g.1 a = c + 1) (hx : x = 0 ∨ x = 1) : pZ c a k x (mm g I J Z) = some (mm g (up2 I a k x) J Z) := if_pos ⟨h, hx⟩
theorem pJ_m (h : g.1 a = c + 1) {y : Int64} : pJ c a k y (mm g I J Z) = some (mm g I (up2 J a k y) Z) := if_pos h
theorem ldI_m (h : g.1 a = 20) (hl : k < g.2.1 a) (hk : k < 2 ^ 31) : ldI a (nI k) (mm g I J Z) = some (I a k) := by
  show (if g.1 a = 20 ∧ ¬ nI k < 0 ∧ (nI k).toNatClampNeg < g.2.1 a then some (I a (nI k).toNatClampNeg) else none) = _
  rw [nI_clamp hk, if_pos ⟨h, nI_pos hk, hl⟩]
theorem ldZ_m (h : g.1 a = 21) (hl : k < g.2.1 a) (hk : k < 2 ^ 31) : ldZ a (nI k) (mm g I J Z) = some (I a k) := by
  show (if g.1 a = 21 ∧ ¬ nI k < 0 ∧ (nI k).toNatClampNeg < g.2.1 a then some (I a (nI k).toNatClampNeg) else none) = _
  rw [nI_clamp hk, if_pos ⟨h, nI_pos hk, hl⟩]
theorem ldS_m (h : g.1 a = 23) (hl : k < g.2.1 a) (hk : k < 2 ^ 31) : ldS a (nI k) (mm g I J Z) = some (I a k) := by
  show (if g.1 a = 23 ∧ ¬ nI k < 0 ∧ (nI k).toNatClampNeg < g.2.1 a then some (I a (nI k).toNatClampNeg) else none) = _
  rw [nI_clamp hk, if_pos ⟨h, nI_pos hk, hl⟩]
theorem ldJ_m (h : g.1 a = 22) (hl : k < g.2.1 a) (hk : k < 2 ^ 31) : ldJ a (nI k) (mm g I J Z) = some (J a k) := by
  show (if g.1 a = 22 ∧ ¬ nI k < 0 ∧ (nI k).toNatClampNeg < g.2.1 a then some (J a (nI k).toNatClampNeg) else none) = _
  rw [nI_clamp hk, if_pos ⟨h, nI_pos hk, hl⟩]
theorem ldP_m (h : g.1 a = 30 + c) (hl : k < g.2.1 a) (hk : k < 2 ^ 31) {b : Nat} (hp : g.2.2 a k = some b) : ldP c a (nI k) (mm g I J Z) = some b := by
  show (if g.1 a = 30 + c ∧ ¬ nI k < 0 ∧ (nI k).toNatClampNeg < g.2.1 a then g.2.2 a (nI k).toNatClampNeg else none) = _
  rw [nI_clamp hk, if_pos ⟨h, nI_pos hk, hl⟩, hp]
theorem stI_m (h : g.1 a = 20) (hl : k < g.2.1 a) (hk : k < 2 ^ 31) : stI a (nI k) x (mm g I J Z) = some (mm g (up2 I a k x) J Z) := by
  show (if g.1 a = 20 ∧ ¬ nI k < 0 ∧ (nI k).toNatClampNeg < g.2.1 a then some (sI (mm g I J Z) a (nI k).toNatClampNeg x) else none) = _
  rw [nI_clamp hk, if_pos ⟨h, nI_pos hk, hl⟩]
  rfl
theorem stZ_m (h : g.1 a = 21) (hl : k < g.2.1 a) (hk : k < 2 ^ 31) (hx : x = 0 ∨ x = 1) : stZ a (nI k) x (mm g I J Z) = some (mm g (up2 I a k x) J Z) := by
  show (if g.1 a = 21 ∧ ¬ nI k < 0 ∧ (nI k).toNatClampNeg < g.2.1 a ∧ (x = 0 ∨ x = 1) then some (sI (mm g I J Z) a (nI k).toNatClampNeg x) else none) = _
  rw [nI_clamp hk, if_pos ⟨h, nI_pos hk, hl, hx⟩]
  rfl
theorem stJ_m (h : g.1 a = 22) (hl : k < g.2.1 a) (hk : k < 2 ^ 31) {y : Int64} : stJ a (nI k) y (mm g I J Z) = some (mm g I (up2 J a k y) Z) := by
  show (if g.1 a = 22 ∧ ¬ nI k < 0 ∧ (nI k).toNatClampNeg < g.2.1 a then some (sJ (mm g I J Z) a (nI k).toNatClampNeg y) else none) = _
  rw [nI_clamp hk, if_pos ⟨h, nI_pos hk, hl⟩]
  rfl
theorem cv_m {ρ γ : Type} {f : AH → Option (ρ × AH)} {K : ρ → AH → Option γ} (h : g.1 a = c + 1) : cv c a f (mm g I J Z) K = bd (f (mm g I J Z)) K := if_pos h
theorem thr_m : thr (mm g I J Z) = mm g I J none := rfl
end Ops
theorem rz_0 {ρ : Type} (r : ρ) (h : AH) : rz 0 r h = some (r, h) := if_pos (Or.inl rfl)
theorem rz_1 {ρ : Type} (r : ρ) (h : AH) : rz 1 r h = some (r, h) := if_pos (Or.inr rfl)
theorem rz_b {ρ : Type} (b : Bool) (r : ρ) (h : AH) : rz (if b then 1 else 0) r h = some (r, h) := by cases b <;> first | exact rz_0 r h | exact rz_1 r h


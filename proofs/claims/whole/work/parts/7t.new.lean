/-! ===== new cells ===== -/
def gN (g : Gr) (n k z : Nat) : Gr := (up1 g.1 n k, up1 g.2.1 n z, up1 g.2.2 n (fun _ => none))
def gR (g : Gr) (a k v : Nat) : Gr := (g.1, g.2.1, up2 g.2.2 a k (some v))
def Sm3 (g g' : Gr) (a : Nat) : Prop := g'.1 a = g.1 a ∧ g'.2.1 a = g.2.1 a ∧ g'.2.2 a = g.2.2 a
/-- fields of r that hold cells: field, cell, its kind, its length -/
def FlN (g : Gr) (r : Nat) (F : List (Nat × Nat × Nat × Nat)) : Prop := ∀ e ∈ F, g.2.2 r e.1 = some e.2.1 ∧ g.1 e.2.1 = e.2.2.1 ∧ g.2.1 e.2.1 = e.2.2.2
section Nw
variable {g g' g'' : Gr} {n r k z c a v : Nat} {I I' : Mem} {J : Nat → Nat → Int64} {Z : Option Nat} {x : Int32} {γ : Type} {F : List (Nat × Nat × Nat × Nat)}
theorem Sm3.refl : Sm3 g g a := ⟨rfl, rfl, rfl⟩
theorem Sm3.trans (h : Sm3 g g' a) (h' : Sm3 g' g'' a) : Sm3 g g'' a := ⟨h'.1.trans h.1, h'.2.1.trans h.2.1, h'.2.2.trans h.2.2⟩
theorem nw_m : nwK k z (mm g I J (some n)) = some (n, mm (gN g n k z) (up1 I n (fun _ => 0)) (up1 J n (fun _ => 0)) (some (n + 1))) := rfl
theorem gN_s (h : a ≠ n) : Sm3 g (gN g n k z) a := ⟨up1_ne h, up1_ne h, up1_ne h⟩
theorem gN_k : (gN g n k z).1 n = k := up1_self
theorem gN_l : (gN g n k z).2.1 n = z := up1_self
theorem gR_s (h : a ≠ r) : Sm3 g (gR g r k v) a := ⟨rfl, rfl, up2_ne h⟩
theorem gR_at : (gR g r k v).2.2 r k = some v := by show up2 g.2.2 r k (some v) r k = _; rw [up2_at, if_pos rfl]
theorem gR_ne {j : Nat} (h : j ≠ k) : (gR g r k v).2.2 r j = g.2.2 r j := by show up2 g.2.2 r k (some v) r j = _; rw [up2_at, if_neg h]
theorem pP_m (h : g.1 r = c + 1) : pP c r k v (mm g I J Z) = some (mm (gR g r k v) I J Z) := if_pos h
theorem stP_m (h : g.1 a = 30 + c) (hl : k < g.2.1 a) (hk : k < 2 ^ 31) (hv : g.1 v = c + 1) : stP c a (nI k) v (mm g I J Z) = some (mm (gR g a k v) I J Z) := by
  show (if g.1 a = 30 + c ∧ ¬ nI k < 0 ∧ (nI k).toNatClampNeg < g.2.1 a ∧ g.1 v = c + 1 then some (sP (mm g I J Z) a (nI k).toNatClampNeg (some v)) else none) = _
  rw [nI_clamp hk, if_pos ⟨h, nI_pos hk, hl, hv⟩]
  rfl
theorem nwI_m (hz : z < 2 ^ 31) : nwI (nI z) (mm g I J (some n)) = some (n, mm (gN g n 20 z) (up1 I n (fun _ => 0)) (up1 J n (fun _ => 0)) (some (n + 1))) := by
  unfold nwI
  rw [if_pos (nI_pos hz), nI_clamp hz, nw_m]
theorem nwZ_m (hz : z < 2 ^ 31) : nwZ (nI z) (mm g I J (some n)) = some (n, mm (gN g n 21 z) (up1 I n (fun _ => 0)) (up1 J n (fun _ => 0)) (some (n + 1))) := by
  unfold nwZ
  rw [if_pos (nI_pos hz), nI_clamp hz, nw_m]
theorem nwJ_m (hz : z < 2 ^ 31) : nwJ (nI z) (mm g I J (some n)) = some (n, mm (gN g n 22 z) (up1 I n (fun _ => 0)) (up1 J n (fun _ => 0)) (some (n + 1))) := by
  unfold nwJ
  rw [if_pos (nI_pos hz), nI_clamp hz, nw_m]
theorem nwP_m (hz : z < 2 ^ 31) : nwP c (nI z) (mm g I J (some n)) = some (n, mm (gN g n (30 + c) z) (up1 I n (fun _ => 0)) (up1 J n (fun _ => 0)) (some (n + 1))) := by
  unfold nwP
  rw [if_pos (nI_pos hz), nI_clamp hz, nw_m]
theorem nwO_m : nwO c (mm g I J (some n)) = some (n, mm (gN g n (c + 1) 0) (up1 I n (fun _ => 0)) (up1 J n (fun _ => 0)) (some (n + 1))) := nw_m
/-- a new cell into a field of r -/
theorem FlN.put {kd : Nat} (hr : g.1 r = c + 1) (hrn : r < n) (hF : FlN g r F) (hn : ∀ e ∈ F, e.2.1 < n ∧ e.2.1 ≠ r ∧ e.1 ≠ k) : (∀ a, a < n → a ≠ r → Sm3 g (gR (gN g n kd z) r k n) a) ∧ (gR (gN g n kd z) r k n).1 r = c + 1 ∧ FlN (gR (gN g n kd z) r k n) r ((k, n, kd, z) :: F) := by
  refine ⟨fun a h1 h2 => (gN_s (by omega)).trans (gR_s h2), (gN_s (g := g) (n := n) (k := kd) (z := z) (by omega)).1.trans hr, fun e he => ?_⟩
  rcases List.mem_cons.mp he with rfl | he
  · exact ⟨gR_at, gN_k (g := g) (n := n) (k := kd) (z := z), gN_l (g := g) (n := n) (k := kd) (z := z)⟩
  · obtain ⟨q1, q2, q3⟩ := hn e he
    obtain ⟨f1, f2, f3⟩ := hF e he
    have s1 := gN_s (g := g) (n := n) (k := kd) (z := z) (a := r) (by omega)
    have s2 := gN_s (g := g) (n := n) (k := kd) (z := z) (a := e.2.1) (by omega)
    exact ⟨(gR_ne q3).trans ((congrFun s1.2.2 _).trans f1), s2.1.trans f2, s2.2.1.trans f3⟩
theorem N_st {K : AH → Option γ} (hz : z < 2 ^ 31) (hr : g.1 r = c + 1) (hrn : r < n) : (bd (nwI (nI z) (mm g I J (some n))) fun a h => (pP c r k a h).bind fun h => K h) = K (mm (gR (gN g n 20 z) r k n) (up1 I n (fun _ => 0)) (up1 J n (fun _ => 0)) (some (n + 1))) := by
  rw [nwI_m hz, bd_some, pP_m ((gN_s (g := g) (n := n) (k := 20) (z := z) (by omega)).1.trans hr), Option.bind_some]
/-- a symbol, a client -/
theorem N_sym {K : Nat → AH → Option γ} : ∃ (I' : Mem) (J' : Nat → Nat → Int64), (bd (nwO 7 (mm g I J (some n))) fun a h => bd (fX7_init a h) fun _ h => K a h) = K n (mm (gN g n 8 0) I' J' (some (n + 1))) ∧ (∀ a, a < n → I' a = I a) ∧ SymR I' n nr := by
  refine ⟨up2 (up2 (up2 (up2 (up2 (up2 (up2 (up1 I n (fun _ => 0)) n 0 (nI 0)) n 1 (-2)) n 2 (-2)) n 3 (-2)) n 4 (-2)) n 5 (-2)) n 6 (-2), up1 J n (fun _ => 0), ?_, fun a h => ?_, ?_⟩
  · have hk : (gN g n (7 + 1) 0).1 n = 7 + 1 := gN_k
    rw [nwO_m, bd_some]
    unfold fX7_init
    rw [pZ_m (x := nI 0) hk (Or.inl rfl), Option.bind_some, pI_m hk, Option.bind_some, pI_m hk, Option.bind_some, pI_m hk, Option.bind_some, pI_m hk, Option.bind_some, pI_m hk, Option.bind_some, pI_m hk, Option.bind_some, bd_some]
  · rw [up2_ne (by omega), up2_ne (by omega), up2_ne (by omega), up2_ne (by omega), up2_ne (by omega), up2_ne (by omega), up2_ne (by omega), up1_ne (by omega)]
  · unfold SymR
    simp [up2, nr]
end Nw

/-! ===== the words that every method needs: the good ones of the tables ===== -/
def TW : List Cond := lw_tbl.filter goodWord
theorem TW_in {w : Cond} (h : w ∈ lw_tbl) (g : goodWord w = true) : w ∈ TW := List.mem_filter.mpr ⟨h, g⟩
theorem TW_good {w : Cond} (h : w ∈ TW) : goodWord w = true := (List.mem_filter.mp h).2
theorem TW_tbl {w : Cond} (h : w ∈ TW) : w ∈ lw_tbl := (List.mem_filter.mp h).1
theorem tb_in {w : Cond} (h : w ∈ tables_1) : w ∈ lw_tbl := List.mem_append_right _ h
/-! ===== the abstract heap: kinds, lengths, ints, longs, references, size ===== -/
abbrev AH : Type := (Nat → Nat) × (Nat → Nat) × (Nat → Nat → Int32) × (Nat → Nat → Int64) × (Nat → Nat → Option Nat) × Option Nat
def aK (h : AH) : Nat → Nat := h.1
def aL (h : AH) : Nat → Nat := h.2.1
def aI (h : AH) : Nat → Nat → Int32 := h.2.2.1
def aJ (h : AH) : Nat → Nat → Int64 := h.2.2.2.1
def aP (h : AH) : Nat → Nat → Option Nat := h.2.2.2.2.1
def aZ (h : AH) : Option Nat := h.2.2.2.2.2
def up2 {α : Type} (f : Nat → Nat → α) (a k : Nat) (x : α) : Nat → Nat → α := fun b j => if b = a ∧ j = k then x else f b j
def up1 {α : Type} (f : Nat → α) (a : Nat) (x : α) : Nat → α := fun b => if b = a then x else f b
def sI (h : AH) (a k : Nat) (x : Int32) : AH := (aK h, aL h, up2 (aI h) a k x, aJ h, aP h, aZ h)
def sJ (h : AH) (a k : Nat) (x : Int64) : AH := (aK h, aL h, aI h, up2 (aJ h) a k x, aP h, aZ h)
def sP (h : AH) (a k : Nat) (x : Option Nat) : AH := (aK h, aL h, aI h, aJ h, up2 (aP h) a k x, aZ h)
def sA (h : AH) (a : Nat) (f : Nat → Int32) : AH := (aK h, aL h, up1 (aI h) a f, aJ h, aP h, aZ h)
/-- a new cell n of kind k and length z -/
def sN (h : AH) (n k z : Nat) : AH := (up1 (aK h) n k, up1 (aL h) n z, up1 (aI h) n (fun _ => 0), up1 (aJ h) n (fun _ => 0), up1 (aP h) n (fun _ => none), some (n + 1))
def thr (h : AH) : AH := (aK h, aL h, aI h, aJ h, aP h, none)
/-! fields of an object of class c (kind c + 1) -/
def gI (c a k : Nat) (h : AH) : Option Int32 := if aK h a = c + 1 then some (aI h a k) else none
def gJ (c a k : Nat) (h : AH) : Option Int64 := if aK h a = c + 1 then some (aJ h a k) else none
def gP (c a k : Nat) (h : AH) : Option Nat := if aK h a = c + 1 then aP h a k else none
def pI (c a k : Nat) (x : Int32) (h : AH) : Option AH := if aK h a = c + 1 then some (sI h a k x) else none
def pZ (c a k : Nat) (x : Int32) (h : AH) : Option AH := if aK h a = c + 1 ∧ (x = 0 ∨ x = 1) then some (sI h a k x) else none
def pJ (c a k : Nat) (x : Int64) (h : AH) : Option AH := if aK h a = c + 1 then some (sJ h a k x) else none
def pP (c a k v : Nat) (h : AH) : Option AH := if aK h a = c + 1 then some (sP h a k (some v)) else none
/-! arrays: 20 ints, 21 booleans, 22 longs, 23 the script, 30 + c objects of class c -/
def ldI (a : Nat) (i : Int32) (h : AH) : Option Int32 := if aK h a = 20 ∧ ¬ i < 0 ∧ i.toNatClampNeg < aL h a then some (aI h a i.toNatClampNeg) else none
def ldZ (a : Nat) (i : Int32) (h : AH) : Option Int32 := if aK h a = 21 ∧ ¬ i < 0 ∧ i.toNatClampNeg < aL h a then some (aI h a i.toNatClampNeg) else none
def ldJ (a : Nat) (i : Int32) (h : AH) : Option Int64 := if aK h a = 22 ∧ ¬ i < 0 ∧ i.toNatClampNeg < aL h a then some (aJ h a i.toNatClampNeg) else none
def ldS (a : Nat) (i : Int32) (h : AH) : Option Int32 := if aK h a = 23 ∧ ¬ i < 0 ∧ i.toNatClampNeg < aL h a then some (aI h a i.toNatClampNeg) else none
def lnS (a : Nat) (h : AH) : Option Int32 := if aK h a = 23 then some (aL h a).toInt32 else none
def ldP (c a : Nat) (i : Int32) (h : AH) : Option Nat := if aK h a = 30 + c ∧ ¬ i < 0 ∧ i.toNatClampNeg < aL h a then aP h a i.toNatClampNeg else none
def stI (a : Nat) (i x : Int32) (h : AH) : Option AH := if aK h a = 20 ∧ ¬ i < 0 ∧ i.toNatClampNeg < aL h a then some (sI h a i.toNatClampNeg x) else none
def stZ (a : Nat) (i x : Int32) (h : AH) : Option AH := if aK h a = 21 ∧ ¬ i < 0 ∧ i.toNatClampNeg < aL h a ∧ (x = 0 ∨ x = 1) then some (sI h a i.toNatClampNeg x) else none
def stJ (a : Nat) (i : Int32) (x : Int64) (h : AH) : Option AH := if aK h a = 22 ∧ ¬ i < 0 ∧ i.toNatClampNeg < aL h a then some (sJ h a i.toNatClampNeg x) else none
def stP (c a : Nat) (i : Int32) (v : Nat) (h : AH) : Option AH := if aK h a = 30 + c ∧ ¬ i < 0 ∧ i.toNatClampNeg < aL h a ∧ aK h v = c + 1 then some (sP h a i.toNatClampNeg (some v)) else none
/-! new cells -/
def nwK (k z : Nat) (h : AH) : Option (Nat × AH) := match aZ h with
  | none => none
  | some n => some (n, sN h n k z)
def nwO (c : Nat) (h : AH) : Option (Nat × AH) := nwK (c + 1) 0 h
def nwI (z : Int32) (h : AH) : Option (Nat × AH) := if ¬ z < 0 then nwK 20 z.toNatClampNeg h else none
def nwZ (z : Int32) (h : AH) : Option (Nat × AH) := if ¬ z < 0 then nwK 21 z.toNatClampNeg h else none
def nwJ (z : Int32) (h : AH) : Option (Nat × AH) := if ¬ z < 0 then nwK 22 z.toNatClampNeg h else none
def nwP (c : Nat) (z : Int32) (h : AH) : Option (Nat × AH) := if ¬ z < 0 then nwK (30 + c) z.toNatClampNeg h else none
/-! System.arraycopy of ints -/
def cpI (a : Nat) (sp : Int32) (b : Nat) (dp n : Int32) (h : AH) : Option AH :=
  if aK h a = 20 ∧ aK h b = 20 ∧ ¬ sp < 0 ∧ ¬ dp < 0 ∧ ¬ n < 0 ∧ sp.toNatClampNeg + n.toNatClampNeg ≤ aL h a ∧ dp.toNatClampNeg + n.toNatClampNeg ≤ aL h b
  then some (sA h b (va_cpy (aI h a) (aI h b) sp.toNatClampNeg dp.toNatClampNeg n.toNatClampNeg)) else none
/-! sequencing -/
def bd {α β γ : Type} (o : Option (α × β)) (k : α → β → Option γ) : Option γ := match o with
  | none => none
  | some q => k q.1 q.2
/-- a call on an object b of class c -/
def cv {ρ γ : Type} (c b : Nat) (f : AH → Option (ρ × AH)) (h : AH) (k : ρ → AH → Option γ) : Option γ := if aK h b = c + 1 then bd (f h) k else none
/-- what a call that may throw hands on -/
def xp {α β : Type} (k : α → AH → Option ((Nat ⊕ β) × AH)) : Nat ⊕ α → AH → Option ((Nat ⊕ β) × AH) := fun q h => match q with
  | .inl e => some (.inl e, h)
  | .inr r => k r h
/-- the answer of a boolean method -/
def rz {ρ : Type} (x : Int32) (r : ρ) (h : AH) : Option (ρ × AH) := if x = 0 ∨ x = 1 then some (r, h) else none
/-- n rounds of a loop -/
def loopN {α β γ : Type} (b : (α → β → Option γ) → α → β → Option γ) : Nat → α → β → Option γ
  | 0 => fun _ _ => none
  | n + 1 => b (loopN b n)
def fuel : Nat := 100000
theorem bd_some {α β γ : Type} {a : α} {b : β} {k : α → β → Option γ} : bd (some (a, b)) k = k a b := rfl
theorem bd_none {α β γ : Type} {k : α → β → Option γ} : bd none k = none := rfl
theorem bd_eq {α β γ : Type} {o : Option (α × β)} {k : α → β → Option γ} {z : γ} (h : bd o k = some z) : ∃ a b, o = some (a, b) ∧ k a b = some z := by
  cases o with
  | none => cases h
  | some q => exact ⟨q.1, q.2, rfl, h⟩
theorem ob_eq {α γ : Type} {o : Option α} {k : α → Option γ} {z : γ} (h : o.bind k = some z) : ∃ a, o = some a ∧ k a = some z := by
  cases o with
  | none => cases h
  | some q => exact ⟨q, rfl, h⟩
theorem if_eq {α : Type} {c : Prop} [Decidable c] {x z : α} (h : (if c then some x else none) = some z) : c ∧ x = z := by
  split at h
  · exact ⟨by assumption, Option.some.inj h⟩
  · cases h
theorem if_eq' {α : Type} {c : Prop} [Decidable c] {o : Option α} {z : α} (h : (if c then o else none) = some z) : c ∧ o = some z := by
  split at h
  · exact ⟨by assumption, h⟩
  · cases h
/-! ===== what the real heap holds of the abstract one ===== -/
def tyF (c k : Nat) : FieldType := match c with
  | 0 => tyX0 k
  | 1 => tyX1 k
  | 2 => tyX2 k
  | 3 => tyX3 k
  | 4 => tyX4 k
  | 5 => tyX5 k
  | 6 => tyX6 k
  | 7 => tyX7 k
  | 8 => tyX8 k
  | _ => tyX9 k
def vf (t : FieldType) (i : Int32) (j : Int64) (p : Option Nat) : Value := match t with
  | .int => .int i
  | .boolean => .int i
  | .long => .long j
  | _ => va_rf p
def aV (h : AH) (c a k : Nat) : Value := vf (tyF c k) (aI h a k) (aJ h a k) (aP h a k)
/-- the launch's numbers: classes and slots; the array classes of int, boolean, long, objects -/
abbrev GC : Type := va_G × ClassId × ClassId × ClassId × (Nat → ClassId)
def gT (G : GC) : List (ClassId × FieldType) := [(G.2.1, .int), (G.2.2.1, .boolean), (G.2.2.2.1, .long), (G.2.2.2.2 0, .object RX0), (G.2.2.2.2 1, .object RX1), (G.2.2.2.2 2, .object RX2), (G.2.2.2.2 3, .object RX3), (G.2.2.2.2 6, .object RX6)]
def Ra (G : GC) (base : Nat) (U : State) (H : Heap) (h : AH) (a : Nat) : Prop :=
  (∀ c r, aK h a = c + 1 → vwCl[c]? = some r → base ≤ a ∧ t_OB a (G.1.1 c) r.2.2 (G.1.2 c) H (aV h c a)) ∧
  (aK h a = 20 → base ≤ a ∧ H[a]? = some (arrV G.2.1 (aL h a) (fun j => .int (aI h a j)))) ∧
  (aK h a = 21 → base ≤ a ∧ H[a]? = some (arrV G.2.2.1 (aL h a) (fun j => .int (aI h a j)))) ∧
  (aK h a = 22 → base ≤ a ∧ H[a]? = some (arrV G.2.2.2.1 (aL h a) (fun j => .long (aJ h a j)))) ∧
  (aK h a = 23 → va_X a (aL h a) (aI h a) U H) ∧
  ∀ c, aK h a = 30 + c → base ≤ a ∧ H[a]? = some (arrV (G.2.2.2.2 c) (aL h a) (fun j => va_rf (aP h a j)))
def Rp (G : GC) (base : Nat) (U : State) (H : Heap) (h : AH) : Prop := base ≤ H.size ∧ (∀ n, aZ h = some n → H.size = n) ∧ ∀ a, Ra G base U H h a
theorem Ra.cong {G : GC} {base : Nat} {U : State} {H H' : Heap} {h h' : AH} {a : Nat} (hR : Ra G base U H h a) (hH : H'[a]? = H[a]?) (hK : aK h' a = aK h a) (hL : aL h' a = aL h a) (hI : aI h' a = aI h a) (hJ : aJ h' a = aJ h a) (hP : aP h' a = aP h a) : Ra G base U H' h' a := by
  obtain ⟨h1, h2, h3, h4, h5, h6⟩ := hR
  have hV : ∀ c, aV h' c a = aV h c a := fun c => by funext k; unfold aV; rw [hI, hJ, hP]
  refine ⟨fun c r hk hr => ?_, fun hk => ?_, fun hk => ?_, fun hk => ?_, fun hk => ?_, fun c hk => ?_⟩
  · rw [hK] at hk
    obtain ⟨q1, q2⟩ := h1 c r hk hr
    exact ⟨q1, by rw [hV]; exact q2.kept hH⟩
  · rw [hK] at hk
    rw [hH, hL, hI]
    exact h2 hk
  · rw [hK] at hk
    rw [hH, hL, hI]
    exact h3 hk
  · rw [hK] at hk
    rw [hH, hL, hJ]
    exact h4 hk
  · rw [hK] at hk
    rw [hL, hI]
    exact (h5 hk).kept hH
  · rw [hK] at hk
    rw [hH, hL, hP]
    exact h6 c hk
theorem Ra.moved {G : GC} {base : Nat} {u U : State} {H : Heap} {h : AH} {a : Nat} (hvm : u.vm.Alike U.vm) (hR : Ra G base u H h a) : Ra G base U H h a := by
  obtain ⟨h1, h2, h3, h4, h5, h6⟩ := hR
  exact ⟨h1, h2, h3, h4, fun hk => (h5 hk).moved hvm, h6⟩
theorem Rp.moved {G : GC} {base : Nat} {u U : State} {H : Heap} {h : AH} (hvm : u.vm.Alike U.vm) (hR : Rp G base u H h) : Rp G base U H h := ⟨hR.1, hR.2.1, fun a => (hR.2.2 a).moved hvm⟩
theorem vwCl_lt {c : Nat} {r : vw_C} (h : vwCl[c]? = some r) : c < 10 := (List.getElem?_eq_some_iff.mp h).1
/-- one cell's contents have changed -/
theorem Rp.upd {G : GC} {base : Nat} {U : State} {H H' : Heap} {h h' : AH} {a : Nat} (hR : Rp G base U H h) (hz : H'.size = H.size) (hq : ∀ q, q ≠ a → H'[q]? = H[q]?) (hK : aK h' = aK h) (hL : aL h' = aL h) (hZ : aZ h' = aZ h) (hI : ∀ b, b ≠ a → aI h' b = aI h b) (hJ : ∀ b, b ≠ a → aJ h' b = aJ h b) (hP : ∀ b, b ≠ a → aP h' b = aP h b) (ha : Ra G base U H' h' a) : Rp G base U H' h' := by
  refine ⟨by rw [hz]; exact hR.1, fun n hn => by rw [hz]; exact hR.2.1 n (by rw [← hZ]; exact hn), fun b => ?_⟩
  by_cases hb : b = a
  · rw [hb]; exact ha
  · exact (hR.2.2 b).cong (hq b hb) (by rw [hK]) (by rw [hL]) (hI b hb) (hJ b hb) (hP b hb)
theorem Ra.ofObj {G : GC} {base : Nat} {U : State} {H : Heap} {h : AH} {a c : Nat} {r : vw_C} (hk : aK h a = c + 1) (hr : vwCl[c]? = some r) (hb : base ≤ a) (ho : t_OB a (G.1.1 c) r.2.2 (G.1.2 c) H (aV h c a)) : Ra G base U H h a := by
  have hc := vwCl_lt hr
  refine ⟨fun c' r' hk' hr' => ?_, fun q => by omega, fun q => by omega, fun q => by omega, fun q => by omega, fun c' q => by omega⟩
  have : c' = c := by omega
  subst this
  cases hr.symm.trans hr'
  exact ⟨hb, ho⟩
theorem up2_ne {α : Type} {f : Nat → Nat → α} {a k b : Nat} {x : α} (h : b ≠ a) : up2 f a k x b = f b := by
  funext j
  simp [up2, h]
theorem up1_ne {α : Type} {f : Nat → α} {a b : Nat} {x : α} (h : b ≠ a) : up1 f a x b = f b := by simp [up1, h]
theorem up1_self {α : Type} {f : Nat → α} {a : Nat} {x : α} : up1 f a x a = x := by simp [up1]
theorem up2_at {α : Type} {f : Nat → Nat → α} {a k : Nat} {x : α} (j : Nat) : up2 f a k x a j = if j = k then x else f a j := by simp [up2]

/-! ===== the verdict ===== -/
section Jr
variable {w : Nat → Int32} {v u c b : Nat} {k : Nat → Int32}
theorem lfO_rng {o : Option Nat} : ∃ n, n < 9 ∧ (lfO w v k u b o).1 = nI n := by
  cases o with
  | none => exact ⟨3, by omega, rfl⟩
  | some m =>
    show ∃ n, n < 9 ∧ (lfM w v k u b m).1 = nI n
    unfold lfM
    split
    · split
      · split
        · exact ⟨2, by omega, rfl⟩
        · exact ⟨0, by omega, rfl⟩
      · exact ⟨5, by omega, rfl⟩
    · exact ⟨2, by omega, rfl⟩
theorem lcE_rng : ∃ n, n < 9 ∧ (lcE w v k c b).1 = nI n := by
  unfold lcE
  split
  · cases metS w v (k 2) (k 10) (k 13) (k 14) c with
    | none => exact ⟨4, by omega, rfl⟩
    | some m =>
      show ∃ n, n < 9 ∧ (lcM w v k c b m).1 = nI n
      unfold lcM
      split
      · split
        · split
          · exact ⟨6, by omega, rfl⟩
          · exact ⟨0, by omega, rfl⟩
        · exact ⟨5, by omega, rfl⟩
      · exact ⟨2, by omega, rfl⟩
  · exact ⟨5, by omega, rfl⟩
theorem exE_rng {x y : Nat} (hx : x < 9) (hy : y < 9) : ∃ n, n < 9 ∧ exE w v c (nI x) (nI y) = nI n := by
  unfold exE
  split
  · exact ⟨x, hx, rfl⟩
  · split
    · exact ⟨y, hy, rfl⟩
    · exact ⟨0, by omega, rfl⟩
theorem lbE_rng : ∃ n, n < 9 ∧ lbE w v k c b = nI n := by
  unfold lbE
  split
  · exact ⟨1, by omega, rfl⟩
  · split
    · exact ⟨2, by omega, rfl⟩
    · split
      · exact ⟨5, by omega, rfl⟩
      · split
        · exact ⟨6, by omega, rfl⟩
        · exact ⟨0, by omega, rfl⟩
theorem lkS_rng : ∃ n, n < 9 ∧ (lkS w v k u c b).1 = nI n := by
  unfold lkS
  split
  · exact ⟨0, by omega, rfl⟩
  · split
    · exact ⟨1, by omega, rfl⟩
    · split
      · exact ⟨2, by omega, rfl⟩
      · split
        · exact lfO_rng
        · split
          · exact lcE_rng
          · split
            · show ∃ n, n < 9 ∧ (if cl w v c 7 = nI 1 then nI 7 else nI 0) = nI n
              split
              · exact ⟨7, by omega, rfl⟩
              · exact ⟨0, by omega, rfl⟩
            · split
              · exact exE_rng (by omega) (by omega)
              · show ∃ n, n < 9 ∧ (if itB w v c = false then nI 5 else lbE w v k c b) = nI n
                split
                · exact ⟨5, by omega, rfl⟩
                · exact lbE_rng
theorem cfE_rng : ∃ n, n < 9 ∧ (cfE w v k u c b).1 = nI n := by
  unfold cfE
  cases fdS w v (k 2) true (nI 0) c with
  | none => exact ⟨3, by omega, rfl⟩
  | some m =>
    show ∃ n, n < 9 ∧ (cfM w v k u b m).1 = nI n
    unfold cfM
    split
    · split
      · exact ⟨6, by omega, rfl⟩
      · split
        · exact ⟨0, by omega, rfl⟩
        · exact ⟨0, by omega, rfl⟩
    · exact ⟨5, by omega, rfl⟩
theorem comS_rng : ∃ n, n < 9 ∧ (comS w v k u c b).1 = nI n := by
  unfold comS
  split
  · exact ⟨1, by omega, rfl⟩
  · split
    · exact ⟨2, by omega, rfl⟩
    · split
      · exact cfE_rng
      · split
        · unfold caE
          split
          · exact ⟨3, by omega, rfl⟩
          · cases caS w v (apB w v k c b) with
            | none => exact ⟨4, by omega, rfl⟩
            | some m => exact ⟨0, by omega, rfl⟩
        · split
          · show ∃ n, n < 9 ∧ (if cl w v c 7 = nI 1 then nI 6 else nI 0) = nI n
            split
            · exact ⟨6, by omega, rfl⟩
            · exact ⟨0, by omega, rfl⟩
          · split
            · exact exE_rng (by omega) (by omega)
            · show ∃ n, n < 9 ∧ (if itB w v c = false then nI 6 else if baB w v b (k 3) = false then nI 8 else if icB w v c b = true then nI 7 else nI 0) = nI n
              split
              · exact ⟨6, by omega, rfl⟩
              · split
                · exact ⟨8, by omega, rfl⟩
                · split
                  · exact ⟨7, by omega, rfl⟩
                  · exact ⟨0, by omega, rfl⟩
theorem rng_le {x : Int32} (h : ∃ n, n < 9 ∧ x = nI n) : (x ≤ 0 ↔ x = nI 0) ∧ (0 < x ↔ ¬ x = nI 0) := by
  obtain ⟨n, hn, rfl⟩ := h
  exact (by decide +kernel : ∀ n, n < 9 → ((nI n ≤ 0 ↔ nI n = nI 0) ∧ (0 < nI n ↔ ¬ nI n = nI 0))) n hn
end Jr
/-- the new symbol differs from the one that is kept -/
def otB (f k : Nat → Int32) : Bool := anyF (fun j => !decide (f j = k (8 + j))) 0 8
def juS (w : Nat → Int32) (k : Nat → Int32) (u c b : Nat) : Int32 :=
  if (lkS w 1 k u c b).1 = nI 0 then (if (comS w 1 k u c b).1 = nI 0 then (if otB (comS w 1 k u c b).2 k = true then nI 4 else if (lkS w 0 k u c b).1 = nI 0 then (if (lkS w 0 k u c b).2 = (lkS w 1 k u c b).2 then nI 0 else nI 5) else nI 5) else nI 3) else if (lkS w 1 k u c b).1 = nI 6 then nI 2 else nI 1
def Fj (R : Nat) (I I' : Mem) : Prop := (∀ x, x ≠ R → x ≠ R + 4 → x ≠ R + 6 → x ≠ R + 7 → I' x = I x) ∧ ∀ k, (k < 6 ∨ 14 < k) → k ≠ 18 → I' R k = I R k
theorem Fj.trans {R : Nat} {I I' I'' : Mem} (h : Fj R I I') (h' : Fj R I' I'') : Fj R I I'' := ⟨fun x a b c d => (h'.1 x a b c d).trans (h.1 x a b c d), fun k a b => (h'.2 k a b).trans (h.2 k a b)⟩
theorem Fl.fj {R : Nat} {I I' : Mem} (h : Fl R I I') : Fj R I I' := ⟨fun x a b _ _ => h.1 x a b, h.2⟩
theorem Fm.fj {R : Nat} {I I' : Mem} (h : Fm R I I') : Fj R I I' := ⟨h.1, fun k a _ => h.2 k a⟩
section Ju
variable {g : Gr} {R : Nat} {I I' : Mem} {J : Nat → Nat → Int64} {Z : Option Nat} {w : Nat → Int32} {u c b v : Nat}
theorem Mb.fj (h : Mb g R I w v) (hf : Fj R I I') : Mb g R I' w v := h.fr (hf.1 _ (by omega) (by omega) (by omega) (by omega))
theorem Fj.r5 (hf : Fj R I I') : I' (R + 5) = I (R + 5) := hf.1 _ (by omega) (by omega) (by omega) (by omega)
theorem M_otherL (hG : ModG g R) : ∀ (d i f : Nat) (s : Bool), i + d = 8 → d < f → lX9_isOther_4 f R (bI s) (nI i) (mm g I J Z) = some (bI (s || anyF (fun j => !decide (I (R + 6) j = I (R + 5) (8 + j))) i d), mm g I J Z) := by
  intro d
  induction d with
  | zero =>
    intro i f s hi hf
    obtain ⟨f, rfl⟩ : ∃ z, f = z + 1 := ⟨f - 1, by omega⟩
    show bX9_isOther_4 (lX9_isOther_4 f) R _ _ _ = _
    unfold bX9_isOther_4
    rw [if_pos (nI_le (by omega) (by omega)), rz_bI]
    simp [anyF]
  | succ d ih =>
    intro i f s hi hf
    obtain ⟨f, rfl⟩ : ∃ z, f = z + 1 := ⟨f - 1, by omega⟩
    show bX9_isOther_4 (lX9_isOther_4 f) R _ _ _ = _
    unfold bX9_isOther_4 fX9_isOther_37
    rw [if_neg (nI_ge (by omega) (by omega)), bIf, nI_add]
    cases s
    · rw [if_ff, hG.p16, Option.bind_some, hG.ld6 (by omega), Option.bind_some, hG.p15, Option.bind_some, nI_add, hG.cl (by omega), Option.bind_some, anyF, Bool.false_or]
      by_cases e : I (R + 6) i = I (R + 5) (8 + i)
      · rw [if_pos e, show (nI 0) = bI false from rfl, ih (i + 1) f false (by omega) (by omega), decide_eq_true e]
        rfl
      · rw [if_neg e, show (nI 1) = bI true from rfl, ih (i + 1) f true (by omega) (by omega), decide_eq_false e]
        rfl
    · rw [if_tt, show (nI 1) = bI true from rfl, ih (i + 1) f true (by omega) (by omega)]
      rfl
theorem M_judged (h0 : Mb g R I w 0) (h1 : Mb g R I w 1) (hK : CK (I (R + 5)) u c b) (hS : SK (I (R + 5)) u) : ∃ I', fX9_judged R (mm g I J Z) = some (juS w (I (R + 5)) u c b, mm g I' J Z) ∧ Fj R I I' := by
  obtain ⟨I1, a1, a2, a3⟩ := M_link (J := J) (Z := Z) h1 hK hS
  have f1 := a2.fj
  have e1 : I1 (R + 5) = I (R + 5) := f1.r5
  have r1 := rng_le (lkS_rng (w := w) (v := 1) (k := I (R + 5)) (u := u) (c := c) (b := b))
  unfold fX9_judged juS
  rw [h1.cv, a1, bd_some, gI_m h1.G.1, Option.bind_some, a3]
  by_cases q1 : (lkS w 1 (I (R + 5)) u c b).1 = nI 0
  · rw [if_pos (r1.1.mpr q1), if_pos q1]
    obtain ⟨I2, b1, b2, b3⟩ := M_comp (J := J) (Z := Z) (h1.fj f1) (by rw [e1]; exact hK)
    rw [e1] at b1 b3
    have f2 := f1.trans b2.fj
    have e2 : I2 (R + 5) = I (R + 5) := f2.r5
    have r2 := rng_le (comS_rng (w := w) (v := 1) (k := I (R + 5)) (u := u) (c := c) (b := b))
    rw [M_cv h1.G, b1, bd_some]
    by_cases q2 : (comS w 1 (I (R + 5)) u c b).1 = nI 0
    · rw [if_pos (r2.1.mpr q2), if_pos q2, M_cv h1.G]
      have ho : fX9_isOther R (mm g I2 J Z) = some (bI (otB (comS w 1 (I (R + 5)) u c b).2 (I (R + 5))), mm g I2 J Z) := by
        unfold fX9_isOther otB
        refine (M_otherL h1.G 8 0 fuel false (by omega) (by unfold fuel; omega)).trans ?_
        rw [Bool.false_or, anyF_congr (q := fun j => !decide ((comS w 1 (I (R + 5)) u c b).2 j = I (R + 5) (8 + j))) (fun j _ hj => by rw [b3 j (by omega), e2])]
      rw [ho, bd_some, bIf]
      cases otB (comS w 1 (I (R + 5)) u c b).2 (I (R + 5))
      · rw [if_ff, if_ff]
        obtain ⟨I3, c1, c2, c3⟩ := M_link (J := J) (Z := Z) (h0.fj f2) (by rw [e2]; exact hK) (by rw [e2]; exact hS)
        rw [e2] at c1 c3
        have r3 := rng_le (lkS_rng (w := w) (v := 0) (k := I (R + 5)) (u := u) (c := c) (b := b))
        refine ⟨I3, ?_, f2.trans c2.fj⟩
        rw [M_cv h1.G, c1, bd_some]
        by_cases q3 : (lkS w 0 (I (R + 5)) u c b).1 = nI 0
        · rw [if_neg (fun z => r3.2.mp z q3), if_pos q3, gI_m h1.G.1, Option.bind_some, c3]
          by_cases q4 : (lkS w 0 (I (R + 5)) u c b).2 = (lkS w 1 (I (R + 5)) u c b).2
          · rw [if_pos q4, if_pos q4]
          · rw [if_neg q4, if_neg q4]
        · rw [if_pos (r3.2.mpr q3), if_neg q3]
      · rw [if_tt, if_tt]
        exact ⟨I2, rfl, f2⟩
    · rw [if_neg (fun z => q2 (r2.1.mp z)), if_neg q2]
      exact ⟨I2, rfl, f2⟩
  · rw [if_neg (fun z => q1 (r1.1.mp z)), if_neg q1]
    refine ⟨I1, ?_, f1⟩
    by_cases q : (lkS w 1 (I (R + 5)) u c b).1 = nI 6
    · rw [if_pos q, if_pos q]
    · rw [if_neg q, if_neg q]
end Ju

/-! ===== the class: selectedAlong, methodFor ===== -/
section Cs
variable {g : Gr} {a : Nat} {I : Mem} {J : Nat → Nat → Int64} {Z : Option Nat} {w : Nat → Int32} {v q : Nat} {r y z : Int32}
def ooI (o : Nat → Nat) : Option Nat → Int32
  | none => -2
  | some k => nI (o k)
theorem ooI_le {o : Nat → Nat} {x : Option Nat} {m : Nat} (hm : o m < 10) (hx : ∀ k, x = some k → o k < 10) : nI (o m) ≤ ooI o x ↔ ∃ k, x = some k ∧ o m ≤ o k := by
  cases x with
  | none =>
    constructor
    · intro e
      exact absurd e ((by decide +kernel : ∀ k, k < 10 → ¬ nI k ≤ (-2 : Int32)) _ hm)
    · rintro ⟨k, e, -⟩; cases e
  | some k =>
    have := hx k rfl
    show nI (o m) ≤ nI (o k) ↔ _
    rw [nI_leI (by omega) (by omega)]
    constructor
    · exact fun e => ⟨k, rfl, e⟩
    · rintro ⟨j, e, e2⟩; cases e; exact e2
theorem mx_step {o : Nat → Nat} {P : Nat → Bool} {m : Nat} : mx o P (m + 1) = if P m = true ∧ ¬ (∃ k, mx o P m = some k ∧ o m ≤ o k) then some m else mx o P m := by
  rw [mx]
  cases h : mx o P m with
  | none =>
    cases hp : P m <;> simp
  | some k =>
    cases hp : P m
    · simp
    · by_cases hl : o k < o m
      · simp [hl]
      · simp [hl, Nat.le_of_not_lt hl]
theorem C_selL (h : CB g I a w v) (hq : q < 8) (hy : Ty y) (hz : Ty z) (hr : Ty r) {li ty : Int32} :
    ∀ (d m f : Nat), m + d = nmb w v → d < f → lX2_selectedAlong_11 f a (dsI (sgI (nI q) y z) r) li ty (oI (mx (ow w v) (fun m => cdW w v (nI q) r y z m && bt li (ow w v m)) m)) (ooI (ow w v) (mx (ow w v) (fun m => cdW w v (nI q) r y z m && bt li (ow w v m)) m)) (nI m) (mm g I J Z)
      = some (oI (selS w v (nI q) r y z (bt li) (bt ((ty &&& I a 1) &&& (li ^^^ (-1))))), mm g I J Z) := by
  have hn := h.M.n40
  intro d
  induction d with
  | zero =>
    intro m f hm hf
    obtain ⟨f, rfl⟩ : ∃ z, f = z + 1 := ⟨f - 1, by omega⟩
    obtain rfl : m = nmb w v := by omega
    show bX2_selectedAlong_11 (lX2_selectedAlong_11 f) a _ _ _ _ _ _ _ = _
    unfold bX2_selectedAlong_11 selS lnW
    rw [c_size h, if_pos (nI_le (Nat.le_refl _) (by omega))]
    cases hx : mx (ow w v) (fun m => cdW w v (nI q) r y z m && bt li (ow w v m)) (nmb w v) with
    | none =>
      show (if (-2 : Int32) = -2 then _ else _) = _
      rw [if_pos rfl, lib_g1 h.L, Option.bind_some, CB_cv h, show (nI 0) = bI false from rfl, C_iface h hq hy hz hr, bd_some]
      rfl
    | some k =>
      rw [if_neg (oI_ne (by have := (mx_some hx).1; omega))]
      rfl
  | succ d ih =>
    intro m f hm hf
    obtain ⟨f, rfl⟩ : ∃ z, f = z + 1 := ⟨f - 1, by omega⟩
    have hm' : m < nmb w v := by omega
    obtain ⟨o1, o2, o3, o4⟩ := h.M.own m hm'
    have ih' := ih (m + 1) f (by omega) (by omega)
    have hbd : ∀ k, mx (ow w v) (fun m => cdW w v (nI q) r y z m && bt li (ow w v m)) m = some k → ow w v k < 10 := fun k e => (h.M.own k (by have := (mx_some e).1; omega)).2.1
    show bX2_selectedAlong_11 (lX2_selectedAlong_11 f) a _ _ _ _ _ _ _ = _
    unfold bX2_selectedAlong_11
    rw [c_size h, if_neg (nI_ge hm' (by omega)), c_own h hm', c_dsc h hm']
    have hno : ¬ ((cdW w v (nI q) r y z m && bt li (ow w v m)) = true ∧ ¬ (∃ k, mx (ow w v) (fun m => cdW w v (nI q) r y z m && bt li (ow w v m)) m = some k ∧ ow w v m ≤ ow w v k)) → fX2_selectedAlong_101 (lX2_selectedAlong_11 f) a (dsI (sgI (nI q) y z) r) li ty (oI (mx (ow w v) (fun m => cdW w v (nI q) r y z m && bt li (ow w v m)) m)) (ooI (ow w v) (mx (ow w v) (fun m => cdW w v (nI q) r y z m && bt li (ow w v m)) m)) (nI m) (mm g I J Z) = some (oI (selS w v (nI q) r y z (bt li) (bt ((ty &&& I a 1) &&& (li ^^^ (-1))))), mm g I J Z) := by
      intro e
      have e1 : mx (ow w v) (fun m => cdW w v (nI q) r y z m && bt li (ow w v m)) (m + 1) = mx (ow w v) (fun m => cdW w v (nI q) r y z m && bt li (ow w v m)) m := by rw [mx_step, if_neg e]
      unfold fX2_selectedAlong_101
      rw [nI_add, ← e1]
      exact ih'
    cases hD : isD w v (nI q) r y z m
    · rw [if_neg (fun e => by rw [(C_desc h.R h.M hm' hq hy hz hr).mp e] at hD; cases hD)]
      exact hno (fun e => by unfold cdW at e; rw [hD] at e; exact absurd e.1 (by simp))
    · rw [if_pos ((C_desc h.R h.M hm' hq hy hz hr).mpr hD), tst_if (by omega)]
      cases hl : bt li (ow w v m)
      · rw [if_ff]
        exact hno (fun e => by rw [hl, Bool.and_false] at e; exact absurd e.1 (by decide))
      · rw [if_tt]
        by_cases hle : ∃ k, mx (ow w v) (fun m => cdW w v (nI q) r y z m && bt li (ow w v m)) m = some k ∧ ow w v m ≤ ow w v k
        · rw [if_pos ((ooI_le o2 hbd).mpr hle)]
          exact hno (fun e => e.2 hle)
        · rw [if_neg (fun e => hle ((ooI_le o2 hbd).mp e)), c_acc h hm']
          by_cases h3 : mb w v m 3 = 0
          · rw [if_pos h3]
            exact hno (fun e => by unfold cdW cnB at e; rw [decide_eq_true h3] at e; exact absurd e.1 (by simp))
          · rw [if_neg h3, c_flg h hm', (flg_if h.M hm').1]
            cases hs : bt (mb w v m 4) 0
            · have hC : cdW w v (nI q) r y z m = true := by unfold cdW cnB; rw [hD, hs, decide_eq_false h3]; rfl
              have e1 : mx (ow w v) (fun m => cdW w v (nI q) r y z m && bt li (ow w v m)) (m + 1) = some m := by rw [mx_step, if_pos ⟨by rw [hC, hl]; rfl, hle⟩]
              rw [if_ff]
              unfold fX2_selectedAlong_101
              rw [nI_add]
              rw [e1] at ih'
              exact ih'
            · rw [if_tt]
              exact hno (fun e => by unfold cdW cnB at e; rw [hs] at e; exact absurd e.1 (by simp))
theorem C_selA (h : CB g I a w v) (hq : q < 8) (hy : Ty y) (hz : Ty z) (hr : Ty r) {li ty : Int32} : fX2_selectedAlong a (dsI (sgI (nI q) y z) r) li ty (mm g I J Z) = some (oI (selS w v (nI q) r y z (bt li) (bt ((ty &&& I a 1) &&& (li ^^^ (-1))))), mm g I J Z) := by
  have hn := h.M.n40
  unfold fX2_selectedAlong
  exact C_selL h hq hy hz hr (nmb w v) 0 fuel (by omega) (by unfold fuel; omega)
theorem C_metL (h : CB g I a w v) (hq : q < 8) (hy : Ty y) (hz : Ty z) (hr : Ty r) {c : Nat} (hc : c < 10) {li : Int32} :
    ∀ (d m f : Nat), m + d = nmb w v → d < f → lX2_methodFor_18 f a (nI c) (dsI (sgI (nI q) y z) r) li (oI (mx (ow w v) (fun m => isD w v (nI q) r y z m && bt li (ow w v m)) m)) (ooI (ow w v) (mx (ow w v) (fun m => isD w v (nI q) r y z m && bt li (ow w v m)) m)) (nI m) (mm g I J Z)
      = some (oI (orS (lnW w v (isD w v (nI q) r y z) (bt li)) (imW w v (nI q) r y z (bt ((I (a + 4) c &&& I a 1) &&& (li ^^^ (-1)))) true)), mm g I J Z) := by
  have hn := h.M.n40
  intro d
  induction d with
  | zero =>
    intro m f hm hf
    obtain ⟨f, rfl⟩ : ∃ z, f = z + 1 := ⟨f - 1, by omega⟩
    obtain rfl : m = nmb w v := by omega
    show bX2_methodFor_18 (lX2_methodFor_18 f) a _ _ _ _ _ _ _ = _
    unfold bX2_methodFor_18 lnW
    rw [c_size h, if_pos (nI_le (Nat.le_refl _) (by omega))]
    cases hx : mx (ow w v) (fun m => isD w v (nI q) r y z m && bt li (ow w v m)) (nmb w v) with
    | none =>
      show (if (-2 : Int32) = -2 then _ else _) = _
      rw [if_pos rfl, lib_p8 h.L, Option.bind_some, lib_l4 h.L hc, Option.bind_some, lib_g1 h.L, Option.bind_some, CB_cv h, show (nI 1) = bI true from rfl, C_iface h hq hy hz hr, bd_some]
      rfl
    | some k =>
      rw [if_neg (oI_ne (by have := (mx_some hx).1; omega))]
      rfl
  | succ d ih =>
    intro m f hm hf
    obtain ⟨f, rfl⟩ : ∃ z, f = z + 1 := ⟨f - 1, by omega⟩
    have hm' : m < nmb w v := by omega
    obtain ⟨o1, o2, o3, o4⟩ := h.M.own m hm'
    have ih' := ih (m + 1) f (by omega) (by omega)
    have hbd : ∀ k, mx (ow w v) (fun m => isD w v (nI q) r y z m && bt li (ow w v m)) m = some k → ow w v k < 10 := fun k e => (h.M.own k (by have := (mx_some e).1; omega)).2.1
    show bX2_methodFor_18 (lX2_methodFor_18 f) a _ _ _ _ _ _ _ = _
    unfold bX2_methodFor_18
    rw [c_size h, if_neg (nI_ge hm' (by omega)), c_own h hm', c_dsc h hm']
    have hno : ¬ ((isD w v (nI q) r y z m && bt li (ow w v m)) = true ∧ ¬ (∃ k, mx (ow w v) (fun m => isD w v (nI q) r y z m && bt li (ow w v m)) m = some k ∧ ow w v m ≤ ow w v k)) → fX2_methodFor_80 (lX2_methodFor_18 f) a (nI c) (dsI (sgI (nI q) y z) r) li (oI (mx (ow w v) (fun m => isD w v (nI q) r y z m && bt li (ow w v m)) m)) (ooI (ow w v) (mx (ow w v) (fun m => isD w v (nI q) r y z m && bt li (ow w v m)) m)) (nI m) (mm g I J Z) = some (oI (orS (lnW w v (isD w v (nI q) r y z) (bt li)) (imW w v (nI q) r y z (bt ((I (a + 4) c &&& I a 1) &&& (li ^^^ (-1)))) true)), mm g I J Z) := by
      intro e
      have e1 : mx (ow w v) (fun m => isD w v (nI q) r y z m && bt li (ow w v m)) (m + 1) = mx (ow w v) (fun m => isD w v (nI q) r y z m && bt li (ow w v m)) m := by rw [mx_step, if_neg e]
      unfold fX2_methodFor_80
      rw [nI_add, ← e1]
      exact ih'
    cases hD : isD w v (nI q) r y z m
    · rw [if_neg (fun e => by rw [(C_desc h.R h.M hm' hq hy hz hr).mp e] at hD; cases hD)]
      exact hno (fun e => by rw [hD] at e; exact absurd e.1 (by simp))
    · rw [if_pos ((C_desc h.R h.M hm' hq hy hz hr).mpr hD), tst_if (by omega)]
      cases hl : bt li (ow w v m)
      · rw [if_ff]
        exact hno (fun e => by rw [hl, Bool.and_false] at e; exact absurd e.1 (by decide))
      · rw [if_tt]
        by_cases hle : ∃ k, mx (ow w v) (fun m => isD w v (nI q) r y z m && bt li (ow w v m)) m = some k ∧ ow w v m ≤ ow w v k
        · rw [if_pos ((ooI_le o2 hbd).mpr hle)]
          exact hno (fun e => e.2 hle)
        · rw [if_neg (fun e => hle ((ooI_le o2 hbd).mp e))]
          have e1 : mx (ow w v) (fun m => isD w v (nI q) r y z m && bt li (ow w v m)) (m + 1) = some m := by rw [mx_step, if_pos ⟨by rw [hD, hl]; rfl, hle⟩]
          unfold fX2_methodFor_80
          rw [nI_add]
          rw [e1] at ih'
          exact ih'
theorem lnW_congr (hM : WM w v) {D L L' : Nat → Bool} (h : ∀ i, i < 10 → L i = L' i) : lnW w v D L = lnW w v D L' := mx_congr (fun k hk => ⟨by rw [h _ (hM.own k hk).2.1], rfl⟩)
theorem selS_congr (hM : WM w v) {nm : Int32} {L L' S S' : Nat → Bool} (h : ∀ i, i < 10 → L i = L' i) (h' : ∀ i, i < 10 → S i = S' i) : selS w v nm r y z L S = selS w v nm r y z L' S' := by
  unfold selS
  rw [lnW_congr hM h, imW_congr hM h']
/-- the method of class c for a descriptor: as the reference finds it -/
theorem C_methodFor (h : CB g I a w v) (hq : q < 8) (hy : Ty y) (hz : Ty z) (hr : Ty r) {c : Nat} (he : exC w v c = true) : fX2_methodFor a (nI c) (dsI (sgI (nI q) y z) r) (mm g I J Z) = some (oI (metS w v (nI q) r y z c), mm g I J Z) := by
  have hn := h.M.n40
  have hc := exC_lt he
  unfold fX2_methodFor metS
  rw [lib_p9 h.L, Option.bind_some, lib_l5 h.L hc, Option.bind_some]
  refine (C_metL h hq hy hz hr hc (nmb w v) 0 fuel (by omega) (by unfold fuel; omega)).trans ?_
  have hl : ∀ i, i < 32 → bt (I (a + 5) c) i = lnB w v c i := fun i hi => by rw [h.R.lin c i hc hi, he, Bool.true_and]
  rw [lnW_congr h.M (fun i hi => hl i (by omega)), imW_congr h.M (S' := upS w v c) (fun i hi => ?_)]
  rw [and_not (by omega), b_and, hl i (by omega), h.R.sty c i hc (by omega), h.R.ifc i (by omega), he, Bool.true_and]
  unfold upS
  cases hs : stB w v c i
  · rfl
  · have hei := exC_of hi (stB_le h.C c hc (exC_ex he) i hs).2
    rw [hei, Bool.true_and, Bool.true_and, Bool.true_and]
    cases hi2 : itB w v i
    · rw [Bool.false_and, Bool.and_false]
    · rw [Bool.true_and, Bool.and_true]
      congr 1
      rw [Bool.eq_iff_iff, decide_eq_true_eq]
      constructor
      · intro e
        rcases (lnB_step h.C he i).mp e with rfl | ⟨e1, e2, e3⟩
        · rfl
        · have := (lnB_le h.C c he i e).2.2.2 e2
          rw [hi2] at this; cases this
      · intro e
        exact (lnB_step h.C he i).mpr (Or.inl e.symm)
end Cs

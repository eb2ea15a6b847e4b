/-! ===== setClass ===== -/
def plS : Nat → Nat
  | 0 => 5
  | 1 => 6
  | 2 => 7
  | 3 => 4
  | 4 => 2
  | _ => 3
def v01 (x : Int32) : Bool := decide (nI 0 ≤ x ∧ x ≤ nI 1)
def cvB (w : Nat → Int32) (v c : Nat) (u x : Int32) : Bool := if u = nI 0 then v01 x else if u = nI 1 then v01 x else if u = nI 2 then v01 x else if u = nI 3 then accB x else if u = nI 4 then (itB w v c || supI w v c x) else if u = nI 5 then ifsB w v c x else false
def okS (w : Nat → Int32) (v c : Nat) (u x : Int32) : Bool := !decide (c = 0) && !(itB w v c && (decide (u = nI 1) || decide (u = nI 2) || decide (u = nI 4))) && !(decide (u = nI 1) && decide (x = nI 1) && spB w v c) && !(decide (u = nI 2) && decide (x = 0) && haB w v c)
section Sc
variable {g : Gr} {A R a b : Nat} {I I' : Mem} {J : Nat → Nat → Int64} {Z : Option Nat} {w w' : Nat → Int32} {n k v c m q p : Nat} {P : Nat → Nat → Int32} {d : Nat → Int32} {x y z u s f : Int32}
theorem v01_c (h : v01 x = true) : x = nI 0 ∨ x = nI 1 := by
  unfold v01 at h
  have h := of_decide_eq_true h
  obtain ⟨k, hk, rfl⟩ := nI_of (x := x) (Int32.not_lt.mpr h.1)
  have := (nI_leI hk (by omega)).mp h.2
  rcases (by omega : k = 0 ∨ k = 1) with rfl | rfl
  · exact Or.inl rfl
  · exact Or.inr rfl
theorem v01_run (h : AH) : (if x = 0 then rz (nI 1) (nI 1) h else if x = nI 1 then rz (nI 1) (nI 1) h else rz (nI 0) (nI 0) h) = some (bI (v01 x), h) := by
  by_cases q0 : x = 0
  · rw [if_pos q0, show v01 x = true from by rw [q0]; decide]; exact rz_n1 h
  · rw [if_neg q0]
    by_cases q1 : x = nI 1
    · rw [if_pos q1, show v01 x = true from by rw [q1]; decide]; exact rz_n1 h
    · rw [if_neg q1, show v01 x = false from by
        cases e : v01 x
        · rfl
        · rcases v01_c e with z | z
          · exact absurd z q0
          · exact absurd z q1]
      exact rz_n0 h
theorem C_cvB (hb : CB g I a w v) (he : exC w v c = true) : fX8_isClassValue a (nI c) u x (mm g I J Z) = some (bI (cvB w v c u x), mm g I J Z) := by
  have hc := exC_lt he
  unfold fX8_isClassValue cvB
  by_cases u0 : u = nI 0
  · rw [if_pos u0, if_pos u0]; exact v01_run _
  · rw [if_neg u0, if_neg u0]
    by_cases u1 : u = nI 1
    · rw [if_pos u1, if_pos u1]; exact v01_run _
    · rw [if_neg u1, if_neg u1]
      by_cases u2 : u = nI 2
      · rw [if_pos u2, if_pos u2]; exact v01_run _
      · rw [if_neg u2, if_neg u2]
        by_cases u3 : u = nI 3
        · rw [if_pos u3, if_pos u3]
          unfold accB
          by_cases q1 : x < 0
          · rw [if_pos q1, decide_eq_false (fun q => (Int32.not_lt.mpr q.1) q1)]; exact rz_n0 _
          · rw [if_neg q1]
            by_cases q2 : nI 4 ≤ x
            · rw [if_pos q2, decide_eq_false (fun q => absurd (Int32.le_trans q2 q.2) (by decide))]; exact rz_n0 _
            · obtain ⟨k, hk, rfl⟩ := nI_of q1
              have : k < 4 := Nat.lt_of_not_le (fun z => q2 (nI_le z hk))
              rw [if_neg q2, decide_eq_true ⟨nI_le (by omega) hk, nI_le (by omega) (by omega)⟩]; exact rz_n1 _
        · rw [if_neg u3, if_neg u3]
          by_cases u4 : u = nI 4
          · rw [if_pos u4, if_pos u4, lib_cv hb.L, C_isI hb.L hb.R hc, bd_some, he, Bool.true_and, bIf]
            cases itB w v c
            · rw [if_ff, Bool.false_or, lib_cv hb.L, C_supI hb hc, bd_some, bIf]; exact rzb
            · rw [if_tt, Bool.true_or]; exact rz_n1 _
          · rw [if_neg u4, if_neg u4]
            by_cases u5 : u = nI 5
            · rw [if_pos u5, if_pos u5, lib_cv hb.L, C_ifs hb hc, bd_some, rz_bI]
            · rw [if_neg u5, if_neg u5]; exact rz_n0 _
theorem M_cvB (h : Mb g R I w v) (hc : c < 10) : fX9_mayBe R (nI v) (nI c) u x (mm g I J Z) = some (bI (cvB w v c u x), mm g I J Z) := by
  unfold fX9_mayBe cvB
  by_cases u0 : u = nI 0
  · rw [if_pos u0, if_pos u0, M_within, bd_some, show decide (nI 0 ≤ x ∧ x ≤ nI 1) = v01 x from rfl, rz_bI]
  · rw [if_neg u0, if_neg u0]
    by_cases u1 : u = nI 1
    · rw [if_pos u1, if_pos u1, M_within, bd_some, show decide (nI 0 ≤ x ∧ x ≤ nI 1) = v01 x from rfl, rz_bI]
    · rw [if_neg u1, if_neg u1]
      by_cases u2 : u = nI 2
      · rw [if_pos u2, if_pos u2, M_within, bd_some, show decide (nI 0 ≤ x ∧ x ≤ nI 1) = v01 x from rfl, rz_bI]
      · rw [if_neg u2, if_neg u2]
        by_cases u3 : u = nI 3
        · rw [if_pos u3, if_pos u3, M_within, bd_some, show decide (nI 0 ≤ x ∧ x ≤ nI 3) = accB x from rfl, rz_bI]
        · rw [if_neg u3, if_neg u3]
          by_cases u4 : u = nI 4
          · rw [if_pos u4, if_pos u4, h.cv, h.itf hc, bd_some, bIf]
            cases itB w v c
            · rw [if_ff, Bool.false_or, h.cv, M_supI h hc, bd_some, bIf]; exact rzb
            · rw [if_tt, Bool.true_or]; exact rz_n1 _
          · rw [if_neg u4, if_neg u4]
            by_cases u5 : u = nI 5
            · rw [if_pos u5, if_pos u5, h.cv, M_ifs h hc, bd_some, bIf]; exact rzb
            · rw [if_neg u5, if_neg u5]; exact rz_n0 _
theorem cvB_u (h : cvB w v c u x = true) : ∃ k, k < 6 ∧ u = nI k := by
  unfold cvB at h
  by_cases u0 : u = nI 0
  · exact ⟨0, by decide, u0⟩
  · rw [if_neg u0] at h
    by_cases u1 : u = nI 1
    · exact ⟨1, by decide, u1⟩
    · rw [if_neg u1] at h
      by_cases u2 : u = nI 2
      · exact ⟨2, by decide, u2⟩
      · rw [if_neg u2] at h
        by_cases u3 : u = nI 3
        · exact ⟨3, by decide, u3⟩
        · rw [if_neg u3] at h
          by_cases u4 : u = nI 4
          · exact ⟨4, by decide, u4⟩
          · rw [if_neg u4] at h
            by_cases u5 : u = nI 5
            · exact ⟨5, by decide, u5⟩
            · rw [if_neg u5] at h; cases h
/-- the way to the change: refused, or on -/
theorem C_scQ (h : Rel g A I w n P d) (hv : v < 2) (he : exC w v c = true) : fX8_setClass A (nI v) (nI c) u x (mm g I J Z) = if cvB w v c u x = false then some (.inl 2, mm g I J none) else if okS w v c u x = false then some (.inl 3, mm g I J none) else fX8_setClass_140 A (nI c) u x (A + 1 + 3 + 20 * v) (mm g I J Z) := by
  have hb := h.cb hv
  have hL := h.jg.lib hv
  have hc := exC_lt he
  have e108 : fX8_setClass_108 A (nI c) u x (A + 1 + 3 + 20 * v) (mm g I J Z) = if (decide (u = nI 2) && decide (x = 0) && haB w v c) = true then some (.inl 3, mm g I J none) else fX8_setClass_140 A (nI c) u x (A + 1 + 3 + 20 * v) (mm g I J Z) := by
    unfold fX8_setClass_108
    by_cases u2 : u = nI 2
    · rw [if_pos u2, decide_eq_true u2, Bool.true_and]
      by_cases x0 : x = 0
      · rw [if_pos x0, decide_eq_true x0, Bool.true_and, lib_p10 hL, Option.bind_some, mem_cv hL.mem, C_hasA hb hc, bd_some, bIf, thr_m]
      · rw [if_neg x0, decide_eq_false x0, Bool.false_and, if_ff]
    · rw [if_neg u2, decide_eq_false u2, Bool.false_and, Bool.false_and, if_ff]
  have e78 : fX8_setClass_78 A (nI c) u x (A + 1 + 3 + 20 * v) (mm g I J Z) = if (decide (u = nI 1) && decide (x = nI 1) && spB w v c) = true then some (.inl 3, mm g I J none) else fX8_setClass_108 A (nI c) u x (A + 1 + 3 + 20 * v) (mm g I J Z) := by
    unfold fX8_setClass_78
    by_cases u1 : u = nI 1
    · rw [if_pos u1, decide_eq_true u1, Bool.true_and]
      by_cases x1 : x = nI 1
      · rw [if_pos x1, decide_eq_true x1, Bool.true_and, lib_cv hL, C_isSup hb hc, bd_some, bIf, thr_m]
      · rw [if_neg x1, decide_eq_false x1, Bool.false_and, if_ff]
    · rw [if_neg u1, decide_eq_false u1, Bool.false_and, Bool.false_and, if_ff]
  unfold fX8_setClass
  rw [h.jg.cv, C_libWith h hv he, bd_some, xp_r, C_cvB hb he, bd_some, bIf]
  cases cvB w v c u x
  · rw [if_ff, if_pos rfl, thr_m]
  · rw [if_tt, if_neg (show ¬ (true = false) by decide)]
    unfold okS
    by_cases c0 : c = 0
    · rw [if_pos (show nI c = 0 by rw [c0]; rfl), decide_eq_true c0, Bool.not_true, Bool.false_and, Bool.false_and, Bool.false_and, if_pos rfl, thr_m]
    · rw [if_neg (nI_ne0 (by omega) (by omega)), decide_eq_false c0, Bool.not_false, Bool.true_and, lib_cv hL, C_isI hL hb.R hc, bd_some, he, Bool.true_and, bIf]
      have fin : ∀ b1 b2 : Bool, (if b1 = true then some (.inl 3, mm g I J none) else if b2 = true then some (.inl 3, mm g I J none) else fX8_setClass_140 A (nI c) u x (A + 1 + 3 + 20 * v) (mm g I J Z)) = if (!b1 && !b2) = false then some ((.inl 3 : Nat ⊕ Int32), mm g I J none) else fX8_setClass_140 A (nI c) u x (A + 1 + 3 + 20 * v) (mm g I J Z) := fun b1 b2 => by cases b1 <;> cases b2 <;> rfl
      cases hi : itB w v c
      · rw [if_ff, Bool.false_and, Bool.not_false, Bool.true_and, e78, e108]
        exact fin _ _
      · rw [if_tt, Bool.true_and]
        by_cases u1 : u = nI 1
        · rw [if_pos u1, decide_eq_true u1, Bool.true_or, Bool.true_or, Bool.not_true, Bool.false_and, Bool.false_and, if_pos rfl, thr_m]
        · rw [if_neg u1]
          by_cases u2 : u = nI 2
          · rw [if_pos u2, decide_eq_true u2, Bool.or_true, Bool.true_or, Bool.not_true, Bool.false_and, Bool.false_and, if_pos rfl, thr_m]
          · rw [if_neg u2]
            by_cases u4 : u = nI 4
            · rw [if_pos u4, decide_eq_true u4, Bool.or_true, Bool.not_true, Bool.false_and, Bool.false_and, if_pos rfl, thr_m]
            · rw [if_neg u4, e78, e108, decide_eq_false u1, decide_eq_false u2, decide_eq_false u4]
              exact fin _ _
theorem M_scQ (h : MRel g A I w n P d) (hv : v < 2) (he : exC w v c = true) : fX9_setClass (A + 418) (nI v) (nI c) u x (mm g I J Z) = fX9_setClass_152 (A + 418) (nI v) (nI c) u x (A + 418) (nI (if cvB w v c u x = false then 2 else if okS w v c u x = false then 3 else 0)) (mm g I J Z) := by
  have hb := h.mb hv
  have hc := exC_lt he
  have e121 : ∀ s : Bool, fX9_setClass_121 (A + 418) (nI v) (nI c) u x (nI 1) (nI 1) (bI s) (mm g I J Z) = fX9_setClass_152 (A + 418) (nI v) (nI c) u x (A + 418) (nI (if s = false then 3 else 0)) (mm g I J Z) := by
    intro s
    unfold fX9_setClass_121
    rw [if_neg (by decide), if_neg (by decide), bIf]
    cases s
    · rw [if_ff, if_pos rfl]
    · rw [if_tt, if_neg (by decide)]
  have t121 := e121 true
  have f121 := e121 false
  rw [bt1, if_neg (show ¬ (true = false) by decide)] at t121
  rw [bf0, if_pos rfl] at f121
  have e97 : fX9_setClass_97 (A + 418) (nI v) (nI c) u x (nI 1) (nI 1) (mm g I J Z) = fX9_setClass_152 (A + 418) (nI v) (nI c) u x (A + 418) (nI (if (decide (u = nI 2) && decide (x = 0) && haB w v c) = true then 3 else 0)) (mm g I J Z) := by
    unfold fX9_setClass_97 fX9_setClass_120
    by_cases u2 : u = nI 2
    · rw [if_pos u2, decide_eq_true u2, Bool.true_and]
      by_cases x0 : x = 0
      · rw [if_pos x0, decide_eq_true x0, Bool.true_and, M_cv h.G, M_hasA hb hc, bd_some, bIf]
        cases haB w v c
        · rw [if_ff, if_ff]; exact t121
        · rw [if_tt, if_tt]; exact f121
      · rw [if_neg x0, decide_eq_false x0, Bool.false_and, if_ff]; exact t121
    · rw [if_neg u2, decide_eq_false u2, Bool.false_and, Bool.false_and, if_ff]; exact t121
  have e70 : fX9_setClass_70 (A + 418) (nI v) (nI c) u x (nI 1) (nI 1) (nI 1) (mm g I J Z) = fX9_setClass_152 (A + 418) (nI v) (nI c) u x (A + 418) (nI (if (!(decide (u = nI 1) && decide (x = nI 1) && spB w v c) && !(decide (u = nI 2) && decide (x = 0) && haB w v c)) = false then 3 else 0)) (mm g I J Z) := by
    unfold fX9_setClass_70 fX9_setClass_120
    rw [if_neg (by decide)]
    have nx : fX9_setClass_97 (A + 418) (nI v) (nI c) u x (nI 1) (nI 1) (mm g I J Z) = fX9_setClass_152 (A + 418) (nI v) (nI c) u x (A + 418) (nI (if (!false && !(decide (u = nI 2) && decide (x = 0) && haB w v c)) = false then 3 else 0)) (mm g I J Z) := by
      rw [e97]
      cases (decide (u = nI 2) && decide (x = 0) && haB w v c)
      · rw [if_ff]; rfl
      · rw [if_tt]; rfl
    by_cases u1 : u = nI 1
    · rw [if_pos u1, decide_eq_true u1, Bool.true_and]
      by_cases x1 : x = nI 1
      · rw [if_pos x1, decide_eq_true x1, Bool.true_and, M_cv h.G, M_isAb hb hc, bd_some, bIf]
        cases spB w v c
        · rw [if_ff]; exact nx
        · rw [if_tt, Bool.not_true, Bool.false_and, if_pos rfl]; exact f121
      · rw [if_neg x1, decide_eq_false x1, Bool.false_and]; exact nx
    · rw [if_neg u1, decide_eq_false u1, Bool.false_and, Bool.false_and]; exact nx
  have e69 : fX9_setClass_69 (A + 418) (nI v) (nI c) u x (nI 1) (nI 1) (mm g I J Z) = fX9_setClass_152 (A + 418) (nI v) (nI c) u x (A + 418) (nI 3) (mm g I J Z) := by
    unfold fX9_setClass_69 fX9_setClass_70 fX9_setClass_120
    rw [if_pos (by decide)]; exact f121
  unfold fX9_setClass
  rw [M_cv h.G, hb.isC hc, bd_some, he, bIf, if_tt, M_cv h.G, M_cvB hb hc, bd_some, bIf]
  cases cvB w v c u x
  · rw [if_ff, if_pos rfl, bt1]
    unfold fX9_setClass_29 fX9_setClass_30 fX9_setClass_69 fX9_setClass_70 fX9_setClass_120 fX9_setClass_121
    rw [if_pos (by decide), if_pos (by decide), if_neg (by decide), if_pos (by decide)]
  · rw [if_tt, if_neg (show ¬ (true = false) by decide), bt1]
    unfold fX9_setClass_30 okS
    rw [if_neg (by decide)]
    by_cases c0 : c = 0
    · rw [if_pos (show nI c = 0 by rw [c0]; rfl), decide_eq_true c0, Bool.not_true, Bool.false_and, Bool.false_and, Bool.false_and, if_pos rfl]; exact e69
    · rw [if_neg (nI_ne0 (by omega) (by omega)), decide_eq_false c0, Bool.not_false, Bool.true_and, M_cv h.G, hb.itf hc, bd_some, bIf]
      cases hi : itB w v c
      · rw [if_ff, Bool.false_and, Bool.not_false, Bool.true_and]; exact e70
      · rw [if_tt, Bool.true_and]
        by_cases u1 : u = nI 1
        · rw [if_pos u1, decide_eq_true u1, Bool.true_or, Bool.true_or, Bool.not_true, Bool.false_and, Bool.false_and, if_pos rfl]; exact e69
        · rw [if_neg u1]
          by_cases u2 : u = nI 2
          · rw [if_pos u2, decide_eq_true u2, Bool.or_true, Bool.true_or, Bool.not_true, Bool.false_and, Bool.false_and, if_pos rfl]; exact e69
          · rw [if_neg u2]
            by_cases u4 : u = nI 4
            · rw [if_pos u4, decide_eq_true u4, Bool.or_true, Bool.not_true, Bool.false_and, Bool.false_and, if_pos rfl]; exact e69
            · rw [if_neg u4, e70, decide_eq_false u1, decide_eq_false u2, decide_eq_false u4]
              rfl
/-! the row -/
theorem ccl (hp : p < 8) {k r : Nat} (hr : r < 8) : cl (sW w (481 * v + 8 * c + p) x) v k r = if k = c ∧ r = p then x else cl w v k r := by
  unfold cl
  by_cases e : k = c ∧ r = p
  · rw [if_pos e, e.1, e.2, sW_at]
  · rw [if_neg e, sW_ne (by omega)]
theorem cmb (hc : c < 10) (hp : p < 8) {m r : Nat} : mb (sW w (481 * v + 8 * c + p) x) v m r = mb w v m r := sW_ne (by omega)
theorem cmn (hc : c < 10) (hp : p < 8) : mn (sW w (481 * v + 8 * c + p) x) v = mn w v := sW_ne (by omega)
theorem cout (hc : c < 10) (hp : p < 8) {i : Nat} (h : i < 481 * v ∨ 481 * v + 481 ≤ i) : sW w (481 * v + 8 * c + p) x i = w i := sW_ne (by omega)
theorem plS_8 (hk : k < 6) : 2 ≤ plS k ∧ plS k < 8 := by
  rcases (by omega : k = 0 ∨ k = 1 ∨ k = 2 ∨ k = 3 ∨ k = 4 ∨ k = 5) with rfl | rfl | rfl | rfl | rfl | rfl <;> decide
theorem okS_p (h : okS w v c (nI k) x = true) (hk : k < 6) : c ≠ 0 ∧ (itB w v c = true → k ≠ 1 ∧ k ≠ 2 ∧ k ≠ 4) ∧ (k = 2 → x = 0 → haB w v c = false) := by
  unfold okS at h
  simp only [Bool.and_eq_true, Bool.not_eq_true', Bool.and_eq_false_iff, Bool.or_eq_false_iff, decide_eq_false_iff_not] at h
  obtain ⟨⟨⟨h1, h2⟩, h3⟩, h4⟩ := h
  refine ⟨h1, fun e => ?_, fun e1 e2 => ?_⟩
  · rcases h2 with q | q
    · rw [e] at q; cases q
    · exact ⟨fun z => q.1.1 (by rw [z]), fun z => q.1.2 (by rw [z]), fun z => q.2 (by rw [z])⟩
  · rcases h4 with (q | q) | q
    · exact absurd (by rw [e1]) q
    · exact absurd e2 q
    · exact q
theorem scW_WC (hW : WC w v) (he : exC w v c = true) (hk : k < 6) (hcv : cvB w v c (nI k) x = true) (hok : okS w v c (nI k) x = true) : WC (sW w (481 * v + 8 * c + plS k) x) v := by
  obtain ⟨c0, ok1, ok2⟩ := okS_p hok hk
  have hc := exC_lt he
  obtain ⟨p2, p8⟩ := plS_8 hk
  have o : ∀ j r, r < 8 → (j ≠ c ∨ r ≠ plS k) → cl (sW w (481 * v + 8 * c + plS k) x) v j r = cl w v j r := fun j r hr q => by rw [ccl p8 hr, if_neg (by omega)]
  have on : cl (sW w (481 * v + 8 * c + plS k) x) v c (plS k) = x := by rw [ccl p8 p8, if_pos ⟨rfl, rfl⟩]
  have hh := hW.1
  refine ⟨⟨by rw [o 0 0 (by decide) (Or.inl (by omega))]; exact hh.1, by rw [o 0 1 (by decide) (Or.inl (by omega))]; exact hh.2.1, by rw [o 0 2 (by decide) (Or.inl (by omega))]; exact hh.2.2.1, by rw [o 0 3 (by decide) (Or.inl (by omega))]; exact hh.2.2.2.1, by rw [o 0 4 (by decide) (Or.inl (by omega))]; exact hh.2.2.2.2.1, by rw [o 0 5 (by decide) (Or.inl (by omega))]; exact hh.2.2.2.2.2.1, by rw [o 0 6 (by decide) (Or.inl (by omega))]; exact hh.2.2.2.2.2.2.1, by rw [o 0 7 (by decide) (Or.inl (by omega))]; exact hh.2.2.2.2.2.2.2⟩, fun j hj => ?_, fun j hj1 hj hej => ?_⟩
  · rw [o j 0 (by decide) (Or.inr (by omega))]; exact hW.2.1 j hj
  · rw [o j 0 (by decide) (Or.inr (by omega))] at hej
    obtain ⟨a1, ⟨t, s1, s2, s3, s4, s5⟩, a3, a4, a5, a6, a7, a8⟩ := hW.2.2 j hj1 hj hej
    have b0 : ∀ i, cl (sW w (481 * v + 8 * c + plS k) x) v i 0 = cl w v i 0 := fun i => o i 0 (by decide) (Or.inr (by omega))
    have b1 : ∀ i, cl (sW w (481 * v + 8 * c + plS k) x) v i 1 = cl w v i 1 := fun i => o i 1 (by decide) (Or.inr (by omega))
    by_cases e : j = c
    · subst e
      rw [b1]
      have a1' : ¬ itB w v j = true → ¬ cl w v j 1 = nI 1 := fun q z => q (by unfold itB; rw [decide_eq_true z])
      unfold cvB at hcv
      rcases (by omega : k = 0 ∨ k = 1 ∨ k = 2 ∨ k = 3 ∨ k = 4 ∨ k = 5) with rfl | rfl | rfl | rfl | rfl | rfl
      · rw [if_pos rfl] at hcv
        have on5 : cl (sW w (481 * v + 8 * j + plS 0) x) v j 5 = x := on
        have oo : ∀ r, r < 8 → r ≠ 5 → cl (sW w (481 * v + 8 * j + plS 0) x) v j r = cl w v j r := fun r h1 h2 => o j r h1 (Or.inr h2)
        rw [oo 4 (by decide) (by decide), on5, oo 6 (by decide) (by decide), oo 7 (by decide) (by decide)]
        exact ⟨a1, ⟨t, s1, by rw [oo 2 (by decide) (by decide)]; exact s2, by rw [b0]; exact s3, by rw [b1]; exact s4, s5⟩, fun i hi hb => by rw [oo 3 (by decide) (by decide)] at hb; rw [b0, b1]; exact a3 i hi hb, a4, v01_c hcv, a6, a7, a8⟩
      · rw [if_neg (by decide), if_pos rfl] at hcv
        have ni : ¬ itB w v j = true := fun q => (ok1 q).1 rfl
        have on5 : cl (sW w (481 * v + 8 * j + plS 1) x) v j 6 = x := on
        have oo : ∀ r, r < 8 → r ≠ 6 → cl (sW w (481 * v + 8 * j + plS 1) x) v j r = cl w v j r := fun r h1 h2 => o j r h1 (Or.inr h2)
        rw [oo 4 (by decide) (by decide), on5, oo 5 (by decide) (by decide), oo 7 (by decide) (by decide)]
        exact ⟨a1, ⟨t, s1, by rw [oo 2 (by decide) (by decide)]; exact s2, by rw [b0]; exact s3, by rw [b1]; exact s4, s5⟩, fun i hi hb => by rw [oo 3 (by decide) (by decide)] at hb; rw [b0, b1]; exact a3 i hi hb, a4, a5, v01_c hcv, a7, fun q => absurd q (a1' ni)⟩
      · rw [if_neg (by decide), if_neg (by decide), if_pos rfl] at hcv
        have ni : ¬ itB w v j = true := fun q => (ok1 q).2.1 rfl
        have on5 : cl (sW w (481 * v + 8 * j + plS 2) x) v j 7 = x := on
        have oo : ∀ r, r < 8 → r ≠ 7 → cl (sW w (481 * v + 8 * j + plS 2) x) v j r = cl w v j r := fun r h1 h2 => o j r h1 (Or.inr h2)
        rw [oo 4 (by decide) (by decide), on5, oo 5 (by decide) (by decide), oo 6 (by decide) (by decide)]
        exact ⟨a1, ⟨t, s1, by rw [oo 2 (by decide) (by decide)]; exact s2, by rw [b0]; exact s3, by rw [b1]; exact s4, s5⟩, fun i hi hb => by rw [oo 3 (by decide) (by decide)] at hb; rw [b0, b1]; exact a3 i hi hb, a4, a5, a6, v01_c hcv, fun q => absurd q (a1' ni)⟩
      · rw [if_neg (by decide), if_neg (by decide), if_neg (by decide), if_pos rfl] at hcv
        have on5 : cl (sW w (481 * v + 8 * j + plS 3) x) v j 4 = x := on
        have oo : ∀ r, r < 8 → r ≠ 4 → cl (sW w (481 * v + 8 * j + plS 3) x) v j r = cl w v j r := fun r h1 h2 => o j r h1 (Or.inr h2)
        rw [on5, oo 5 (by decide) (by decide), oo 6 (by decide) (by decide), oo 7 (by decide) (by decide)]
        exact ⟨a1, ⟨t, s1, by rw [oo 2 (by decide) (by decide)]; exact s2, by rw [b0]; exact s3, by rw [b1]; exact s4, s5⟩, fun i hi hb => by rw [oo 3 (by decide) (by decide)] at hb; rw [b0, b1]; exact a3 i hi hb, accB_4 hcv, a5, a6, a7, a8⟩
      · rw [if_neg (by decide), if_neg (by decide), if_neg (by decide), if_neg (by decide), if_pos rfl] at hcv
        have ni : ¬ itB w v j = true := fun q => (ok1 q).2.2 rfl
        have on5 : cl (sW w (481 * v + 8 * j + plS 4) x) v j 2 = x := on
        have oo : ∀ r, r < 8 → r ≠ 2 → cl (sW w (481 * v + 8 * j + plS 4) x) v j r = cl w v j r := fun r h1 h2 => o j r h1 (Or.inr h2)
        have hsp : supI w v j x = true := by
          cases q : itB w v j
          · rw [q, Bool.false_or] at hcv; exact hcv
          · exact absurd q ni
        obtain ⟨t', ht', e1, e2⟩ := supI_n hsp
        obtain ⟨n1, n2, n3⟩ := supN_c e2
        rw [oo 4 (by decide) (by decide), oo 5 (by decide) (by decide), oo 6 (by decide) (by decide), oo 7 (by decide) (by decide)]
        exact ⟨a1, ⟨t', n1, by rw [on5]; exact e1, by rw [b0]; exact exC_ex n2, by rw [b1]; exact itB_F hW n2 n3, fun q => absurd q (a1' ni)⟩, fun i hi hb => by rw [oo 3 (by decide) (by decide)] at hb; rw [b0, b1]; exact a3 i hi hb, a4, a5, a6, a7, a8⟩
      · rw [if_neg (by decide), if_neg (by decide), if_neg (by decide), if_neg (by decide), if_neg (by decide), if_pos rfl] at hcv
        have on5 : cl (sW w (481 * v + 8 * j + plS 5) x) v j 3 = x := on
        have oo : ∀ r, r < 8 → r ≠ 3 → cl (sW w (481 * v + 8 * j + plS 5) x) v j r = cl w v j r := fun r h1 h2 => o j r h1 (Or.inr h2)
        rw [oo 4 (by decide) (by decide), oo 5 (by decide) (by decide), oo 6 (by decide) (by decide), oo 7 (by decide) (by decide)]
        refine ⟨a1, ⟨t, s1, by rw [oo 2 (by decide) (by decide)]; exact s2, by rw [b0]; exact s3, by rw [b1]; exact s4, s5⟩, fun i hi hb => ?_, a4, a5, a6, a7, a8⟩
        rw [on5] at hb
        obtain ⟨i1, i2, i3⟩ := ifsB_iff.mp hcv i hi hb
        rw [b0, b1]
        exact ⟨i1, exC_ex i2, of_decide_eq_true i3⟩
    · rw [b1, o j 4 (by decide) (Or.inl e), o j 5 (by decide) (Or.inl e), o j 6 (by decide) (Or.inl e), o j 7 (by decide) (Or.inl e)]
      refine ⟨a1, ⟨t, s1, by rw [o j 2 (by decide) (Or.inl e)]; exact s2, by rw [b0]; exact s3, by rw [b1]; exact s4, s5⟩, fun i hi hb => ?_, a4, a5, a6, a7, a8⟩
      rw [o j 3 (by decide) (Or.inl e)] at hb
      rw [b0, b1]
      exact a3 i hi hb
theorem scW_WM (hM : WM w v) (he : exC w v c = true) (hk : k < 6) (hcv : cvB w v c (nI k) x = true) (hok : okS w v c (nI k) x = true) : WM (sW w (481 * v + 8 * c + plS k) x) v := by
  obtain ⟨c0, ok1, ok2⟩ := okS_p hok hk
  have hc := exC_lt he
  obtain ⟨p2, p8⟩ := plS_8 hk
  refine hM.map hM.n40 ((cmn hc p8).trans hM.n) (fun k => k) (fun _ h => h) (fun _ _ _ _ e => e) (fun i p hi hp => cmb hc p8) (fun i hi => ?_) (fun i hi => ?_) (fun i hi e hb => ?_)
  · show exC _ v (ow w v i) = true
    exact (exC_cg (v := v) (v' := v) (w := w) (w' := sW w (481 * v + 8 * c + plS k) x) (fun j hj => by rw [ccl p8 (by decide), if_neg (by omega)]) _).trans (hM.own i hi).2.2.2
  · show itB _ v (ow w v i) = true → itB w v (ow w v i) = true
    unfold itB; rw [ccl p8 (by decide), if_neg (by omega)]; exact id
  · show cl _ v (ow w v i) 7 = nI 1
    rw [ccl p8 (by decide)]
    by_cases q : ow w v i = c ∧ 7 = plS k
    · rw [if_pos q]
      have k2 : k = 2 := by
        rcases (by omega : k = 0 ∨ k = 1 ∨ k = 2 ∨ k = 3 ∨ k = 4 ∨ k = 5) with rfl | rfl | rfl | rfl | rfl | rfl
        · exact absurd q.2 (by decide)
        · exact absurd q.2 (by decide)
        · rfl
        · exact absurd q.2 (by decide)
        · exact absurd q.2 (by decide)
        · exact absurd q.2 (by decide)
      subst k2
      unfold cvB at hcv
      rw [if_neg (by decide), if_neg (by decide), if_pos rfl] at hcv
      rcases v01_c hcv with z | z
      · have := ok2 rfl z
        have hab : haB w v c = true := anyF_iff.mpr ⟨i, by omega, by omega, by rw [decide_eq_true q.1]; exact hb⟩
        rw [hab] at this; cases this
      · exact z
    · rw [if_neg q]; exact e
/-! the class's library -/
theorem RLc.cell (hr : RLc I a w v) (he : exC w v c = true) {pl : Nat} (p2 : 2 ≤ pl) (p8 : pl < 8) (hb : ∀ k' i, k' < 5 → i < 32 → bt (I' a k') i = if i = c ∧ pl = k' + 3 ∧ 2 ≤ k' then decide (x = nI 1) else bt (I a k') i) (h1 : ∀ i, I' (a + 1) i = if i = c ∧ pl = 4 then x else I (a + 1) i) (h2 : ∀ i, I' (a + 2) i = if i = c ∧ pl = 2 then x else I (a + 2) i) (h3 : ∀ i, I' (a + 3) i = if i = c ∧ pl = 3 then x else I (a + 3) i) : RLc I' a (sW w (481 * v + 8 * c + pl) x) v := by
  have ex : ∀ i, exC (sW w (481 * v + 8 * c + pl) x) v i = exC w v i := fun i => exC_cg (fun j hj => by rw [ccl p8 (by decide), if_neg (by omega)]) i
  have st : ∀ i k' p, p < 8 → k' < 5 → p = k' + 3 → 2 ≤ k' → i < 32 → bt (I a k') i = (exC w v i && decide (cl w v i p = nI 1)) → bt (I' a k') i = (exC (sW w (481 * v + 8 * c + pl) x) v i && decide (cl (sW w (481 * v + 8 * c + pl) x) v i p = nI 1)) := by
    intro i k' p hp hk' e5 hk2 hi q
    rw [hb k' i hk' hi, ex i, ccl p8 hp]
    by_cases z : i = c ∧ pl = k' + 3 ∧ 2 ≤ k'
    · rw [if_pos z, if_pos ⟨z.1, by omega⟩, z.1, he, Bool.true_and]
    · rw [if_neg z, if_neg (by omega), q]
  refine ⟨fun i hi => ?_, fun i hi => ?_, fun i hi => st i 2 5 (by decide) (by decide) rfl (by decide) hi (hr.2.2.1 i hi), fun i hi => st i 3 6 (by decide) (by decide) rfl (by decide) hi (hr.2.2.2.1 i hi), fun i hi => st i 4 7 (by decide) (by decide) rfl (by decide) hi (hr.2.2.2.2.1 i hi), fun i hi => ?_, fun i hi => ?_, fun i hi => ?_⟩
  · rw [hb 0 i (by decide) hi, if_neg (by omega), ex i]; exact hr.1 i hi
  · rw [hb 1 i (by decide) hi, if_neg (by omega), ex i, show itB (sW w (481 * v + 8 * c + pl) x) v i = itB w v i from by unfold itB; rw [ccl p8 (by decide), if_neg (by omega)]]; exact hr.2.1 i hi
  · rw [ex i] at hi
    rw [h1, ccl p8 (by decide)]
    by_cases z : i = c ∧ pl = 4
    · rw [if_pos z, if_pos ⟨z.1, z.2.symm⟩]
    · rw [if_neg z, if_neg (by omega)]; exact hr.2.2.2.2.2.1 i hi
  · rw [ex i] at hi
    rw [h2, ccl p8 (by decide)]
    by_cases z : i = c ∧ pl = 2
    · rw [if_pos z, if_pos ⟨z.1, z.2.symm⟩]
    · rw [if_neg z, if_neg (by omega)]; exact hr.2.2.2.2.2.2.1 i hi
  · rw [ex i] at hi
    rw [h3, ccl p8 (by decide)]
    by_cases z : i = c ∧ pl = 3
    · rw [if_pos z, if_pos ⟨z.1, z.2.symm⟩]
    · rw [if_neg z, if_neg (by omega)]; exact hr.2.2.2.2.2.2.2 i hi
theorem wb_run (hc : c < 10) (hx : x = nI 0 ∨ x = nI 1) (s : Int32) (h : AH) : ∃ t, fX2_withBit s (nI c) x h = some (t, h) ∧ ∀ i, i < 32 → bt t i = if i = c then decide (x = nI 1) else bt s i := by
  have b2 : ∀ t, t < 32 → bt (nI 1 <<< (nI c &&& 31)) t = decide (t = c) := fun t ht => bt_one c (by omega) ht
  unfold fX2_withBit
  rcases hx with e | e
  · refine ⟨_, by rw [if_pos (show x = 0 from e)], fun i hi => ?_⟩
    rw [and_not hi, b2 i hi, e]
    by_cases z : i = c
    · rw [if_pos z, decide_eq_true z, Bool.not_true, Bool.and_false]; decide
    · rw [if_neg z, decide_eq_false z, Bool.not_false, Bool.and_true]
  · refine ⟨_, by rw [if_neg (by rw [e]; decide)], fun i hi => ?_⟩
    rw [b_or, b2 i hi, e]
    by_cases z : i = c
    · rw [if_pos z, decide_eq_true z, Bool.or_true]; decide
    · rw [if_neg z, decide_eq_false z, Bool.or_false]

theorem C_put2 (hb : CB g I a w v) (he : exC w v c = true) (hk : k < 6) (hcv : cvB w v c (nI k) x = true) (hW : WC (sW w (481 * v + 8 * c + plS k) x) v) : ∃ I2, fX2_putValue a (nI c) (nI k) x (mm g I J Z) = some ((), mm g I2 J Z) ∧ (∀ y, y < a ∨ a + 20 ≤ y → I2 y = I y) ∧ RLib I2 a (sW w (481 * v + 8 * c + plS k) x) v := by
  have hL := hb.L
  have hc := exC_lt he
  unfold fX2_putValue
  rcases (by omega : k = 0 ∨ k = 1 ∨ k = 2 ∨ k = 3 ∨ k = 4 ∨ k = 5) with rfl | rfl | rfl | rfl | rfl | rfl
  · have hcv' : x = nI 0 ∨ x = nI 1 := by
      unfold cvB at hcv
      rw [if_pos rfl] at hcv
      exact v01_c hcv
    obtain ⟨t, w1, w2⟩ := wb_run hc hcv' (I a 2) (mm g I J Z)
    have hcr := hb.R.c.cell (x := x) (I' := up2 I a 2 t) he (pl := plS 0) (by decide) (by decide) (fun k' i hk' hi => by
      rw [up2_at]
      by_cases z : k' = 2
      · rw [if_pos z, w2 i hi, z]
        by_cases z2 : i = c
        · rw [if_pos z2, if_pos ⟨z2, rfl, by decide⟩]
        · rw [if_neg z2, if_neg (fun q => z2 q.1)]
      · rw [if_neg z, if_neg (fun q => z (by have := q.2.1; have e : plS 0 = 5 := rfl; omega))]) (fun i => by rw [up2_ne (by omega), if_neg (fun q => absurd q.2 (by decide))]) (fun i => by rw [up2_ne (by omega), if_neg (fun q => absurd q.2 (by decide))]) (fun i => by rw [up2_ne (by omega), if_neg (fun q => absurd q.2 (by decide))])
    refine ⟨up2 I a 2 t, ?_, fun y hy => up2_ne (by omega), RLib.of hcr ((hb.R.s.cg hb.C hW (fun j r hj hr => by rw [ccl (by decide) (by omega), if_neg (fun q => by have := q.2; have e : plS 0 = 5 := rfl; omega)])).fr (up2_ne (by omega)) (up2_ne (by omega))) ((hb.R.m.cg (cmn hc (by decide)) (fun m r _ _ => cmb hc (by decide))).fr (fun y h1 h2 => up2_ne (by omega)))⟩
    rw [if_pos rfl, lib_g2 hL, Option.bind_some, w1, bd_some, lib_s2 hL, Option.bind_some]
  · have hcv' : x = nI 0 ∨ x = nI 1 := by
      unfold cvB at hcv
      rw [if_neg (by decide), if_pos rfl] at hcv
      exact v01_c hcv
    obtain ⟨t, w1, w2⟩ := wb_run hc hcv' (I a 3) (mm g I J Z)
    have hcr := hb.R.c.cell (x := x) (I' := up2 I a 3 t) he (pl := plS 1) (by decide) (by decide) (fun k' i hk' hi => by
      rw [up2_at]
      by_cases z : k' = 3
      · rw [if_pos z, w2 i hi, z]
        by_cases z2 : i = c
        · rw [if_pos z2, if_pos ⟨z2, rfl, by decide⟩]
        · rw [if_neg z2, if_neg (fun q => z2 q.1)]
      · rw [if_neg z, if_neg (fun q => z (by have := q.2.1; have e : plS 1 = 6 := rfl; omega))]) (fun i => by rw [up2_ne (by omega), if_neg (fun q => absurd q.2 (by decide))]) (fun i => by rw [up2_ne (by omega), if_neg (fun q => absurd q.2 (by decide))]) (fun i => by rw [up2_ne (by omega), if_neg (fun q => absurd q.2 (by decide))])
    refine ⟨up2 I a 3 t, ?_, fun y hy => up2_ne (by omega), RLib.of hcr ((hb.R.s.cg hb.C hW (fun j r hj hr => by rw [ccl (by decide) (by omega), if_neg (fun q => by have := q.2; have e : plS 1 = 6 := rfl; omega)])).fr (up2_ne (by omega)) (up2_ne (by omega))) ((hb.R.m.cg (cmn hc (by decide)) (fun m r _ _ => cmb hc (by decide))).fr (fun y h1 h2 => up2_ne (by omega)))⟩
    rw [if_neg (by decide), if_pos rfl, lib_g3 hL, Option.bind_some, w1, bd_some, lib_s3 hL, Option.bind_some]
  · have hcv' : x = nI 0 ∨ x = nI 1 := by
      unfold cvB at hcv
      rw [if_neg (by decide), if_neg (by decide), if_pos rfl] at hcv
      exact v01_c hcv
    obtain ⟨t, w1, w2⟩ := wb_run hc hcv' (I a 4) (mm g I J Z)
    have hcr := hb.R.c.cell (x := x) (I' := up2 I a 4 t) he (pl := plS 2) (by decide) (by decide) (fun k' i hk' hi => by
      rw [up2_at]
      by_cases z : k' = 4
      · rw [if_pos z, w2 i hi, z]
        by_cases z2 : i = c
        · rw [if_pos z2, if_pos ⟨z2, rfl, by decide⟩]
        · rw [if_neg z2, if_neg (fun q => z2 q.1)]
      · rw [if_neg z, if_neg (fun q => z (by have := q.2.1; have e : plS 2 = 7 := rfl; omega))]) (fun i => by rw [up2_ne (by omega), if_neg (fun q => absurd q.2 (by decide))]) (fun i => by rw [up2_ne (by omega), if_neg (fun q => absurd q.2 (by decide))]) (fun i => by rw [up2_ne (by omega), if_neg (fun q => absurd q.2 (by decide))])
    refine ⟨up2 I a 4 t, ?_, fun y hy => up2_ne (by omega), RLib.of hcr ((hb.R.s.cg hb.C hW (fun j r hj hr => by rw [ccl (by decide) (by omega), if_neg (fun q => by have := q.2; have e : plS 2 = 7 := rfl; omega)])).fr (up2_ne (by omega)) (up2_ne (by omega))) ((hb.R.m.cg (cmn hc (by decide)) (fun m r _ _ => cmb hc (by decide))).fr (fun y h1 h2 => up2_ne (by omega)))⟩
    rw [if_neg (by decide), if_neg (by decide), if_pos rfl, lib_g4 hL, Option.bind_some, w1, bd_some, lib_s4 hL, Option.bind_some]
  · skip
    have hcr := hb.R.c.cell (x := x) (I' := up2 I (a + 1) c x) he (pl := plS 3) (by decide) (by decide) (fun k' i hk' hi => by
      rw [up2_ne (by omega), if_neg (fun q => by have := q.2; have e : plS 3 = 4 := rfl; omega)]) (fun i => by
      rw [up2_at]
      by_cases z : i = c
      · rw [if_pos z, if_pos ⟨z, rfl⟩]
      · rw [if_neg z, if_neg (fun q => z q.1)]) (fun i => by rw [up2_ne (by omega), if_neg (fun q => absurd q.2 (by decide))]) (fun i => by rw [up2_ne (by omega), if_neg (fun q => absurd q.2 (by decide))])
    refine ⟨up2 I (a + 1) c x, ?_, fun y hy => up2_ne (by omega), RLib.of hcr ((hb.R.s.cg hb.C hW (fun j r hj hr => by rw [ccl (by decide) (by omega), if_neg (fun q => by have := q.2; have e : plS 3 = 4 := rfl; omega)])).fr (up2_ne (by omega)) (up2_ne (by omega))) ((hb.R.m.cg (cmn hc (by decide)) (fun m r _ _ => cmb hc (by decide))).fr (fun y h1 h2 => up2_ne (by omega)))⟩
    rw [if_neg (by decide), if_neg (by decide), if_neg (by decide), if_pos rfl, lib_p5 hL, Option.bind_some, lib_t1 hL hc, Option.bind_some]
  · skip
    have hcr := hb.R.c.cell (x := x) (I' := up2 I (a + 2) c x) he (pl := plS 4) (by decide) (by decide) (fun k' i hk' hi => by
      rw [up2_ne (by omega), if_neg (fun q => by have := q.2; have e : plS 4 = 2 := rfl; omega)]) (fun i => by rw [up2_ne (by omega), if_neg (fun q => absurd q.2 (by decide))]) (fun i => by
      rw [up2_at]
      by_cases z : i = c
      · rw [if_pos z, if_pos ⟨z, rfl⟩]
      · rw [if_neg z, if_neg (fun q => z q.1)]) (fun i => by rw [up2_ne (by omega), if_neg (fun q => absurd q.2 (by decide))])
    obtain ⟨I3, t1, t2, t3⟩ := L_derive (I := up2 I (a + 2) c x) (J := J) (Z := Z) hL
    have fr : ∀ y, y ≠ a + 4 → y ≠ a + 5 → I3 y = up2 I (a + 2) c x y := t2
    refine ⟨I3, ?_, fun y hy => by rw [fr y (by omega) (by omega), up2_ne (by omega)], RLib.of (hcr.fr (fr _ (by omega) (by omega)) (fr _ (by omega) (by omega)) (fr _ (by omega) (by omega)) (fr _ (by omega) (by omega))) (t3 _ _ hcr hW) ((hb.R.m.cg (cmn hc (by decide)) (fun m r _ _ => cmb hc (by decide))).fr (fun y h1 h2 => by rw [fr y (by omega) (by omega), up2_ne (by omega)]))⟩
    rw [if_neg (by decide), if_neg (by decide), if_neg (by decide), if_neg (by decide), if_pos rfl, lib_p6 hL, Option.bind_some, lib_t2 hL hc, Option.bind_some, lib_cv hL, t1, bd_some]
  · skip
    have hcr := hb.R.c.cell (x := x) (I' := up2 I (a + 3) c x) he (pl := plS 5) (by decide) (by decide) (fun k' i hk' hi => by
      rw [up2_ne (by omega), if_neg (fun q => by have := q.2; have e : plS 5 = 3 := rfl; omega)]) (fun i => by rw [up2_ne (by omega), if_neg (fun q => absurd q.2 (by decide))]) (fun i => by rw [up2_ne (by omega), if_neg (fun q => absurd q.2 (by decide))]) (fun i => by
      rw [up2_at]
      by_cases z : i = c
      · rw [if_pos z, if_pos ⟨z, rfl⟩]
      · rw [if_neg z, if_neg (fun q => z q.1)])
    obtain ⟨I3, t1, t2, t3⟩ := L_derive (I := up2 I (a + 3) c x) (J := J) (Z := Z) hL
    have fr : ∀ y, y ≠ a + 4 → y ≠ a + 5 → I3 y = up2 I (a + 3) c x y := t2
    refine ⟨I3, ?_, fun y hy => by rw [fr y (by omega) (by omega), up2_ne (by omega)], RLib.of (hcr.fr (fr _ (by omega) (by omega)) (fr _ (by omega) (by omega)) (fr _ (by omega) (by omega)) (fr _ (by omega) (by omega))) (t3 _ _ hcr hW) ((hb.R.m.cg (cmn hc (by decide)) (fun m r _ _ => cmb hc (by decide))).fr (fun y h1 h2 => by rw [fr y (by omega) (by omega), up2_ne (by omega)]))⟩
    rw [if_neg (by decide), if_neg (by decide), if_neg (by decide), if_neg (by decide), if_neg (by decide), lib_p7 hL, Option.bind_some, lib_t3 hL hc, Option.bind_some, lib_cv hL, t1, bd_some]

theorem Q_setClass (h : Rel g A I w n P d) : Agr g A I (fX8_setClass A y z u x) (fX9_setClass (A + 418) y z u x) [1, 2, 3] := by
  have ref : ∀ {i : Nat}, i < 3 → ∀ I1 J Z, MRel g A I1 w n P d → fX9_setClass_152 (A + 418) y z u x (A + 418) (nI (i + 1)) (mm g I1 J Z) = some (nI 0, mm g (up2 I1 (A + 418) 3 (nI (i + 1))) J Z) := by
    intro i hi I1 J Z h1
    unfold fX9_setClass_152
    rw [M_cv h1.G, M_refS h1.G hi, bd_some, bIf, if_tt]
  rcases lib_cases h y z with ⟨v, c, hv, he, rfl, rfl⟩ | ⟨q1, q2⟩
  · have hb := h.cb hv
    have hL := h.jg.lib hv
    have hc := exC_lt he
    cases hcv : cvB w v c u x
    · refine Agr.rfs h (i := 1) (e := 2) ⟨by decide, rfl⟩ (fun J Z => ⟨I, none, by rw [C_scQ h hv he, hcv, if_pos rfl], FvC.refl⟩) (fun I1 J Z h1 => ⟨nI 0, up2 I1 (A + 418) 3 (nI 2), ?_, fvm_3, up3⟩)
      rw [M_scQ h1 hv he, hcv, if_pos rfl]
      exact ref (i := 1) (by decide) I1 J Z h1
    · cases hok : okS w v c u x
      · refine Agr.rfs h (i := 2) (e := 3) ⟨by decide, rfl⟩ (fun J Z => ⟨I, none, by rw [C_scQ h hv he, hcv, if_neg (by decide), hok, if_pos rfl], FvC.refl⟩) (fun I1 J Z h1 => ⟨nI 0, up2 I1 (A + 418) 3 (nI 3), ?_, fvm_3, up3⟩)
        rw [M_scQ h1 hv he, hcv, if_neg (by decide), hok, if_pos rfl]
        exact ref (i := 2) (by decide) I1 J Z h1
      · obtain ⟨k, hk, rfl⟩ := cvB_u hcv
        obtain ⟨p2, p8⟩ := plS_8 hk
        have hW' := scW_WC hb.C he hk hcv hok
        have hM' := scW_WM hb.M he hk hcv hok
        have ev : infS w v c k = cl w v c (plS k) := by
          rcases (by omega : k = 0 ∨ k = 1 ∨ k = 2 ∨ k = 3 ∨ k = 4 ∨ k = 5) with rfl | rfl | rfl | rfl | rfl | rfl <;> rfl
        have epl : ∀ hh, fX9_placeOf (nI k) hh = some (nI (plS k), hh) := fun hh => by
          unfold fX9_placeOf
          rcases (by omega : k = 0 ∨ k = 1 ∨ k = 2 ∨ k = 3 ∨ k = 4 ∨ k = 5) with rfl | rfl | rfl | rfl | rfl | rfl
          · rw [if_pos rfl]; rfl
          · rw [if_neg (by decide), if_pos rfl]; rfl
          · rw [if_neg (by decide), if_neg (by decide), if_pos rfl]; rfl
          · rw [if_neg (by decide), if_neg (by decide), if_neg (by decide), if_pos rfl]; rfl
          · rw [if_neg (by decide), if_neg (by decide), if_neg (by decide), if_neg (by decide), if_pos rfl]; rfl
          · rw [if_neg (by decide), if_neg (by decide), if_neg (by decide), if_neg (by decide), if_neg (by decide)]; rfl
        refine Agr.lib h (v := v) (w' := sW w (481 * v + 8 * c + plS k) x) (b := cl w v c (plS k)) hv (fun i hi => cout hc p8 hi) hW' hM'
          (fun h => cv 2 (A + 1 + 3 + 20 * v) (fX2_valueOf (A + 1 + 3 + 20 * v) (nI c) (nI k)) h fun x_15 h => cv 2 (A + 1 + 3 + 20 * v) (fX2_putValue (A + 1 + 3 + 20 * v) (nI c) (nI k) x) h fun _ h => some (.inr x_15, h))
          (fun h => (gP 9 (A + 418) 0 h).bind fun a_28 => (stI a_28 (nI (481 * v + 8 * c + plS k)) x h).bind fun h => some (cl w v c (plS k), h)) (fun J Z => ?_) (fun I1 J Z hb1 hd => ?_) (fun I1 J Z h1 => ?_) (fun I1 J Z h1 => ?_)
        · rw [C_scQ h hv he, hcv, if_neg (by decide), hok, if_neg (by decide)]
          unfold fX8_setClass_140
          rw [h.jg.cv]
        · obtain ⟨I2, t1, t2, t3⟩ := C_put2 (J := J) (Z := Z) (hb1 v hv) he hk hcv hW'
          refine ⟨I2, ?_, t2, t3⟩
          rw [lib_cv hL, C_val2 (hb1 v hv) he (by omega), bd_some, lib_cv hL, t1, bd_some, ev]
        · rw [M_scQ h1 hv he, hcv, if_neg (by decide), hok, if_neg (by decide)]
          unfold fX9_setClass_152 fX9_at
          rw [M_cv h1.G, M_ref0 h1.G, bd_some, bIf, if_ff, pk_mul, pk_mul, nI_add, bd_some, epl, bd_some, h1.G.p0, Option.bind_some, nI_add, h1.G.ld1 (by omega), Option.bind_some, M_cv h1.G, up2_ne (by omega), h1.row]
          rfl
        · refine ⟨up1 I1 (A + 418 + 1) (sW w (481 * v + 8 * c + plS k) x), ?_, fun y hy => up1_ne hy, up1_at⟩
          rw [h1.G.p0, Option.bind_some, h1.G.st1 (by omega), Option.bind_some, up2_1, h1.row]
  · refine Agr.rfs h (i := 0) (e := 1) ⟨by decide, rfl⟩ (fun J Z => ⟨I, none, ?_, FvC.refl⟩) (fun I1 J Z h1 => ⟨nI 0, up2 I1 (A + 418) 3 (nI 1), ?_, fvm_3, up3⟩)
    · unfold fX8_setClass
      rw [h.jg.cv, q1, bd_some, xp_l]
    · unfold fX9_setClass fX9_setClass_29 fX9_setClass_30 fX9_setClass_69 fX9_setClass_70 fX9_setClass_120 fX9_setClass_121
      rw [M_cv h1.G, q2 I1 J Z h1, bd_some, bIf, if_ff, if_pos (by decide), if_pos (by decide), if_pos (by decide)]
      exact ref (i := 0) (by decide) I1 J Z h1
end Sc

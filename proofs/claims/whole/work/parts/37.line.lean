/-! ===== lines of superclasses; the wanted methods ===== -/
section Ln
variable {w : Nat → Int32} {v : Nat}
theorem WC.i01 (h : WC w v) {c : Nat} (he : exC w v c = true) : itB w v c = true ∨ cl w v c 1 = nI 0 := by
  unfold itB
  by_cases h0 : c = 0
  · subst h0; exact Or.inr h.1.2.1
  · rcases (h.2.2 c (by omega) (exC_lt he) (exC_ex he)).1 with e | e
    · exact Or.inr e
    · exact Or.inl (decide_eq_true e)
theorem itB_0 {c : Nat} (h : cl w v c 1 = nI 0) : itB w v c = false := by
  unfold itB
  rw [h]
  decide
theorem itB_F (h : WC w v) {c : Nat} (he : exC w v c = true) : itB w v c = false → cl w v c 1 = nI 0 := by
  intro q
  rcases h.i01 he with e | e
  · rw [q] at e; cases e
  · exact e
theorem WC.spx (h : WC w v) {c : Nat} (h0 : 0 < c) (he : exC w v c = true) : spn w v c < c ∧ cl w v c 2 = nI (spn w v c) ∧ exC w v (spn w v c) = true ∧ itB w v (spn w v c) = false := by
  obtain ⟨a1, a2, a3, a4, a5⟩ := h.sup h0 (exC_lt he) (exC_ex he)
  have := exC_lt he
  exact ⟨a1, a2, exC_of (by omega) a3, itB_0 a4⟩
theorem WC.ex0 (h : WC w v) : exC w v 0 = true := exC_of (by omega) h.1.1
theorem WC.is0 (h : WC w v) : itB w v 0 = false := itB_0 h.1.2.1
theorem lnF_fuel (h : WC w v) : ∀ (c : Nat), exC w v c = true → ∀ (f1 f2 t : Nat), c < f1 → c < f2 → lnF w v f1 c t = lnF w v f2 c t := by
  intro c
  induction c using Nat.strongRecOn with
  | ind c ih =>
    intro he f1 f2 t h1 h2
    obtain ⟨f1, rfl⟩ : ∃ z, f1 = z + 1 := ⟨f1 - 1, by omega⟩
    obtain ⟨f2, rfl⟩ : ∃ z, f2 = z + 1 := ⟨f2 - 1, by omega⟩
    unfold lnF
    by_cases h0 : 0 < c
    · obtain ⟨a1, a2, a3, a4⟩ := h.spx h0 he
      rw [ih _ a1 a3 f1 f2 t (by omega) (by omega)]
    · simp [h0]
theorem lnB_step (h : WC w v) {c : Nat} (he : exC w v c = true) (t : Nat) : lnB w v c t = true ↔ c = t ∨ (0 < c ∧ itB w v c = false ∧ lnB w v (spn w v c) t = true) := by
  unfold lnB
  show lnF w v (c + 1) c t = true ↔ _
  rw [lnF]
  simp only [Bool.or_eq_true, Bool.and_eq_true, decide_eq_true_eq, Bool.not_eq_true']
  by_cases h0 : 0 < c
  · obtain ⟨a1, a2, a3, a4⟩ := h.spx h0 he
    rw [lnF_fuel h _ a3 c (spn w v c + 1) t a1 (by omega), and_assoc]
  · simp [h0]
theorem lnB_le (h : WC w v) : ∀ (c : Nat), exC w v c = true → ∀ t, lnB w v c t = true → t ≤ c ∧ exC w v t = true ∧ stB w v c t = true ∧ (itB w v c = false → itB w v t = false) := by
  intro c
  induction c using Nat.strongRecOn with
  | ind c ih =>
    intro he t ht
    rcases (lnB_step h he t).mp ht with rfl | ⟨h0, hi, hs⟩
    · exact ⟨Nat.le_refl _, he, stB_self h (exC_lt he) (exC_ex he), id⟩
    · obtain ⟨a1, a2, a3, a4⟩ := h.spx h0 he
      obtain ⟨b1, b2, b3, b4⟩ := ih _ a1 a3 t hs
      exact ⟨by omega, b2, (stB_step h (exC_lt he) (exC_ex he) t).mpr (Or.inr ⟨h0, Or.inl b3⟩), fun _ => b4 a4⟩
variable {n : Nat} {o : Nat → Nat} {D : Nat → Bool}
theorem line_own (h : WC w v) {c : Nat} (he : exC w v c = true) (hU : ∀ k j, k < n → j < n → D k = true → D j = true → o k = o j → k = j) {m : Nat} (hm : onS n o D c = some m) : mx o (fun m => D m && lnB w v c (o m)) n = some m := by
  obtain ⟨m1, m2, m3⟩ := onS_some hm
  apply mx_eq (fun k j hk hj h1 h2 => hU k j hk hj (by simp only [Bool.and_eq_true] at h1; exact h1.1) (by simp only [Bool.and_eq_true] at h2; exact h2.1)) m1
  · rw [m3, m2, (lnB_step h he c).mpr (Or.inl rfl)]
    rfl
  · intro k hk hk2
    simp only [Bool.and_eq_true] at hk2
    have := (lnB_le h c he _ hk2.2).1
    omega
theorem line_none (h : WC w v) {c : Nat} (he : exC w v c = true) (hm : onS n o D c = none) : mx o (fun m => D m && lnB w v c (o m)) n = if 0 < c ∧ itB w v c = false then mx o (fun m => D m && lnB w v (spn w v c) (o m)) n else none := by
  by_cases hc : 0 < c ∧ itB w v c = false
  · rw [if_pos hc]
    refine mx_congr (fun k hk => ⟨?_, rfl⟩)
    cases hd : D k
    · rfl
    · rw [Bool.true_and, Bool.true_and, Bool.eq_iff_iff, lnB_step h he]
      constructor
      · rintro (e | ⟨-, -, e⟩)
        · rw [onS_none hm k hk e.symm] at hd; cases hd
        · exact e
      · exact fun e => Or.inr ⟨hc.1, hc.2, e⟩
  · rw [if_neg hc]
    refine mx_nil (fun k hk => ?_)
    cases hd : D k
    · rfl
    · rw [Bool.true_and]
      cases hl : lnB w v c (o k)
      · rfl
      · rcases (lnB_step h he _).mp hl with e | ⟨e1, e2, -⟩
        · rw [onS_none hm k hk e.symm] at hd; cases hd
        · exact absurd ⟨e1, e2⟩ hc
end Ln
/-- a method with this name, this result and these parameters -/
def isD (w : Nat → Int32) (v : Nat) (nm r y z : Int32) (m : Nat) : Bool := decide (mb w v m 0 = nI 1) && decide (mb w v m 2 = nm) && decide (mb w v m 7 = y) && decide (mb w v m 8 = z) && decide (mb w v m 5 = r)
/-- a method with this name and these parameters -/
def isG (w : Nat → Int32) (v : Nat) (nm y z : Int32) (m : Nat) : Bool := decide (mb w v m 0 = nI 1) && decide (mb w v m 2 = nm) && decide (mb w v m 7 = y) && decide (mb w v m 8 = z)
/-- neither static nor private -/
def cnB (w : Nat → Int32) (v m : Nat) : Bool := !bt (mb w v m 4) 0 && !decide (mb w v m 3 = 0)
def cO (w : Nat → Int32) (v : Nat) : Option Nat → Bool
  | none => false
  | some m => cnB w v m
def abB (w : Nat → Int32) (v m : Nat) : Bool := bt (mb w v m 4) 2
section Dd
variable {w : Nat → Int32} {v m k : Nat} {nm r x y z : Int32}
theorem isD_iff : isD w v nm r y z m = true ↔ mb w v m 0 = nI 1 ∧ mb w v m 2 = nm ∧ mb w v m 7 = y ∧ mb w v m 8 = z ∧ mb w v m 5 = r := by
  unfold isD
  simp only [Bool.and_eq_true, decide_eq_true_eq, and_assoc]
theorem isG_iff : isG w v nm y z m = true ↔ mb w v m 0 = nI 1 ∧ mb w v m 2 = nm ∧ mb w v m 7 = y ∧ mb w v m 8 = z := by
  unfold isG
  simp only [Bool.and_eq_true, decide_eq_true_eq, and_assoc]
theorem WM.uD (hM : WM w v) : ∀ k j, k < nmb w v → j < nmb w v → isD w v nm r y z k = true → isD w v nm r y z j = true → ow w v k = ow w v j → k = j := by
  intro k j hk hj h1 h2 he
  obtain ⟨a1, a2, a3, a4, a5⟩ := isD_iff.mp h1
  obtain ⟨b1, b2, b3, b4, b5⟩ := isD_iff.mp h2
  refine hM.unq k j hk hj (by rw [a1, b1]) (by rw [(hM.own k hk).2.2.1, (hM.own j hj).2.2.1, he]) (by rw [a2, b2]) (Or.inr ⟨?_, by rw [a3, b3], by rw [a4, b4]⟩)
  have p1 := hM.par k hk
  have p2 := hM.par j hj
  rw [a3, a4] at p1
  rw [b3, b4] at p2
  exact p1.many p2
theorem hp_iff (hP : Pt (mb w v m 6) (mb w v m 7) (mb w v m 8)) (hQ : Pt x y z) : hp w v m x y z = true ↔ mb w v m 7 = y ∧ mb w v m 8 = z := by
  unfold hp
  simp only [Bool.and_eq_true, Bool.or_eq_true, decide_eq_true_eq]
  constructor
  · rintro ⟨⟨h6, h7⟩, h8⟩
    rw [h6] at hP
    have e0 : (nI 0 : Int32) ≠ nI 1 := by decide
    have e1 : (nI 0 : Int32) ≠ nI 2 := by decide
    have e2 : (nI 1 : Int32) ≠ nI 2 := by decide
    rcases hP with ⟨a, b, c⟩ | ⟨a, b, c⟩ | ⟨a, b, c⟩ <;> rcases hQ with ⟨a', b', c'⟩ | ⟨a', b', c'⟩ | ⟨a', b', c'⟩
    · exact ⟨by rw [b, b'], by rw [c, c']⟩
    · exact absurd (a.symm.trans a') e0
    · exact absurd (a.symm.trans a') e1
    · exact absurd (a'.symm.trans a) e0
    · refine ⟨?_, by rw [c, c']⟩
      rcases h7 with h7 | h7
      · rw [a] at h7; exact absurd h7 (by decide)
      · exact h7
    · exact absurd (a.symm.trans a') e2
    · exact absurd (a'.symm.trans a) e1
    · exact absurd (a'.symm.trans a) e2
    · refine ⟨?_, ?_⟩
      · rcases h7 with h7 | h7
        · rw [a] at h7; exact absurd h7 (by decide)
        · exact h7
      · rcases h8 with h8 | h8
        · rw [a] at h8; exact absurd h8 (by decide)
        · exact h8
  · rintro ⟨h7, h8⟩
    rw [h7, h8] at hP
    exact ⟨⟨hP.many hQ, Or.inr h7⟩, Or.inr h8⟩
variable {g : Gr} {a R : Nat} {I : Mem} {J : Nat → Nat → Int64} {Z : Option Nat}
theorem C_desc (hR : RLib I a w v) (hM : WM w v) (hm : m < nmb w v) {q : Nat} (hq : q < 8) (hy : Ty y) (hz : Ty z) (hr : Ty r) : I (a + 6 + 12) m = dsI (sgI (nI q) y z) r ↔ isD w v (nI q) r y z m = true := by
  rw [hR.dsc m hm, isD_iff]
  by_cases h : mb w v m 0 = nI 1
  · rw [if_pos h]
    obtain ⟨k, hk, ek⟩ := hM.nam m hm
    rw [ek, ds_eq hk hq (hM.par m hm).t1 (hM.par m hm).t2 hy hz (hM.typ m hm).ty hr]
    constructor
    · rintro ⟨rfl, e1, e2, e3⟩; exact ⟨h, rfl, e1, e2, e3⟩
    · rintro ⟨-, e0, e1, e2, e3⟩; exact ⟨(nI_eq (by omega) (by omega)).mp e0, e1, e2, e3⟩
  · rw [if_neg h]
    exact ⟨fun e => absurd e.symm (ds_ne hq hy hz hr), fun e => absurd e.1 h⟩
theorem C_sign (hR : RLib I a w v) (hM : WM w v) (hm : m < nmb w v) {q : Nat} (hq : q < 8) (hy : Ty y) (hz : Ty z) : I (a + 6 + 11) m = sgI (nI q) y z ↔ isG w v (nI q) y z m = true := by
  rw [hR.sig m hm, isG_iff]
  by_cases h : mb w v m 0 = nI 1
  · rw [if_pos h]
    obtain ⟨k, hk, ek⟩ := hM.nam m hm
    rw [ek, sg_eq hk hq (hM.par m hm).t1 (hM.par m hm).t2 hy hz]
    constructor
    · rintro ⟨rfl, e1, e2⟩; exact ⟨h, rfl, e1, e2⟩
    · rintro ⟨-, e0, e1, e2⟩; exact ⟨(nI_eq (by omega) (by omega)).mp e0, e1, e2⟩
  · rw [if_neg h]
    exact ⟨fun e => absurd e.symm (sg_ne hq hy hz), fun e => absurd e.1 h⟩
theorem hp_zero {y z y' z' : Int32} : hp w v m (nI 0) y z = hp w v m (nI 0) y' z' := by
  unfold hp
  rw [show decide (nI 0 < nI 1) = true from by decide, show decide (nI 0 < nI 2) = true from by decide]
  rfl
/-- the wanted method of a class itself, as the reference finds it -/
theorem M_own (hG : ModG g R) (hv : v < 2) (hM : WM (I (R + 1)) v) (hP : Pt (I R 8) y z) (h9 : I R 9 = y ∨ I R 8 = nI 0) (h10 : I R 10 = z ∨ I R 8 = nI 0) {c : Nat} (hc : c < 10) :
    fX9_own R (nI v) (nI c) (mm g I J Z) = some (oI (onS (nmb (I (R + 1)) v) (ow (I (R + 1)) v) (isD (I (R + 1)) v (I R 6) (I R 7) y z) c), mm g I J Z) := by
  have hn := hM.n40
  unfold fX9_own
  rw [gI_m hG.1, Option.bind_some, gI_m hG.1, Option.bind_some, gI_m hG.1, Option.bind_some, gI_m hG.1, Option.bind_some, M_cv hG, M_found hG hv hn hM.n, bd_some]
  have h0 : isF (I (R + 1)) v (nI c) (nI 1) (I R 6) (I R 8) (I R 9) (I R 10) = isF (I (R + 1)) v (nI c) (nI 1) (I R 6) (I R 8) y z := by
    rcases h9 with e9 | e9
    · rcases h10 with e10 | e10
      · rw [e9, e10]
      · funext m; unfold isF; rw [e10, hp_zero (y' := y) (z' := z)]
    · funext m; unfold isF; rw [e9, hp_zero (y' := y) (z' := z)]
  rw [h0]
  have hF : ∀ m, m < nmb (I (R + 1)) v → (isF (I (R + 1)) v (nI c) (nI 1) (I R 6) (I R 8) y z m = true ↔ ow (I (R + 1)) v m = c ∧ mb (I (R + 1)) v m 0 = nI 1 ∧ mb (I (R + 1)) v m 2 = I R 6 ∧ mb (I (R + 1)) v m 7 = y ∧ mb (I (R + 1)) v m 8 = z) := by
    intro m hm
    unfold isF
    simp only [Bool.and_eq_true, Bool.or_eq_true, decide_eq_true_eq, and_assoc]
    rw [hp_iff (hM.par m hm) hP, (hM.own m hm).2.2.1, nI_eq (by have := (hM.own m hm).2.1; omega) (by omega), show ((nI 1 = 0) = False) from by decide, false_or]
  cases hf : fst (isF (I (R + 1)) v (nI c) (nI 1) (I R 6) (I R 8) y z) 0 (nmb (I (R + 1)) v) with
  | none =>
    show (if (-2 : Int32) = -2 then _ else _) = _
    rw [if_pos rfl]
    have : onS (nmb (I (R + 1)) v) (ow (I (R + 1)) v) (isD (I (R + 1)) v (I R 6) (I R 7) y z) c = none := by
      refine fst_none_of (fun j _ hj => ?_)
      cases hd : decide (ow (I (R + 1)) v j = c) && isD (I (R + 1)) v (I R 6) (I R 7) y z j
      · rfl
      · simp only [Bool.and_eq_true, decide_eq_true_eq] at hd
        obtain ⟨d1, d2, d3, d4, d5⟩ := isD_iff.mp hd.2
        have := fst_none hf j (by omega) hj
        rw [(hF j (by omega)).mpr ⟨hd.1, d1, d2, d3, d4⟩] at this
        cases this
    rw [this]
    rfl
  | some m =>
    obtain ⟨-, m1, m2, -⟩ := fst_some hf
    have m1 : m < nmb (I (R + 1)) v := by omega
    obtain ⟨f1, f2, f3, f4, f5⟩ := (hF m m1).mp m2
    show (if nI m = (-2 : Int32) then _ else _) = _
    rw [if_neg (nI_nem (by omega) (by decide))]
    show cv 9 R (fX9_its R (nI v) (nI m) (nI 5)) (mm g I J Z) _ = _
    rw [M_cv hG, M_its' hG hv hM m1 (by decide), bd_some, gI_m hG.1, Option.bind_some]
    by_cases ht : mb (I (R + 1)) v m 5 = I R 7
    · rw [if_pos ht, onS_of hM.uD m1 f1 (isD_iff.mpr ⟨f2, f3, f4, f5, ht⟩)]
    · rw [if_neg ht]
      have : onS (nmb (I (R + 1)) v) (ow (I (R + 1)) v) (isD (I (R + 1)) v (I R 6) (I R 7) y z) c = none := by
        refine fst_none_of (fun j _ hj => ?_)
        cases hd : decide (ow (I (R + 1)) v j = c) && isD (I (R + 1)) v (I R 6) (I R 7) y z j
        · rfl
        · simp only [Bool.and_eq_true, decide_eq_true_eq] at hd
          obtain ⟨d1, d2, d3, d4, d5⟩ := isD_iff.mp hd.2
          have e := hM.uD (nm := I R 6) (r := mb (I (R + 1)) v m 5) (y := y) (z := z) m j m1 (by omega) (isD_iff.mpr ⟨f2, f3, f4, f5, rfl⟩)
          have p1 := hM.par m m1
          have p2 := hM.par j (by omega)
          rw [f4, f5] at p1
          rw [d3, d4] at p2
          have e : m = j := hM.unq m j m1 (by omega) (by rw [f2, d1]) (by rw [(hM.own m m1).2.2.1, (hM.own j (by omega)).2.2.1, f1, hd.1]) (by rw [f3, d2]) (Or.inr ⟨p1.many p2, by rw [f4, d3], by rw [f5, d4]⟩)
          rw [e] at ht
          exact absurd d5 ht
      rw [this]
      rfl
theorem M_isCand (hG : ModG g R) (hv : v < 2) (hM : WM (I (R + 1)) v) {o : Option Nat} (ho : ∀ m, o = some m → m < nmb (I (R + 1)) v) : fX9_isCandidate R (nI v) (oI o) (mm g I J Z) = some (bI (cO (I (R + 1)) v o), mm g I J Z) := by
  have hn := hM.n40
  unfold fX9_isCandidate
  cases o with
  | none =>
    show (if (-2 : Int32) = -2 then _ else _) = _
    rw [if_pos rfl, rz_n0]
    rfl
  | some m =>
    have hm := ho m rfl
    show (if nI m = (-2 : Int32) then _ else cv 9 R (fX9_isStatic R (nI v) (nI m)) (mm g I J Z) _) = _
    rw [if_neg (nI_nem (by omega) (by decide)), M_cv hG, M_isStatic hG hv (by omega), bd_some, bIf]
    show _ = some (bI (cnB (I (R + 1)) v m), mm g I J Z)
    unfold cnB
    cases bt (mb (I (R + 1)) v m 4) 0
    · rw [if_neg (by decide)]
      show cv 9 R (fX9_its R (nI v) (nI m) (nI 3)) (mm g I J Z) _ = _
      rw [M_cv hG, M_its' hG hv hM hm (by decide), bd_some]
      obtain ⟨ac, ac1, ac2⟩ := hM.acc m hm
      rw [ac2]
      by_cases h : nI ac = 0
      · rw [if_pos ((by decide +kernel : ∀ k, k < 4 → nI k = 0 → nI k ≤ 0) ac ac1 h), rz_n0, decide_eq_true h]
        rfl
      · rw [if_neg (fun q => h ((by decide +kernel : ∀ k, k < 4 → nI k ≤ 0 → nI k = 0) ac ac1 q)), rz_n1, decide_eq_false h]
        rfl
    · rw [if_pos rfl, rz_n0]
      rfl
end Dd

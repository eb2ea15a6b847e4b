/-! ===== addField, addMethod ===== -/
def adR (x0 x1 x2 x3 x4 x5 x6 x7 : Int32) : Nat → Int32
  | 0 => x0
  | 1 => x1
  | 2 => x2
  | 3 => x3
  | 4 => x4
  | 5 => x5
  | 6 => x6
  | _ => x7
section Ad
variable {g : Gr} {A R a b : Nat} {I I' : Mem} {J : Nat → Nat → Int64} {Z : Option Nat} {w w' : Nat → Int32} {n k v c m q K : Nat} {P : Nat → Nat → Int32} {d : Nat → Int32} {x y z : Int32} {x0 x1 x2 x3 x4 x5 x6 x7 : Int32}
theorem M_adds (hG : ModG g R) (hv : v < 2) (hn : n < 40) (hr : I (R + 1) = w) (hmn : mn w v = nI n) : fX9_adds R (nI v) x0 x1 x2 x3 x4 x5 x6 x7 (mm g I J Z) = some (nI n, mm g (up1 I (R + 1) (addW w v n (adR x0 x1 x2 x3 x4 x5 x6 (if x6 ≤ 0 then -2 else x7)) (-2))) J Z) := by
  have ix : nI 481 * nI v + nI 81 + nI 10 * nI n = nI (481 * v + 81 + 10 * n) := by rw [pk_mul, pk_mul, nI_add, nI_add]
  have e80 : w (481 * v + 80) = nI n := hmn
  have fold : ∀ y7, addW w v n (adR x0 x1 x2 x3 x4 x5 x6 y7) (-2) = sW (sW (sW (sW (sW (sW (sW (sW (sW (sW (sW w (481 * v + 81 + 10 * n + 0) x0) (481 * v + 81 + 10 * n + 1) x1) (481 * v + 81 + 10 * n + 2) x2) (481 * v + 81 + 10 * n + 3) x3) (481 * v + 81 + 10 * n + 4) x4) (481 * v + 81 + 10 * n + 5) x5) (481 * v + 81 + 10 * n + 6) x6) (481 * v + 81 + 10 * n + 7) y7) (481 * v + 81 + 10 * n + 8) (-2)) (481 * v + 81 + 10 * n + 9) (-2)) (481 * v + 80) (nI (n + 1)) := fun y7 => by
    show sW (sW (sW (sW (sW (sW (sW (sW (sW (sW (sW (sW w (481 * v + 81 + 10 * n + 0) x0) (481 * v + 81 + 10 * n + 1) x1) (481 * v + 81 + 10 * n + 2) x2) (481 * v + 81 + 10 * n + 3) x3) (481 * v + 81 + 10 * n + 4) x4) (481 * v + 81 + 10 * n + 5) x5) (481 * v + 81 + 10 * n + 6) x6) (481 * v + 81 + 10 * n + 7) y7) (481 * v + 81 + 10 * n + 8) (-2)) (481 * v + 81 + 10 * n + 9) (-2)) (481 * v + 80) (nI (n + 1))) (481 * v + 81 + 10 * n + 8) (-2) = _
    refine sW_id ?_
    rw [sW_ne (by omega), sW_ne (by omega), sW_at]
  unfold fX9_adds fX9_adds_112 fX9_member
  rw [M_cv hG, M_many hG hv, bd_some, hr, hmn, ix, bd_some, hG.p0, Option.bind_some, nI_add (481 * v + 81 + 10 * n) 0, hG.st1 (by omega), Option.bind_some, up2_1, hr, hG.p0, Option.bind_some, nI_add (481 * v + 81 + 10 * n) 1, hG.st1 (by omega), Option.bind_some, up2_11, hG.p0, Option.bind_some, nI_add (481 * v + 81 + 10 * n) 2, hG.st1 (by omega), Option.bind_some, up2_11, hG.p0, Option.bind_some, nI_add (481 * v + 81 + 10 * n) 3, hG.st1 (by omega), Option.bind_some, up2_11, hG.p0, Option.bind_some, nI_add (481 * v + 81 + 10 * n) 4, hG.st1 (by omega), Option.bind_some, up2_11, hG.p0, Option.bind_some, nI_add (481 * v + 81 + 10 * n) 5, hG.st1 (by omega), Option.bind_some, up2_11, hG.p0, Option.bind_some, nI_add (481 * v + 81 + 10 * n) 6, hG.st1 (by omega), Option.bind_some, up2_11, hG.p0, Option.bind_some, nI_add (481 * v + 81 + 10 * n) 7]
  by_cases q : x6 ≤ 0
  · rw [if_pos q, if_pos q, fold, hG.st1 (by omega), Option.bind_some, up2_11, hG.p0, Option.bind_some, nI_add (481 * v + 81 + 10 * n + 7) 1, show 481 * v + 81 + 10 * n + 7 + 1 = 481 * v + 81 + 10 * n + 8 from rfl, hG.st1 (by omega), Option.bind_some, up2_11, hG.p0, Option.bind_some, nI_add (481 * v + 81 + 10 * n) 9, hG.st1 (by omega), Option.bind_some, up2_11, hG.p0, Option.bind_some, pk_mul, nI_add, hG.ld1 (by omega), Option.bind_some, up1_at, sW_ne (by omega), sW_ne (by omega), sW_ne (by omega), sW_ne (by omega), sW_ne (by omega), sW_ne (by omega), sW_ne (by omega), sW_ne (by omega), sW_ne (by omega), sW_ne (by omega), e80, nI_add n 1, hG.st1 (by omega), Option.bind_some, up2_11]
  · rw [if_neg q, if_neg q, fold, hG.st1 (by omega), Option.bind_some, up2_11, hG.p0, Option.bind_some, nI_add (481 * v + 81 + 10 * n + 7) 1, show 481 * v + 81 + 10 * n + 7 + 1 = 481 * v + 81 + 10 * n + 8 from rfl, hG.st1 (by omega), Option.bind_some, up2_11, hG.p0, Option.bind_some, nI_add (481 * v + 81 + 10 * n) 9, hG.st1 (by omega), Option.bind_some, up2_11, hG.p0, Option.bind_some, pk_mul, nI_add, hG.ld1 (by omega), Option.bind_some, up1_at, sW_ne (by omega), sW_ne (by omega), sW_ne (by omega), sW_ne (by omega), sW_ne (by omega), sW_ne (by omega), sW_ne (by omega), sW_ne (by omega), sW_ne (by omega), sW_ne (by omega), e80, nI_add n 1, hG.st1 (by omega), Option.bind_some, up2_11]

def mayK (w : Nat → Int32) (v K c : Nat) (ac fl : Int32) : Bool := accB ac && (if K = 1 then alM w v c ac fl else alF w v c ac fl)
def hasK (w : Nat → Int32) (v K c : Nat) (nm y z : Int32) : Bool := if K = 1 then exM w v c nm y z else exF w v c nm
/-- what the reference answers: refused with a code, or on -/
def adC (w : Nat → Int32) (v K c : Nat) (nm ac fl y z : Int32) : Nat := if mayK w v K c ac fl = false then 2 else if c = 0 ∨ 40 ≤ nmb w v ∨ hasK w v K c nm y z = true then 3 else 0
theorem oI_m2 {o : Option Nat} {n : Nat} (hn : n ≤ 40) (ho : ∀ m, o = some m → m < n) {α : Type} {X Y : α} : (if oI o = -2 then X else Y) = if o.isSome = true then Y else X := by
  cases o with
  | none => exact if_pos rfl
  | some m =>
    have := ho m rfl
    exact if_neg (nI_nem (by omega) (by decide))
theorem fst_isSome {p : Nat → Bool} {n : Nat} : (fst p 0 n).isSome = anyF p 0 n := by
  cases e : fst p 0 n with
  | none => rw [fst_any.mp e]; rfl
  | some m =>
    obtain ⟨a1, a2, a3, a4⟩ := fst_some e
    rw [anyF_iff.mpr ⟨m, a1, a2, a3⟩]; rfl
theorem M_addedC (h : MRel g A I w n P d) (hv : v < 2) (he : exC w v c = true) (hq : q < 8) (hK : K < 2) {ac fl : Int32} : fX9_added (A + 418) (nI v) (nI K) (nI c) (nI q) ac fl (mm g I J Z) = fX9_added_152 (A + 418) (nI v) (nI K) (nI c) (nI q) ac fl (A + 418) (nI (adC w v K c (nI q) ac fl (d 2) (d 3))) (mm g I J Z) := by
  have hb := h.mb hv
  have hc := exC_lt he
  have hn := hb.M.n40
  obtain ⟨r1, r2, r3, r4, r5, r6, r7, r8, r9⟩ := h.2.1
  have hPt := h.2.2.2.2.2
  -- the last question
  have last : fX9_added_63 (A + 418) (nI v) (nI K) (nI c) (nI q) ac fl (bI true) (nI 1) (mm g I J Z) = fX9_added_152 (A + 418) (nI v) (nI K) (nI c) (nI q) ac fl (A + 418) (nI (if c = 0 ∨ 40 ≤ nmb w v ∨ hasK w v K c (nI q) (d 2) (d 3) = true then 3 else 0)) (mm g I J Z) := by
    unfold fX9_added_63 fX9_added_120 fX9_added_121
    rw [if_neg (by decide)]
    by_cases c0 : c = 0
    · rw [if_pos (show nI c = 0 by rw [c0]; rfl), if_neg (by decide), if_neg (by decide), if_pos (by decide), if_pos (Or.inl c0)]
    · rw [if_neg (nI_ne0 (by omega) (by omega)), M_cv h.G, hb.many, bd_some]
      by_cases n40 : 40 ≤ nmb w v
      · rw [if_pos (nI_le n40 (by omega)), if_neg (by decide), if_neg (by decide), if_pos (by decide), if_pos (Or.inr (Or.inl n40))]
      · have fd : fX9_found (A + 418) (nI v) (nI c) (nI K) (nI q) (I (A + 418 + 3) 1) (I (A + 418 + 3) 2) (I (A + 418 + 3) 3) (mm g I J Z) = some (oI (fst (isF w v (nI c) (nI K) (nI q) (I (A + 418 + 3) 1) (I (A + 418 + 3) 2) (I (A + 418 + 3) 3)) 0 (nmb w v)), mm g I J Z) := by
          have := M_found (J := J) (Z := Z) (I := I) h.G hv (n := nmb w v) hn (by rw [h.row]; exact hb.M.n) (x := nI c) (y := nI K) (nm := nI q) (a := I (A + 418 + 3) 1) (b := I (A + 418 + 3) 2) (c := I (A + 418 + 3) 3)
          rw [h.row] at this
          exact this
        have hk : anyF (isF w v (nI c) (nI K) (nI q) (I (A + 418 + 3) 1) (I (A + 418 + 3) 2) (I (A + 418 + 3) 3)) 0 (nmb w v) = hasK w v K c (nI q) (d 2) (d 3) := by
          unfold hasK
          rcases (by omega : K = 0 ∨ K = 1) with rfl | rfl
          · rw [if_neg (by decide)]; exact fnF hb.M hc
          · rw [if_pos rfl, r7]; exact fnM hb.M hc hPt r8 r9
        rw [if_neg (nI_ge (by omega) (by omega)), h.G.p4, Option.bind_some, h.G.ld3 (by decide), Option.bind_some, Option.bind_some, h.G.ld3 (by decide), Option.bind_some, Option.bind_some, h.G.ld3 (by decide), Option.bind_some, M_cv h.G, fd, bd_some, oI_m2 hn (fun m e => fst_lt e), fst_isSome, hk]
        cases hh : hasK w v K c (nI q) (d 2) (d 3)
        · rw [if_ff, if_neg (by decide), if_neg (by decide), if_neg (by decide), if_neg (by
            rintro (e | e | e)
            · exact c0 e
            · exact n40 e
            · cases e)]
        · rw [if_tt, if_neg (by decide), if_neg (by decide), if_pos (by decide), if_pos (Or.inr (Or.inr rfl))]
  have no : fX9_added_62 (A + 418) (nI v) (nI K) (nI c) (nI q) ac fl (bI true) (mm g I J Z) = fX9_added_152 (A + 418) (nI v) (nI K) (nI c) (nI q) ac fl (A + 418) (nI 2) (mm g I J Z) := by
    unfold fX9_added_62 fX9_added_63 fX9_added_120 fX9_added_121
    rw [if_pos (by decide), if_neg (by decide), if_pos (by decide)]
  unfold fX9_added adC
  rw [M_cv h.G, hb.isC hc, bd_some, he, bIf, if_tt, wi_yes (by omega) (by omega), bd_some, bIf, if_tt]
  rcases (by omega : K = 0 ∨ K = 1) with rfl | rfl
  · have e : mayK w v 0 c ac fl = (accB ac && alF w v c ac fl) := by unfold mayK; rw [if_neg (by decide)]
    rw [if_neg (by decide), M_cv h.G, M_mayF hb hc, bd_some, bIf, e]
    cases (accB ac && alF w v c ac fl)
    · rw [if_ff, if_pos rfl]; exact no
    · rw [if_tt, if_neg (by decide)]; exact last
  · have e : mayK w v 1 c ac fl = (accB ac && alM w v c ac fl) := by unfold mayK; rw [if_pos rfl]
    rw [if_pos rfl, M_cv h.G, M_mayM hb hc, bd_some, bIf, e]
    cases (accB ac && alM w v c ac fl)
    · rw [if_ff, if_pos rfl]; exact no
    · rw [if_tt, if_neg (by decide)]; exact last
/-- the row of a new member -/
def neW (w : Nat → Int32) (v K c q : Nat) (ac fl : Int32) (d : Nat → Int32) : Nat → Int32 := addW w v (nmb w v) (adR (nI K) (nI c) (nI q) ac fl (d 0) (if K = 1 then d 1 else nI 0) (if K = 1 then d 2 else -2)) (if K = 1 then d 3 else -2)
theorem Pt.d0 (h : Pt x y z) : (if x ≤ 0 then -2 else y) = y ∧ (x ≤ 0 → x = nI 0) := by
  rcases h with ⟨rfl, rfl, rfl⟩ | ⟨rfl, h1, rfl⟩ | ⟨rfl, h1, h2⟩
  · exact ⟨rfl, fun _ => rfl⟩
  · exact ⟨if_neg (by decide), fun q => absurd q (by decide)⟩
  · exact ⟨if_neg (by decide), fun q => absurd q (by decide)⟩
theorem M_opAdd (h : MRel g A I w n P d) (hv : v < 2) (hK : K < 2) (hn : nmb w v < 40) {ac fl : Int32} : ∃ I2, ((gP 9 (A + 418) 4 (mm g I J Z)).bind fun a_63 => (ldI a_63 (nI 0) (mm g I J Z)).bind fun x_64 => if nI K = nI 1 then ((gP 9 (A + 418) 4 (mm g I J Z)).bind fun a_65 => (ldI a_65 (nI 1) (mm g I J Z)).bind fun x_66 => fX9_added_195 (A + 418) (nI v) (nI K) (A + 418) (nI v) (nI K) (nI c) (nI q) ac fl x_64 x_66 (mm g I J Z)) else fX9_added_195 (A + 418) (nI v) (nI K) (A + 418) (nI v) (nI K) (nI c) (nI q) ac fl x_64 (nI 0) (mm g I J Z)) = some (nI (nmb w v), mm g I2 J Z) ∧ (∀ x, x ≠ A + 418 + 1 → I2 x = I x) ∧ I2 (A + 418 + 1) = neW w v K c q ac fl d := by
  have hb := h.mb hv
  obtain ⟨r1, r2, r3, r4, r5, r6, r7, r8, r9⟩ := h.2.1
  have hPt := h.2.2.2.2.2
  have fr : ∀ f, ∀ x, x ≠ A + 418 + 1 → up1 I (A + 418 + 1) f x = I x := fun f x hx => up1_ne hx
  have dr : ∀ f, up1 I (A + 418 + 1) f (A + 418 + 3) = I (A + 418 + 3) := fun f => fr f _ (by omega)
  rcases (by omega : K = 0 ∨ K = 1) with rfl | rfl
  · refine ⟨up1 I (A + 418 + 1) (neW w v 0 c q ac fl d), ?_, fr _, up1_at⟩
    unfold fX9_added_195
    rw [h.G.p4, Option.bind_some, h.G.ld3 (by decide), Option.bind_some, r6, if_neg (by decide), Option.bind_some, h.G.ld3 (by decide), Option.bind_some, M_cv h.G, M_adds h.G hv hn h.row hb.M.n, bd_some, if_neg (by decide), if_pos (show nI 0 ≤ 0 by decide)]
    rfl
  · unfold fX9_added_195
    rw [h.G.p4, Option.bind_some, h.G.ld3 (by decide), Option.bind_some, r6, if_pos rfl, Option.bind_some, h.G.ld3 (by decide), Option.bind_some, r7, Option.bind_some, h.G.ld3 (by decide), Option.bind_some, M_cv h.G, M_adds h.G hv hn h.row hb.M.n, bd_some, if_pos rfl, h.G.p4, Option.bind_some, h.G.ld3 (by decide), Option.bind_some, dr, r7]
    have e7 : (if d 1 ≤ 0 then -2 else I (A + 418 + 3) 2) = d 2 := by
      rcases r8 with e | e
      · rw [e]; exact hPt.d0.1
      · have := hPt.d0.1
        rw [e, if_pos (by decide)] at this ⊢
        exact this
    rw [e7]
    by_cases q2 : d 1 = nI 2
    · have e3 : I (A + 418 + 3) 3 = d 3 := r9.resolve_right (fun e => by rw [e] at q2; exact absurd q2 (by decide))
      refine ⟨up1 I (A + 418 + 1) (neW w v 1 c q ac fl d), ?_, fr _, up1_at⟩
      unfold fX9_member
      rw [if_pos q2, h.G.p0, Option.bind_some, pk_mul, pk_mul, nI_add, nI_add, bd_some, h.G.p4, Option.bind_some, h.G.ld3 (by decide), Option.bind_some, dr, e3, nI_add (481 * v + 81 + 10 * nmb w v) 7, nI_add (481 * v + 81 + 10 * nmb w v + 7) 1, h.G.st1 (by omega), Option.bind_some, up2_11]
      congr 4
      show sW (sW _ (481 * v + 81 + 10 * nmb w v + 8) (-2)) (481 * v + 81 + 10 * nmb w v + 8) (d 3) = sW _ (481 * v + 81 + 10 * nmb w v + 8) (d 3)
      funext j
      by_cases e : j = 481 * v + 81 + 10 * nmb w v + 8
      · rw [e, sW_at, sW_at]
      · rw [sW_ne e, sW_ne e, sW_ne e]
        rfl
    · have e3 : d 3 = -2 := by
        rcases hPt with ⟨-, -, e⟩ | ⟨-, -, e⟩ | ⟨e, -, -⟩
        · exact e
        · exact e
        · exact absurd e q2
      refine ⟨up1 I (A + 418 + 1) (neW w v 1 c q ac fl d), ?_, fr _, up1_at⟩
      rw [if_neg q2]
      unfold neW
      rw [if_pos rfl, if_pos rfl, if_pos rfl, e3]

theorem if01 {α : Type} {X Y : α} : (if (0 : Nat) = 1 then X else Y) = Y := if_neg (by decide)
theorem if11 {α : Type} {X Y : α} : (if (1 : Nat) = 1 then X else Y) = X := if_pos rfl
theorem accB_4 (h : accB x = true) : ∃ k, k < 4 ∧ x = nI k := by
  unfold accB at h
  have h := of_decide_eq_true h
  obtain ⟨k, hk, rfl⟩ := nI_of (x := x) (Int32.not_lt.mpr h.1)
  exact ⟨k, by have := (nI_leI hk (by omega)).mp h.2; omega, rfl⟩
theorem alF_p {ac fl : Int32} (h : alF w v c ac fl = true) : (∃ k, k < 4 ∧ fl = nI k) ∧ (itB w v c = true → ac = nI 3 ∧ fl = nI 3) := by
  unfold alF at h
  simp only [Bool.and_eq_true, Bool.or_eq_true, Bool.not_eq_true', decide_eq_true_eq, decide_eq_false_iff_not] at h
  obtain ⟨⟨h1, h2⟩, h3⟩ := h
  obtain ⟨k, hk, rfl⟩ := nI_of h1
  refine ⟨⟨k, by have := (nI_leI hk (by omega)).mp h2; omega, rfl⟩, fun e => h3.resolve_left (fun q => by rw [e] at q; cases q)⟩
theorem alM_p {ac fl : Int32} (h : alM w v c ac fl = true) : (∃ k, k < 8 ∧ fl = nI k) ∧ (bt fl 2 = true → fl = nI 4 ∧ ac ≠ 0 ∧ cl w v c 7 = nI 1) ∧ (itB w v c = true → ac = nI 3 ∧ bt fl 1 = false) := by
  unfold alM at h
  simp only [Bool.and_eq_true, Bool.or_eq_true, Bool.not_eq_true', decide_eq_true_eq, decide_eq_false_iff_not] at h
  obtain ⟨⟨⟨h1, h2⟩, h4⟩, h3⟩ := h
  obtain ⟨k, hk, rfl⟩ := nI_of h1
  exact ⟨⟨k, by have := (nI_leI hk (by omega)).mp h2; omega, rfl⟩, fun e => by
    rcases h4 with q | q
    · rw [e] at q; cases q
    · exact ⟨q.1.1, q.1.2, q.2⟩, fun e => h3.resolve_left (fun q => by rw [e] at q; cases q)⟩
theorem bit2_4 : ∀ k, k < 4 → bt (nI k) 2 = false := by decide +kernel
theorem bit1_3 : bt (nI 3) 1 = true := by decide +kernel
theorem neW_WM (hM : WM w v) (he : exC w v c = true) (hc0 : c ≠ 0) (hq : q < 8) (hK : K < 2) (hn : nmb w v < 40) {ac fl : Int32} (hm : mayK w v K c ac fl = true) (hx : hasK w v K c (nI q) (d 2) (d 3) = false) (hT : Ty1 (d 0)) (hP : Pt (d 1) (d 2) (d 3)) : WM (neW w v K c q ac fl d) v := by
  have hc := exC_lt he
  obtain ⟨e1, e2, e3⟩ := addW_new (w := w) (v := v) (n := nmb w v) (r := adR (nI K) (nI c) (nI q) ac fl (d 0) (if K = 1 then d 1 else nI 0) (if K = 1 then d 2 else -2)) (s := if K = 1 then d 3 else -2)
  have f0 : mb (neW w v K c q ac fl d) v (nmb w v) 0 = nI K := e1 0 (by decide)
  have f1 : mb (neW w v K c q ac fl d) v (nmb w v) 1 = nI c := e1 1 (by decide)
  have f2 : mb (neW w v K c q ac fl d) v (nmb w v) 2 = nI q := e1 2 (by decide)
  have f3 : mb (neW w v K c q ac fl d) v (nmb w v) 3 = ac := e1 3 (by decide)
  have f4 : mb (neW w v K c q ac fl d) v (nmb w v) 4 = fl := e1 4 (by decide)
  have f5 : mb (neW w v K c q ac fl d) v (nmb w v) 5 = d 0 := e1 5 (by decide)
  have f6 : mb (neW w v K c q ac fl d) v (nmb w v) 6 = if K = 1 then d 1 else nI 0 := e1 6 (by decide)
  have f7 : mb (neW w v K c q ac fl d) v (nmb w v) 7 = if K = 1 then d 2 else -2 := e1 7 (by decide)
  have f8 : mb (neW w v K c q ac fl d) v (nmb w v) 8 = if K = 1 then d 3 else -2 := e2
  have f9 : mb (neW w v K c q ac fl d) v (nmb w v) 9 = -2 := e3
  have hcl : ∀ c' p, c' < 10 → p < 8 → cl (neW w v K c q ac fl d) v c' p = cl w v c' p := fun c p hc hp => addW_cl hc hp
  have fo : ow (neW w v K c q ac fl d) v (nmb w v) = c := by unfold ow; rw [f1, nI_clamp (by omega)]
  have hmk : accB ac = true ∧ (if K = 1 then alM w v c ac fl else alF w v c ac fl) = true := by unfold mayK at hm; exact Bool.and_eq_true_iff.mp hm
  refine hM.put (n := nmb w v + 1) (m := nmb w v) (by omega) addW_mn (fun k hk hne => by omega) (fun k p hk hne hp => addW_old (by omega) hp) hcl ?_ (fun k hk hne e => ?_)
  · unfold W1
    rw [fo, f0, f1, f2, f3, f4, f5, f6, f7, f8, f9, exC_cg (fun c hc => hcl c 0 hc (by decide)), hcl c 7 hc (by decide), show itB (neW w v K c q ac fl d) v c = itB w v c from by unfold itB; rw [hcl c 1 hc (by decide)]]
    rcases (by omega : K = 0 ∨ K = 1) with rfl | rfl
    · rw [if_neg (by decide)] at hmk
      obtain ⟨⟨kf, hkf, rfl⟩, af⟩ := alF_p hmk.2
      rw [if_neg (by decide), if_neg (by decide), if_neg (by decide)]
      exact ⟨Or.inl rfl, ⟨by omega, hc, rfl, he⟩, ⟨q, hq, rfl⟩, accB_4 hmk.1, ⟨kf, by omega, rfl⟩, hT, Or.inl ⟨rfl, rfl, rfl⟩, fun _ => ⟨bit2_4 kf hkf, rfl⟩, fun e => (by rw [bit2_4 kf hkf] at e; cases e), fun e => ⟨(af e).1, fun q => absurd q (by decide), fun _ => (af e).2⟩, fun e => absurd rfl e⟩
    · rw [if_pos rfl] at hmk
      obtain ⟨⟨kf, hkf, rfl⟩, a2, a3⟩ := alM_p hmk.2
      rw [if_pos rfl, if_pos rfl, if_pos rfl]
      exact ⟨Or.inr rfl, ⟨by omega, hc, rfl, he⟩, ⟨q, hq, rfl⟩, accB_4 hmk.1, ⟨kf, hkf, rfl⟩, hT, hP, fun e => absurd e (by decide), a2, fun e => ⟨(a3 e).1, fun _ => (a3 e).2, fun q => absurd q (by decide)⟩, fun e => absurd rfl e⟩
  · have hk' : k < nmb w v := by omega
    obtain ⟨g1, g2, g3, g4⟩ := e
    obtain ⟨o1, o2, o3, o4⟩ := hM.own k hk'
    rw [f0] at g1 g4
    rw [f1, o3] at g2
    rw [f2] at g3
    rw [f6, f7, f8] at g4
    have eo : ow w v k = c := (nI_inj (by omega) (by omega) g2).symm
    unfold hasK at hx
    rcases (by omega : K = 0 ∨ K = 1) with rfl | rfl
    · rw [if_neg (by decide)] at hx
      have : exF w v c (nI q) = true := anyF_iff.mpr ⟨k, by omega, by omega, by rw [decide_eq_true eo, decide_eq_true g1.symm, decide_eq_true g3.symm]; rfl⟩
      rw [this] at hx
      cases hx
    · rw [if_pos rfl] at hx
      rw [if_pos rfl, if_pos rfl, if_pos rfl] at g4
      have g4 := g4.resolve_left (by decide)
      have : exM w v c (nI q) (d 2) (d 3) = true := anyF_iff.mpr ⟨k, by omega, by omega, by rw [decide_eq_true eo, isG_iff.mpr ⟨g1.symm, g3.symm, g4.2.1.symm, g4.2.2.symm⟩]; rfl⟩
      rw [this] at hx
      cases hx

theorem apV0_8 {cc nm ac fl : Int32} : apV 0 cc nm ac fl d 8 = -2 := if01 (X := d 1) (Y := -2)
theorem apV0_9 {cc nm ac fl : Int32} : apV 0 cc nm ac fl d 9 = -2 := if01 (X := d 2) (Y := -2)
theorem apV0_10 {cc nm ac fl : Int32} : apV 0 cc nm ac fl d 10 = -2 := if01 (X := d 3) (Y := -2)
theorem apV0_11 {cc nm ac fl : Int32} : apV 0 cc nm ac fl d 11 = -1 := if01 (X := sgI nm (d 2) (d 3)) (Y := -1)
theorem apV0_12 {cc nm ac fl : Int32} : apV 0 cc nm ac fl d 12 = -1 := if01 (X := dsI (sgI nm (d 2) (d 3)) (d 0)) (Y := -1)
theorem apV1_8 {cc nm ac fl : Int32} : apV 1 cc nm ac fl d 8 = d 1 := if11 (X := d 1) (Y := -2)
theorem apV1_9 {cc nm ac fl : Int32} : apV 1 cc nm ac fl d 9 = d 2 := if11 (X := d 2) (Y := -2)
theorem apV1_10 {cc nm ac fl : Int32} : apV 1 cc nm ac fl d 10 = d 3 := if11 (X := d 3) (Y := -2)
theorem apV1_11 {cc nm ac fl : Int32} : apV 1 cc nm ac fl d 11 = sgI nm (d 2) (d 3) := if11 (X := sgI nm (d 2) (d 3)) (Y := -1)
theorem apV1_12 {cc nm ac fl : Int32} : apV 1 cc nm ac fl d 12 = dsI (sgI nm (d 2) (d 3)) (d 0) := if11 (X := dsI (sgI nm (d 2) (d 3)) (d 0)) (Y := -1)
theorem mV_1 : mV w v m 1 = mb w v m 3 := rfl
theorem mV_2 : mV w v m 2 = mb w v m 4 := rfl
theorem mV_3 : mV w v m 3 = mb w v m 9 := rfl
theorem mV_4 : mV w v m 4 = mb w v m 0 := rfl
theorem mV_5 : mV w v m 5 = mb w v m 1 := rfl
theorem mV_6 : mV w v m 6 = mb w v m 2 := rfl
theorem mV_7 : mV w v m 7 = mb w v m 5 := rfl
theorem mV_9 : mV w v m 9 = mb w v m 7 := rfl
theorem mV_10 : mV w v m 10 = mb w v m 8 := rfl
theorem mV_8 : mV w v m 8 = if mb w v m 0 = nI 1 then mb w v m 6 else -2 := rfl
theorem mV_11 : mV w v m 11 = if mb w v m 0 = nI 1 then sgI (mb w v m 2) (mb w v m 7) (mb w v m 8) else -1 := rfl
theorem mV_12 : mV w v m 12 = if mb w v m 0 = nI 1 then dsI (sgI (mb w v m 2) (mb w v m 7) (mb w v m 8)) (mb w v m 5) else -1 := rfl
theorem apV_1 {cc nm ac fl : Int32} : apV K cc nm ac fl d 1 = ac := rfl
theorem apV_2 {cc nm ac fl : Int32} : apV K cc nm ac fl d 2 = fl := rfl
theorem apV_3 {cc nm ac fl : Int32} : apV K cc nm ac fl d 3 = -2 := rfl
theorem apV_4 {cc nm ac fl : Int32} : apV K cc nm ac fl d 4 = nI K := rfl
theorem apV_5 {cc nm ac fl : Int32} : apV K cc nm ac fl d 5 = cc := rfl
theorem apV_6 {cc nm ac fl : Int32} : apV K cc nm ac fl d 6 = nm := rfl
theorem apV_7 {cc nm ac fl : Int32} : apV K cc nm ac fl d 7 = d 0 := rfl
theorem neW_mV {ac fl : Int32} {j : Nat} (hK : K < 2) (h1 : 1 ≤ j) (h2 : j ≤ 12) : mV (neW w v K c q ac fl d) v (nmb w v) j = apV K (nI c) (nI q) ac fl d j := by
  obtain ⟨e1, e2, e3⟩ := addW_new (w := w) (v := v) (n := nmb w v) (r := adR (nI K) (nI c) (nI q) ac fl (d 0) (if K = 1 then d 1 else nI 0) (if K = 1 then d 2 else -2)) (s := if K = 1 then d 3 else -2)
  have f0 : mb (neW w v K c q ac fl d) v (nmb w v) 0 = nI K := e1 0 (by decide)
  have f1 : mb (neW w v K c q ac fl d) v (nmb w v) 1 = nI c := e1 1 (by decide)
  have f2 : mb (neW w v K c q ac fl d) v (nmb w v) 2 = nI q := e1 2 (by decide)
  have f3 : mb (neW w v K c q ac fl d) v (nmb w v) 3 = ac := e1 3 (by decide)
  have f4 : mb (neW w v K c q ac fl d) v (nmb w v) 4 = fl := e1 4 (by decide)
  have f5 : mb (neW w v K c q ac fl d) v (nmb w v) 5 = d 0 := e1 5 (by decide)
  have f9 : mb (neW w v K c q ac fl d) v (nmb w v) 9 = -2 := e3
  rcases (by omega : K = 0 ∨ K = 1) with rfl | rfl
  · have f6 : mb (neW w v 0 c q ac fl d) v (nmb w v) 6 = nI 0 := (e1 6 (by decide)).trans (if01 (X := d 1) (Y := nI 0))
    have f7 : mb (neW w v 0 c q ac fl d) v (nmb w v) 7 = -2 := (e1 7 (by decide)).trans (if01 (X := d 2) (Y := -2))
    have f8 : mb (neW w v 0 c q ac fl d) v (nmb w v) 8 = -2 := e2.trans (if01 (X := d 3) (Y := -2))
    have hk : ¬ nI 0 = nI 1 := by decide
    rcases (by omega : j = 1 ∨ j = 2 ∨ j = 3 ∨ j = 4 ∨ j = 5 ∨ j = 6 ∨ j = 7 ∨ j = 8 ∨ j = 9 ∨ j = 10 ∨ j = 11 ∨ j = 12) with rfl | rfl | rfl | rfl | rfl | rfl | rfl | rfl | rfl | rfl | rfl | rfl
    · rw [mV_1, f3, apV_1]
    · rw [mV_2, f4, apV_2]
    · rw [mV_3, f9, apV_3]
    · rw [mV_4, f0, apV_4]
    · rw [mV_5, f1, apV_5]
    · rw [mV_6, f2, apV_6]
    · rw [mV_7, f5, apV_7]
    · rw [mV_8, f0, if_neg hk, apV0_8]
    · rw [mV_9, f7, apV0_9]
    · rw [mV_10, f8, apV0_10]
    · rw [mV_11, f0, if_neg hk, apV0_11]
    · rw [mV_12, f0, if_neg hk, apV0_12]
  · have f6 : mb (neW w v 1 c q ac fl d) v (nmb w v) 6 = d 1 := (e1 6 (by decide)).trans (if11 (X := d 1) (Y := nI 0))
    have f7 : mb (neW w v 1 c q ac fl d) v (nmb w v) 7 = d 2 := (e1 7 (by decide)).trans (if11 (X := d 2) (Y := -2))
    have f8 : mb (neW w v 1 c q ac fl d) v (nmb w v) 8 = d 3 := e2.trans (if11 (X := d 3) (Y := -2))
    have hk : nI 1 = nI 1 := rfl
    rcases (by omega : j = 1 ∨ j = 2 ∨ j = 3 ∨ j = 4 ∨ j = 5 ∨ j = 6 ∨ j = 7 ∨ j = 8 ∨ j = 9 ∨ j = 10 ∨ j = 11 ∨ j = 12) with rfl | rfl | rfl | rfl | rfl | rfl | rfl | rfl | rfl | rfl | rfl | rfl
    · rw [mV_1, f3, apV_1]
    · rw [mV_2, f4, apV_2]
    · rw [mV_3, f9, apV_3]
    · rw [mV_4, f0, apV_4]
    · rw [mV_5, f1, apV_5]
    · rw [mV_6, f2, apV_6]
    · rw [mV_7, f5, apV_7]
    · rw [mV_8, f0, if_pos hk, f6, apV1_8]
    · rw [mV_9, f7, apV1_9]
    · rw [mV_10, f8, apV1_10]
    · rw [mV_11, f0, if_pos hk, f2, f7, f8, apV1_11]
    · rw [mV_12, f0, if_pos hk, f2, f7, f8, f5, apV1_12]
end Ad

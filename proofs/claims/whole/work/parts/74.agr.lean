/-! ===== a call of the class and of the reference: alike ===== -/
def Ok (g : Gr) (A : Nat) (I : Mem) : Prop := ∃ w n P d, Rel g A I w n P d
def Ans (es : List Nat) (c b : Int32) : Nat ⊕ Int32 → Prop
  | .inr y => c = nI 0 ∧ y = b
  | .inl e => ∃ i, i < 3 ∧ es[i]? = some e ∧ c = nI (i + 1)
def Agr (g : Gr) (A : Nat) (I : Mem) (fC : AH → Option ((Nat ⊕ Int32) × AH)) (fM : AH → Option (Int32 × AH)) (es : List Nat) : Prop :=
  ∀ J Z, ∃ q I1 Z1, fC (mm g I J Z) = some (q, mm g I1 J Z1) ∧ (∀ x, x < A → I1 x = I x) ∧ ∀ J' Z', ∃ b I2, fM (mm g I1 J' Z') = some (b, mm g I2 J' Z') ∧ (∀ x, x < A → I2 x = I x) ∧ Ok g A I2 ∧ Ans es (I2 (A + 418) 3) b q
theorem xp_r {α β : Type} {k : α → AH → Option ((Nat ⊕ β) × AH)} {r : α} {h : AH} : xp k (.inr r) h = k r h := rfl
theorem xp_l {α β : Type} {k : α → AH → Option ((Nat ⊕ β) × AH)} {e : Nat} {h : AH} : xp k (.inl e) h = some (.inl e, h) := rfl
section Ag
variable {g : Gr} {A R : Nat} {I I' : Mem} {J : Nat → Nat → Int64} {Z : Option Nat} {w w' : Nat → Int32} {n n' k v c m : Nat} {P P' : Nat → Nat → Int32} {d d' : Nat → Int32} {x y z : Int32} {fC : AH → Option ((Nat ⊕ Int32) × AH)} {fM : AH → Option (Int32 × AH)} {es : List Nat} {b : Int32}
theorem Agr.val (h : Rel g A I w n P d) (hC : ∀ J Z, ∃ I1 Z1, fC (mm g I J Z) = some (.inr b, mm g I1 J Z1) ∧ FvC A I I1) (hM : ∀ I1 J Z, MRel g A I1 w n P d → ∃ I2, fM (mm g I1 J Z) = some (b, mm g I2 J Z) ∧ FvM (A + 418) I1 I2 ∧ I2 (A + 418) 3 = nI 0) : Agr g A I fC fM es := by
  intro J Z
  obtain ⟨I1, Z1, e1, f1⟩ := hC J Z
  have h1 := h.fvc f1
  refine ⟨_, I1, Z1, e1, fun x hx => f1 x (by omega) (by omega) (by omega), fun J' Z' => ?_⟩
  obtain ⟨I2, e2, f2, t2⟩ := hM I1 J' Z' h1.m
  exact ⟨b, I2, e2, fun x hx => (f2.1 x (by omega) (by omega) (by omega) (by omega) (by omega)).trans (f1 x (by omega) (by omega) (by omega)), ⟨w, n, P, d, h1.fvm f2⟩, t2, rfl⟩
theorem Agr.rfs (h : Rel g A I w n P d) {e i : Nat} (he : i < 3 ∧ es[i]? = some e) (hC : ∀ J Z, ∃ I1 Z1, fC (mm g I J Z) = some (.inl e, mm g I1 J Z1) ∧ FvC A I I1) (hM : ∀ I1 J Z, MRel g A I1 w n P d → ∃ b I2, fM (mm g I1 J Z) = some (b, mm g I2 J Z) ∧ FvM (A + 418) I1 I2 ∧ I2 (A + 418) 3 = nI (i + 1)) : Agr g A I fC fM es := by
  intro J Z
  obtain ⟨I1, Z1, e1, f1⟩ := hC J Z
  have h1 := h.fvc f1
  refine ⟨_, I1, Z1, e1, fun x hx => f1 x (by omega) (by omega) (by omega), fun J' Z' => ?_⟩
  obtain ⟨b, I2, e2, f2, t2⟩ := hM I1 J' Z' h1.m
  exact ⟨b, I2, e2, fun x hx => (f2.1 x (by omega) (by omega) (by omega) (by omega) (by omega)).trans (f1 x (by omega) (by omega) (by omega)), ⟨w, n, P, d, h1.fvm f2⟩, i, he.1, he.2, t2⟩
theorem Agr.mod (h : Rel g A I w n P d) (hC : ∀ J Z, ∃ I1 Z1, fC (mm g I J Z) = some (.inr b, mm g I1 J Z1) ∧ RelC I1 A w' n' P' d' ∧ ∀ x, x < A ∨ A + 418 ≤ x → I1 x = I x) (hM : ∀ I1 J Z, MRel g A I1 w n P d → ∃ I2, fM (mm g I1 J Z) = some (b, mm g I2 J Z) ∧ RelM I2 (A + 418) w' n' P' d' ∧ (∀ x, x < A + 418 ∨ A + 426 ≤ x → I2 x = I1 x) ∧ I2 (A + 418) 3 = nI 0) (hW : Wf w' n' P' d') : Agr g A I fC fM es := by
  intro J Z
  obtain ⟨I1, Z1, e1, r1, f1⟩ := hC J Z
  refine ⟨_, I1, Z1, e1, fun x hx => f1 x (by omega), fun J' Z' => ?_⟩
  obtain ⟨I2, e2, r2, f2, t2⟩ := hM I1 J' Z' ⟨h.2.1, h.2.2.2.1.fr (by rw [f1 _ (by omega)]) (f1 _ (by omega)) (f1 _ (by omega)) (f1 _ (by omega)), h.2.2.2.2⟩
  exact ⟨b, I2, e2, fun x hx => (f2 x (by omega)).trans (f1 x (by omega)), ⟨w', n', P', d', h.1, h.2.1, r1.fr hW (fun x _ a _ _ => f2 x (by omega)), r2, hW⟩, t2, rfl⟩
/-! what a call is given: in order, or refused by both -/
theorem wi_no {a : Nat} (hx : x < 0 ∨ nI (a + 1) ≤ x) (ha : a + 1 < 2 ^ 31) (h : AH) : fX9_within x (nI 0) (nI a) h = some (bI false, h) := by
  rw [M_within, decide_eq_false]
  rintro ⟨h1, h2⟩
  rcases hx with hx | hx
  · exact (Int32.not_lt.mpr h1) hx
  · exact absurd (Int32.le_trans hx h2) (nI_ge (by omega) ha)
theorem wi_yes {a : Nat} (hk : k ≤ a) (ha : a < 2 ^ 31) (h : AH) : fX9_within (nI k) (nI 0) (nI a) h = some (bI true, h) := by
  rw [M_win (by omega) ha (by omega), decide_eq_true (by omega)]
theorem ver_cases (hJ : JG g A) (x : Int32) : (∃ v, v < 2 ∧ x = nI v) ∨ ((∀ h : AH, fX8_requireVersion x h = some (.inl 1, thr h)) ∧ (∀ I J Z, fX8_libraryOf A x (mm g I J Z) = some (.inl 1, mm g I J none)) ∧ ∀ h : AH, fX9_isVersion x h = some (bI false, h)) := by
  rcases int_x x 2 (by omega) with hx | ⟨v, hv, e⟩
  · have q : ∀ h : AH, fX8_requireVersion x h = some (.inl 1, thr h) := fun h => by
      unfold fX8_requireVersion
      by_cases h0 : x < 0
      · rw [if_pos h0]
      · rw [if_neg h0, if_neg (Int32.not_lt.mpr (hx.resolve_left h0))]
    refine Or.inr ⟨q, fun I J Z => ?_, fun h => M_isVx hx h⟩
    unfold fX8_libraryOf
    rw [q, bd_some, xp_l, thr_m]
  · exact Or.inl ⟨v, hv, e⟩
theorem C_reqV (hv : v < 2) (h : AH) : fX8_requireVersion (nI v) h = some (.inr (), h) := by
  unfold fX8_requireVersion
  rw [if_neg (nI_pos (by omega)), if_pos (nI_lt hv (by omega))]
theorem C_libOf (hJ : JG g A) (hv : v < 2) : fX8_libraryOf A (nI v) (mm g I J Z) = some (.inr (A + 1 + 3 + 20 * v), mm g I J Z) := by
  unfold fX8_libraryOf
  rw [C_reqV hv, bd_some, xp_r, hJ.p0, Option.bind_some, st_p0 hJ.S, Option.bind_some, st_lib hJ.S hv, Option.bind_some]
theorem C_libWith (h : Rel g A I w n P d) (hv : v < 2) (he : exC w v c = true) : fX8_libraryWith A (nI v) (nI c) (mm g I J Z) = some (.inr (A + 1 + 3 + 20 * v), mm g I J Z) := by
  unfold fX8_libraryWith
  rw [h.jg.cv, C_libOf h.jg hv, bd_some, xp_r, lib_cv (h.jg.lib hv), C_isThere (h.jg.lib hv) (h.cb hv).R (exC_lt he), bd_some, he, bIf, if_tt]
theorem lib_cases (h : Rel g A I w n P d) (x y : Int32) : (∃ v c, v < 2 ∧ exC w v c = true ∧ x = nI v ∧ y = nI c) ∨ ((∀ J Z, fX8_libraryWith A x y (mm g I J Z) = some (.inl 1, mm g I J none)) ∧ ∀ I1 J Z, MRel g A I1 w n P d → fX9_isClass (A + 418) x y (mm g I1 J Z) = some (bI false, mm g I1 J Z)) := by
  rcases ver_cases h.jg x with ⟨v, hv, rfl⟩ | ⟨q1, q2, q3⟩
  · rcases int_x y 10 (by omega) with hy | ⟨c, hc, rfl⟩
    · refine Or.inr ⟨fun J Z => ?_, fun I1 J Z h1 => M_isClassC h1.G hv hy⟩
      unfold fX8_libraryWith
      rw [h.jg.cv, C_libOf h.jg hv, bd_some, xp_r, lib_cv (h.jg.lib hv), C_isThereX hy, bd_some, bIf, if_ff, thr_m]
    · cases he : exC w v c
      · refine Or.inr ⟨fun J Z => ?_, fun I1 J Z h1 => ?_⟩
        · unfold fX8_libraryWith
          rw [h.jg.cv, C_libOf h.jg hv, bd_some, xp_r, lib_cv (h.jg.lib hv), C_isThere (h.jg.lib hv) (h.cb hv).R hc, bd_some, he, bIf, if_ff, thr_m]
        · rw [(h1.mb hv).isC hc, he]
      · exact Or.inl ⟨v, c, hv, he, rfl, rfl⟩
  · refine Or.inr ⟨fun J Z => ?_, fun I1 J Z h1 => ?_⟩
    · unfold fX8_libraryWith
      rw [h.jg.cv, q2, bd_some, xp_l]
    · unfold fX9_isClass
      rw [q3, bd_some, if_pos (by decide), rz_n0]
theorem C_libMem (h : Rel g A I w n P d) (hv : v < 2) (hm : m < nmb w v) : fX8_libraryWithMember A (nI v) (nI m) (mm g I J Z) = some (.inr (A + 1 + 3 + 20 * v), mm g I J Z) := by
  unfold fX8_libraryWithMember
  have := (h.cb hv).M.n40
  rw [h.jg.cv, C_libOf h.jg hv, bd_some, xp_r, lib_cv (h.jg.lib hv), C_hasMember (h.jg.lib hv) (h.cb hv).R (h.cb hv).M (by omega), bd_some, decide_eq_true hm, bIf, if_tt]
theorem M_isMem (h : MRel g A I w n P d) (hv : v < 2) (hm : m < nmb w v) : fX9_isMember (A + 418) (nI v) (nI m) (mm g I J Z) = some (bI true, mm g I J Z) := by
  have := (h.mb hv).M.n40
  unfold fX9_isMember
  rw [M_isV hv, bd_some, if_neg (by decide), (h.mb hv).cv, (h.mb hv).many, bd_some, pk_sub (by omega), wi_yes (by omega) (by omega), bd_some, if_neg (by decide), rz_n1]
theorem mem_cases (h : Rel g A I w n P d) (x y : Int32) : (∃ v m, v < 2 ∧ m < nmb w v ∧ x = nI v ∧ y = nI m) ∨ ((∀ J Z, fX8_libraryWithMember A x y (mm g I J Z) = some (.inl 1, mm g I J none)) ∧ ∀ I1 J Z, MRel g A I1 w n P d → fX9_isMember (A + 418) x y (mm g I1 J Z) = some (bI false, mm g I1 J Z)) := by
  rcases ver_cases h.jg x with ⟨v, hv, rfl⟩ | ⟨q1, q2, q3⟩
  · have hn := (h.cb hv).M.n40
    have neg : ∀ I1 J Z, MRel g A I1 w n P d → (y < 0 ∨ nI (nmb w v) ≤ y) → fX9_isMember (A + 418) (nI v) y (mm g I1 J Z) = some (bI false, mm g I1 J Z) := by
      intro I1 J Z h1 hy
      unfold fX9_isMember
      rw [M_isV hv, bd_some, if_neg (by decide), (h1.mb hv).cv, (h1.mb hv).many, bd_some, M_within, bd_some, decide_eq_false, if_pos (by decide), rz_n0]
      rintro ⟨a1, a2⟩
      rcases hy with hy | hy
      · exact (Int32.not_lt.mpr a1) hy
      · rcases Nat.eq_zero_or_pos (nmb w v) with e | e
        · rw [e] at a2
          exact absurd (Int32.le_trans a1 a2) (by decide)
        · rw [pk_sub (by omega)] at a2
          exact absurd (Int32.le_trans hy a2) (nI_ge (by omega) (by omega))
    rcases int_x y (nmb w v) (by omega) with hy | ⟨m, hm, rfl⟩
    · refine Or.inr ⟨fun J Z => ?_, fun I1 J Z h1 => neg I1 J Z h1 hy⟩
      unfold fX8_libraryWithMember
      rw [h.jg.cv, C_libOf h.jg hv, bd_some, xp_r, lib_cv (h.jg.lib hv)]
      rcases hy with hy | hy
      · rw [C_hasMemberX hy, bd_some, bIf, if_ff, thr_m]
      · by_cases h0 : y < 0
        · rw [C_hasMemberX h0, bd_some, bIf, if_ff, thr_m]
        · obtain ⟨j, hj, rfl⟩ := nI_of h0
          rw [C_hasMember (h.jg.lib hv) (h.cb hv).R (h.cb hv).M hj, bd_some, decide_eq_false (fun q => absurd hy (nI_ge q (by omega))), bIf, if_ff, thr_m]
    · exact Or.inl ⟨v, m, hv, hm, rfl, rfl⟩
  · refine Or.inr ⟨fun J Z => ?_, fun I1 J Z h1 => ?_⟩
    · unfold fX8_libraryWithMember
      rw [h.jg.cv, q2, bd_some, xp_l]
    · unfold fX9_isMember
      rw [q3, bd_some, if_pos (by decide), rz_n0]
theorem Rel.sz (h : Rel g A I w n P d) : gI 6 (A + 1) 2 (mm g I J Z) = some (nI (ncl w)) := by rw [gI_m h.jg.S.1, h.S.2.1, h.W.2.2.1]
theorem M_cmany (h : MRel g A I w n P d) : fX9_clientMany (A + 418) (mm g I J Z) = some (nI (ncl w), mm g I J Z) := by
  unfold fX9_clientMany
  rw [h.G.p0, Option.bind_some, h.G.ld1 (by omega), Option.bind_some, h.row, h.W.2.2.1]
theorem C_reqC (h : Rel g A I w n P d) (hk : k < ncl w) : fX8_requireClient A (nI k) (mm g I J Z) = some (.inr (), mm g I J Z) := by
  have := h.nc
  unfold fX8_requireClient
  rw [if_neg (nI_pos (by omega)), h.jg.p0, Option.bind_some, h.sz, Option.bind_some, if_pos (nI_lt hk (by omega))]
theorem C_cliAt (h : Rel g A I w n P d) (hk : k < ncl w) : fX8_clientAt A (nI k) (mm g I J Z) = some (.inr (A + 1 + 43 + 2 * k), mm g I J Z) := by
  have := h.nc
  unfold fX8_clientAt
  rw [h.jg.cv, C_reqC h hk, bd_some, xp_r, h.jg.p0, Option.bind_some, st_p1 h.jg.S, Option.bind_some, st_cli h.jg.S (by omega), Option.bind_some]
theorem M_isCli (h : MRel g A I w n P d) (hk : k < ncl w) : fX9_isClient (A + 418) (nI k) (mm g I J Z) = some (bI true, mm g I J Z) := by
  have := h.nc
  unfold fX9_isClient
  rw [M_cv h.G, M_cmany h, bd_some, pk_sub (by omega), wi_yes (by omega) (by omega), bd_some, rz_bI]
theorem cli_cases (h : Rel g A I w n P d) (x : Int32) : (∃ k, k < ncl w ∧ x = nI k) ∨ ((∀ J Z, fX8_requireClient A x (mm g I J Z) = some (.inl 1, mm g I J none)) ∧ (∀ J Z, fX8_clientAt A x (mm g I J Z) = some (.inl 1, mm g I J none)) ∧ ∀ I1 J Z, MRel g A I1 w n P d → fX9_isClient (A + 418) x (mm g I1 J Z) = some (bI false, mm g I1 J Z)) := by
  have hn := h.nc
  rcases int_x x (ncl w) (by omega) with hx | ⟨k, hk, rfl⟩
  · have q : ∀ J Z, fX8_requireClient A x (mm g I J Z) = some (.inl 1, mm g I J none) := fun J Z => by
      unfold fX8_requireClient
      by_cases h0 : x < 0
      · rw [if_pos h0, thr_m]
      · rw [if_neg h0, h.jg.p0, Option.bind_some, h.sz, Option.bind_some, if_neg (Int32.not_lt.mpr (hx.resolve_left h0)), thr_m]
    refine Or.inr ⟨q, fun J Z => ?_, fun I1 J Z h1 => ?_⟩
    · unfold fX8_clientAt
      rw [h.jg.cv, q, bd_some, xp_l]
    · unfold fX9_isClient
      rw [M_cv h1.G, M_cmany h1, bd_some, M_within, bd_some, decide_eq_false, rz_bI]
      rintro ⟨a1, a2⟩
      rcases hx with hy | hy
      · exact (Int32.not_lt.mpr a1) hy
      · rcases Nat.eq_zero_or_pos (ncl w) with e | e
        · rw [e] at a2
          exact absurd (Int32.le_trans a1 a2) (by decide)
        · rw [pk_sub (by omega)] at a2
          exact absurd (Int32.le_trans hy a2) (nI_ge (by omega) (by omega))
  · exact Or.inl ⟨k, hk, rfl⟩
theorem inf_cases (x : Int32) : (∃ k, k < 10 ∧ x = nI k) ∨ ((∀ h : AH, fX8_requireInfo x h = some (.inl 2, thr h)) ∧ ∀ h : AH, fX9_within x (nI 0) (nI 9) h = some (bI false, h)) := by
  rcases int_x x 10 (by omega) with hx | ⟨v, hv, e⟩
  · refine Or.inr ⟨fun h => ?_, fun h => wi_no hx (by omega) h⟩
    unfold fX8_requireInfo
    by_cases h0 : x < 0
    · rw [if_pos h0]
    · rw [if_neg h0, if_neg (fun q => absurd (Int32.le_trans (hx.resolve_left h0) q) (by decide))]
  · exact Or.inl ⟨v, hv, e⟩
theorem C_reqI (hk : k < 10) (h : AH) : fX8_requireInfo (nI k) h = some (.inr (), h) := by
  unfold fX8_requireInfo
  rw [if_neg (nI_pos (by omega)), if_pos (nI_le (by omega) (by omega))]
theorem nam_cases (x : Int32) : (∃ k, k < 8 ∧ x = nI k) ∨ ((∀ h : AH, fX8_isName x h = some (bI false, h)) ∧ (∀ h : AH, fX8_requireName x h = some (.inl 2, thr h)) ∧ ∀ h : AH, fX9_within x (nI 0) (nI 7) h = some (bI false, h)) := by
  rcases int_x x 8 (by omega) with hx | ⟨v, hv, e⟩
  · have q : ∀ h : AH, fX8_isName x h = some (bI false, h) := fun h => by
      unfold fX8_isName
      by_cases h0 : x < 0
      · rw [if_pos h0, rz_n0]
      · rw [if_neg h0, if_pos (hx.resolve_left h0), rz_n0]
    refine Or.inr ⟨q, fun h => ?_, fun h => wi_no hx (by omega) h⟩
    unfold fX8_requireName
    rw [q, bd_some, bIf, if_ff]
  · exact Or.inl ⟨v, hv, e⟩
theorem C_isName (hk : k < 8) (h : AH) : fX8_isName (nI k) h = some (bI true, h) := by
  unfold fX8_isName
  rw [if_neg (nI_pos (by omega)), if_neg (nI_ge (by omega) (by omega)), rz_n1]
theorem C_reqN (hk : k < 8) (h : AH) : fX8_requireName (nI k) h = some (.inr (), h) := by
  unfold fX8_requireName
  rw [C_isName hk, bd_some, bIf, if_tt]
theorem typ_cases (x : Int32) : Ty1 x ∨ ((∀ h : AH, fX8_isType x h = some (bI false, h)) ∧ (∀ h : AH, fX9_within x (-1) (nI 9) h = some (bI false, h)) ∧ ∀ h : AH, fX9_isType x h = some (bI false, h)) := by
  have key : (x < -1 ∨ nI 10 ≤ x) → (∀ h : AH, fX8_isType x h = some (bI false, h)) ∧ (∀ h : AH, fX9_within x (-1) (nI 9) h = some (bI false, h)) ∧ ∀ h : AH, fX9_isType x h = some (bI false, h) := by
    intro hx
    have w0 : ∀ h : AH, fX9_within x (-1) (nI 9) h = some (bI false, h) := fun h => by
      rw [M_within, decide_eq_false]
      rintro ⟨h1, h2⟩
      rcases hx with hx | hx
      · exact (Int32.not_lt.mpr h1) hx
      · exact absurd (Int32.le_trans hx h2) (by decide)
    refine ⟨fun h => ?_, w0, fun h => ?_⟩
    · unfold fX8_isType
      by_cases h0 : x < -1
      · rw [if_pos h0, rz_n0]
      · rw [if_neg h0, if_pos (hx.resolve_left h0), rz_n0]
    · unfold fX9_isType
      rw [w0, bd_some, rz_bI]
  by_cases h0 : x < -1
  · exact Or.inr (key (Or.inl h0))
  · by_cases h1 : nI 10 ≤ x
    · exact Or.inr (key (Or.inr h1))
    · left
      have h0 : -1 ≤ x.toInt := by
        have := Int32.le_iff_toInt_le.mp (Int32.not_lt.mp h0)
        exact this
      have h1 : x.toInt < 10 := by
        have := Int32.lt_iff_toInt_lt.mp (Int32.not_le.mp h1)
        exact this
      refine ⟨(x.toInt + 2).toNat, by omega, by omega, Int32.toInt_inj.mp ?_⟩
      have : ∀ k, k < 12 → (tI k).toInt = (k : Int) - 2 := by decide +kernel
      rw [this _ (by omega)]
      omega
theorem Ty1.rng (h : Ty1 x) : ¬ x < -1 ∧ ¬ nI 10 ≤ x := by
  obtain ⟨k, k1, k2, rfl⟩ := h
  exact (by decide +kernel : ∀ k, k < 12 → 1 ≤ k → ¬ tI k < -1 ∧ ¬ nI 10 ≤ tI k) k k2 k1
theorem C_isType (h : Ty1 x) (hh : AH) : fX8_isType x hh = some (bI true, hh) := by
  unfold fX8_isType
  rw [if_neg h.rng.1, if_neg h.rng.2, rz_n1]
theorem M_wiT (h : Ty1 x) (hh : AH) : fX9_within x (-1) (nI 9) hh = some (bI true, hh) := by
  rw [M_within, decide_eq_true]
  obtain ⟨k, k1, k2, rfl⟩ := h
  exact (by decide +kernel : ∀ k, k < 12 → 1 ≤ k → -1 ≤ tI k ∧ tI k ≤ nI 9) k k2 k1
theorem M_isType (h : Ty1 x) (hh : AH) : fX9_isType x hh = some (bI true, hh) := by
  unfold fX9_isType
  rw [M_wiT h, bd_some, rz_bI]
/-- the reference refuses with a code, or goes on -/
theorem M_ref0 (hG : ModG g R) : fX9_refused R (nI 0) (mm g I J Z) = some (bI false, mm g (up2 I R 3 (nI 0)) J Z) := by rw [M_refused hG]; rfl
theorem M_refS (hG : ModG g R) {i : Nat} (hi : i < 3) : fX9_refused R (nI (i + 1)) (mm g I J Z) = some (bI true, mm g (up2 I R 3 (nI (i + 1))) J Z) := by
  rw [M_refused hG, decide_eq_true (show (0 : Int32) < nI (i + 1) from nI_lt (a := 0) (by omega) (by omega))]
theorem up3 : up2 I R 3 x R 3 = x := by rw [up2_at, if_pos rfl]
end Ag

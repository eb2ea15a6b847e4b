/-! ===== the reference's search among interfaces ===== -/
def lkI (I : Mem) (R : Nat) (a b c d : Int32) : Mem := fun x k => if x = R then (if k = 11 then a else if k = 12 then b else if k = 13 then c else if k = 14 then d else I x k) else I x k
section Lk
variable {I : Mem} {R : Nat} {a b c d z : Int32}
theorem lk_ne {x : Nat} (h : x ≠ R) : lkI I R a b c d x = I x := by
  funext k
  unfold lkI
  rw [if_neg h]
theorem lk_11 : lkI I R a b c d R 11 = a := by simp [lkI]
theorem lk_12 : lkI I R a b c d R 12 = b := by simp [lkI]
theorem lk_13 : lkI I R a b c d R 13 = c := by simp [lkI]
theorem lk_14 : lkI I R a b c d R 14 = d := by simp [lkI]
theorem lk_o {k : Nat} (h : k < 11 ∨ 14 < k) : lkI I R a b c d R k = I R k := by
  unfold lkI
  rw [if_pos rfl, if_neg (by omega), if_neg (by omega), if_neg (by omega), if_neg (by omega)]
theorem lk_u11 : up2 (lkI I R a b c d) R 11 z = lkI I R z b c d := by
  funext x k
  unfold up2 lkI
  by_cases h : x = R
  · by_cases h2 : k = 11
    · simp [h, h2]
    · simp [h, h2]
  · simp [h]
theorem lk_u12 : up2 (lkI I R a b c d) R 12 z = lkI I R a z c d := by
  funext x k
  unfold up2 lkI
  by_cases h : x = R
  · by_cases h2 : k = 12
    · simp [h, h2]
    · simp [h, h2]
  · simp [h]
theorem lk_u13 : up2 (lkI I R a b c d) R 13 z = lkI I R a b z d := by
  funext x k
  unfold up2 lkI
  by_cases h : x = R
  · by_cases h2 : k = 13
    · simp [h, h2]
    · simp [h, h2]
  · simp [h]
theorem lk_u14 : up2 (lkI I R a b c d) R 14 z = lkI I R a b c z := by
  funext x k
  unfold up2 lkI
  by_cases h : x = R
  · by_cases h2 : k = 14
    · simp [h, h2]
    · simp [h, h2]
  · simp [h]
theorem lk_start : up2 (up2 (up2 (up2 I R 11 a) R 12 b) R 13 c) R 14 d = lkI I R a b c d := by
  funext x k
  unfold up2 lkI
  by_cases h : x = R
  · by_cases h1 : k = 14
    · simp [h, h1]
    · by_cases h2 : k = 13
      · simp [h, h2]
      · by_cases h3 : k = 12
        · simp [h, h3]
        · by_cases h4 : k = 11
          · simp [h, h4]
          · simp [h, h1, h2, h3, h4]
  · simp [h]
end Lk
/-- some of d places from j -/
def anyF (q : Nat → Bool) : Nat → Nat → Bool
  | _, 0 => false
  | j, d + 1 => q j || anyF q (j + 1) d
theorem anyF_iff {q : Nat → Bool} : ∀ {d j : Nat}, anyF q j d = true ↔ ∃ k, j ≤ k ∧ k < j + d ∧ q k = true
  | 0, j => ⟨fun h => absurd h (by unfold anyF; decide), fun ⟨k, h1, h2, _⟩ => absurd h1 (by omega)⟩
  | d + 1, j => by
    unfold anyF
    rw [Bool.or_eq_true, anyF_iff]
    constructor
    · rintro (h | ⟨k, h1, h2, h3⟩)
      · exact ⟨j, by omega, by omega, h⟩
      · exact ⟨k, by omega, by omega, h3⟩
    · rintro ⟨k, h1, h2, h3⟩
      by_cases e : k = j
      · subst e; exact Or.inl h3
      · exact Or.inr ⟨k, by omega, by omega, h3⟩
theorem fst_succ {q : Nat → Bool} : ∀ {d i : Nat}, fst q i (d + 1) = match fst q i d with | some k => some k | none => if q (i + d) then some (i + d) else none
  | 0, i => by simp [fst]
  | d + 1, i => by
    rw [fst]
    by_cases h : q i = true
    · rw [if_pos h, fst, if_pos h]
    · rw [if_neg h, fst_succ, fst, if_neg h, show i + 1 + d = i + (d + 1) from by omega]
theorem ct_fst {q : Nat → Bool} {n : Nat} : ct q n = 0 ↔ fst q 0 n = none := by
  rw [ct_zero]
  constructor
  · exact fun h => fst_none_of (fun j _ hj => h j (by omega))
  · exact fun h k hk => fst_none h k (by omega) (by omega)
/-- the reference at a row, with a wanted method -/
def Wnt (g : Gr) (R : Nat) (I : Mem) (w : Nat → Int32) (v : Nat) (nm r x y z : Int32) : Prop :=
  (ModG g R) ∧
  (v < 2) ∧
  (I (R + 1) = w) ∧
  (WC w v) ∧
  (WM w v) ∧
  (I R 6 = nm) ∧
  (I R 7 = r) ∧
  (I R 8 = x) ∧
  (I R 9 = y ∨ x = nI 0) ∧
  (I R 10 = z ∨ x = nI 0) ∧
  (Pt x y z)
theorem Wnt.G {g : Gr} {R : Nat} {I : Mem} {w : Nat → Int32} {v : Nat} {nm r x y z : Int32} (h : Wnt g R I w v nm r x y z) : ModG g R := h.1
theorem Wnt.v2 {g : Gr} {R : Nat} {I : Mem} {w : Nat → Int32} {v : Nat} {nm r x y z : Int32} (h : Wnt g R I w v nm r x y z) : v < 2 := h.2.1
theorem Wnt.row {g : Gr} {R : Nat} {I : Mem} {w : Nat → Int32} {v : Nat} {nm r x y z : Int32} (h : Wnt g R I w v nm r x y z) : I (R + 1) = w := h.2.2.1
theorem Wnt.C {g : Gr} {R : Nat} {I : Mem} {w : Nat → Int32} {v : Nat} {nm r x y z : Int32} (h : Wnt g R I w v nm r x y z) : WC w v := h.2.2.2.1
theorem Wnt.M {g : Gr} {R : Nat} {I : Mem} {w : Nat → Int32} {v : Nat} {nm r x y z : Int32} (h : Wnt g R I w v nm r x y z) : WM w v := h.2.2.2.2.1
theorem Wnt.h6 {g : Gr} {R : Nat} {I : Mem} {w : Nat → Int32} {v : Nat} {nm r x y z : Int32} (h : Wnt g R I w v nm r x y z) : I R 6 = nm := h.2.2.2.2.2.1
theorem Wnt.h7 {g : Gr} {R : Nat} {I : Mem} {w : Nat → Int32} {v : Nat} {nm r x y z : Int32} (h : Wnt g R I w v nm r x y z) : I R 7 = r := h.2.2.2.2.2.2.1
theorem Wnt.h8 {g : Gr} {R : Nat} {I : Mem} {w : Nat → Int32} {v : Nat} {nm r x y z : Int32} (h : Wnt g R I w v nm r x y z) : I R 8 = x := h.2.2.2.2.2.2.2.1
theorem Wnt.h9 {g : Gr} {R : Nat} {I : Mem} {w : Nat → Int32} {v : Nat} {nm r x y z : Int32} (h : Wnt g R I w v nm r x y z) : I R 9 = y ∨ x = nI 0 := h.2.2.2.2.2.2.2.2.1
theorem Wnt.h10 {g : Gr} {R : Nat} {I : Mem} {w : Nat → Int32} {v : Nat} {nm r x y z : Int32} (h : Wnt g R I w v nm r x y z) : I R 10 = z ∨ x = nI 0 := h.2.2.2.2.2.2.2.2.2.1
theorem Wnt.P {g : Gr} {R : Nat} {I : Mem} {w : Nat → Int32} {v : Nat} {nm r x y z : Int32} (h : Wnt g R I w v nm r x y z) : Pt x y z := h.2.2.2.2.2.2.2.2.2.2
section Lo
variable {g : Gr} {R : Nat} {I : Mem} {J : Nat → Nat → Int64} {Z : Option Nat} {w : Nat → Int32} {v : Nat} {nm r x y z : Int32}
theorem Wnt.lkm (h : Wnt g R I w v nm r x y z) {a b c d : Int32} : Wnt g R (lkI I R a b c d) w v nm r x y z :=
  ⟨h.G, h.v2, by rw [lk_ne (by omega)]; exact h.row, h.C, h.M, by rw [lk_o (by omega)]; exact h.h6, by rw [lk_o (by omega)]; exact h.h7, by rw [lk_o (by omega)]; exact h.h8, by rw [lk_o (by omega)]; exact h.h9, by rw [lk_o (by omega)]; exact h.h10, h.P⟩
theorem Wnt.own (h : Wnt g R I w v nm r x y z) {c : Nat} (hc : c < 10) : fX9_own R (nI v) (nI c) (mm g I J Z) = some (oI (onS (nmb w v) (ow w v) (isD w v nm r y z) c), mm g I J Z) := by
  obtain ⟨hG, hv, e, hC, hM, e6, e7, e8, e9, e10, hP⟩ := h
  subst e; subst e6; subst e7; subst e8
  exact M_own hG hv hM hP e9 e10 hc
theorem Wnt.cand (h : Wnt g R I w v nm r x y z) {o : Option Nat} (ho : ∀ m, o = some m → m < nmb w v) : fX9_isCandidate R (nI v) (oI o) (mm g I J Z) = some (bI (cO w v o), mm g I J Z) := by
  obtain ⟨hG, hv, e, hC, hM, e6, e7, e8, e9, e10, hP⟩ := h
  subst e
  exact M_isCand hG hv hM ho
theorem Wnt.itB (h : Wnt g R I w v nm r x y z) {c : Nat} (hc : c < 10) : fX9_isInterface R (nI v) (nI c) (mm g I J Z) = some (bI (itB w v c), mm g I J Z) := by
  obtain ⟨hG, hv, e, hC, hM, e6, e7, e8, e9, e10, hP⟩ := h
  subst e
  exact M_isI hG hv hc
theorem Wnt.sup (h : Wnt g R I w v nm r x y z) {c : Nat} (hc : c < 10) : fX9_supertypes R (nI v) (nI c) (mm g I J Z) = some (spm w v c, mm g I J Z) := by
  obtain ⟨hG, hv, e, hC, hM, e6, e7, e8, e9, e10, hP⟩ := h
  subst e
  exact M_sup hG hv hc
theorem Wnt.of (h : Wnt g R I w v nm r x y z) {c p : Nat} (hc : c < 10) (hp : p < 8) : fX9_of R (nI v) (nI c) (nI p) (mm g I J Z) = some (cl w v c p, mm g I J Z) := by
  obtain ⟨hG, hv, e, hC, hM, e6, e7, e8, e9, e10, hP⟩ := h
  subst e
  exact M_of hG hv hc hp
theorem Wnt.abs (h : Wnt g R I w v nm r x y z) {m : Nat} (hm : m < nmb w v) : fX9_isAbstract R (nI v) (nI m) (mm g I J Z) = some (bI (abB w v m), mm g I J Z) := by
  obtain ⟨hG, hv, e, hC, hM, e6, e7, e8, e9, e10, hP⟩ := h
  subst e
  exact M_isAbstract hG hv (by have := hM.n40; omega)
/-- the class i itself has a candidate -/
def cB (w : Nat → Int32) (v : Nat) (nm r y z : Int32) (i : Nat) : Bool := cO w v (onS (nmb w v) (ow w v) (isD w v nm r y z) i)
theorem cB_iff (hM : WM w v) {i : Nat} : cB w v nm r y z i = true ↔ ∃ m, m < nmb w v ∧ (isD w v nm r y z m && cnB w v m) = true ∧ ow w v m = i := by
  unfold cB
  constructor
  · intro h
    cases hn : onS (nmb w v) (ow w v) (isD w v nm r y z) i with
    | none => rw [hn] at h; cases h
    | some m =>
      rw [hn] at h
      obtain ⟨a, b, c⟩ := onS_some hn
      exact ⟨m, a, by rw [c]; exact h, b⟩
  · rintro ⟨m, m1, m2, m3⟩
    simp only [Bool.and_eq_true] at m2
    rw [onS_of hM.uD m1 m3 m2.1]
    exact m2.2
theorem M_lkIn (h : Wnt g R I w v nm r x y z) {s0 : Int32} (hs : ∀ k, k < 10 → bt s0 k = true → exC w v k = true) {i : Nat} (hi : i < 10) {o : Int32} {K : Nat → Int32 → Int32 → Int32 → AH → Option (Unit × AH)} :
    ∀ (d j f : Nat) (s : Bool), j + d = 10 → d < f → lX9_looksAt_72 K f R (nI v) s0 (nI i) o (bI s) (nI j) (mm g I J Z) = fX9_looksAt_163 K R (nI v) s0 (nI i) o (bI (s && !anyF (fun k => decide (k ≠ i) && (bt s0 k && itB w v k) && stB w v k i && cB w v nm r y z k) j d)) (mm g I J Z) := by
  intro d
  induction d with
  | zero =>
    intro j f s hj hf
    obtain ⟨f, rfl⟩ : ∃ z, f = z + 1 := ⟨f - 1, by omega⟩
    show bX9_looksAt_72 K (lX9_looksAt_72 K f) R (nI v) s0 (nI i) o (bI s) (nI j) (mm g I J Z) = _
    unfold bX9_looksAt_72
    rw [if_pos (nI_le (by omega) (by omega))]
    simp [anyF]
  | succ d ih =>
    intro j f s hj hf
    obtain ⟨f, rfl⟩ : ∃ z, f = z + 1 := ⟨f - 1, by omega⟩
    have hj10 : j < 10 := by omega
    show bX9_looksAt_72 K (lX9_looksAt_72 K f) R (nI v) s0 (nI i) o (bI s) (nI j) (mm g I J Z) = _
    unfold bX9_looksAt_72
    rw [if_neg (nI_ge hj10 (by omega)), bIf]
    cases s
    · rw [if_neg (by decide), Bool.false_and]
    · rw [if_pos rfl]
      have nx : ∀ s1 : Bool, fX9_looksAt_155 K (lX9_looksAt_72 K f) R (nI v) s0 (nI i) o (nI j) (bI s1) (mm g I J Z) = fX9_looksAt_163 K R (nI v) s0 (nI i) o (bI (s1 && !anyF (fun k => decide (k ≠ i) && (bt s0 k && itB w v k) && stB w v k i && cB w v nm r y z k) (j + 1) d)) (mm g I J Z) := by
        intro s1
        unfold fX9_looksAt_155
        rw [nI_add]
        exact ih (j + 1) f s1 (by omega) (by omega)
      have h127 : fX9_looksAt_127 K (lX9_looksAt_72 K f) R (nI v) s0 (nI i) o (nI j) (mm g I J Z) = fX9_looksAt_163 K R (nI v) s0 (nI i) o (bI (true && !anyF (fun k => decide (k ≠ i) && (bt s0 k && itB w v k) && stB w v k i && cB w v nm r y z k) (j + 1) d)) (mm g I J Z) := by
        unfold fX9_looksAt_127 fX9_looksAt_128
        rw [if_pos (by decide)]
        exact nx true
      unfold anyF
      by_cases hji : j = i
      · rw [if_pos (by rw [hji]), h127]
        simp [hji]
      · rw [if_neg (fun q => hji (nI_inj (by omega) (by omega) q)), M_has (by omega), bd_some, bIf]
        cases hb : bt s0 j
        · rw [if_neg (by decide), h127]
          simp [hb]
        · rw [if_pos rfl, M_cv h.G, h.itB hj10, bd_some, bIf]
          cases hI : itB w v j
          · rw [if_neg (by decide), h127]
            simp [hI]
          · have he := hs j hj10 hb
            rw [if_pos rfl, M_cv h.G, h.sup hj10, bd_some, M_has (by omega), bd_some, bIf, spm_bits h.C hj10 (exC_ex he) i (by omega)]
            cases hst : stB w v j i
            · rw [if_neg (by decide), h127]
              simp [hst]
            · rw [if_pos rfl]
              unfold fX9_looksAt_128
              rw [if_neg (by decide), M_cv h.G, h.own hj10, bd_some, M_cv h.G, h.cand (fun m e => (onS_some e).1), bd_some]
              show (if bI (cB w v nm r y z j) = 0 then _ else _) = _
              rw [bIf]
              cases hc : cB w v nm r y z j
              · rw [if_neg (by decide)]
                refine (nx true).trans ?_
                simp [hc]
              · rw [if_pos rfl]
                refine (nx false).trans ?_
                simp [hji, hb, hI, hst, hc]
theorem M_lk163 (h : Wnt g R I w v nm r x y z) {s0 A B C D : Int32} {i m : Nat} (hm : m < nmb w v) {K : Nat → Int32 → Int32 → Int32 → AH → Option (Unit × AH)} :
    fX9_looksAt_163 K R (nI v) s0 (nI i) (nI m) (bI true) (mm g (lkI I R A B C D) J Z) = K R (nI v) s0 (nI (i + 1)) (mm g (lkI I R (A + nI 1) (if A = 0 then nI m else B) (if abB w v m then C else C + nI 1) (if abB w v m then D else if C = 0 then nI m else D)) J Z) := by
  have h185 : ∀ B', fX9_looksAt_185 K R (nI v) s0 (nI i) (nI m) R B' (mm g (lkI I R A B C D) J Z) = K R (nI v) s0 (nI (i + 1)) (mm g (lkI I R (A + nI 1) B' (if abB w v m then C else C + nI 1) (if abB w v m then D else if C = 0 then nI m else D)) J Z) := by
    intro B'
    unfold fX9_looksAt_185
    rw [pI_m h.G.1, Option.bind_some, lk_u12, gI_m h.G.1, Option.bind_some, lk_11, pI_m h.G.1, Option.bind_some, lk_u11, M_cv h.G, h.lkm.abs hm, bd_some, bIf]
    cases ha : abB w v m
    · rw [if_neg (by decide), gI_m h.G.1, Option.bind_some, lk_13]
      have h225 : ∀ D', fX9_looksAt_225 K R (nI v) s0 (nI i) R D' (mm g (lkI I R (A + nI 1) B' C D) J Z) = K R (nI v) s0 (nI (i + 1)) (mm g (lkI I R (A + nI 1) B' (C + nI 1) D') J Z) := by
        intro D'
        unfold fX9_looksAt_225 fX9_looksAt_238
        rw [pI_m h.G.1, Option.bind_some, lk_u14, gI_m h.G.1, Option.bind_some, lk_13, pI_m h.G.1, Option.bind_some, lk_u13, nI_add]
      by_cases hC : C = 0
      · rw [if_pos hC, h225, if_pos hC]
        rfl
      · rw [if_neg hC, gI_m h.G.1, Option.bind_some, lk_14, h225, if_neg hC]
        rfl
    · rw [if_pos rfl]
      unfold fX9_looksAt_238
      rw [nI_add]
      rfl
  unfold fX9_looksAt_163
  rw [if_neg (by decide), gI_m h.G.1, Option.bind_some, lk_11]
  by_cases hA : A = 0
  · rw [if_pos hA, h185, if_pos hA]
  · rw [if_neg hA, gI_m h.G.1, Option.bind_some, lk_12, h185, if_neg hA]
end Lo

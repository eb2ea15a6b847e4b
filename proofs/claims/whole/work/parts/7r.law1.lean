/-! ===== the law's loop ===== -/
def wrE (e : Nat) (h : AH) : List Nat → Nat → Option (Int32 × AH)
  | [], _ => none
  | a :: l, k => if e = a then some (nI k, h) else wrE e h l (k + 1)
def wr (cj : Int32 → Int64) (es : List Nat) (f : AH → Option ((Nat ⊕ Int32) × AH)) (r : Nat) (h : AH) : Option (Int32 × AH) :=
  bd (f h) fun q h => match q with
    | Sum.inr x => (stJ r (nI 0) (cj x) h).bind fun h => some (nI 0, h)
    | Sum.inl e => wrE e h es 1
def c01 (x : Int32) : Int64 := if x = 0 then 0 else 1
/-- what holds between two rounds -/
def LI (g : Gr) (A b L : Nat) (xs : Nat → Int32) (I : Mem) : Prop := g.1 b = 23 ∧ g.2.1 b = L ∧ b < A ∧ I b = xs ∧ Ok g A I ∧ g.1 (A + 426) = 22 ∧ g.2.1 (A + 426) = 1
def LI' (g : Gr) (b L : Nat) (xs : Nat → Int32) (I : Mem) : Prop := g.1 b = 23 ∧ g.2.1 b = L ∧ I b = xs
section Lw
variable {g : Gr} {A b L i : Nat} {I I' : Mem} {J : Nat → Nat → Int64} {Z : Option Nat} {w xs : Nat → Int32} {n : Nat} {P : Nat → Nat → Int32} {d : Nat → Int32} {x y z x1 x2 x3 x4 x5 : Int32} {fC : AH → Option ((Nat ⊕ Int32) × AH)} {fM : AH → Option (Int32 × AH)} {es : List Nat} {cj : Int32 → Int64}
theorem LI.ld (h : LI g A b L xs I) (hi : i < L) (hL : L ≤ 3072) : ldS b (nI i) (mm g I J Z) = some (xs i) := by
  rw [ldS_m h.1 (by rw [h.2.1]; exact hi) (by omega), h.2.2.2.1]
theorem LI'.ld (h : LI' g b L xs I) (hi : i < L) (hL : L ≤ 3072) : ldS b (nI i) (mm g I J Z) = some (xs i) := by
  rw [ldS_m h.1 (by rw [h.2.1]; exact hi) (by omega), h.2.2]
theorem LI.fr (h : LI g A b L xs I) (hf : ∀ x, x < A → I' x = I x) (ho : Ok g A I') : LI g A b L xs I' := ⟨h.1, h.2.1, h.2.2.1, (hf b h.2.2.1).trans h.2.2.2.1, ho, h.2.2.2.2.2⟩
theorem wrE_at : ∀ (es : List Nat) (i k e : Nat) (h : AH), es.Nodup → es[i]? = some e → wrE e h es k = some (nI (k + i), h) := by
  intro es
  induction es with
  | nil => intro i k e h _ he; cases he
  | cons a l ih =>
    intro i k e h hn he
    cases i with
    | zero =>
      have : a = e := Option.some.inj he
      subst this
      exact if_pos rfl
    | succ i =>
      have he' : l[i]? = some e := he
      have hm : e ∈ l := List.mem_of_getElem? he'
      have hne : ¬ e = a := fun q => (List.nodup_cons.mp hn).1 (q ▸ hm)
      show (if e = a then some (nI k, h) else wrE e h l (k + 1)) = _
      rw [if_neg hne, ih i (k + 1) e h (List.nodup_cons.mp hn).2 he', show k + 1 + i = k + (i + 1) from by omega]
theorem law_ab (hl : LI g A b L xs I) (hn : es.Nodup) (hA : Agr g A I fC fM es) (J : Nat → Nat → Int64) (Z : Option Nat) : ∃ q1 I1 J1 Z1 q2 I2, wr cj es fC (A + 426) (mm g I J Z) = some (q1, mm g I1 J1 Z1) ∧ LI' g b L xs I1 ∧ fM (mm g I1 J1 Z1) = some (q2, mm g I2 J1 Z1) ∧ LI g A b L xs I2 ∧ I2 (A + 418) 3 = q1 ∧ (q1 = 0 → J1 (A + 426) 0 = cj q2) := by
  obtain ⟨q, I1, Z1, e1, f1, e2⟩ := hA J Z
  cases q with
  | inr yv =>
    obtain ⟨q2, I2, m1, m2, m3, m4⟩ := e2 (up2 J (A + 426) 0 (cj yv)) Z1
    refine ⟨nI 0, I1, up2 J (A + 426) 0 (cj yv), Z1, q2, I2, ?_, ⟨hl.1, hl.2.1, (f1 b hl.2.2.1).trans hl.2.2.2.1⟩, m1, hl.fr m2 m3, m4.1, fun _ => ?_⟩
    · unfold wr
      rw [e1, bd_some]
      show (stJ (A + 426) (nI 0) (cj yv) (mm g I1 J Z1)).bind _ = _
      rw [stJ_m hl.2.2.2.2.2.1 (by rw [hl.2.2.2.2.2.2]; omega) (by omega), Option.bind_some]
    · rw [← m4.2]
      exact if_pos ⟨rfl, rfl⟩
  | inl ev =>
    obtain ⟨q2, I2, m1, m2, m3, i, hi, he, hc⟩ := e2 J Z1
    refine ⟨nI (i + 1), I1, J, Z1, q2, I2, ?_, ⟨hl.1, hl.2.1, (f1 b hl.2.2.1).trans hl.2.2.2.1⟩, m1, hl.fr m2 m3, hc, fun q => ?_⟩
    · unfold wr
      rw [e1, bd_some]
      show wrE ev (mm g I1 J Z1) es 1 = _
      rw [wrE_at es i 1 ev _ hn he, show 1 + i = i + 1 from by omega]
    · exact absurd (nI_inj (a := i + 1) (b := 0) (by omega) (by omega) q) (by omega)
theorem M_thr (hG : ModG g (A + 418)) : fX9_thrown (A + 418) (mm g I J Z) = some (I (A + 418) 3, mm g I J Z) := by
  unfold fX9_thrown
  rw [gI_m hG.1, Option.bind_some]
theorem cmp_self (s : Int64) : lg_cmp s s = 0 := by
  unfold lg_cmp
  rw [if_neg (show ¬ s > s from Int64.lt_irrefl), if_pos rfl]
theorem W_removeClass (hJ : JG g A) : fL_removeClass A x1 x2 (A + 426) (mm g I J Z) = wr Int32.toInt64 [1, 3] (fX8_removeClass A x1 x2) (A + 426) (mm g I J Z) := by
  unfold fL_removeClass wr
  rw [hJ.cv]
  congr 1
theorem W_setClass (hJ : JG g A) : fL_setClass A x1 x2 x3 x4 (A + 426) (mm g I J Z) = wr Int32.toInt64 [1, 2, 3] (fX8_setClass A x1 x2 x3 x4) (A + 426) (mm g I J Z) := by
  unfold fL_setClass wr
  rw [hJ.cv]
  congr 1
theorem W_exists (hJ : JG g A) : fL_exists A x1 x2 (A + 426) (mm g I J Z) = wr c01 [1] (fX8_exists A x1 x2) (A + 426) (mm g I J Z) := by
  unfold fL_exists wr
  rw [hJ.cv]
  congr 1
  funext q h
  cases q with
  | inl e => rfl
  | inr xv =>
    show (if xv = 0 then fL_exists_16 (A + 426) (nI 0) 0 h else fL_exists_16 (A + 426) (nI 0) 1 h) = (stJ (A + 426) (nI 0) (c01 xv) h).bind fun h => some (nI 0, h)
    unfold c01 fL_exists_16
    by_cases z : xv = 0
    · rw [if_pos z, if_pos z]
    · rw [if_neg z, if_neg z]
theorem W_classInfo (hJ : JG g A) : fL_classInfo A x1 x2 x3 (A + 426) (mm g I J Z) = wr Int32.toInt64 [1, 2] (fX8_classInfo A x1 x2 x3) (A + 426) (mm g I J Z) := by
  unfold fL_classInfo wr
  rw [hJ.cv]
  congr 1
theorem W_draft (hJ : JG g A) : fL_draft A x1 x2 x3 x4 (A + 426) (mm g I J Z) = wr Int32.toInt64 [2] (fX8_draft A x1 x2 x3 x4) (A + 426) (mm g I J Z) := by
  unfold fL_draft wr
  rw [hJ.cv]
  congr 1
theorem W_addField (hJ : JG g A) : fL_addField A x1 x2 x3 x4 x5 (A + 426) (mm g I J Z) = wr Int32.toInt64 [1, 2, 3] (fX8_addField A x1 x2 x3 x4 x5) (A + 426) (mm g I J Z) := by
  unfold fL_addField wr
  rw [hJ.cv]
  congr 1
theorem W_addMethod (hJ : JG g A) : fL_addMethod A x1 x2 x3 x4 x5 (A + 426) (mm g I J Z) = wr Int32.toInt64 [1, 2, 3] (fX8_addMethod A x1 x2 x3 x4 x5) (A + 426) (mm g I J Z) := by
  unfold fL_addMethod wr
  rw [hJ.cv]
  congr 1
theorem W_removeMember (hJ : JG g A) : fL_removeMember A x1 x2 (A + 426) (mm g I J Z) = wr Int32.toInt64 [1] (fX8_removeMember A x1 x2) (A + 426) (mm g I J Z) := by
  unfold fL_removeMember wr
  rw [hJ.cv]
  congr 1
theorem W_setMember (hJ : JG g A) : fL_setMember A x1 x2 x3 x4 (A + 426) (mm g I J Z) = wr Int32.toInt64 [1, 2] (fX8_setMember A x1 x2 x3 x4) (A + 426) (mm g I J Z) := by
  unfold fL_setMember wr
  rw [hJ.cv]
  congr 1
theorem W_moveMember (hJ : JG g A) : fL_moveMember A x1 x2 x3 (A + 426) (mm g I J Z) = wr Int32.toInt64 [1, 2, 3] (fX8_moveMember A x1 x2 x3) (A + 426) (mm g I J Z) := by
  unfold fL_moveMember wr
  rw [hJ.cv]
  congr 1
theorem W_members (hJ : JG g A) : fL_members A x1 (A + 426) (mm g I J Z) = wr Int32.toInt64 [1] (fX8_members A x1) (A + 426) (mm g I J Z) := by
  unfold fL_members wr
  rw [hJ.cv]
  congr 1
theorem W_memberInfo (hJ : JG g A) : fL_memberInfo A x1 x2 x3 (A + 426) (mm g I J Z) = wr Int32.toInt64 [1, 2] (fX8_memberInfo A x1 x2 x3) (A + 426) (mm g I J Z) := by
  unfold fL_memberInfo wr
  rw [hJ.cv]
  congr 1
theorem W_fits (hJ : JG g A) : fL_fits A x1 x2 x3 (A + 426) (mm g I J Z) = wr c01 [1, 2] (fX8_fits A x1 x2 x3) (A + 426) (mm g I J Z) := by
  unfold fL_fits wr
  rw [hJ.cv]
  congr 1
  funext q h
  cases q with
  | inl e => rfl
  | inr xv =>
    show (if xv = 0 then fL_fits_18 (A + 426) (nI 0) 0 h else fL_fits_18 (A + 426) (nI 0) 1 h) = (stJ (A + 426) (nI 0) (c01 xv) h).bind fun h => some (nI 0, h)
    unfold c01 fL_fits_18
    by_cases z : xv = 0
    · rw [if_pos z, if_pos z]
    · rw [if_neg z, if_neg z]
theorem W_field (hJ : JG g A) : fL_field A x1 x2 x3 (A + 426) (mm g I J Z) = wr Int32.toInt64 [1, 2] (fX8_field A x1 x2 x3) (A + 426) (mm g I J Z) := by
  unfold fL_field wr
  rw [hJ.cv]
  congr 1
theorem W_method (hJ : JG g A) : fL_method A x1 x2 x3 (A + 426) (mm g I J Z) = wr Int32.toInt64 [1, 2] (fX8_method A x1 x2 x3) (A + 426) (mm g I J Z) := by
  unfold fL_method wr
  rw [hJ.cv]
  congr 1
theorem W_selected (hJ : JG g A) : fL_selected A x1 x2 x3 (A + 426) (mm g I J Z) = wr Int32.toInt64 [1, 2] (fX8_selected A x1 x2 x3) (A + 426) (mm g I J Z) := by
  unfold fL_selected wr
  rw [hJ.cv]
  congr 1
theorem W_addClient (hJ : JG g A) : fL_addClient A x1 x2 x3 x4 (A + 426) (mm g I J Z) = wr Int32.toInt64 [2, 3] (fX8_addClient A x1 x2 x3 x4) (A + 426) (mm g I J Z) := by
  unfold fL_addClient wr
  rw [hJ.cv]
  congr 1
theorem W_setBase (hJ : JG g A) : fL_setBase A x1 x2 (A + 426) (mm g I J Z) = wr Int32.toInt64 [1, 2] (fX8_setBase A x1 x2) (A + 426) (mm g I J Z) := by
  unfold fL_setBase wr
  rw [hJ.cv]
  congr 1
theorem W_removeClient (hJ : JG g A) : fL_removeClient A x1 (A + 426) (mm g I J Z) = wr Int32.toInt64 [1] (fX8_removeClient A x1) (A + 426) (mm g I J Z) := by
  unfold fL_removeClient wr
  rw [hJ.cv]
  congr 1
theorem W_clientInfo (hJ : JG g A) : fL_clientInfo A x1 x2 (A + 426) (mm g I J Z) = wr Int32.toInt64 [1, 2] (fX8_clientInfo A x1 x2) (A + 426) (mm g I J Z) := by
  unfold fL_clientInfo wr
  rw [hJ.cv]
  congr 1
theorem W_compile (hJ : JG g A) : fL_compile A x1 x2 (A + 426) (mm g I J Z) = wr Int32.toInt64 [1] (fX8_compile A x1 x2) (A + 426) (mm g I J Z) := by
  unfold fL_compile wr
  rw [hJ.cv]
  congr 1
theorem W_link (hJ : JG g A) : fL_link A x1 x2 (A + 426) (mm g I J Z) = wr Int32.toInt64 [1] (fX8_link A x1 x2) (A + 426) (mm g I J Z) := by
  unfold fL_link wr
  rw [hJ.cv]
  congr 1
theorem W_target (hJ : JG g A) : fL_target A x1 x2 (A + 426) (mm g I J Z) = wr Int32.toInt64 [1] (fX8_target A x1 x2) (A + 426) (mm g I J Z) := by
  unfold fL_target wr
  rw [hJ.cv]
  congr 1
theorem W_verdict (hJ : JG g A) : fL_verdict A x1 (A + 426) (mm g I J Z) = wr Int32.toInt64 [1] (fX8_verdict A x1) (A + 426) (mm g I J Z) := by
  unfold fL_verdict wr
  rw [hJ.cv]
  congr 1
theorem W_count (hJ : JG g A) : fL_count A x1 (A + 426) (mm g I J Z) = wr Int32.toInt64 [2] (fX8_count A x1) (A + 426) (mm g I J Z) := by
  unfold fL_count wr
  rw [hJ.cv]
  congr 1
theorem W_sample (hJ : JG g A) : fL_sample A x1 x2 x3 (A + 426) (mm g I J Z) = wr Int32.toInt64 [2] (fX8_sample A x1 x2 x3) (A + 426) (mm g I J Z) := by
  unfold fL_sample wr
  rw [hJ.cv]
  congr 1
theorem W_undo (hJ : JG g A) : fL_undo A (A + 426) (mm g I J Z) = wr Int32.toInt64 [3] (fX8_undo A) (A + 426) (mm g I J Z) := by
  unfold fL_undo wr
  rw [hJ.cv]
  congr 1
theorem W_define (hJ : JG g A) : fL_define A x1 x2 x3 x4 x5 (A + 426) (mm g I J Z) = wr Int32.toInt64 [1, 2, 3] (fX8_define A x1 x2 x3 x4 x5) (A + 426) (mm g I J Z) := by
  unfold fL_define wr
  rw [hJ.cv]
  congr 1
theorem law_tl {q1 q2 : Int32} {J1 : Nat → Nat → Int64} {Z1 : Option Nat} {I2 : Mem} {K : AH → Option (Int32 × AH)} (hG : ModG g (A + 418)) (h2 : LI g A b L xs I2) (e3 : I2 (A + 418) 3 = q1) (hq : q1 = 0 → J1 (A + 426) 0 = Int32.toInt64 q2) (hK : ∀ I' J' Z', LI g A b L xs I' → ∃ h', K (mm g I' J' Z') = some (1, h')) : ∃ h', (cv 9 (A + 418) (fX9_thrown (A + 418)) (mm g I2 J1 Z1) fun xx h => if xx = q1 then (if q1 = 0 then (ldJ (A + 426) (nI 0) h).bind fun yy => if (lg_cmp yy (Int32.toInt64 q2)) = 0 then K h else rz (nI 0) (nI 0) h else K h) else rz (nI 0) (nI 0) h) = some (1, h') := by
  rw [M_cv hG, M_thr hG, bd_some, if_pos e3]
  by_cases z : q1 = 0
  · rw [if_pos z, ldJ_m h2.2.2.2.2.2.1 (by rw [h2.2.2.2.2.2.2]; omega) (by omega), Option.bind_some, hq z, if_pos (cmp_self _)]
    exact hK _ _ _ h2
  · rw [if_neg z]
    exact hK _ _ _ h2
theorem law_t1 {q1 q2 : Int32} {J1 : Nat → Nat → Int64} {Z1 : Option Nat} {I2 : Mem} {K : AH → Option (Int32 × AH)} {T : Int64 → Int64 → AH → Option (Int32 × AH)} (hT : ∀ a b h, T a b h = if (lg_cmp a b) = 0 then K h else rz (nI 0) (nI 0) h) (hG : ModG g (A + 418)) (h2 : LI g A b L xs I2) (e3 : I2 (A + 418) 3 = q1) (hq : q1 = 0 → J1 (A + 426) 0 = c01 q2) (hK : ∀ I' J' Z', LI g A b L xs I' → ∃ h', K (mm g I' J' Z') = some (1, h')) : ∃ h', (cv 9 (A + 418) (fX9_thrown (A + 418)) (mm g I2 J1 Z1) fun xx h => if xx = q1 then (if q1 = 0 then (ldJ (A + 426) (nI 0) h).bind fun yy => if q2 = 0 then T yy (0 : Int64) h else T yy (1 : Int64) h else K h) else rz (nI 0) (nI 0) h) = some (1, h') := by
  rw [M_cv hG, M_thr hG, bd_some, if_pos e3]
  by_cases z : q1 = 0
  · rw [if_pos z, ldJ_m h2.2.2.2.2.2.1 (by rw [h2.2.2.2.2.2.2]; omega) (by omega), Option.bind_some, hq z]
    unfold c01
    by_cases zz : q2 = 0
    · rw [if_pos zz, if_pos zz, hT, if_pos (cmp_self _)]
      exact hK _ _ _ h2
    · rw [if_neg zz, if_neg zz, hT, if_pos (cmp_self _)]
      exact hK _ _ _ h2
  · rw [if_neg z]
    exact hK _ _ _ h2
theorem lnS_m (h : LI g A b L xs I) : lnS b (mm g I J Z) = some (nI L) := by
  show (if g.1 b = 23 then some (g.2.1 b).toInt32 else none) = _
  rw [if_pos h.1, h.2.1]
  rfl
theorem nI_l6 (hL : L ≤ 3072) (hi : i ≤ 3072) : (nI L - nI 6 < nI i) ↔ L < i + 6 := by
  by_cases h6 : 6 ≤ L
  · rw [pk_sub h6]
    constructor
    · intro q
      by_cases z : L - 6 < i
      · omega
      · exact absurd q (nI_nlt (by omega) (by omega))
    · intro q
      exact nI_lt (by omega) (by omega)
  · refine ⟨fun _ => by omega, fun _ => ?_⟩
    have h0 : nI L - nI 6 < 0 := by
      rcases (by omega : L = 0 ∨ L = 1 ∨ L = 2 ∨ L = 3 ∨ L = 4 ∨ L = 5) with rfl | rfl | rfl | rfl | rfl | rfl <;> decide
    exact Int32.lt_of_lt_of_le h0 (Int32.not_lt.mp (nI_pos (by omega)))
end Lw

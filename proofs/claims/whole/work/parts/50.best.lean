/-! ===== the best of the applicable methods ===== -/
def f2B (w : Nat → Int32) (v m n : Nat) : Bool := fitB w v (mb w v m 7) (mb w v n 7) && fitB w v (mb w v m 8) (mb w v n 8)
/-- m is applicable and fits all that are -/
def beB (w : Nat → Int32) (v : Nat) (A : Nat → Bool) (m : Nat) : Bool := A m && !anyF (fun n => A n && !f2B w v m n) 0 (nmb w v)
/-- what is called, or none -/
def caS (w : Nat → Int32) (v : Nat) (A : Nat → Bool) : Option Nat :=
  if ct (fun m => beB w v A m && !abB w v m) (nmb w v) = 1 then ls (fun m => beB w v A m && !abB w v m) (nmb w v) else fst (beB w v A) 0 (nmb w v)
section Be
variable {g : Gr} {q a p R : Nat} {I I' : Mem} {J : Nat → Nat → Int64} {Z : Option Nat} {w : Nat → Int32} {v m : Nat} {A : Nat → Bool}
theorem C_beL (hQ : CQ g q a p) (h : CB g I a w v) (hm : m < nmb w v) (h3 : I q 3 = nI (ct A (nmb w v))) (hA : ∀ j, j < nmb w v → A j = true → I (q + 2) (ct A j) = nI j) :
    ∀ (d n f : Nat), n + d = nmb w v → d < f → lX1_isBest_10 f q (nI m) (a + 6) (nI (ct A n)) (mm g I J Z) = some (bI (!anyF (fun n => A n && !f2B w v m n) n d), mm g I J Z) := by
  have hn := h.M.n40
  have hcl := ct_le (P := A) (nmb w v)
  intro d
  induction d with
  | zero =>
    intro n f hi hf
    obtain ⟨f, rfl⟩ : ∃ z, f = z + 1 := ⟨f - 1, by omega⟩
    obtain rfl : n = nmb w v := by omega
    show bX1_isBest_10 (lX1_isBest_10 f) q _ _ _ _ = _
    unfold bX1_isBest_10
    rw [hQ.gi, Option.bind_some, h3, if_pos (nI_le (Nat.le_refl _) (by omega)), rz_n1]
    rfl
  | succ d ih =>
    intro n f hi hf
    have hn' : n < nmb w v := by omega
    cases hAn : A n
    · have e : ct A (n + 1) = ct A n := by rw [ct, hAn, if_ff]
      rw [← e, ih (n + 1) f (by omega) (by omega), anyF, hAn]
      rfl
    · have e : ct A (n + 1) = ct A n + 1 := by rw [ct, hAn, if_tt]
      have hlt : ct A n < ct A (nmb w v) := by
        have := ct_mono (P := A) (n := n + 1) (m := nmb w v) (by omega)
        omega
      obtain ⟨f, rfl⟩ : ∃ z, f = z + 1 := ⟨f - 1, by omega⟩
      show bX1_isBest_10 (lX1_isBest_10 f) q _ _ _ _ = _
      unfold bX1_isBest_10
      rw [hQ.gi, Option.bind_some, h3, if_neg (nI_ge hlt (by omega)), hQ.g2, Option.bind_some, hQ.ld (by omega), Option.bind_some, hA n hn' hAn, hQ.g0, Option.bind_some, m_fst h hm, m_fst h hn', CB_cv h, C_fits h.L h.R (h.M.par m hm).t1 (h.M.par n hn').t1, bd_some, bIf, anyF, hAn, Bool.true_and]
      unfold f2B
      cases fitB w v (mb w v m 7) (mb w v n 7)
      · rw [if_ff, rz_n0]
        rfl
      · rw [if_tt, hQ.g0, Option.bind_some, m_snd h hm, m_snd h hn', CB_cv h, C_fits h.L h.R (h.M.par m hm).t2 (h.M.par n hn').t2, bd_some, bIf]
        cases fitB w v (mb w v m 8) (mb w v n 8)
        · rw [if_ff, rz_n0]
          rfl
        · rw [if_tt, nI_add, ← e, ih (n + 1) f (by omega) (by omega)]
          rfl
theorem C_isBest (hQ : CQ g q a p) (h : CB g I a w v) (hm : m < nmb w v) (h3 : I q 3 = nI (ct A (nmb w v))) (hA : ∀ j, j < nmb w v → A j = true → I (q + 2) (ct A j) = nI j) (hAm : A m = true) : fX1_isBest q (nI m) (mm g I J Z) = some (bI (beB w v A m), mm g I J Z) := by
  have hn := h.M.n40
  unfold fX1_isBest beB
  rw [hQ.g0, Option.bind_some, lib_p10 h.L, Option.bind_some, hAm, Bool.true_and]
  exact C_beL hQ h hm h3 hA (nmb w v) 0 fuel (by omega) (by unfold fuel; omega)
theorem fst_suc0 {q : Nat → Bool} {n : Nat} : fst q 0 (n + 1) = orS (fst q 0 n) (if q n then some n else none) := by
  rw [fst_succ, Nat.zero_add]
  cases fst q 0 n <;> rfl
theorem fst_lt {q : Nat → Bool} {n m : Nat} (h : fst q 0 n = some m) : m < n := by have := (fst_some h).2.1; omega
theorem C_bestL (hQ : CQ g q a p) (h : CB g I a w v) (h3 : I q 3 = nI (ct A (nmb w v))) (hA : ∀ j, j < nmb w v → A j = true → I (q + 2) (ct A j) = nI j) :
    ∀ (d n f : Nat), n + d = nmb w v → d < f → lX1_bestApplicable_11 f q (oI (fst (beB w v A) 0 n)) (oI (ls (fun m => beB w v A m && !abB w v m) n)) (nI (ct (fun m => beB w v A m && !abB w v m) n)) (nI (ct A n)) (mm g I J Z) = some (oI (caS w v A), mm g I J Z) := by
  have hn := h.M.n40
  have hcl := ct_le (P := A) (nmb w v)
  intro d
  induction d with
  | zero =>
    intro n f hi hf
    obtain ⟨f, rfl⟩ : ∃ z, f = z + 1 := ⟨f - 1, by omega⟩
    obtain rfl : n = nmb w v := by omega
    have hc2 := ct_le (P := fun m => beB w v A m && !abB w v m) (nmb w v)
    show bX1_bestApplicable_11 (lX1_bestApplicable_11 f) q _ _ _ _ _ = _
    unfold bX1_bestApplicable_11 caS
    rw [hQ.gi, Option.bind_some, h3, if_pos (nI_le (Nat.le_refl _) (by omega))]
    by_cases e : ct (fun m => beB w v A m && !abB w v m) (nmb w v) = 1
    · rw [if_pos (by rw [e]), if_pos e]
    · rw [if_neg (fun z => e ((nI_eq (by omega) (by omega)).mp z)), if_neg e]
  | succ d ih =>
    intro n f hi hf
    have hn' : n < nmb w v := by omega
    cases hAn : A n
    · have e : ct A (n + 1) = ct A n := by rw [ct, hAn, if_ff]
      have hb : beB w v A n = false := by unfold beB; rw [hAn]; rfl
      have e1 : fst (beB w v A) 0 (n + 1) = fst (beB w v A) 0 n := by rw [fst_suc0, hb]; cases fst (beB w v A) 0 n <;> rfl
      have e2 : ls (fun m => beB w v A m && !abB w v m) (n + 1) = ls (fun m => beB w v A m && !abB w v m) n := by rw [ls, hb]; rfl
      have e3 : ct (fun m => beB w v A m && !abB w v m) (n + 1) = ct (fun m => beB w v A m && !abB w v m) n := by rw [ct, hb]; rfl
      have := ih (n + 1) f (by omega) (by omega)
      rw [e, e1, e2, e3] at this
      exact this
    · have e : ct A (n + 1) = ct A n + 1 := by rw [ct, hAn, if_tt]
      have hlt : ct A n < ct A (nmb w v) := by
        have := ct_mono (P := A) (n := n + 1) (m := nmb w v) (by omega)
        omega
      obtain ⟨f, rfl⟩ : ∃ z, f = z + 1 := ⟨f - 1, by omega⟩
      have ih' := ih (n + 1) f (by omega) (by omega)
      rw [e] at ih'
      show bX1_bestApplicable_11 (lX1_bestApplicable_11 f) q _ _ _ _ _ = _
      unfold bX1_bestApplicable_11
      rw [hQ.gi, Option.bind_some, h3, if_neg (nI_ge hlt (by omega)), hQ.g2, Option.bind_some, hQ.ld (by omega), Option.bind_some, hA n hn' hAn, hQ.cv, C_isBest hQ h hn' h3 hA hAn, bd_some, bIf]
      cases hb : beB w v A n
      · have e1 : fst (beB w v A) 0 (n + 1) = fst (beB w v A) 0 n := by rw [fst_suc0, hb]; cases fst (beB w v A) 0 n <;> rfl
        have e2 : ls (fun m => beB w v A m && !abB w v m) (n + 1) = ls (fun m => beB w v A m && !abB w v m) n := by rw [ls, hb]; rfl
        have e3 : ct (fun m => beB w v A m && !abB w v m) (n + 1) = ct (fun m => beB w v A m && !abB w v m) n := by rw [ct, hb]; rfl
        rw [if_ff]
        unfold fX1_bestApplicable_68
        rw [nI_add]
        rw [e1, e2, e3] at ih'
        exact ih'
      · rw [if_tt]
        have h47 : ∀ lo : Int32, lo = oI (fst (beB w v A) 0 (n + 1)) → fX1_bestApplicable_47 (lX1_bestApplicable_11 f) q lo (oI (ls (fun m => beB w v A m && !abB w v m) n)) (nI (ct (fun m => beB w v A m && !abB w v m) n)) (nI (ct A n)) (nI n) (mm g I J Z) = some (oI (caS w v A), mm g I J Z) := by
          intro lo elo
          unfold fX1_bestApplicable_47 fX1_bestApplicable_68
          rw [hQ.g0, Option.bind_some, lib_p10 h.L, Option.bind_some, mem_cv h.L.mem, C_mabs h hn', bd_some, bIf, nI_add, elo]
          cases hab : abB w v n
          · have e2 : ls (fun m => beB w v A m && !abB w v m) (n + 1) = some n := by rw [ls, hb, hab]; rfl
            have e3 : ct (fun m => beB w v A m && !abB w v m) (n + 1) = ct (fun m => beB w v A m && !abB w v m) n + 1 := by rw [ct, hb, hab]; rfl
            rw [if_ff, nI_add]
            rw [e2, e3] at ih'
            exact ih'
          · have e2 : ls (fun m => beB w v A m && !abB w v m) (n + 1) = ls (fun m => beB w v A m && !abB w v m) n := by rw [ls, hb, hab]; rfl
            have e3 : ct (fun m => beB w v A m && !abB w v m) (n + 1) = ct (fun m => beB w v A m && !abB w v m) n := by rw [ct, hb, hab]; rfl
            rw [if_tt]
            rw [e2, e3] at ih'
            exact ih'
        cases hf2 : fst (beB w v A) 0 n with
        | none =>
          show (if (-2 : Int32) = -2 then _ else _) = _
          rw [if_pos rfl]
          exact h47 _ (by rw [fst_suc0, hf2, hb]; rfl)
        | some j =>
          rw [if_neg (oI_ne (by have := fst_lt hf2; omega))]
          exact h47 _ (by rw [fst_suc0, hf2]; rfl)
theorem C_best (hQ : CQ g q a p) (h : CB g I a w v) (h3 : I q 3 = nI (ct A (nmb w v))) (hA : ∀ j, j < nmb w v → A j = true → I (q + 2) (ct A j) = nI j) : fX1_bestApplicable q (mm g I J Z) = some (oI (caS w v A), mm g I J Z) := by
  have hn := h.M.n40
  unfold fX1_bestApplicable
  exact C_bestL hQ h h3 hA (nmb w v) 0 fuel (by omega) (by unfold fuel; omega)
theorem caS_A (h : caS w v A = some m) : m < nmb w v ∧ A m = true := by
  unfold caS at h
  split at h
  · obtain ⟨e1, e2, -⟩ := ls_some h
    simp only [Bool.and_eq_true] at e2
    unfold beB at e2
    simp only [Bool.and_eq_true] at e2
    exact ⟨e1, e2.1.1⟩
  · obtain ⟨-, e1, e2, -⟩ := fst_some h
    unfold beB at e2
    rw [Bool.and_eq_true] at e2
    exact ⟨by omega, e2.1⟩
/-! the reference -/
theorem ModG.ldZ (hG : ModG g R) {k : Nat} (hk : k < 40) : ldZ (R + 7) (nI k) (mm g I J Z) = some (I (R + 7) k) := ldZ_m hG.2.2.2.2.2.2.2.2.2.2.2.2.2.2.1 (by rw [hG.2.2.2.2.2.2.2.2.2.2.2.2.2.2.2]; exact hk) (by omega)
theorem ModG.stZ (hG : ModG g R) {k : Nat} (hk : k < 40) {b : Bool} : stZ (R + 7) (nI k) (bI b) (mm g I J Z) = some (mm g (up2 I (R + 7) k (bI b)) J Z) := stZ_m hG.2.2.2.2.2.2.2.2.2.2.2.2.2.2.1 (by rw [hG.2.2.2.2.2.2.2.2.2.2.2.2.2.2.2]; exact hk) (by omega) (bI_01 b)
theorem ModG.ld6 (hG : ModG g R) {k : Nat} (hk : k < 8) : ldI (R + 6) (nI k) (mm g I J Z) = some (I (R + 6) k) := ldI_m hG.2.2.2.2.2.2.2.2.2.2.2.2.2.1.1 (by rw [hG.2.2.2.2.2.2.2.2.2.2.2.2.2.1.2]; exact hk) (by omega)
theorem ModG.st6 (hG : ModG g R) {k : Nat} (hk : k < 8) {x : Int32} : stI (R + 6) (nI k) x (mm g I J Z) = some (mm g (up2 I (R + 6) k x) J Z) := stI_m hG.2.2.2.2.2.2.2.2.2.2.2.2.2.1.1 (by rw [hG.2.2.2.2.2.2.2.2.2.2.2.2.2.1.2]; exact hk) (by omega)
theorem ModG.st5 (hG : ModG g R) {k : Nat} (hk : k < 16) {x : Int32} : stI (R + 5) (nI k) x (mm g I J Z) = some (mm g (up2 I (R + 5) k x) J Z) := stI_m hG.2.2.2.2.2.2.2.2.2.2.2.2.1.1 (by rw [hG.2.2.2.2.2.2.2.2.2.2.2.2.1.2]; exact hk) (by omega)
end Be

/-! ===== the class: interfaceMethod, selectedAlong, methodFor, isIncomplete ===== -/
section Ci
variable {g : Gr} {a : Nat} {I : Mem} {J : Nat → Nat → Int64} {Z : Option Nat} {w : Nat → Int32} {v q : Nat} {r y z : Int32}
theorem or_bit {x : Int32} {c i : Nat} (hc : c < 32) (hi : i < 32) : bt (x ||| (nI 1 <<< (nI c &&& 31))) i = (bt x i || decide (i = c)) := by
  rw [b_or]
  congr 1
  exact bt_one c hc hi
theorem and_not {x y : Int32} {i : Nat} (hi : i < 32) : bt (x &&& (y ^^^ (-1))) i = (bt x i && !bt y i) := by rw [b_and, b_xor, b_m1 i hi, Bool.xor_true]
def liO (o : Nat → Nat) : Option Nat → Nat
  | none => 10
  | some k => o k
theorem C_im2 (h : CB g I a w v) (hq : q < 8) (hy : Ty y) (hz : Ty z) (hr : Ty r) {low : Bool} {M : Nat → Bool} {mx0 : Int32} (hmx : ∀ i, i < 10 → bt mx0 i = M i) :
    ∀ (d m f : Nat), m + d = nmb w v → d < f → lX2_interfaceMethod_145 f a (dsI (sgI (nI q) y z) r) (bI low) mx0 (oI (mi (ow w v) (fun m => isD w v (nI q) r y z m && M (ow w v m)) m)) (nI (liO (ow w v) (mi (ow w v) (fun m => isD w v (nI q) r y z m && M (ow w v m)) m))) (oI (ls (fun m => isD w v (nI q) r y z m && M (ow w v m) && !abB w v m) m)) (nI (ct (fun m => isD w v (nI q) r y z m && M (ow w v m) && !abB w v m) m)) (nI m) (mm g I J Z)
      = some (oI (if ct (fun m => isD w v (nI q) r y z m && M (ow w v m) && !abB w v m) (nmb w v) = 1 then ls (fun m => isD w v (nI q) r y z m && M (ow w v m) && !abB w v m) (nmb w v) else if low then mi (ow w v) (fun m => isD w v (nI q) r y z m && M (ow w v m)) (nmb w v) else none), mm g I J Z) := by
  have hn := h.M.n40
  intro d
  induction d with
  | zero =>
    intro m f hm hf
    obtain ⟨f, rfl⟩ : ∃ z, f = z + 1 := ⟨f - 1, by omega⟩
    obtain rfl : m = nmb w v := by omega
    show bX2_interfaceMethod_145 (lX2_interfaceMethod_145 f) a _ _ _ _ _ _ _ _ _ = _
    unfold bX2_interfaceMethod_145
    have hct := ct_le (P := fun m => isD w v (nI q) r y z m && M (ow w v m) && !abB w v m) (nmb w v)
    rw [c_size h, if_pos (nI_le (Nat.le_refl _) (by omega))]
    by_cases h1 : ct (fun m => isD w v (nI q) r y z m && M (ow w v m) && !abB w v m) (nmb w v) = 1
    · rw [if_pos (by rw [h1]), if_pos h1]
    · rw [if_neg (fun e => h1 ((nI_eq (by omega) (by omega)).mp e)), if_neg h1, bIf]
      cases low <;> rfl
  | succ d ih =>
    intro m f hm hf
    obtain ⟨f, rfl⟩ : ∃ z, f = z + 1 := ⟨f - 1, by omega⟩
    have hm' : m < nmb w v := by omega
    obtain ⟨o1, o2, o3, o4⟩ := h.M.own m hm'
    have ih' := ih (m + 1) f (by omega) (by omega)
    show bX2_interfaceMethod_145 (lX2_interfaceMethod_145 f) a _ _ _ _ _ _ _ _ _ = _
    unfold bX2_interfaceMethod_145
    rw [c_size h, if_neg (nI_ge hm' (by omega)), c_own h hm', c_dsc h hm']
    have h230 : (isD w v (nI q) r y z m && M (ow w v m)) = false → fX2_interfaceMethod_230 (lX2_interfaceMethod_145 f) a (dsI (sgI (nI q) y z) r) (bI low) mx0 (oI (mi (ow w v) (fun m => isD w v (nI q) r y z m && M (ow w v m)) m)) (nI (liO (ow w v) (mi (ow w v) (fun m => isD w v (nI q) r y z m && M (ow w v m)) m))) (oI (ls (fun m => isD w v (nI q) r y z m && M (ow w v m) && !abB w v m) m)) (nI (ct (fun m => isD w v (nI q) r y z m && M (ow w v m) && !abB w v m) m)) (nI m) (mm g I J Z) = some (oI (if ct (fun m => isD w v (nI q) r y z m && M (ow w v m) && !abB w v m) (nmb w v) = 1 then ls (fun m => isD w v (nI q) r y z m && M (ow w v m) && !abB w v m) (nmb w v) else if low then mi (ow w v) (fun m => isD w v (nI q) r y z m && M (ow w v m)) (nmb w v) else none), mm g I J Z) := by
      intro e
      have e1 : mi (ow w v) (fun m => isD w v (nI q) r y z m && M (ow w v m)) (m + 1) = mi (ow w v) (fun m => isD w v (nI q) r y z m && M (ow w v m)) m := by
        rw [mi]
        cases mi (ow w v) (fun m => isD w v (nI q) r y z m && M (ow w v m)) m <;> simp [e]
      have e2 : ls (fun m => isD w v (nI q) r y z m && M (ow w v m) && !abB w v m) (m + 1) = ls (fun m => isD w v (nI q) r y z m && M (ow w v m) && !abB w v m) m := by
        rw [ls, e, Bool.false_and, if_ff]
      have e3 : ct (fun m => isD w v (nI q) r y z m && M (ow w v m) && !abB w v m) (m + 1) = ct (fun m => isD w v (nI q) r y z m && M (ow w v m) && !abB w v m) m := by
        rw [ct, e, Bool.false_and, if_ff]
      unfold fX2_interfaceMethod_230
      rw [nI_add, ← e1, ← e2, ← e3]
      exact ih'
    cases hD : isD w v (nI q) r y z m
    · rw [if_neg (fun e => by rw [(C_desc h.R h.M hm' hq hy hz hr).mp e] at hD; cases hD)]
      exact h230 (by rw [hD]; rfl)
    · rw [if_pos ((C_desc h.R h.M hm' hq hy hz hr).mpr hD), tst_if (by omega), hmx _ o2]
      cases hM : M (ow w v m)
      · rw [if_ff]
        exact h230 (by rw [hM, Bool.and_false])
      · rw [if_tt]
        -- the least class
        have key : ∀ (lo : Option Nat), lo = mi (ow w v) (fun m => isD w v (nI q) r y z m && M (ow w v m)) (m + 1) → fX2_interfaceMethod_208 (lX2_interfaceMethod_145 f) a (dsI (sgI (nI q) y z) r) (bI low) mx0 (oI lo) (nI (liO (ow w v) lo)) (oI (ls (fun m => isD w v (nI q) r y z m && M (ow w v m) && !abB w v m) m)) (nI (ct (fun m => isD w v (nI q) r y z m && M (ow w v m) && !abB w v m) m)) (nI m) (mm g I J Z) = some (oI (if ct (fun m => isD w v (nI q) r y z m && M (ow w v m) && !abB w v m) (nmb w v) = 1 then ls (fun m => isD w v (nI q) r y z m && M (ow w v m) && !abB w v m) (nmb w v) else if low then mi (ow w v) (fun m => isD w v (nI q) r y z m && M (ow w v m)) (nmb w v) else none), mm g I J Z) := by
          intro lo elo
          unfold fX2_interfaceMethod_208
          rw [c_flg h hm', (flg_if h.M hm').2.2]
          show (if abB w v m = true then _ else _) = _
          unfold fX2_interfaceMethod_230
          cases hab : abB w v m
          · have e2 : ls (fun m => isD w v (nI q) r y z m && M (ow w v m) && !abB w v m) (m + 1) = some m := by rw [ls, hD, hM, hab]; rfl
            have e3 : ct (fun m => isD w v (nI q) r y z m && M (ow w v m) && !abB w v m) (m + 1) = ct (fun m => isD w v (nI q) r y z m && M (ow w v m) && !abB w v m) m + 1 := by rw [ct, hD, hM, hab]; rfl
            rw [if_ff, nI_add, nI_add, ← e3, show (nI m) = oI (ls (fun m => isD w v (nI q) r y z m && M (ow w v m) && !abB w v m) (m + 1)) from by rw [e2]; rfl, elo]
            exact ih'
          · have e2 : ls (fun m => isD w v (nI q) r y z m && M (ow w v m) && !abB w v m) (m + 1) = ls (fun m => isD w v (nI q) r y z m && M (ow w v m) && !abB w v m) m := by rw [ls, hD, hM, hab]; rfl
            have e3 : ct (fun m => isD w v (nI q) r y z m && M (ow w v m) && !abB w v m) (m + 1) = ct (fun m => isD w v (nI q) r y z m && M (ow w v m) && !abB w v m) m := by rw [ct, hD, hM, hab]; rfl
            rw [if_tt, nI_add, ← e2, ← e3, elo]
            exact ih'
        cases hmi : mi (ow w v) (fun m => isD w v (nI q) r y z m && M (ow w v m)) m with
        | none =>
          have e1 : mi (ow w v) (fun m => isD w v (nI q) r y z m && M (ow w v m)) (m + 1) = some m := by rw [mi, hmi]; simp [hD, hM]
          rw [if_neg (show ¬ nI (liO (ow w v) none) ≤ nI (ow w v m) from nI_ge o2 (by show (10 : Nat) < 2 ^ 31; omega))]
          exact key (some m) e1.symm
        | some k =>
          have hk := (h.M.own k (by have := (mi_some hmi).1; omega)).2.1
          by_cases hlt : ow w v m < ow w v k
          · have e1 : mi (ow w v) (fun m => isD w v (nI q) r y z m && M (ow w v m)) (m + 1) = some m := by rw [mi, hmi]; simp [hD, hM, hlt]
            rw [if_neg (show ¬ nI (liO (ow w v) (some k)) ≤ nI (ow w v m) from nI_ge hlt (by show ow w v k < 2 ^ 31; omega))]
            exact key (some m) e1.symm
          · have e1 : mi (ow w v) (fun m => isD w v (nI q) r y z m && M (ow w v m)) (m + 1) = some k := by rw [mi, hmi]; simp [hlt]
            rw [if_pos (show nI (liO (ow w v) (some k)) ≤ nI (ow w v m) from nI_le (by show ow w v k ≤ _; omega) (by omega))]
            exact key (some k) e1.symm
/-- the candidates below m, class by class -/
theorem cd_succ {n : Nat} {o : Nat → Nat} {C S : Nat → Bool} {i : Nat} : cdB (n + 1) o C S i = (cdB n o C S i || (S i && C n && decide (o n = i))) := by
  rw [Bool.eq_iff_iff, Bool.or_eq_true, cdB_iff, cdB_iff]
  simp only [Bool.and_eq_true, decide_eq_true_eq]
  constructor
  · rintro ⟨h1, m, m1, m2, m3⟩
    by_cases e : m = n
    · subst e; exact Or.inr ⟨⟨h1, m2⟩, m3⟩
    · exact Or.inl ⟨h1, m, by omega, m2, m3⟩
  · rintro (⟨h1, m, m1, m2, m3⟩ | ⟨⟨h1, h2⟩, h3⟩)
    · exact ⟨h1, m, by omega, m2, m3⟩
    · exact ⟨h1, n, by omega, h2, h3⟩
theorem C_im1 (h : CB g I a w v) (hq : q < 8) (hy : Ty y) (hz : Ty z) (hr : Ty r) {low : Bool} {am : Int32} :
    ∀ (d m f : Nat) (x4 x5 : Int32), m + d = nmb w v → d < f → (∀ i, i < 32 → bt x4 i = cdB m (ow w v) (cdW w v (nI q) r y z) (bt am) i) → (∀ i, i < 10 → (bt x5 i = true ↔ ∃ k, k < 10 ∧ k ≠ i ∧ cdB m (ow w v) (cdW w v (nI q) r y z) (bt am) k = true ∧ stB w v k i = true)) →
    lX2_interfaceMethod_9 f a (dsI (sgI (nI q) y z) r) am (bI low) x4 x5 (nI m) (mm g I J Z) = some (oI (imW w v (nI q) r y z (bt am) low), mm g I J Z) := by
  have hn := h.M.n40
  intro d
  induction d with
  | zero =>
    intro m f x4 x5 hm hf h4 h5
    obtain ⟨f, rfl⟩ : ∃ z, f = z + 1 := ⟨f - 1, by omega⟩
    obtain rfl : m = nmb w v := by omega
    show bX2_interfaceMethod_9 (lX2_interfaceMethod_9 f) a _ _ _ _ _ _ _ = _
    unfold bX2_interfaceMethod_9
    rw [c_size h, if_pos (nI_le (Nat.le_refl _) (by omega))]
    refine (C_im2 h hq hy hz hr (M := mlW w v (nI q) r y z (bt am)) (fun i hi => ?_) (nmb w v) 0 fuel (by omega) (by unfold fuel; omega)).trans rfl
    rw [and_not (by omega), Bool.eq_iff_iff, Bool.and_eq_true, Bool.not_eq_true', mlB_iff, h4 i (by omega)]
    refine and_congr Iff.rfl ⟨fun e k k1 k2 k3 => ?_, fun e => ?_⟩
    · cases hb : stB w v k i
      · rfl
      · rw [(h5 i hi).mpr ⟨k, k1, k2, k3, hb⟩] at e; cases e
    · cases hb : bt x5 i
      · rfl
      · obtain ⟨k, k1, k2, k3, k4⟩ := (h5 i hi).mp hb
        rw [e k k1 k2 k3] at k4; cases k4
  | succ d ih =>
    intro m f x4 x5 hm hf h4 h5
    obtain ⟨f, rfl⟩ : ∃ z, f = z + 1 := ⟨f - 1, by omega⟩
    have hm' : m < nmb w v := by omega
    obtain ⟨o1, o2, o3, o4⟩ := h.M.own m hm'
    show bX2_interfaceMethod_9 (lX2_interfaceMethod_9 f) a _ _ _ _ _ _ _ = _
    unfold bX2_interfaceMethod_9
    rw [c_size h, if_neg (nI_ge hm' (by omega)), c_own h hm', c_dsc h hm']
    have hno : (bt am (ow w v m) && cdW w v (nI q) r y z m) = false → fX2_interfaceMethod_112 (lX2_interfaceMethod_9 f) a (dsI (sgI (nI q) y z) r) am (bI low) x4 x5 (nI m) (mm g I J Z) = some (oI (imW w v (nI q) r y z (bt am) low), mm g I J Z) := by
      intro e
      have e1 : ∀ i, cdB (m + 1) (ow w v) (cdW w v (nI q) r y z) (bt am) i = cdB m (ow w v) (cdW w v (nI q) r y z) (bt am) i := by
        intro i
        rw [cd_succ]
        by_cases hi : ow w v m = i
        · rw [← hi, e, Bool.false_and, Bool.or_false]
        · rw [decide_eq_false hi, Bool.and_false, Bool.or_false]
      unfold fX2_interfaceMethod_112
      rw [nI_add]
      refine ih (m + 1) f x4 x5 (by omega) (by omega) (fun i hi => by rw [e1]; exact h4 i hi) (fun i hi => ?_)
      rw [h5 i hi]
      simp only [e1]
    cases hD : isD w v (nI q) r y z m
    · rw [if_neg (fun e => by rw [(C_desc h.R h.M hm' hq hy hz hr).mp e] at hD; cases hD)]
      exact hno (by unfold cdW; rw [hD, Bool.false_and, Bool.and_false])
    · rw [if_pos ((C_desc h.R h.M hm' hq hy hz hr).mpr hD), tst_if (by omega)]
      cases ha : bt am (ow w v m)
      · rw [if_ff]
        exact hno (by rw [ha, Bool.false_and])
      · rw [if_tt, c_acc h hm']
        by_cases h3 : mb w v m 3 = 0
        · rw [if_pos h3]
          exact hno (by unfold cdW cnB; rw [decide_eq_true h3]; simp)
        · rw [if_neg h3, c_flg h hm', (flg_if h.M hm').1]
          cases hs : bt (mb w v m 4) 0
          · have hC : cdW w v (nI q) r y z m = true := by unfold cdW cnB; rw [hD, hs, decide_eq_false h3]; rfl
            rw [if_ff, lib_p8 h.L, Option.bind_some, lib_l4 h.L o2, Option.bind_some]
            unfold fX2_interfaceMethod_112
            rw [nI_add]
            have e1 : ∀ i, cdB (m + 1) (ow w v) (cdW w v (nI q) r y z) (bt am) i = (cdB m (ow w v) (cdW w v (nI q) r y z) (bt am) i || decide (i = ow w v m)) := by
              intro i
              rw [cd_succ, hC, Bool.and_true]
              congr 1
              by_cases hi : ow w v m = i
              · rw [← hi, ha, decide_eq_true rfl]; rfl
              · rw [decide_eq_false hi, decide_eq_false (fun e => hi e.symm), Bool.and_false]
            refine ih (m + 1) f _ _ (by omega) (by omega) (fun i hi => ?_) (fun i hi => ?_)
            · rw [or_bit (by omega) hi, h4 i hi, e1]
            · rw [b_or, bt_not1 (by omega) (by omega), h.R.sty _ i o2 (by omega), o4, Bool.true_and, Bool.or_eq_true, h5 i hi]
              simp only [Bool.and_eq_true, Bool.not_eq_true', decide_eq_false_iff_not, e1, Bool.or_eq_true, decide_eq_true_eq]
              constructor
              · rintro (⟨k, k1, k2, k3, k4⟩ | ⟨k1, k2⟩)
                · exact ⟨k, k1, k2, Or.inl k3, k4⟩
                · exact ⟨ow w v m, o2, fun e => k2 e.symm, Or.inr rfl, k1⟩
              · rintro ⟨k, k1, k2, k3 | k3, k4⟩
                · exact Or.inl ⟨k, k1, k2, k3, k4⟩
                · subst k3; exact Or.inr ⟨k4, fun e => k2 e.symm⟩
          · rw [if_tt]
            exact hno (by unfold cdW cnB; rw [hs]; simp)
theorem C_iface (h : CB g I a w v) (hq : q < 8) (hy : Ty y) (hz : Ty z) (hr : Ty r) {low : Bool} {am : Int32} : fX2_interfaceMethod a (dsI (sgI (nI q) y z) r) am (bI low) (mm g I J Z) = some (oI (imW w v (nI q) r y z (bt am) low), mm g I J Z) := by
  have hn := h.M.n40
  unfold fX2_interfaceMethod
  refine C_im1 h hq hy hz hr (nmb w v) 0 fuel _ _ (by omega) (by unfold fuel; omega) (fun i hi => ?_) (fun i hi => ?_)
  · rw [show (nI 0) = 0 from rfl, b_0]
    unfold cdB
    simp
  · rw [show (nI 0) = 0 from rfl, b_0]
    constructor
    · intro e; cases e
    · rintro ⟨k, -, -, k3, -⟩
      obtain ⟨-, m, m1, -⟩ := cdB_iff.mp k3
      omega
end Ci

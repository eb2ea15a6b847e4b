/-! ===== the reference's questions, in the same words ===== -/
theorem WM.ne2 {w : Nat → Int32} {v m : Nat} (hM : WM w v) (hm : m < nmb w v) : m < 2 ^ 31 := by have := hM.n40; omega
theorem int_x (x : Int32) (n : Nat) (hn : n < 2 ^ 31) : (x < 0 ∨ nI n ≤ x) ∨ ∃ j, j < n ∧ x = nI j := by
  rcases pk_ix x hn with h | h | h
  · exact Or.inl (Or.inl h)
  · exact Or.inl (Or.inr h)
  · exact Or.inr h
section Mr
variable {g : Gr} {R : Nat} {I : Mem} {J : Nat → Nat → Int64} {Z : Option Nat} {v c p m n k : Nat} {x y z : Int32}
theorem M_isC (hG : ModG g R) (hv : v < 2) (hc : c < 10) : fX9_isClass R (nI v) (nI c) (mm g I J Z) = some (bI (exC (I (R + 1)) v c), mm g I J Z) := by rw [M_isClass hG hv hc, exC_in hc]
theorem M_its' (hG : ModG g R) (hv : v < 2) (hM : WM (I (R + 1)) v) (hm : m < nmb (I (R + 1)) v) (hp : p < 10) : fX9_its R (nI v) (nI m) (nI p) (mm g I J Z) = some (mb (I (R + 1)) v m p, mm g I J Z) := M_its hG hv (by have := hM.n40; omega) hp
theorem M_fit (hG : ModG g R) (hv : v < 2) (hW : WC (I (R + 1)) v) (hx : Ty x) (hy : Ty y) : fX9_isFit R (nI v) x y (mm g I J Z) = some (bI (fitB (I (R + 1)) v x y), mm g I J Z) := by
  unfold fX9_isFit fitB
  by_cases h : x = y
  · rw [if_pos h, rz_n1, decide_eq_true h, Bool.true_or]
  · rw [if_neg h, decide_eq_false h, Bool.false_or]
    rcases ty_cases hx with h1 | ⟨j, hj, rfl⟩
    · rw [if_pos h1, rz_n0, decide_eq_true h1]
      rfl
    · rw [if_neg (nI_pos (by omega)), decide_eq_false (nI_pos (by omega : j < 2 ^ 31))]
      rcases ty_cases hy with h2 | ⟨k, hk, rfl⟩
      · rw [if_pos h2, rz_n0, decide_eq_true h2]
        rfl
      · rw [if_neg (nI_pos (by omega)), decide_eq_false (nI_pos (by omega : k < 2 ^ 31)), cv_m hG.1, M_isC hG hv hj, bd_some, nI_clamp (by omega), nI_clamp (by omega), bIf]
        simp only [Bool.not_false, Bool.true_and]
        cases he : exC (I (R + 1)) v j
        · rw [if_neg (by decide), rz_n0]
          rfl
        · rw [if_pos rfl, cv_m hG.1, M_isC hG hv hk, bd_some, bIf]
          have hs : exC (I (R + 1)) v k = false → stB (I (R + 1)) v j k = false := by
            intro q
            cases hb : stB (I (R + 1)) v j k
            · rfl
            · have := exC_of hk (stB_le hW j hj (exC_ex he) k hb).2
              rw [q] at this
              cases this
          cases hk2 : exC (I (R + 1)) v k
          · rw [if_neg (by decide), rz_n0, hs hk2]
            rfl
          · rw [if_pos rfl, cv_m hG.1, M_sup hG hv hj, bd_some, M_has (by omega), bd_some, spm_bits hW hj (exC_ex he) k (by omega), bIf, Bool.true_and]
            cases stB (I (R + 1)) v j k
            · rw [if_neg (by decide), rz_n0]
            · rw [if_pos rfl, rz_n1]
theorem ModG.cl (hG : ModG g R) (hk : k < 16) : ldI (R + 5) (nI k) (mm g I J Z) = some (I (R + 5) k) := ldI_m hG.2.2.2.2.2.2.2.2.2.2.2.2.1.1 (by rw [hG.2.2.2.2.2.2.2.2.2.2.2.2.1.2]; exact hk) (by omega)
theorem ModG.p15 (hG : ModG g R) : gP 9 R 15 (mm g I J Z) = some (R + 5) := gP_m hG.1 hG.2.2.2.2.2.1
theorem ModG.p16 (hG : ModG g R) : gP 9 R 16 (mm g I J Z) = some (R + 6) := gP_m hG.1 hG.2.2.2.2.2.2.1
theorem ModG.p17 (hG : ModG g R) : gP 9 R 17 (mm g I J Z) = some (R + 7) := gP_m hG.1 hG.2.2.2.2.2.2.2.1
theorem ModG.p5 (hG : ModG g R) : gP 9 R 5 (mm g I J Z) = some (R + 4) := gP_m hG.1 hG.2.2.2.2.1
theorem ModG.p4 (hG : ModG g R) : gP 9 R 4 (mm g I J Z) = some (R + 3) := gP_m hG.1 hG.2.2.2.1
theorem ModG.p1 (hG : ModG g R) : gP 9 R 1 (mm g I J Z) = some (R + 2) := gP_m hG.1 hG.2.2.1
theorem ModG.p0 (hG : ModG g R) : gP 9 R 0 (mm g I J Z) = some (R + 1) := gP_m hG.1 hG.2.1
theorem M_cv (hG : ModG g R) {ρ γ : Type} {f : AH → Option (ρ × AH)} {K : ρ → AH → Option γ} : cv 9 R f (mm g I J Z) K = bd (f (mm g I J Z)) K := cv_m hG.1
theorem M_opc (hG : ModG g R) (hv : v < 2) (hc : c < 10) : fX9_isOpenClass R (nI v) (nI c) (mm g I J Z) = some (bI (decide (cl (I (R + 1)) v c 5 = nI 1) || decide (cl (I (R + 1)) v c 4 = I (R + 5) 3)), mm g I J Z) := by
  unfold fX9_isOpenClass
  rw [M_cv hG, M_of hG hv hc (by decide), bd_some]
  by_cases h : cl (I (R + 1)) v c 5 = nI 1
  · rw [if_pos h, rz_n1, decide_eq_true h, Bool.true_or]
  · rw [if_neg h, M_cv hG, M_of hG hv hc (by decide), bd_some, hG.p15, Option.bind_some, hG.cl (by decide), Option.bind_some, decide_eq_false h, Bool.false_or]
    by_cases h2 : cl (I (R + 1)) v c 4 = I (R + 5) 3
    · rw [if_pos h2, rz_n1, decide_eq_true h2]
    · rw [if_neg h2, rz_n0, decide_eq_false h2]
theorem M_opm (hG : ModG g R) (hv : v < 2) (hW : WC (I (R + 1)) v) (hM : WM (I (R + 1)) v) (hm : m < nmb (I (R + 1)) v) {b : Nat} (hb : b < 10) (hpb : I (R + 5) 4 = nI b) : fX9_isOpen R (nI v) (nI m) (mm g I J Z) = some (bI (opB (I (R + 1)) v m (I (R + 5) 3) b), mm g I J Z) := by
  obtain ⟨o1, o2, o3, o4⟩ := hM.own m hm
  obtain ⟨ac, ac1, ac2⟩ := hM.acc m hm
  have h43 : ∀ s : Bool, mb (I (R + 1)) v m 3 ≠ nI 3 ∨ s = s → fX9_isOpen_43 R (nI v) (nI (ow (I (R + 1)) v m)) (mb (I (R + 1)) v m 3) (bI s) (mm g I J Z) = some (bI (decide (mb (I (R + 1)) v m 3 = nI 3) || s || (decide (mb (I (R + 1)) v m 3 = nI 2) && exC (I (R + 1)) v b && stB (I (R + 1)) v b (ow (I (R + 1)) v m))), mm g I J Z) := by
    intro s _
    unfold fX9_isOpen_43
    by_cases h3 : mb (I (R + 1)) v m 3 = nI 3
    · rw [if_pos h3, rz_n1, decide_eq_true h3]
      rfl
    · rw [if_neg h3, bIf, decide_eq_false h3]
      cases s
      · rw [if_neg (by decide)]
        by_cases h2 : mb (I (R + 1)) v m 3 = nI 2
        · rw [if_pos h2, hG.p15, Option.bind_some, hG.cl (by decide), Option.bind_some, hpb, M_cv hG, M_isC hG hv hb, bd_some, bIf, decide_eq_true h2]
          cases he : exC (I (R + 1)) v b
          · rw [if_neg (by decide), rz_n0]
            rfl
          · rw [if_pos rfl, hG.p15, Option.bind_some, hG.cl (by decide), Option.bind_some, hpb, M_cv hG, M_sup hG hv hb, bd_some, M_has (by omega), bd_some, bIf, spm_bits hW hb (exC_ex he) _ (by omega)]
            cases stB (I (R + 1)) v b (ow (I (R + 1)) v m)
            · rw [if_neg (by decide), rz_n0]
              rfl
            · rw [if_pos rfl, rz_n1]
              rfl
        · rw [if_neg h2, rz_n0, decide_eq_false h2]
          rfl
      · rw [if_pos rfl, rz_n1]
        rfl
  have h42 := h43 false (Or.inr rfl)
  unfold fX9_isOpen opB
  rw [M_cv hG, M_its' hG hv hM hm (by decide), bd_some, M_cv hG, M_its' hG hv hM hm (by decide), bd_some, o3]
  have ha : (mb (I (R + 1)) v m 3 ≤ 0) ↔ mb (I (R + 1)) v m 3 = 0 := by
    rw [ac2]
    exact (by decide +kernel : ∀ k, k < 4 → (nI k ≤ 0 ↔ nI k = 0)) ac ac1
  by_cases h0 : mb (I (R + 1)) v m 3 = 0
  · rw [if_pos (ha.mpr h0)]
    unfold fX9_isOpen_42
    rw [show (nI 0) = bI false from rfl, h42, decide_eq_true h0]
    rfl
  · rw [if_neg (fun q => h0 (ha.mp q)), M_cv hG, M_of hG hv o2 (by decide), bd_some, hG.p15, Option.bind_some, hG.cl (by decide), Option.bind_some, decide_eq_false h0]
    by_cases h : cl (I (R + 1)) v (ow (I (R + 1)) v m) 4 = I (R + 5) 3
    · rw [if_pos h, show (nI 1) = bI true from rfl, h43 true (Or.inr rfl), decide_eq_true h]
      rfl
    · rw [if_neg h]
      unfold fX9_isOpen_42
      rw [show (nI 0) = bI false from rfl, h42, decide_eq_false h]
      rfl
end Mr

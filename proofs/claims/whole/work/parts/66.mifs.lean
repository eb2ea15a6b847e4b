/-! ===== the reference: areInterfaces ===== -/
section Mi
variable {g : Gr} {R : Nat} {I : Mem} {J : Nat → Nat → Int64} {Z : Option Nat} {w : Nat → Int32} {v c : Nat} {x : Int32}
theorem M_ifsL (h : Mb g R I w v) (hc : c < 10) : ∀ (d i f : Nat) (s : Bool), i + d = c → d < f → lX9_areInterfaces_20 f R (nI v) (nI c) x (bI s) (nI i) (mm g I J Z) = some (bI (s && !anyF (fun j => bt x j && !(exC w v j && itB w v j)) i d), mm g I J Z) := by
  intro d
  induction d with
  | zero =>
    intro i f s hi hf
    obtain ⟨f, rfl⟩ : ∃ z, f = z + 1 := ⟨f - 1, by omega⟩
    show bX9_areInterfaces_20 (lX9_areInterfaces_20 f) R _ _ _ _ _ _ = _
    unfold bX9_areInterfaces_20
    rw [if_pos (nI_le (by omega) (by omega)), rz_bI]
    simp [anyF]
  | succ d ih =>
    intro i f s hi hf
    obtain ⟨f, rfl⟩ : ∃ z, f = z + 1 := ⟨f - 1, by omega⟩
    show bX9_areInterfaces_20 (lX9_areInterfaces_20 f) R _ _ _ _ _ _ = _
    unfold bX9_areInterfaces_20
    rw [if_neg (nI_ge (by omega) (by omega)), rz_bI, bIf]
    cases s
    · rw [if_ff, Bool.false_and]
    · have h65 : ∀ s1 : Bool, fX9_areInterfaces_65 (lX9_areInterfaces_20 f) R (nI v) (nI c) x (nI i) (bI s1) (mm g I J Z) = some (bI (s1 && !anyF (fun j => bt x j && !(exC w v j && itB w v j)) (i + 1) d), mm g I J Z) := by
        intro s1
        unfold fX9_areInterfaces_65
        rw [nI_add]
        exact ih (i + 1) f s1 (by omega) (by omega)
      have h64 : fX9_areInterfaces_64 (lX9_areInterfaces_20 f) R (nI v) (nI c) x (nI i) (mm g I J Z) = some (bI false, mm g I J Z) := by
        unfold fX9_areInterfaces_64
        exact h65 false
      rw [if_tt, M_has (by omega), bd_some, bIf, anyF]
      cases hb : bt x i
      · rw [if_ff]
        refine (h65 true).trans ?_
        rfl
      · rw [if_tt, h.cv, h.isC (by omega), bd_some, bIf]
        cases he : exC w v i
        · rw [if_ff, h64]; rfl
        · rw [if_tt, h.cv, h.itf (by omega), bd_some, bIf]
          cases hi2 : itB w v i
          · rw [if_ff, h64]; rfl
          · rw [if_tt]
            refine (h65 true).trans ?_
            rfl
theorem M_ifs (h : Mb g R I w v) (hc : c < 10) : fX9_areInterfaces R (nI v) (nI c) x (mm g I J Z) = some (bI (ifsB w v c x), mm g I J Z) := by
  have hl : ∀ s : Bool, lX9_areInterfaces_20 fuel R (nI v) (nI c) x (bI s) (nI 0) (mm g I J Z) = some (bI (s && !anyF (fun j => bt x j && !(exC w v j && itB w v j)) 0 c), mm g I J Z) := fun s => M_ifsL h hc c 0 fuel s (by omega) (by unfold fuel; omega)
  have h14 : ifsB w v c x = false → fX9_areInterfaces_14 R (nI v) (nI c) x (mm g I J Z) = some (bI (ifsB w v c x), mm g I J Z) := by
    intro e
    unfold fX9_areInterfaces_14 fX9_areInterfaces_15
    rw [show (nI 0) = bI false from rfl] at hl ⊢
    rw [hl false, e, Bool.false_and]
  unfold fX9_areInterfaces
  by_cases h0 : x < 0
  · rw [if_pos h0]
    refine h14 ?_
    cases hb : ifsB w v c x
    · rfl
    · have := (ifsB_iff.mp hb) 31 (by omega) ((neg_bit x).mp h0)
      omega
  · have h31 : bt x 31 = false := by
      cases hb : bt x 31
      · rfl
      · exact absurd ((neg_bit x).mpr hb) h0
    have hz : (x >>> (nI c &&& 31)) = 0 ↔ ∀ j, c ≤ j → j < 32 → bt x j = false := by
      rw [zero_bits]
      constructor
      · intro q j h1 h2
        have := q (j - c) (by omega)
        rw [b_sshr c (by omega) x (by omega), if_pos (by omega), show c + (j - c) = j from by omega] at this
        exact this
      · intro q j hj
        rw [b_sshr c (by omega) x hj]
        by_cases hcj : c + j < 32
        · rw [if_pos hcj]; exact q _ (by omega) hcj
        · rw [if_neg hcj]; exact h31
    rw [if_neg h0]
    by_cases hs : (x >>> (nI c &&& 31)) = 0
    · rw [if_pos hs]
      unfold fX9_areInterfaces_15
      refine (hl true).trans ?_
      have hq := hz.mp hs
      rw [Bool.true_and]
      have : (!anyF (fun j => bt x j && !(exC w v j && itB w v j)) 0 c) = ifsB w v c x := by
        rw [Bool.eq_iff_iff, ifsB_iff, Bool.not_eq_true']
        constructor
        · intro e j hj hb
          have hjc : j < c := by
            apply Nat.lt_of_not_le
            intro q
            rw [hq j q hj] at hb; cases hb
          cases hx : (exC w v j && itB w v j)
          · have : anyF (fun j => bt x j && !(exC w v j && itB w v j)) 0 c = true := anyF_iff.mpr ⟨j, by omega, by omega, by rw [hb, hx]; rfl⟩
            rw [e] at this; cases this
          · rw [Bool.and_eq_true] at hx
            exact ⟨hjc, hx.1, hx.2⟩
        · intro e
          cases hx : anyF (fun j => bt x j && !(exC w v j && itB w v j)) 0 c
          · rfl
          · obtain ⟨j, -, j2, j3⟩ := anyF_iff.mp hx
            rw [Bool.and_eq_true] at j3
            obtain ⟨e1, e2, e3⟩ := e j (by omega) j3.1
            rw [e2, e3] at j3
            exact absurd j3.2 (by decide)
      rw [this]
    · rw [if_neg hs]
      refine h14 ?_
      cases hb : ifsB w v c x
      · rfl
      · exfalso
        apply hs
        refine hz.mpr (fun j h1 h2 => ?_)
        cases hbj : bt x j
        · rfl
        · have := (ifsB_iff.mp hb) j h2 hbj
          omega
end Mi

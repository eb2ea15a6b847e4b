/-! ===== what may stand where ===== -/
theorem neg_bit (x : Int32) : x < 0 ↔ bt x 31 = true := by
  rw [Int32.lt_iff_toInt_lt]
  show x.toBitVec.toInt < 0 ↔ x.toBitVec.getLsbD 31 = true
  have h := BitVec.msb_eq_toInt (x := x.toBitVec)
  rw [BitVec.msb_eq_getLsbD_last] at h
  rw [show x.toBitVec.getLsbD 31 = x.toBitVec.getLsbD (32 - 1) from rfl, h]
  simp
theorem zero_bits {x : Int32} : x = 0 ↔ ∀ j, j < 32 → bt x j = false := by
  constructor
  · rintro rfl j _; exact b_0 j
  · intro h
    apply b_ext
    intro j hj
    rw [h j hj, b_0]
def supN (w : Nat → Int32) (v c s : Nat) : Bool := decide (s < c) && exC w v s && !itB w v s && !decide (cl w v s 6 = nI 1)
/-- a set of interfaces for class c -/
def ifsB (w : Nat → Int32) (v c : Nat) (x : Int32) : Bool := !anyF (fun j => bt x j && !(decide (j < c) && exC w v j && itB w v j)) 0 32
def alF (w : Nat → Int32) (v c : Nat) (ac fl : Int32) : Bool := !decide (fl < 0) && decide (fl ≤ nI 3) && (!itB w v c || (decide (ac = nI 3) && decide (fl = nI 3)))
def alM (w : Nat → Int32) (v c : Nat) (ac fl : Int32) : Bool := !decide (fl < 0) && decide (fl ≤ nI 7) && (!bt fl 2 || (decide (fl = nI 4) && !decide (ac = 0) && decide (cl w v c 7 = nI 1))) && (!itB w v c || (decide (ac = nI 3) && !bt fl 1))
section My
variable {g : Gr} {R a : Nat} {I : Mem} {J : Nat → Nat → Int64} {Z : Option Nat} {w : Nat → Int32} {v c s : Nat} {x y : Int32}
theorem C_sup (h : CB g I a w v) (hc : c < 10) (hs : s < 10) : fX2_canHaveSuperclass a (nI c) (nI s) (mm g I J Z) = some (bI (supN w v c s), mm g I J Z) := by
  unfold fX2_canHaveSuperclass supN
  by_cases hlt : s < c
  · rw [if_neg (nI_ge hlt (by omega)), decide_eq_true hlt, CB_cv h, C_isThere h.L h.R hs, bd_some, bIf]
    cases he : exC w v s
    · rw [if_ff, rz_n0]; rfl
    · rw [if_tt, CB_cv h, C_isI h.L h.R hs, bd_some, he, Bool.true_and, bIf]
      cases itB w v s
      · rw [if_ff, CB_cv h, C_isFinal h.L h.R hs, bd_some, he, Bool.true_and, bIf]
        cases decide (cl w v s 6 = nI 1)
        · rw [if_ff, rz_n1]; rfl
        · rw [if_tt, rz_n0]; rfl
      · rw [if_tt, rz_n0]; rfl
  · rw [if_pos (nI_le (by omega) (by omega)), rz_n0, decide_eq_false hlt]; rfl
theorem C_supX (h : CB g I a w v) (hx : x < 0 ∨ nI 10 ≤ x) : fX2_canHaveSuperclass a (nI c) x (mm g I J Z) = some (bI false, mm g I J Z) := by
  unfold fX2_canHaveSuperclass
  by_cases q : nI c ≤ x
  · rw [if_pos q, rz_n0]
  · rw [if_neg q, CB_cv h, C_isThereX hx, bd_some, bIf, if_ff, rz_n0]
theorem M_may (h : Mb g R I w v) (hc : c < 10) (hs : s < 10) : fX9_mayBeAbove R (nI v) (nI c) (nI s) (mm g I J Z) = some (bI (supN w v c s), mm g I J Z) := by
  unfold fX9_mayBeAbove supN
  by_cases hlt : s < c
  · rw [if_neg (nI_ge hlt (by omega)), decide_eq_true hlt, h.cv, h.isC hs, bd_some, bIf]
    cases he : exC w v s
    · rw [if_ff, rz_n0]; rfl
    · rw [if_tt, h.cv, h.itf hs, bd_some, bIf]
      cases itB w v s
      · rw [if_ff, h.cv, h.of hs (by decide), bd_some]
        rcases (h.C.f67 he).1 with e | e
        · rw [e, if_pos nI_0, rz_n1]; rfl
        · rw [e, if_neg (by decide), rz_n0]; rfl
      · rw [if_tt, rz_n0]; rfl
  · rw [if_pos (nI_le (by omega) (by omega)), rz_n0, decide_eq_false hlt]; rfl
theorem M_mayX (h : Mb g R I w v) (hx : x < 0 ∨ nI 10 ≤ x) : fX9_mayBeAbove R (nI v) (nI c) x (mm g I J Z) = some (bI false, mm g I J Z) := by
  unfold fX9_mayBeAbove
  by_cases q : nI c ≤ x
  · rw [if_pos q, rz_n0]
  · rw [if_neg q, h.cv, M_isClassC h.G h.v2 hx, bd_some, bIf, if_ff, rz_n0]
theorem ifsB_iff : ifsB w v c x = true ↔ ∀ j, j < 32 → bt x j = true → j < c ∧ exC w v j = true ∧ itB w v j = true := by
  unfold ifsB
  rw [Bool.not_eq_true']
  constructor
  · intro h j hj hb
    cases hq : (decide (j < c) && exC w v j && itB w v j)
    · have : anyF (fun j => bt x j && !(decide (j < c) && exC w v j && itB w v j)) 0 32 = true := anyF_iff.mpr ⟨j, by omega, by omega, by rw [hb, hq]; rfl⟩
      rw [h] at this; cases this
    · simp only [Bool.and_eq_true, decide_eq_true_eq] at hq
      exact ⟨hq.1.1, hq.1.2, hq.2⟩
  · intro h
    cases hq : anyF (fun j => bt x j && !(decide (j < c) && exC w v j && itB w v j)) 0 32
    · rfl
    · obtain ⟨j, -, j2, j3⟩ := anyF_iff.mp hq
      rw [Bool.and_eq_true] at j3
      obtain ⟨e1, e2, e3⟩ := h j (by omega) j3.1
      rw [decide_eq_true e1, e2, e3] at j3
      exact absurd j3.2 (by decide)
theorem C_ifs (h : CB g I a w v) (hc : c < 10) : fX2_canHaveInterfaces a (nI c) x (mm g I J Z) = some (bI (ifsB w v c x), mm g I J Z) := by
  unfold fX2_canHaveInterfaces
  rw [lib_g1 h.L, Option.bind_some]
  have hm : ∀ j, j < 32 → bt ((nI 1 <<< (nI c &&& 31)) - nI 1) j = decide (j < c) := fun j hj => (by decide +kernel : ∀ c, c < 10 → ∀ j, j < 32 → bt ((nI 1 <<< (nI c &&& 31)) - nI 1) j = decide (j < c)) c hc j hj
  have hz : (x &&& ((I a 1 &&& ((nI 1 <<< (nI c &&& 31)) - nI 1)) ^^^ (-1))) = 0 ↔ ifsB w v c x = true := by
    rw [zero_bits, ifsB_iff]
    constructor
    · intro q j hj hb
      have := q j hj
      rw [and_not hj, b_and, hm j hj, h.R.ifc j hj, hb, Bool.true_and, Bool.not_eq_false'] at this
      simp only [Bool.and_eq_true, decide_eq_true_eq] at this
      exact ⟨this.2, this.1.1, this.1.2⟩
    · intro q j hj
      rw [and_not hj, b_and, hm j hj, h.R.ifc j hj]
      cases hb : bt x j
      · rfl
      · obtain ⟨e1, e2, e3⟩ := q j hj hb
        rw [e2, e3, decide_eq_true e1]
        rfl
  cases hb : ifsB w v c x
  · rw [if_neg (fun q => by rw [hz.mp q] at hb; cases hb), rz_n0]
  · rw [if_pos (hz.mpr hb), rz_n1]
theorem C_alF (h : CB g I a w v) (he : exC w v c = true) : fX2_allowsField a (nI c) x y (mm g I J Z) = some (bI (alF w v c x y), mm g I J Z) := by
  unfold fX2_allowsField alF
  by_cases h0 : y < 0
  · rw [if_pos h0, rz_n0, decide_eq_true h0]; rfl
  · rw [if_neg h0, decide_eq_false h0]
    by_cases h3 : nI 3 < y
    · rw [if_pos h3, rz_n0, decide_eq_false (Int32.not_le.mpr h3)]; rfl
    · rw [if_neg h3, decide_eq_true (Int32.not_lt.mp h3), CB_cv h, C_isI h.L h.R (exC_lt he), bd_some, he, Bool.true_and, bIf]
      cases itB w v c
      · rw [if_ff, rz_n1]; rfl
      · rw [if_tt]
        by_cases hx : x = nI 3
        · rw [if_pos hx, decide_eq_true hx]
          by_cases hy : y = nI 3
          · rw [if_pos hy, rz_n1, decide_eq_true hy]; rfl
          · rw [if_neg hy, rz_n0, decide_eq_false hy]; rfl
        · rw [if_neg hx, rz_n0, decide_eq_false hx]; rfl
end My

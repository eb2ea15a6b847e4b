/-! ===== classes: who needs a class; put and take ===== -/
def sup1 (w : Nat → Int32) (v c k : Nat) : Bool := exC w v k && decide (cl w v k 2 = nI c)
def sup2 (w : Nat → Int32) (v c k : Nat) : Bool := exC w v k && bt (cl w v k 3) c
def spB (w : Nat → Int32) (v c : Nat) : Bool := anyF (sup1 w v c) 1 9
def siB (w : Nat → Int32) (v c : Nat) : Bool := anyF (sup2 w v c) 1 9
def haB (w : Nat → Int32) (v c : Nat) : Bool := anyF (fun m => decide (ow w v m = c) && abB w v m) 0 (nmb w v)
section Cls
variable {g : Gr} {A R a b : Nat} {I I' : Mem} {J : Nat → Nat → Int64} {Z : Option Nat} {w w' : Nat → Int32} {n k v c m q p : Nat} {P : Nat → Nat → Int32} {d : Nat → Int32} {x y z u : Int32}
theorem any_tail {p : Nat → Bool} (hc : c < 10) (h0 : ∀ k, 1 ≤ k → k ≤ c → p k = false) : anyF p (c + 1) (9 - c) = anyF p 1 9 := by
  refine Bool.eq_iff_iff.mpr ?_
  rw [anyF_iff, anyF_iff]
  constructor
  · rintro ⟨k, k1, k2, k3⟩
    exact ⟨k, by omega, by omega, k3⟩
  · rintro ⟨k, k1, k2, k3⟩
    by_cases q : k ≤ c
    · rw [h0 k k1 q] at k3; cases k3
    · exact ⟨k, by omega, by omega, k3⟩
theorem sup1_lo (hW : WC w v) (hc : c < 10) {k : Nat} (h1 : 1 ≤ k) (h2 : k ≤ c) : sup1 w v c k = false := by
  unfold sup1
  cases he : exC w v k
  · rfl
  · obtain ⟨a1, a2, a3, a4⟩ := hW.spx (by omega) he
    rw [a2, decide_eq_false (fun e => by have := nI_inj (by omega) (by omega) e; omega)]
    rfl
theorem sup2_lo (hW : WC w v) (hc : c < 10) {k : Nat} (h1 : 1 ≤ k) (h2 : k ≤ c) : sup2 w v c k = false := by
  unfold sup2
  cases he : exC w v k
  · rfl
  · cases hb : bt (cl w v k 3) c
    · rfl
    · have := (hW.2.2 k h1 (exC_lt he) (exC_ex he)).2.2.1 c (by omega) hb
      omega
theorem C_spL (h : CB g I a w v) (hc : c < 10) : ∀ (e k f : Nat), k + e = 10 → e < f → lX2_isSuperclass_4 f a (nI c) (nI k) (mm g I J Z) = some (bI (anyF (sup1 w v c) k e), mm g I J Z) := by
  intro e
  induction e with
  | zero =>
    intro k f hi hf
    obtain ⟨f, rfl⟩ : ∃ z, f = z + 1 := ⟨f - 1, by omega⟩
    show bX2_isSuperclass_4 (lX2_isSuperclass_4 f) _ _ _ _ = _
    unfold bX2_isSuperclass_4
    rw [if_pos (nI_le (by omega) (by omega)), anyF]
    exact rz_n0 _
  | succ e ih =>
    intro k f hi hf
    obtain ⟨f, rfl⟩ : ∃ z, f = z + 1 := ⟨f - 1, by omega⟩
    have nx := ih (k + 1) f (by omega) (by omega)
    show bX2_isSuperclass_4 (lX2_isSuperclass_4 f) _ _ _ _ = _
    unfold bX2_isSuperclass_4 fX2_isSuperclass_30
    rw [if_neg (nI_ge (by omega) (by omega)), lib_cv h.L, C_isThere h.L h.R (by omega), bd_some, bIf, nI_add, anyF]
    unfold sup1
    cases he : exC w v k
    · rw [if_ff, Bool.false_and, Bool.false_or]; exact nx
    · rw [if_tt, Bool.true_and, lib_p6 h.L, Option.bind_some, lib_l2 h.L (by omega), Option.bind_some, h.R.sup k he]
      by_cases q : cl w v k 2 = nI c
      · rw [if_pos q, decide_eq_true q, Bool.true_or]; exact rz_n1 _
      · rw [if_neg q, decide_eq_false q, Bool.false_or]; exact nx
theorem C_isSup (h : CB g I a w v) (hc : c < 10) : fX2_isSuperclass a (nI c) (mm g I J Z) = some (bI (spB w v c), mm g I J Z) := by
  unfold fX2_isSuperclass spB
  rw [nI_add, ← any_tail hc (fun k h1 h2 => sup1_lo h.C hc h1 h2)]
  exact C_spL h hc (9 - c) (c + 1) fuel (by omega) (by unfold fuel; omega)
theorem C_siL (h : CB g I a w v) (hc : c < 10) : ∀ (e k f : Nat), k + e = 10 → e < f → lX2_isSuperinterface_4 f a (nI c) (nI k) (mm g I J Z) = some (bI (anyF (sup2 w v c) k e), mm g I J Z) := by
  intro e
  induction e with
  | zero =>
    intro k f hi hf
    obtain ⟨f, rfl⟩ : ∃ z, f = z + 1 := ⟨f - 1, by omega⟩
    show bX2_isSuperinterface_4 (lX2_isSuperinterface_4 f) _ _ _ _ = _
    unfold bX2_isSuperinterface_4
    rw [if_pos (nI_le (by omega) (by omega)), anyF]
    exact rz_n0 _
  | succ e ih =>
    intro k f hi hf
    obtain ⟨f, rfl⟩ : ∃ z, f = z + 1 := ⟨f - 1, by omega⟩
    have nx := ih (k + 1) f (by omega) (by omega)
    show bX2_isSuperinterface_4 (lX2_isSuperinterface_4 f) _ _ _ _ = _
    unfold bX2_isSuperinterface_4 fX2_isSuperinterface_33
    rw [if_neg (nI_ge (by omega) (by omega)), lib_cv h.L, C_isThere h.L h.R (by omega), bd_some, bIf, nI_add, anyF]
    unfold sup2
    cases he : exC w v k
    · rw [if_ff, Bool.false_and, Bool.false_or]; exact nx
    · rw [if_tt, Bool.true_and, lib_p7 h.L, Option.bind_some, lib_l3 h.L (by omega), Option.bind_some, h.R.itf k he, tst_if (by omega)]
      cases bt (cl w v k 3) c
      · rw [if_ff, Bool.false_or]; exact nx
      · rw [if_tt, Bool.true_or]; exact rz_n1 _
theorem C_isSupI (h : CB g I a w v) (hc : c < 10) : fX2_isSuperinterface a (nI c) (mm g I J Z) = some (bI (siB w v c), mm g I J Z) := by
  unfold fX2_isSuperinterface siB
  rw [nI_add, ← any_tail hc (fun k h1 h2 => sup2_lo h.C hc h1 h2)]
  exact C_siL h hc (9 - c) (c + 1) fuel (by omega) (by unfold fuel; omega)
theorem C_haL (h : CB g I a w v) (hc : c < 10) : ∀ (e m f : Nat), m + e = nmb w v → e < f → lX4_hasAbstract_2 f (a + 6) (nI c) (nI m) (mm g I J Z) = some (bI (anyF (fun m => decide (ow w v m = c) && abB w v m) m e), mm g I J Z) := by
  have hn := h.M.n40
  intro e
  induction e with
  | zero =>
    intro m f hi hf
    obtain ⟨f, rfl⟩ : ∃ z, f = z + 1 := ⟨f - 1, by omega⟩
    show bX4_hasAbstract_2 (lX4_hasAbstract_2 f) _ _ _ _ = _
    unfold bX4_hasAbstract_2
    rw [C_size h.L h.R h.M, Option.bind_some, if_pos (nI_le (by omega) (by omega)), anyF]
    exact rz_n0 _
  | succ e ih =>
    intro m f hi hf
    obtain ⟨f, rfl⟩ : ∃ z, f = z + 1 := ⟨f - 1, by omega⟩
    have hm : m < nmb w v := by omega
    obtain ⟨o1, o2, o3, o4⟩ := h.M.own m hm
    have nx := ih (m + 1) f (by omega) (by omega)
    show bX4_hasAbstract_2 (lX4_hasAbstract_2 f) _ _ _ _ = _
    unfold bX4_hasAbstract_2 fX4_hasAbstract_30
    rw [C_size h.L h.R h.M, Option.bind_some, if_neg (nI_ge (by omega) (by omega)), mem_p5 h.L.mem, Option.bind_some, mem_l5 h.L.mem (h.M.m40 hm), Option.bind_some, h.R.own m hm, o3, nI_add, anyF]
    by_cases q1 : ow w v m = c
    · rw [if_pos (by rw [q1]), decide_eq_true q1, Bool.true_and, mem_cv h.L.mem, C_mabs h hm, bd_some, bIf]
      cases abB w v m
      · rw [if_ff, Bool.false_or]; exact nx
      · rw [if_tt, Bool.true_or]; exact rz_n1 _
    · rw [if_neg (fun q => q1 (nI_inj (by omega) (by omega) q)), decide_eq_false q1, Bool.false_and, Bool.false_or]; exact nx
theorem C_hasA (h : CB g I a w v) (hc : c < 10) : fX4_hasAbstract (a + 6) (nI c) (mm g I J Z) = some (bI (haB w v c), mm g I J Z) := by
  have := h.M.n40
  unfold fX4_hasAbstract
  exact C_haL h hc (nmb w v) 0 fuel (by omega) (by unfold fuel; omega)
/-! the reference -/
theorem ex1 (hc : c < 10) {α : Type} {X Y : α} : (if cl w v c 0 = nI 1 then X else Y) = if exC w v c = true then X else Y := by
  by_cases e : cl w v c 0 = nI 1
  · rw [if_pos e, if_pos (exC_of hc e)]
  · rw [if_neg e, if_neg (fun q => e (exC_ex q))]
theorem M_spL (h : Mb g R I w v) (hc : c < 10) : ∀ (e k f : Nat) (s : Bool), k + e = 10 → e < f → lX9_isAbove_5 f R (nI v) (nI c) (bI s) (nI k) (mm g I J Z) = some (bI (s || anyF (sup1 w v c) k e), mm g I J Z) := by
  intro e
  induction e with
  | zero =>
    intro k f s hi hf
    obtain ⟨f, rfl⟩ : ∃ z, f = z + 1 := ⟨f - 1, by omega⟩
    show bX9_isAbove_5 (lX9_isAbove_5 f) _ _ _ _ _ _ = _
    unfold bX9_isAbove_5
    rw [if_pos (nI_le (by omega) (by omega)), anyF, Bool.or_false, rz_bI]
  | succ e ih =>
    intro k f s hi hf
    obtain ⟨f, rfl⟩ : ∃ z, f = z + 1 := ⟨f - 1, by omega⟩
    have n0 := ih (k + 1) f false (by omega) (by omega)
    have n1 := ih (k + 1) f true (by omega) (by omega)
    rw [bf0, Bool.false_or] at n0
    rw [bt1, Bool.true_or] at n1
    show bX9_isAbove_5 (lX9_isAbove_5 f) _ _ _ _ _ _ = _
    unfold bX9_isAbove_5 fX9_isAbove_44 fX9_isAbove_45
    rw [if_neg (nI_ge (by omega) (by omega)), bIf, nI_add, anyF]
    cases s
    · rw [if_ff, Bool.false_or, h.cv, h.of (by omega) (by decide), bd_some, ex1 (by omega)]
      unfold sup1
      cases he : exC w v k
      · rw [if_ff, Bool.false_and, Bool.false_or, n0]; rfl
      · rw [if_tt, Bool.true_and, h.cv, h.of (by omega) (by decide), bd_some]
        by_cases q : cl w v k 2 = nI c
        · rw [if_pos q, decide_eq_true q, Bool.true_or, n1]
        · rw [if_neg q, decide_eq_false q, Bool.false_or, n0]; rfl
    · rw [if_tt, Bool.true_or, n1]
theorem M_isAb (h : Mb g R I w v) (hc : c < 10) : fX9_isAbove R (nI v) (nI c) (mm g I J Z) = some (bI (spB w v c), mm g I J Z) := by
  have := M_spL (J := J) (Z := Z) h hc 9 1 fuel false (by omega) (by unfold fuel; omega)
  rw [bf0, Bool.false_or] at this
  exact this
theorem M_sbL (h : Mb g R I w v) (hc : c < 10) : ∀ (e k f : Nat) (s : Bool), k + e = 10 → e < f → lX9_isAboveOne_5 f R (nI v) (nI c) (bI s) (nI k) (mm g I J Z) = some (bI (s || anyF (fun k => sup1 w v c k || sup2 w v c k) k e), mm g I J Z) := by
  intro e
  induction e with
  | zero =>
    intro k f s hi hf
    obtain ⟨f, rfl⟩ : ∃ z, f = z + 1 := ⟨f - 1, by omega⟩
    show bX9_isAboveOne_5 (lX9_isAboveOne_5 f) _ _ _ _ _ _ = _
    unfold bX9_isAboveOne_5
    rw [if_pos (nI_le (by omega) (by omega)), anyF, Bool.or_false, rz_bI]
  | succ e ih =>
    intro k f s hi hf
    obtain ⟨f, rfl⟩ : ∃ z, f = z + 1 := ⟨f - 1, by omega⟩
    have n0 := ih (k + 1) f false (by omega) (by omega)
    have n1 := ih (k + 1) f true (by omega) (by omega)
    rw [bf0, Bool.false_or] at n0
    rw [bt1, Bool.true_or] at n1
    show bX9_isAboveOne_5 (lX9_isAboveOne_5 f) _ _ _ _ _ _ = _
    unfold bX9_isAboveOne_5 fX9_isAboveOne_59 fX9_isAboveOne_60
    rw [if_neg (nI_ge (by omega) (by omega)), bIf, nI_add, anyF]
    cases s
    · rw [if_ff, Bool.false_or, h.cv, h.of (by omega) (by decide), bd_some, ex1 (by omega)]
      have e12 : (sup1 w v c k || sup2 w v c k) = (exC w v k && (decide (cl w v k 2 = nI c) || bt (cl w v k 3) c)) := by
        unfold sup1 sup2
        cases exC w v k <;> rfl
      rw [e12]
      cases he : exC w v k
      · rw [if_ff, Bool.false_and, Bool.false_or, n0]
      · rw [if_tt, Bool.true_and, h.cv, h.of (by omega) (by decide), bd_some]
        by_cases q : cl w v k 2 = nI c
        · rw [if_pos q, decide_eq_true q, Bool.true_or, Bool.true_or, n1]
        · rw [if_neg q, decide_eq_false q, Bool.false_or, h.cv, h.of (by omega) (by decide), bd_some, M_has (by omega), bd_some, bIf]
          cases bt (cl w v k 3) c
          · rw [if_ff, Bool.false_or, n0]
          · rw [if_tt, Bool.true_or, n1]
    · rw [if_tt, Bool.true_or, n1]
theorem any_or {p q : Nat → Bool} : ∀ {e k : Nat}, anyF (fun k => p k || q k) k e = (anyF p k e || anyF q k e)
  | 0, k => rfl
  | e + 1, k => by
    show ((p k || q k) || anyF (fun k => p k || q k) (k + 1) e) = ((p k || anyF p (k + 1) e) || (q k || anyF q (k + 1) e))
    rw [any_or]
    cases p k <;> cases q k <;> cases anyF p (k + 1) e <;> rfl
theorem M_isAb1 (h : Mb g R I w v) (hc : c < 10) : fX9_isAboveOne R (nI v) (nI c) (mm g I J Z) = some (bI (spB w v c || siB w v c), mm g I J Z) := by
  have := M_sbL (J := J) (Z := Z) h hc 9 1 fuel false (by omega) (by unfold fuel; omega)
  rw [bf0, Bool.false_or, any_or] at this
  exact this
theorem M_haL (h : Mb g R I w v) (hc : c < 10) : ∀ (e m f : Nat) (s : Bool), m + e = nmb w v → e < f → lX9_hasAbstract_5 f R (nI v) (nI c) (bI s) (nI m) (mm g I J Z) = some (bI (s || anyF (fun m => decide (ow w v m = c) && abB w v m) m e), mm g I J Z) := by
  have hn := h.M.n40
  intro e
  induction e with
  | zero =>
    intro m f s hi hf
    obtain ⟨f, rfl⟩ : ∃ z, f = z + 1 := ⟨f - 1, by omega⟩
    show bX9_hasAbstract_5 (lX9_hasAbstract_5 f) _ _ _ _ _ _ = _
    unfold bX9_hasAbstract_5
    rw [h.cv, h.many, bd_some, if_pos (nI_le (by omega) (by omega)), anyF, Bool.or_false, rz_bI]
  | succ e ih =>
    intro m f s hi hf
    obtain ⟨f, rfl⟩ : ∃ z, f = z + 1 := ⟨f - 1, by omega⟩
    have hm : m < nmb w v := by omega
    obtain ⟨o1, o2, o3, o4⟩ := h.M.own m hm
    have n0 := ih (m + 1) f false (by omega) (by omega)
    have n1 := ih (m + 1) f true (by omega) (by omega)
    rw [bf0, Bool.false_or] at n0
    rw [bt1, Bool.true_or] at n1
    show bX9_hasAbstract_5 (lX9_hasAbstract_5 f) _ _ _ _ _ _ = _
    unfold bX9_hasAbstract_5 fX9_hasAbstract_45 fX9_hasAbstract_46
    rw [h.cv, h.many, bd_some, if_neg (nI_ge (by omega) (by omega)), bIf, nI_add, anyF]
    cases s
    · rw [if_ff, Bool.false_or, h.cv, h.its hm (by decide), bd_some, o3]
      by_cases q1 : ow w v m = c
      · rw [if_pos (by rw [q1]), decide_eq_true q1, Bool.true_and, h.cv, h.abs hm, bd_some, bIf]
        cases abB w v m
        · rw [if_ff, Bool.false_or, n0]
        · rw [if_tt, Bool.true_or, n1]
      · rw [if_neg (fun q => q1 (nI_inj (by omega) (by omega) q)), decide_eq_false q1, Bool.false_and, Bool.false_or, n0]
    · rw [if_tt, Bool.true_or, n1]
theorem M_hasA (h : Mb g R I w v) (hc : c < 10) : fX9_hasAbstract R (nI v) (nI c) (mm g I J Z) = some (bI (haB w v c), mm g I J Z) := by
  have hn := h.M.n40
  have := M_haL (J := J) (Z := Z) h hc (nmb w v) 0 fuel false (by omega) (by unfold fuel; omega)
  rw [bf0, Bool.false_or] at this
  exact this
/-! how many classes -/
def hzA : AH := (fun _ => 0, fun _ => 0, fun _ _ => 0, fun _ _ => 0, fun _ _ => none, none)
def pcI (x : Int32) : Int32 := match fJ6_bitCount_0f7a4 x hzA with | some q => q.1 | none => 0
theorem pc_run (x : Int32) (h : AH) : fJ6_bitCount_0f7a4 x h = some (pcI x, h) := rfl
set_option maxRecDepth 100000 in
theorem pc_tab : ∀ n, n < 1024 → pcI (nI n) = nI (ct (bt (nI n)) 10) := by decide +kernel
theorem bits_lt {x : Int32} (h : ∀ i, 10 ≤ i → i < 32 → bt x i = false) : ∃ n, n < 1024 ∧ x = nI n := by
  refine ⟨x.toBitVec.toNat, ?_, ?_⟩
  · refine Nat.lt_pow_two_of_testBit (n := 10) _ (fun i hi => ?_)
    rcases Nat.lt_or_ge i 32 with q | q
    · exact h i hi q
    · exact b_big (x := x) q
  · exact Int32.toBitVec_inj.mp (by show x.toBitVec = BitVec.ofNat 32 x.toBitVec.toNat; simp)
theorem M_cmL (h : Mb g R I w v) : ∀ (e k f : Nat), k + e = 10 → e < f → lX9_classMany_4 f R (nI v) (nI (ct (exC w v) k)) (nI k) (mm g I J Z) = some (nI (ct (exC w v) 10), mm g I J Z) := by
  intro e
  induction e with
  | zero =>
    intro k f hi hf
    obtain ⟨f, rfl⟩ : ∃ z, f = z + 1 := ⟨f - 1, by omega⟩
    show bX9_classMany_4 (lX9_classMany_4 f) _ _ _ _ _ = _
    unfold bX9_classMany_4
    rw [if_pos (nI_le (by omega) (by omega)), show k = 10 from by omega]
  | succ e ih =>
    intro k f hi hf
    obtain ⟨f, rfl⟩ : ∃ z, f = z + 1 := ⟨f - 1, by omega⟩
    have nx := ih (k + 1) f (by omega) (by omega)
    show bX9_classMany_4 (lX9_classMany_4 f) _ _ _ _ _ = _
    unfold bX9_classMany_4
    rw [if_neg (nI_ge (by omega) (by omega)), h.cv, h.of (by omega) (by decide), bd_some, nI_add k 1, ← nx, ct]
    rcases h.C.2.1 k (by omega) with q | q
    · rw [q, if_neg (fun e => by rw [exC_ex e] at q; exact absurd q (by decide)), nI_add, Nat.add_zero]
    · rw [q, if_pos (exC_of (by omega) q), nI_add]
theorem M_cMany (h : Mb g R I w v) : fX9_classMany R (nI v) (mm g I J Z) = some (nI (ct (exC w v) 10), mm g I J Z) := M_cmL h 10 0 fuel (by omega) (by unfold fuel; omega)
end Cls

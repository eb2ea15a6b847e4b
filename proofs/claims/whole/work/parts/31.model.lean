/-! ===== the reference, read: its row, its small questions ===== -/
def bI (b : Bool) : Int32 := if b then 1 else 0
theorem bI_0 (b : Bool) : (bI b = 0) = (b = false) := by cases b <;> simp [bI]
theorem bI_n0 (b : Bool) : (bI b = nI 0) = (b = false) := bI_0 b
theorem bI_n1 (b : Bool) : (bI b = nI 1) = (b = true) := by
  cases b
  · exact propext ⟨fun h => absurd h (by decide), fun h => by cases h⟩
  · exact propext ⟨fun _ => rfl, fun _ => rfl⟩
theorem bI_01 (b : Bool) : bI b = 0 ∨ bI b = 1 := by cases b <;> simp [bI]
def oI : Option Nat → Int32
  | none => -2
  | some m => nI m
theorem oI_none {o : Option Nat} (h : ∀ m, o = some m → m < 2 ^ 31) : (oI o = -2) = (o = none) := by
  cases o with
  | none => simp [oI]
  | some m =>
    have : nI m ≠ -2 := fun e => by
      have h1 := congrArg Int32.toInt e
      rw [nI_toInt (h m rfl)] at h1
      have h2 : (-2 : Int32).toInt = -2 := by decide
      omega
    simp [oI, this]
theorem rz_n0 (h : AH) : rz (nI 0) (nI 0) h = some (bI false, h) := if_pos (Or.inl rfl)
theorem rz_n1 (h : AH) : rz (nI 1) (nI 1) h = some (bI true, h) := if_pos (Or.inr rfl)
theorem rz_bI {ρ : Type} (b : Bool) (r : ρ) (h : AH) : rz (bI b) r h = some (r, h) := if_pos (bI_01 b)
def cl (w : Nat → Int32) (v c p : Nat) : Int32 := w (481 * v + 8 * c + p)
def mb (w : Nat → Int32) (v m p : Nat) : Int32 := w (481 * v + 81 + 10 * m + p)
def mn (w : Nat → Int32) (v : Nat) : Int32 := w (481 * v + 80)
def ModG (g : Gr) (R : Nat) : Prop := g.1 R = 10 ∧ g.2.2 R 0 = some (R + 1) ∧ g.2.2 R 1 = some (R + 2) ∧ g.2.2 R 4 = some (R + 3) ∧ g.2.2 R 5 = some (R + 4) ∧ g.2.2 R 15 = some (R + 5) ∧ g.2.2 R 16 = some (R + 6) ∧ g.2.2 R 17 = some (R + 7) ∧
  (g.1 (R + 1) = 20 ∧ g.2.1 (R + 1) = 1155) ∧ (g.1 (R + 2) = 20 ∧ g.2.1 (R + 2) = 5775) ∧ (g.1 (R + 3) = 20 ∧ g.2.1 (R + 3) = 4) ∧ (g.1 (R + 4) = 20 ∧ g.2.1 (R + 4) = 10) ∧ (g.1 (R + 5) = 20 ∧ g.2.1 (R + 5) = 16) ∧ (g.1 (R + 6) = 20 ∧ g.2.1 (R + 6) = 8) ∧ (g.1 (R + 7) = 21 ∧ g.2.1 (R + 7) = 40)
section Mo
variable {g : Gr} {R : Nat} {I : Mem} {J : Nat → Nat → Int64} {Z : Option Nat} {v c p m n k : Nat} {x y z : Int32}
theorem M_within (x y z : Int32) (h : AH) : fX9_within x y z h = some (bI (decide (y ≤ x ∧ x ≤ z)), h) := by
  unfold fX9_within
  by_cases h1 : x < y
  · rw [if_pos h1, rz_n0, decide_eq_false (fun q => (Int32.not_lt.mpr q.1) h1)]
  · rw [if_neg h1]
    by_cases h2 : z < x
    · rw [if_pos h2, rz_n0, decide_eq_false (fun q => (Int32.not_lt.mpr q.2) h2)]
    · rw [if_neg h2, rz_n1, decide_eq_true ⟨Int32.not_lt.mp h1, Int32.not_lt.mp h2⟩]
theorem M_win {a b : Nat} (ha : a < 2 ^ 31) (hb : b < 2 ^ 31) (hk : k < 2 ^ 31) (h : AH) : fX9_within (nI k) (nI a) (nI b) h = some (bI (decide (a ≤ k ∧ k ≤ b)), h) := by
  rw [M_within]
  congr 3
  exact decide_eq_decide.mpr (and_congr (nI_leI ha hk) (nI_leI hk hb))
theorem M_isV (hv : v < 2) (h : AH) : fX9_isVersion (nI v) h = some (bI true, h) := by
  unfold fX9_isVersion
  rw [M_win (by omega) (by omega) (by omega), bd_some, decide_eq_true (by omega)]
  exact rz_bI true _ h
theorem M_isVx (hx : x < 0 ∨ nI 2 ≤ x) (h : AH) : fX9_isVersion x h = some (bI false, h) := by
  unfold fX9_isVersion
  rw [M_within, bd_some, decide_eq_false]
  · exact rz_bI false _ h
  · rintro ⟨h1, h2⟩
    rcases hx with hx | hx
    · exact (Int32.not_lt.mpr h1) hx
    · exact absurd (Int32.le_trans hx h2) (by decide)
theorem ix_481 (v c p : Nat) : nI 481 * nI v + nI 8 * nI c + nI p = nI (481 * v + 8 * c + p) := by rw [pk_mul, pk_mul, nI_add, nI_add]
theorem ix_81 (v m p : Nat) : nI 481 * nI v + nI 81 + nI 10 * nI m + nI p = nI (481 * v + 81 + 10 * m + p) := by rw [pk_mul, pk_mul, nI_add, nI_add, nI_add]
theorem M_of (hG : ModG g R) (hv : v < 2) (hc : c < 10) (hp : p < 8) : fX9_of R (nI v) (nI c) (nI p) (mm g I J Z) = some (cl (I (R + 1)) v c p, mm g I J Z) := by
  unfold fX9_of fX9_at
  rw [gP_m hG.1 hG.2.1, Option.bind_some, bd_some, ix_481, ldI_m hG.2.2.2.2.2.2.2.2.1.1 (by rw [hG.2.2.2.2.2.2.2.2.1.2]; omega) (by omega)]
  rfl
theorem M_its (hG : ModG g R) (hv : v < 2) (hm : m < 40) (hp : p < 10) : fX9_its R (nI v) (nI m) (nI p) (mm g I J Z) = some (mb (I (R + 1)) v m p, mm g I J Z) := by
  unfold fX9_its fX9_member
  rw [gP_m hG.1 hG.2.1, Option.bind_some, bd_some, ix_81, ldI_m hG.2.2.2.2.2.2.2.2.1.1 (by rw [hG.2.2.2.2.2.2.2.2.1.2]; omega) (by omega)]
  rfl
theorem M_many (hG : ModG g R) (hv : v < 2) : fX9_memberMany R (nI v) (mm g I J Z) = some (mn (I (R + 1)) v, mm g I J Z) := by
  unfold fX9_memberMany
  rw [gP_m hG.1 hG.2.1, Option.bind_some, pk_mul, nI_add, ldI_m hG.2.2.2.2.2.2.2.2.1.1 (by rw [hG.2.2.2.2.2.2.2.2.1.2]; omega) (by omega)]
  rfl
theorem M_has (hk : k < 32) (x : Int32) (h : AH) : fX9_has x (nI k) h = some (bI (bt x k), h) := by
  unfold fX9_has
  have e : (x >>> (nI k &&& 31) &&& nI 1) = bI (bt x k) := by
    show (x >>> (nI k &&& 31) &&& 1) = _
    rw [bt_tst k hk]
    rfl
  rw [e]
  cases bt x k
  · rw [if_neg (by decide), rz_n0]
  · rw [if_pos (by decide), rz_n1]
theorem M_isClass (hG : ModG g R) (hv : v < 2) (hc : c < 10) : fX9_isClass R (nI v) (nI c) (mm g I J Z) = some (bI (decide (cl (I (R + 1)) v c 0 = nI 1)), mm g I J Z) := by
  unfold fX9_isClass
  rw [M_isV hv, bd_some, if_neg (by decide), M_win (by omega) (by omega) (by omega), bd_some, decide_eq_true (by omega), if_neg (by decide), cv_m hG.1, M_of hG hv hc (by decide), bd_some]
  by_cases h : cl (I (R + 1)) v c 0 = nI 1
  · rw [if_pos h, rz_n1, decide_eq_true h]
  · rw [if_neg h, rz_n0, decide_eq_false h]
theorem M_isClassV (hG : ModG g R) (hx : x < 0 ∨ nI 2 ≤ x) : fX9_isClass R x y (mm g I J Z) = some (bI false, mm g I J Z) := by
  unfold fX9_isClass
  rw [M_isVx hx, bd_some, if_pos (by decide), rz_n0]
theorem M_isClassC (hG : ModG g R) (hv : v < 2) (hx : x < 0 ∨ nI 10 ≤ x) : fX9_isClass R (nI v) x (mm g I J Z) = some (bI false, mm g I J Z) := by
  unfold fX9_isClass
  rw [M_isV hv, bd_some, if_neg (by decide), M_within, bd_some, decide_eq_false, if_pos (by decide), rz_n0]
  rintro ⟨h1, h2⟩
  rcases hx with hx | hx
  · exact (Int32.not_lt.mpr h1) hx
  · exact absurd (Int32.le_trans hx h2) (by decide)
theorem M_isI (hG : ModG g R) (hv : v < 2) (hc : c < 10) : fX9_isInterface R (nI v) (nI c) (mm g I J Z) = some (bI (decide (cl (I (R + 1)) v c 1 = nI 1)), mm g I J Z) := by
  unfold fX9_isInterface
  rw [cv_m hG.1, M_of hG hv hc (by decide), bd_some]
  by_cases h : cl (I (R + 1)) v c 1 = nI 1
  · rw [if_pos h, rz_n1, decide_eq_true h]
  · rw [if_neg h, rz_n0, decide_eq_false h]
theorem M_isMethod (hG : ModG g R) (hv : v < 2) (hm : m < 40) : fX9_isMethod R (nI v) (nI m) (mm g I J Z) = some (bI (decide (mb (I (R + 1)) v m 0 = nI 1)), mm g I J Z) := by
  unfold fX9_isMethod
  rw [cv_m hG.1, M_its hG hv hm (by decide), bd_some]
  by_cases h : mb (I (R + 1)) v m 0 = nI 1
  · rw [if_pos h, rz_n1, decide_eq_true h]
  · rw [if_neg h, rz_n0, decide_eq_false h]
theorem M_isStatic (hG : ModG g R) (hv : v < 2) (hm : m < 40) : fX9_isStatic R (nI v) (nI m) (mm g I J Z) = some (bI (bt (mb (I (R + 1)) v m 4) 0), mm g I J Z) := by
  unfold fX9_isStatic
  rw [cv_m hG.1, M_its hG hv hm (by decide), bd_some, M_has (by decide), bd_some, rz_bI]
theorem M_isFinal (hG : ModG g R) (hv : v < 2) (hm : m < 40) : fX9_isFinal R (nI v) (nI m) (mm g I J Z) = some (bI (bt (mb (I (R + 1)) v m 4) 1), mm g I J Z) := by
  unfold fX9_isFinal
  rw [cv_m hG.1, M_its hG hv hm (by decide), bd_some, M_has (by decide), bd_some, rz_bI]
theorem M_isAbstract (hG : ModG g R) (hv : v < 2) (hm : m < 40) : fX9_isAbstract R (nI v) (nI m) (mm g I J Z) = some (bI (bt (mb (I (R + 1)) v m 4) 2), mm g I J Z) := by
  unfold fX9_isAbstract
  rw [cv_m hG.1, M_its hG hv hm (by decide), bd_some, M_has (by decide), bd_some, rz_bI]
theorem M_refused (hG : ModG g R) : fX9_refused R x (mm g I J Z) = some (bI (decide (0 < x)), mm g (up2 I R 3 x) J Z) := by
  unfold fX9_refused
  rw [pI_m hG.1, Option.bind_some]
  by_cases h : x ≤ 0
  · rw [if_pos h, rz_n0, decide_eq_false (Int32.not_lt.mpr h)]
  · rw [if_neg h, rz_n1, decide_eq_true (Int32.not_le.mp h)]
theorem M_thrown (hG : ModG g R) : fX9_thrown R (mm g I J Z) = some (I R 3, mm g I J Z) := by
  unfold fX9_thrown
  rw [gI_m hG.1, Option.bind_some]
/-! the first of n places with a property -/
def fst (q : Nat → Bool) : Nat → Nat → Option Nat
  | _, 0 => none
  | i, d + 1 => if q i then some i else fst q (i + 1) d
theorem fst_some {q : Nat → Bool} : ∀ {d i k : Nat}, fst q i d = some k → i ≤ k ∧ k < i + d ∧ q k = true ∧ ∀ j, i ≤ j → j < k → q j = false
  | 0, i, k, h => by cases h
  | d + 1, i, k, h => by
    unfold fst at h
    split at h
    · rename_i hq
      cases h
      exact ⟨Nat.le_refl _, by omega, hq, fun j h1 h2 => absurd h1 (by omega)⟩
    · rename_i hq
      obtain ⟨h1, h2, h3, h4⟩ := fst_some h
      refine ⟨by omega, by omega, h3, fun j j1 j2 => ?_⟩
      by_cases hj : j = i
      · subst hj; simpa using hq
      · exact h4 j (by omega) j2
theorem fst_none {q : Nat → Bool} : ∀ {d i : Nat}, fst q i d = none → ∀ j, i ≤ j → j < i + d → q j = false
  | 0, i, h, j, h1, h2 => absurd h2 (by omega)
  | d + 1, i, h, j, h1, h2 => by
    unfold fst at h
    split at h
    · cases h
    · rename_i hq
      by_cases hj : j = i
      · subst hj; simpa using hq
      · exact fst_none h j (by omega) (by omega)
theorem fst_none_of {q : Nat → Bool} : ∀ {d i : Nat}, (∀ j, i ≤ j → j < i + d → q j = false) → fst q i d = none
  | 0, i, h => rfl
  | d + 1, i, h => by
    unfold fst
    rw [if_neg (by rw [h i (Nat.le_refl _) (by omega)]; decide)]
    exact fst_none_of (fun j h1 h2 => h j (by omega) (by omega))
theorem fst_of {q : Nat → Bool} {d i k : Nat} (h1 : i ≤ k) (h2 : k < i + d) (h3 : q k = true) (h4 : ∀ j, i ≤ j → j < k → q j = false) : fst q i d = some k := by
  cases h : fst q i d with
  | none => rw [fst_none h k h1 h2] at h3; cases h3
  | some j =>
    obtain ⟨a1, a2, a3, a4⟩ := fst_some h
    rcases Nat.lt_trichotomy j k with e | e | e
    · rw [h4 j a1 e] at a3; cases a3
    · rw [e]
    · rw [a4 k h1 e] at h3; cases h3
/-- the same parameters, as the reference asks it -/
def hp (w : Nat → Int32) (v m : Nat) (x y z : Int32) : Bool := decide (mb w v m 6 = x) && (decide (x < nI 1) || decide (mb w v m 7 = y)) && (decide (x < nI 2) || decide (mb w v m 8 = z))
theorem M_hp30 (hG : ModG g R) (hv : v < 2) (hm : m < 40) : fX9_hasParameters_30 R (nI v) (nI m) x z (mm g I J Z) = some (bI (decide (x < nI 2) || decide (mb (I (R + 1)) v m 8 = z)), mm g I J Z) := by
  unfold fX9_hasParameters_30
  by_cases h : x < nI 2
  · rw [if_pos h, rz_n1, decide_eq_true h, Bool.true_or]
  · rw [if_neg h, decide_eq_false h, Bool.false_or, cv_m hG.1, M_its hG hv hm (by decide), bd_some]
    by_cases h : mb (I (R + 1)) v m 8 = z
    · rw [if_pos h, rz_n1, decide_eq_true h]
    · rw [if_neg h, rz_n0, decide_eq_false h]
theorem M_hasP (hG : ModG g R) (hv : v < 2) (hm : m < 40) : fX9_hasParameters R (nI v) (nI m) x y z (mm g I J Z) = some (bI (hp (I (R + 1)) v m x y z), mm g I J Z) := by
  unfold fX9_hasParameters hp
  rw [cv_m hG.1, M_its hG hv hm (by decide), bd_some]
  by_cases h : mb (I (R + 1)) v m 6 = x
  · rw [if_pos h, decide_eq_true h, Bool.true_and]
    by_cases h1 : x < nI 1
    · rw [if_pos h1, M_hp30 hG hv hm, decide_eq_true h1, Bool.true_or, Bool.true_and]
    · rw [if_neg h1, cv_m hG.1, M_its hG hv hm (by decide), bd_some, decide_eq_false h1, Bool.false_or]
      by_cases h2 : mb (I (R + 1)) v m 7 = y
      · rw [if_pos h2, M_hp30 hG hv hm, decide_eq_true h2, Bool.true_and]
      · rw [if_neg h2, rz_n0, decide_eq_false h2, Bool.false_and]
  · rw [if_neg h, rz_n0, decide_eq_false h, Bool.false_and, Bool.false_and]
/-- a member of class x, of kind y, of this name, for a method with these parameters -/
def isF (w : Nat → Int32) (v : Nat) (x y nm a b c : Int32) (m : Nat) : Bool := decide (mb w v m 1 = x) && decide (mb w v m 0 = y) && decide (mb w v m 2 = nm) && (decide (y = 0) || hp w v m a b c)
theorem M_foundL (hG : ModG g R) (hv : v < 2) {n : Nat} (hn : n ≤ 40) (hmn : mn (I (R + 1)) v = nI n) {x y nm a b c : Int32} : ∀ (d i f : Nat), i + d = n → d < f → lX9_found_3 f R (nI v) x y nm a b c (nI i) (mm g I J Z) = some (oI (fst (isF (I (R + 1)) v x y nm a b c) i d), mm g I J Z) := by
  intro d
  induction d with
  | zero =>
    intro i f hi hf
    obtain ⟨f, rfl⟩ : ∃ z, f = z + 1 := ⟨f - 1, by omega⟩
    show bX9_found_3 (lX9_found_3 f) R (nI v) x y nm a b c (nI i) _ = _
    unfold bX9_found_3
    rw [cv_m hG.1, M_many hG hv, bd_some, hmn, if_pos (nI_le (by omega) (by omega))]
    rfl
  | succ d ih =>
    intro i f hi hf
    obtain ⟨f, rfl⟩ : ∃ z, f = z + 1 := ⟨f - 1, by omega⟩
    have hm : i < 40 := by omega
    have hk : ∀ s0 : Bool, fX9_found_55 (lX9_found_3 f) R (nI v) x y nm a b c (nI i) (bI s0) (mm g I J Z) = some (oI (if (s0 && (decide (y = 0) || hp (I (R + 1)) v i a b c)) then some i else fst (isF (I (R + 1)) v x y nm a b c) (i + 1) d), mm g I J Z) := by
      intro s0
      have hnx : fX9_found_85 (lX9_found_3 f) R (nI v) x y nm a b c (nI i) (mm g I J Z) = some (oI (fst (isF (I (R + 1)) v x y nm a b c) (i + 1) d), mm g I J Z) := by
        unfold fX9_found_85
        rw [nI_add]
        exact ih (i + 1) f (by omega) (by omega)
      unfold fX9_found_55
      cases s0
      · rw [if_pos (by decide), hnx]
        rfl
      · rw [if_neg (by decide)]
        by_cases hy : y = 0
        · rw [if_pos hy, decide_eq_true hy]
          rfl
        · rw [if_neg hy, cv_m hG.1, M_hasP hG hv hm, bd_some, decide_eq_false hy]
          cases hp (I (R + 1)) v i a b c
          · rw [if_pos (by decide), hnx]
            rfl
          · rw [if_neg (by decide)]
            rfl
    have hk0 : fX9_found_54 (lX9_found_3 f) R (nI v) x y nm a b c (nI i) (mm g I J Z) = some (oI (fst (isF (I (R + 1)) v x y nm a b c) (i + 1) d), mm g I J Z) := by
      unfold fX9_found_54
      exact hk false
    show bX9_found_3 (lX9_found_3 f) R (nI v) x y nm a b c (nI i) _ = _
    unfold bX9_found_3
    rw [cv_m hG.1, M_many hG hv, bd_some, hmn, if_neg (nI_ge (by omega) (by omega)), cv_m hG.1, M_its hG hv hm (by decide), bd_some]
    unfold fst
    by_cases h1 : mb (I (R + 1)) v i 1 = x
    · rw [if_pos h1, cv_m hG.1, M_its hG hv hm (by decide), bd_some]
      by_cases h2 : mb (I (R + 1)) v i 0 = y
      · rw [if_pos h2, cv_m hG.1, M_its hG hv hm (by decide), bd_some]
        by_cases h3 : mb (I (R + 1)) v i 2 = nm
        · rw [if_pos h3]
          refine (hk true).trans ?_
          simp [isF, h1, h2, h3]
        · rw [if_neg h3, hk0]
          simp [isF, h3]
      · rw [if_neg h2, hk0]
        simp [isF, h2]
    · rw [if_neg h1, hk0]
      simp [isF, h1]
theorem M_found (hG : ModG g R) (hv : v < 2) {n : Nat} (hn : n ≤ 40) (hmn : mn (I (R + 1)) v = nI n) {x y nm a b c : Int32} : fX9_found R (nI v) x y nm a b c (mm g I J Z) = some (oI (fst (isF (I (R + 1)) v x y nm a b c) 0 n), mm g I J Z) := by
  unfold fX9_found
  exact M_foundL hG hv hn hmn n 0 fuel (by omega) (by unfold fuel; omega)
end Mo

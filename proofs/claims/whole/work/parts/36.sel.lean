/-! ===== choosing members: pure combinatorics ===== -/
/-- of the members below n with P, the one of the greatest class -/
def mx (o : Nat → Nat) (P : Nat → Bool) : Nat → Option Nat
  | 0 => none
  | m + 1 => match mx o P m with
    | none => if P m then some m else none
    | some k => if P m && decide (o k < o m) then some m else some k
/-- the one of the least class -/
def mi (o : Nat → Nat) (P : Nat → Bool) : Nat → Option Nat
  | 0 => none
  | m + 1 => match mi o P m with
    | none => if P m then some m else none
    | some k => if P m && decide (o m < o k) then some m else some k
/-- the last one, and how many -/
def ls (P : Nat → Bool) : Nat → Option Nat
  | 0 => none
  | m + 1 => if P m then some m else ls P m
def ct (P : Nat → Bool) : Nat → Nat
  | 0 => 0
  | m + 1 => if P m then ct P m + 1 else ct P m
theorem mx_spec (o : Nat → Nat) (P : Nat → Bool) : ∀ n, match mx o P n with
    | none => ∀ k, k < n → P k = false
    | some m => m < n ∧ P m = true ∧ ∀ k, k < n → P k = true → o k ≤ o m := by
  intro n
  induction n with
  | zero => exact fun k hk => absurd hk (by omega)
  | succ n ih =>
    unfold mx
    cases h : mx o P n with
    | none =>
      rw [h] at ih
      simp only at ih ⊢
      cases hp : P n
      · rw [if_neg (by decide)]
        intro k hk
        by_cases e : k = n
        · rw [e]; exact hp
        · exact ih k (by omega)
      · rw [if_pos rfl]
        refine ⟨by omega, hp, fun k hk hk2 => ?_⟩
        by_cases e : k = n
        · rw [e]; exact Nat.le_refl _
        · rw [ih k (by omega)] at hk2; cases hk2
    | some m =>
      rw [h] at ih
      simp only at ih ⊢
      obtain ⟨a, b, c⟩ := ih
      by_cases hc : P n = true ∧ o m < o n
      · rw [if_pos (by simp [hc.1, hc.2])]
        refine ⟨by omega, hc.1, fun k hk hk2 => ?_⟩
        by_cases e : k = n
        · rw [e]; exact Nat.le_refl _
        · have := c k (by omega) hk2; omega
      · rw [if_neg (by simpa using hc)]
        refine ⟨by omega, b, fun k hk hk2 => ?_⟩
        by_cases e : k = n
        · subst e; exact Nat.le_of_not_lt (fun q => hc ⟨hk2, q⟩)
        · exact c k (by omega) hk2
theorem mi_spec (o : Nat → Nat) (P : Nat → Bool) : ∀ n, match mi o P n with
    | none => ∀ k, k < n → P k = false
    | some m => m < n ∧ P m = true ∧ ∀ k, k < n → P k = true → o m ≤ o k := by
  intro n
  induction n with
  | zero => exact fun k hk => absurd hk (by omega)
  | succ n ih =>
    unfold mi
    cases h : mi o P n with
    | none =>
      rw [h] at ih
      simp only at ih ⊢
      cases hp : P n
      · rw [if_neg (by decide)]
        intro k hk
        by_cases e : k = n
        · rw [e]; exact hp
        · exact ih k (by omega)
      · rw [if_pos rfl]
        refine ⟨by omega, hp, fun k hk hk2 => ?_⟩
        by_cases e : k = n
        · rw [e]; exact Nat.le_refl _
        · rw [ih k (by omega)] at hk2; cases hk2
    | some m =>
      rw [h] at ih
      simp only at ih ⊢
      obtain ⟨a, b, c⟩ := ih
      by_cases hc : P n = true ∧ o n < o m
      · rw [if_pos (by simp [hc.1, hc.2])]
        refine ⟨by omega, hc.1, fun k hk hk2 => ?_⟩
        by_cases e : k = n
        · rw [e]; exact Nat.le_refl _
        · have := c k (by omega) hk2; omega
      · rw [if_neg (by simpa using hc)]
        refine ⟨by omega, b, fun k hk hk2 => ?_⟩
        by_cases e : k = n
        · subst e; exact Nat.le_of_not_lt (fun q => hc ⟨hk2, q⟩)
        · exact c k (by omega) hk2
section Gen
variable {o : Nat → Nat} {P Q : Nat → Bool} {n m : Nat}
theorem mx_some (h : mx o P n = some m) : m < n ∧ P m = true ∧ ∀ k, k < n → P k = true → o k ≤ o m := by
  have := mx_spec o P n
  rw [h] at this
  exact this
theorem mx_none (h : mx o P n = none) : ∀ k, k < n → P k = false := by
  have := mx_spec o P n
  rw [h] at this
  exact this
theorem mi_some (h : mi o P n = some m) : m < n ∧ P m = true ∧ ∀ k, k < n → P k = true → o m ≤ o k := by
  have := mi_spec o P n
  rw [h] at this
  exact this
theorem mi_none (h : mi o P n = none) : ∀ k, k < n → P k = false := by
  have := mi_spec o P n
  rw [h] at this
  exact this
theorem mx_eq (hU : ∀ k j, k < n → j < n → P k = true → P j = true → o k = o j → k = j) (h1 : m < n) (h2 : P m = true) (h3 : ∀ k, k < n → P k = true → o k ≤ o m) : mx o P n = some m := by
  cases h : mx o P n with
  | none => rw [mx_none h m h1] at h2; cases h2
  | some k =>
    obtain ⟨a, b, c⟩ := mx_some h
    have := h3 k a b
    have := c m h1 h2
    rw [hU k m a h1 b h2 (by omega)]
theorem mi_eq (hU : ∀ k j, k < n → j < n → P k = true → P j = true → o k = o j → k = j) (h1 : m < n) (h2 : P m = true) (h3 : ∀ k, k < n → P k = true → o m ≤ o k) : mi o P n = some m := by
  cases h : mi o P n with
  | none => rw [mi_none h m h1] at h2; cases h2
  | some k =>
    obtain ⟨a, b, c⟩ := mi_some h
    have := h3 k a b
    have := c m h1 h2
    rw [hU k m a h1 b h2 (by omega)]
theorem mx_nil (h : ∀ k, k < n → P k = false) : mx o P n = none := by
  cases h2 : mx o P n with
  | none => rfl
  | some k =>
    obtain ⟨a, b, c⟩ := mx_some h2
    rw [h k a] at b
    cases b
theorem mi_nil (h : ∀ k, k < n → P k = false) : mi o P n = none := by
  cases h2 : mi o P n with
  | none => rfl
  | some k =>
    obtain ⟨a, b, c⟩ := mi_some h2
    rw [h k a] at b
    cases b
theorem mx_congr {o' : Nat → Nat} : ∀ {n : Nat}, (∀ k, k < n → P k = Q k ∧ o k = o' k) → mx o P n = mx o' Q n
  | 0, _ => rfl
  | n + 1, h => by
    have h1 := mx_congr (n := n) (fun k hk => h k (by omega))
    unfold mx
    rw [← h1]
    cases h2 : mx o P n with
    | none => simp only [(h n (by omega)).1]
    | some k => simp only [(h n (by omega)).1, (h n (by omega)).2, (h k (by have := (mx_some h2).1; omega)).2]
theorem ls_some : ∀ {n : Nat}, ls P n = some m → m < n ∧ P m = true ∧ ∀ k, m < k → k < n → P k = false
  | 0, h => by cases h
  | n + 1, h => by
    unfold ls at h
    cases hp : P n
    · rw [hp, if_neg (by decide)] at h
      obtain ⟨a, b, c⟩ := ls_some h
      refine ⟨by omega, b, fun k h1 h2 => ?_⟩
      by_cases e : k = n
      · rw [e]; exact hp
      · exact c k h1 (by omega)
    · rw [hp, if_pos rfl] at h
      cases h
      exact ⟨by omega, hp, fun k h1 h2 => absurd h1 (by omega)⟩
theorem ls_none : ∀ {n : Nat}, ls P n = none → ∀ k, k < n → P k = false
  | 0, h, k, hk => absurd hk (by omega)
  | n + 1, h, k, hk => by
    unfold ls at h
    cases hp : P n
    · rw [hp, if_neg (by decide)] at h
      by_cases e : k = n
      · rw [e]; exact hp
      · exact ls_none h k (by omega)
    · rw [hp, if_pos rfl] at h
      cases h
theorem ct_le : ∀ n, ct P n ≤ n
  | 0 => Nat.le_refl _
  | n + 1 => by
    have := ct_le n
    unfold ct
    split <;> omega
theorem ct_zero : ∀ {n : Nat}, ct P n = 0 ↔ ∀ k, k < n → P k = false
  | 0 => ⟨fun _ k hk => absurd hk (by omega), fun _ => rfl⟩
  | n + 1 => by
    unfold ct
    cases hp : P n
    · rw [if_neg (by decide), ct_zero]
      constructor
      · intro h k hk
        by_cases e : k = n
        · rw [e]; exact hp
        · exact h k (by omega)
      · exact fun h k hk => h k (by omega)
    · rw [if_pos rfl]
      constructor
      · intro h; omega
      · intro h; rw [h n (by omega)] at hp; cases hp
theorem ct_one : ∀ {n : Nat}, ct P n = 1 ↔ ∃ m, m < n ∧ P m = true ∧ ∀ k, k < n → P k = true → k = m
  | 0 => ⟨fun h => absurd h (by unfold ct; omega), fun ⟨m, h, _⟩ => absurd h (by omega)⟩
  | n + 1 => by
    unfold ct
    cases hp : P n
    · rw [if_neg (by decide), ct_one]
      constructor
      · rintro ⟨m, a, b, c⟩
        refine ⟨m, by omega, b, fun k hk hk2 => c k ?_ hk2⟩
        by_cases e : k = n
        · rw [e, hp] at hk2; cases hk2
        · omega
      · rintro ⟨m, a, b, c⟩
        have : m ≠ n := fun e => by rw [e, hp] at b; cases b
        exact ⟨m, by omega, b, fun k hk hk2 => c k (by omega) hk2⟩
    · rw [if_pos rfl]
      constructor
      · intro h
        have h0 := ct_zero.mp (by omega : ct P n = 0)
        refine ⟨n, by omega, hp, fun k hk hk2 => ?_⟩
        by_cases e : k = n
        · exact e
        · rw [h0 k (by omega)] at hk2; cases hk2
      · rintro ⟨m, a, b, c⟩
        have e := c n (by omega) hp
        have : ct P n = 0 := ct_zero.mpr (fun k hk => by
          cases hk2 : P k
          · rfl
          · have := c k (by omega) hk2; omega)
        omega
theorem ls_one (h : m < n) (h1 : P m = true) (h2 : ∀ k, k < n → P k = true → k = m) : ls P n = some m := by
  cases h3 : ls P n with
  | none => rw [ls_none h3 m h] at h1; cases h1
  | some k => rw [h2 k (ls_some h3).1 (ls_some h3).2.1]
end Gen
/-! ===== the wanted method of the interfaces of a set ===== -/
/-- i is the class of a candidate: C says which members are, S which classes count -/
def cdB (n : Nat) (o : Nat → Nat) (C S : Nat → Bool) (i : Nat) : Bool := S i && (List.range n).any (fun m => C m && decide (o m = i))
/-- and no class below it has one -/
def mlB (n : Nat) (o : Nat → Nat) (C S : Nat → Bool) (st : Nat → Nat → Bool) (i : Nat) : Bool := cdB n o C S i && !(List.range 10).any (fun k => decide (k ≠ i) && cdB n o C S k && st k i)
/-- the class's way to say it -/
def imS (n : Nat) (o : Nat → Nat) (D C S ab : Nat → Bool) (st : Nat → Nat → Bool) (low : Bool) : Option Nat :=
  if ct (fun m => D m && mlB n o C S st (o m) && !ab m) n = 1 then ls (fun m => D m && mlB n o C S st (o m) && !ab m) n
  else if low then mi o (fun m => D m && mlB n o C S st (o m)) n else none
/-- the wanted member of the class i itself -/
def onS (n : Nat) (o : Nat → Nat) (D : Nat → Bool) (i : Nat) : Option Nat := fst (fun m => decide (o m = i) && D m) 0 n
section Im
variable {n : Nat} {o : Nat → Nat} {D C S ab : Nat → Bool} {st : Nat → Nat → Bool}
theorem onS_some {i m : Nat} (h : onS n o D i = some m) : m < n ∧ o m = i ∧ D m = true := by
  obtain ⟨a, b, c, d⟩ := fst_some h
  simp only [Bool.and_eq_true, decide_eq_true_eq] at c
  exact ⟨by omega, c.1, c.2⟩
theorem onS_none {i : Nat} (h : onS n o D i = none) : ∀ m, m < n → o m = i → D m = false := by
  intro m hm e
  have := fst_none h m (by omega) (by omega)
  cases hd : D m
  · rfl
  · rw [hd, decide_eq_true e] at this; cases this
theorem onS_of {i m : Nat} (hU : ∀ k j, k < n → j < n → D k = true → D j = true → o k = o j → k = j) (hm : m < n) (h1 : o m = i) (h2 : D m = true) : onS n o D i = some m := by
  cases h : onS n o D i with
  | none => rw [onS_none h m hm h1] at h2; cases h2
  | some k =>
    obtain ⟨a, b, c⟩ := onS_some h
    rw [hU k m a hm c h2 (by omega)]
theorem cdB_iff {i : Nat} : cdB n o C S i = true ↔ S i = true ∧ ∃ m, m < n ∧ C m = true ∧ o m = i := by
  unfold cdB
  simp only [Bool.and_eq_true, List.any_eq_true, List.mem_range, decide_eq_true_eq]
theorem mlB_iff {i : Nat} : mlB n o C S st i = true ↔ cdB n o C S i = true ∧ ∀ k, k < 10 → k ≠ i → cdB n o C S k = true → st k i = false := by
  unfold mlB
  simp only [Bool.and_eq_true, Bool.not_eq_true', List.any_eq_false, List.mem_range, Bool.and_eq_true, decide_eq_true_eq, not_and, Bool.not_eq_true, and_imp]
/-- the reference's way: the classes in their order -/
def gvS (n : Nat) (o : Nat → Nat) (D C S ab : Nat → Bool) (st : Nat → Nat → Bool) (i : Nat) : Bool := mlB n o C S st i && (match onS n o D i with | some m => !ab m | none => false)
theorem im_first (hCD : ∀ m, C m = true → D m = true) (hU : ∀ k j, k < n → j < n → D k = true → D j = true → o k = o j → k = j) (ho : ∀ m, m < n → o m < 10) :
    (fst (mlB n o C S st) 0 10).bind (onS n o D) = mi o (fun m => D m && mlB n o C S st (o m)) n := by
  cases h : fst (mlB n o C S st) 0 10 with
  | none =>
    symm
    apply mi_nil
    intro k hk
    rw [fst_none h (o k) (by omega) (by have := ho k hk; omega), Bool.and_false]
  | some i =>
    obtain ⟨a, b, c, d⟩ := fst_some h
    obtain ⟨h1, m, m1, m2, m3⟩ := cdB_iff.mp (mlB_iff.mp c).1
    show onS n o D i = _
    rw [onS_of hU m1 m3 (hCD m m2)]
    symm
    apply mi_eq (fun k j hk hj h1 h2 => hU k j hk hj (by simp only [Bool.and_eq_true] at h1; exact h1.1) (by simp only [Bool.and_eq_true] at h2; exact h2.1)) m1
    · rw [hCD m m2, m3, c]; rfl
    · intro k hk hk2
      simp only [Bool.and_eq_true] at hk2
      rw [m3]
      refine Nat.le_of_not_lt (fun q => ?_)
      rw [d (o k) (by omega) q] at hk2
      exact absurd hk2.2 (by decide)
theorem im_given (hCD : ∀ m, C m = true → D m = true) (hU : ∀ k j, k < n → j < n → D k = true → D j = true → o k = o j → k = j) (ho : ∀ m, m < n → o m < 10) :
    (ct (gvS n o D C S ab st) 10 = 1 ↔ ct (fun m => D m && mlB n o C S st (o m) && !ab m) n = 1) ∧
    (ct (gvS n o D C S ab st) 10 = 1 → (fst (gvS n o D C S ab st) 0 10).bind (onS n o D) = ls (fun m => D m && mlB n o C S st (o m) && !ab m) n) := by
  have key : ∀ m, m < n → (D m && mlB n o C S st (o m) && !ab m) = true → gvS n o D C S ab st (o m) = true ∧ onS n o D (o m) = some m := by
    intro m hm h
    simp only [Bool.and_eq_true] at h
    have h1 := onS_of hU hm rfl h.1.1
    refine ⟨?_, h1⟩
    unfold gvS
    rw [h1, h.1.2]
    simpa using h.2
  have key2 : ∀ i, gvS n o D C S ab st i = true → ∃ m, m < n ∧ o m = i ∧ onS n o D i = some m ∧ (D m && mlB n o C S st (o m) && !ab m) = true := by
    intro i h
    unfold gvS at h
    simp only [Bool.and_eq_true] at h
    cases hn : onS n o D i with
    | none => rw [hn] at h; exact absurd h.2 (by simp)
    | some m =>
      rw [hn] at h
      obtain ⟨a, b, c⟩ := onS_some hn
      exact ⟨m, a, b, rfl, by rw [b, c, h.1]; simpa using h.2⟩
  have fwd : ct (gvS n o D C S ab st) 10 = 1 → ∃ i m, i < 10 ∧ m < n ∧ o m = i ∧ onS n o D i = some m ∧ gvS n o D C S ab st i = true ∧ (∀ k, k < 10 → gvS n o D C S ab st k = true → k = i) ∧ (D m && mlB n o C S st (o m) && !ab m) = true ∧ ∀ k, k < n → (D k && mlB n o C S st (o k) && !ab k) = true → k = m := by
    intro h
    obtain ⟨i, i1, i2, i3⟩ := ct_one.mp h
    obtain ⟨m, m1, m2, m3, m4⟩ := key2 i i2
    refine ⟨i, m, i1, m1, m2, m3, i2, i3, m4, fun k hk hk2 => ?_⟩
    obtain ⟨a, b⟩ := key k hk hk2
    have := i3 (o k) (ho k hk) a
    rw [this, m3] at b
    cases b
    rfl
  refine ⟨⟨fun h => ?_, fun h => ?_⟩, fun h => ?_⟩
  · obtain ⟨i, m, -, m1, -, -, -, -, m4, m5⟩ := fwd h
    exact ct_one.mpr ⟨m, m1, m4, m5⟩
  · obtain ⟨m, m1, m2, m3⟩ := ct_one.mp h
    refine ct_one.mpr ⟨o m, ho m m1, (key m m1 m2).1, fun k hk hk2 => ?_⟩
    obtain ⟨j, j1, j2, j3, j4⟩ := key2 k hk2
    rw [← j2, m3 j j1 j4]
  · obtain ⟨i, m, i1, m1, m2, m3, i2, i3, m4, m5⟩ := fwd h
    rw [ls_one (P := fun m => D m && mlB n o C S st (o m) && !ab m) m1 m4 m5]
    have : fst (gvS n o D C S ab st) 0 10 = some i := by
      refine fst_of (by omega) (by omega) i2 (fun j j1 j2 => ?_)
      cases hj : gvS n o D C S ab st j
      · rfl
      · have := i3 j (by omega) hj; omega
    rw [this]
    exact m3
end Im

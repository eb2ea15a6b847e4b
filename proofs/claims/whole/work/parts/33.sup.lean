/-! ===== supertypes: what the reference computes, and what it means ===== -/
def spn (w : Nat → Int32) (v c : Nat) : Nat := (cl w v c 2).toNatClampNeg
/-- t is c or above c -/
def stF (w : Nat → Int32) (v : Nat) : Nat → Nat → Nat → Bool
  | 0, _, _ => false
  | f + 1, c, t => decide (c = t) || (decide (0 < c) && (stF w v f (spn w v c) t || (List.range c).any (fun k => bt (cl w v c 3) k && stF w v f k t)))
def stB (w : Nat → Int32) (v c t : Nat) : Bool := stF w v (c + 1) c t
/-- the classes of a version are as the document says -/
def WC (w : Nat → Int32) (v : Nat) : Prop :=
  (cl w v 0 0 = nI 1 ∧ cl w v 0 1 = nI 0 ∧ cl w v 0 2 = -2 ∧ cl w v 0 3 = nI 0 ∧ cl w v 0 4 = nI 0 ∧ cl w v 0 5 = nI 1 ∧ cl w v 0 6 = nI 0 ∧ cl w v 0 7 = nI 0) ∧
  (∀ c, c < 10 → cl w v c 0 = nI 0 ∨ cl w v c 0 = nI 1) ∧
  ∀ c, 1 ≤ c → c < 10 → cl w v c 0 = nI 1 →
    (cl w v c 1 = nI 0 ∨ cl w v c 1 = nI 1) ∧ (∃ s, s < c ∧ cl w v c 2 = nI s ∧ cl w v s 0 = nI 1 ∧ cl w v s 1 = nI 0 ∧ (cl w v c 1 = nI 1 → s = 0)) ∧
    (∀ k, k < 32 → bt (cl w v c 3) k = true → k < c ∧ cl w v k 0 = nI 1 ∧ cl w v k 1 = nI 1) ∧ (∃ q, q < 4 ∧ cl w v c 4 = nI q) ∧
    (cl w v c 5 = nI 0 ∨ cl w v c 5 = nI 1) ∧ (cl w v c 6 = nI 0 ∨ cl w v c 6 = nI 1) ∧ (cl w v c 7 = nI 0 ∨ cl w v c 7 = nI 1) ∧ (cl w v c 1 = nI 1 → cl w v c 6 = nI 0 ∧ cl w v c 7 = nI 1)
section Sp
variable {w : Nat → Int32} {v : Nat}
theorem WC.sup (h : WC w v) {c : Nat} (h1 : 1 ≤ c) (h2 : c < 10) (h3 : cl w v c 0 = nI 1) : spn w v c < c ∧ cl w v c 2 = nI (spn w v c) ∧ cl w v (spn w v c) 0 = nI 1 ∧ cl w v (spn w v c) 1 = nI 0 ∧ (cl w v c 1 = nI 1 → spn w v c = 0) := by
  obtain ⟨-, ⟨s, s1, s2, s3, s4, s5⟩, -⟩ := h.2.2 c h1 h2 h3
  have e : spn w v c = s := by unfold spn; rw [s2]; exact nI_clamp (by omega)
  rw [e]
  exact ⟨s1, s2, s3, s4, s5⟩
/-- enough fuel is enough -/
theorem stF_fuel (h : WC w v) : ∀ (c : Nat), c < 10 → cl w v c 0 = nI 1 → ∀ (f1 f2 t : Nat), c < f1 → c < f2 → stF w v f1 c t = stF w v f2 c t := by
  intro c
  induction c using Nat.strongRecOn with
  | ind c ih =>
    intro hc he f1 f2 t h1 h2
    obtain ⟨f1, rfl⟩ : ∃ z, f1 = z + 1 := ⟨f1 - 1, by omega⟩
    obtain ⟨f2, rfl⟩ : ∃ z, f2 = z + 1 := ⟨f2 - 1, by omega⟩
    unfold stF
    by_cases h0 : 0 < c
    · obtain ⟨a1, a2, a3, a4, a5⟩ := h.sup h0 hc he
      rw [ih _ a1 (by omega) a3 f1 f2 t (by omega) (by omega)]
      congr 3
      rw [Bool.eq_iff_iff]
      simp only [List.any_eq_true, List.mem_range, Bool.and_eq_true]
      have hi := (h.2.2 c h0 hc he).2.2.1
      constructor
      · rintro ⟨k, k1, k2, k3⟩
        have := hi k (by omega) k2
        exact ⟨k, k1, k2, by rw [← ih k k1 (by omega) this.2.1 f1 f2 t (by omega) (by omega)]; exact k3⟩
      · rintro ⟨k, k1, k2, k3⟩
        have := hi k (by omega) k2
        exact ⟨k, k1, k2, by rw [ih k k1 (by omega) this.2.1 f1 f2 t (by omega) (by omega)]; exact k3⟩
    · simp [h0]
theorem stB_step (h : WC w v) {c : Nat} (hc : c < 10) (he : cl w v c 0 = nI 1) (t : Nat) : stB w v c t = true ↔ c = t ∨ (0 < c ∧ (stB w v (spn w v c) t = true ∨ ∃ k, k < c ∧ bt (cl w v c 3) k = true ∧ stB w v k t = true)) := by
  unfold stB
  show stF w v (c + 1) c t = true ↔ _
  rw [stF]
  simp only [Bool.or_eq_true, Bool.and_eq_true, decide_eq_true_eq, List.any_eq_true, List.mem_range]
  by_cases h0 : 0 < c
  · obtain ⟨a1, a2, a3, a4, a5⟩ := h.sup h0 hc he
    have hi := (h.2.2 c h0 hc he).2.2.1
    rw [stF_fuel h _ (by omega) a3 c (spn w v c + 1) t a1 (by omega)]
    refine or_congr Iff.rfl (and_congr Iff.rfl (or_congr Iff.rfl ⟨?_, ?_⟩))
    · rintro ⟨k, k1, k2, k3⟩
      exact ⟨k, k1, k2, by rw [← stF_fuel h k (by omega) (hi k (by omega) k2).2.1 c (k + 1) t k1 (by omega)]; exact k3⟩
    · rintro ⟨k, k1, k2, k3⟩
      exact ⟨k, k1, k2, by rw [stF_fuel h k (by omega) (hi k (by omega) k2).2.1 c (k + 1) t k1 (by omega)]; exact k3⟩
  · simp [h0]
theorem stB_self (h : WC w v) {c : Nat} (hc : c < 10) (he : cl w v c 0 = nI 1) : stB w v c c = true := (stB_step h hc he c).mpr (Or.inl rfl)
theorem stB_le (h : WC w v) : ∀ (c : Nat), c < 10 → cl w v c 0 = nI 1 → ∀ t, stB w v c t = true → t ≤ c ∧ cl w v t 0 = nI 1 := by
  intro c
  induction c using Nat.strongRecOn with
  | ind c ih =>
    intro hc he t ht
    rcases (stB_step h hc he t).mp ht with rfl | ⟨h0, hs | ⟨k, k1, k2, k3⟩⟩
    · exact ⟨Nat.le_refl _, he⟩
    · obtain ⟨a1, a2, a3, a4, a5⟩ := h.sup h0 hc he
      have := ih _ a1 (by omega) a3 t hs
      exact ⟨by omega, this.2⟩
    · have hi := (h.2.2 c h0 hc he).2.2.1 k (by omega) k2
      have := ih k k1 (by omega) hi.2.1 t k3
      exact ⟨by omega, this.2⟩
theorem stB_trans (h : WC w v) : ∀ (c : Nat), c < 10 → cl w v c 0 = nI 1 → ∀ t u, stB w v c t = true → stB w v t u = true → stB w v c u = true := by
  intro c
  induction c using Nat.strongRecOn with
  | ind c ih =>
    intro hc he t u h1 h2
    rcases (stB_step h hc he t).mp h1 with rfl | ⟨h0, hs | ⟨k, k1, k2, k3⟩⟩
    · exact h2
    · obtain ⟨a1, a2, a3, a4, a5⟩ := h.sup h0 hc he
      exact (stB_step h hc he u).mpr (Or.inr ⟨h0, Or.inl (ih _ a1 (by omega) a3 t u hs h2)⟩)
    · have hi := (h.2.2 c h0 hc he).2.2.1 k (by omega) k2
      exact (stB_step h hc he u).mpr (Or.inr ⟨h0, Or.inr ⟨k, k1, k2, ih k k1 (by omega) hi.2.1 t u k3 h2⟩⟩)
/-- class 0 is above every class -/
theorem stB_0 (h : WC w v) : ∀ (c : Nat), c < 10 → cl w v c 0 = nI 1 → stB w v c 0 = true := by
  intro c
  induction c using Nat.strongRecOn with
  | ind c ih =>
    intro hc he
    by_cases h0 : 0 < c
    · obtain ⟨a1, a2, a3, a4, a5⟩ := h.sup h0 hc he
      exact (stB_step h hc he 0).mpr (Or.inr ⟨h0, Or.inl (ih _ a1 (by omega) a3)⟩)
    · exact (stB_step h hc he 0).mpr (Or.inl (by omega))
/-- the reference's loop -/
def spL (w : Nat → Int32) (v : Nat) : Nat → Int32 → Int32
  | 0, s => s
  | k + 1, s => spL w v k (if bt s (k + 1) then s ||| (cl w v (k + 1) 3 ||| (nI 1 <<< (cl w v (k + 1) 2 &&& 31))) else s)
def spm (w : Nat → Int32) (v c : Nat) : Int32 := spL w v c ((nI 1 <<< (nI c &&& 31)) ||| nI 1)
theorem spL_bits (h : WC w v) {c : Nat} (hc : c < 10) (he : cl w v c 0 = nI 1) : ∀ (k : Nat) (s : Int32), k < 10 → bt s c = true → bt s 0 = true →
    (∀ t, t < 32 → bt s t = true → stB w v c t = true) → (∀ j, k < j → j < 32 → bt s j = true → ∀ t, stB w v j t = true → (j = t ∨ bt s (spn w v j) = true ∧ ∀ i, i < j → bt (cl w v j 3) i = true → bt s i = true)) →
    ∀ t, t < 32 → (bt (spL w v k s) t = true ↔ stB w v c t = true) := by
  intro k
  induction k with
  | zero =>
    intro s hk hsc hs0 hin hcl t ht
    constructor
    · exact hin t ht
    · -- everything above an element is an element
      have key : ∀ j, j < 10 → cl w v j 0 = nI 1 → bt s j = true → ∀ t, stB w v j t = true → bt s t = true := by
        intro j
        induction j using Nat.strongRecOn with
        | ind j ih =>
          intro hj hej hsj t htj
          rcases (stB_step h hj hej t).mp htj with rfl | ⟨h0, hs | ⟨i, i1, i2, i3⟩⟩
          · exact hsj
          · obtain ⟨a1, a2, a3, a4, a5⟩ := h.sup h0 hj hej
            rcases hcl j h0 (by omega) hsj t htj with rfl | ⟨b1, b2⟩
            · exact hsj
            · exact ih _ a1 (by omega) a3 b1 t hs
          · have hi := (h.2.2 j h0 hj hej).2.2.1 i (by omega) i2
            rcases hcl j h0 (by omega) hsj t htj with rfl | ⟨b1, b2⟩
            · exact hsj
            · exact ih i i1 (by omega) hi.2.1 (b2 i i1 i2) t i3
      exact key c hc he hsc t
  | succ k ih =>
    intro s hk hsc hs0 hin hcl
    unfold spL
    by_cases hb : bt s (k + 1) = true
    · rw [if_pos hb]
      have hst := hin (k + 1) (by omega) hb
      obtain ⟨hle, hek⟩ := stB_le h c hc he _ hst
      obtain ⟨a1, a2, a3, a4, a5⟩ := h.sup (by omega : 1 ≤ k + 1) (by omega) hek
      have hi := (h.2.2 (k + 1) (by omega) (by omega) hek).2.2.1
      have hbt : ∀ t, t < 32 → bt (s ||| (cl w v (k + 1) 3 ||| (nI 1 <<< (cl w v (k + 1) 2 &&& 31)))) t = (bt s t || (bt (cl w v (k + 1) 3) t || decide (t = spn w v (k + 1)))) := by
        intro t ht
        rw [b_or, b_or, a2]
        congr 2
        exact bt_one _ (by omega) ht
      refine ih _ (by omega) (by rw [hbt c (by omega), hsc]; rfl) (by rw [hbt 0 (by omega), hs0]; rfl) ?_ ?_
      · intro t ht hh
        rw [hbt t ht] at hh
        simp only [Bool.or_eq_true, decide_eq_true_eq] at hh
        rcases hh with hh | hh | hh
        · exact hin t ht hh
        · have := hi t ht hh
          exact stB_trans h c hc he _ _ hst ((stB_step h (by omega) hek t).mpr (Or.inr ⟨by omega, Or.inr ⟨t, this.1, hh, stB_self h (by omega) this.2.1⟩⟩))
        · subst hh
          exact stB_trans h c hc he _ _ hst ((stB_step h (by omega) hek _).mpr (Or.inr ⟨by omega, Or.inl (stB_self h (by omega) a3)⟩))
      · intro j j1 j2 j3 t j4
        rw [hbt j j2] at j3
        by_cases hjk : j = k + 1
        · subst hjk
          refine Or.inr ⟨?_, fun i i1 i2 => ?_⟩
          · rw [hbt _ (by omega)]; simp
          · rw [hbt i (by omega), i2]; simp
        · have hsj : bt s j = true := by
            simp only [Bool.or_eq_true, decide_eq_true_eq] at j3
            rcases j3 with hh | hh | hh
            · exact hh
            · have := hi j j2 hh; omega
            · omega
          rcases hcl j (by omega) j2 hsj t j4 with e | ⟨b1, b2⟩
          · exact Or.inl e
          · have hej := stB_le h c hc he _ (hin j j2 hsj)
            have hsp := h.sup (by omega : 1 ≤ j) (by omega) hej.2
            exact Or.inr ⟨by rw [hbt _ (by omega), b1]; rfl, fun i i1 i2 => by rw [hbt i (by omega), b2 i i1 i2]; rfl⟩
    · rw [if_neg hb]
      refine ih s (by omega) hsc hs0 hin ?_
      intro j j1 j2 j3 t j4
      by_cases hjk : j = k + 1
      · subst hjk; exact absurd j3 hb
      · exact hcl j (by omega) j2 j3 t j4
theorem spm_bits (h : WC w v) {c : Nat} (hc : c < 10) (he : cl w v c 0 = nI 1) (t : Nat) (ht : t < 32) : bt (spm w v c) t = stB w v c t := by
  have hb : ∀ t, t < 32 → bt ((nI 1 <<< (nI c &&& 31)) ||| nI 1) t = (decide (t = c) || decide (t = 0)) := by
    intro t ht
    rw [b_or]
    congr 1
    · exact bt_one c (by omega) ht
    · exact bt_1 t
  rw [Bool.eq_iff_iff]
  unfold spm
  refine spL_bits h hc he c _ (by omega) (by rw [hb c (by omega)]; simp) (by rw [hb 0 (by omega)]; simp) ?_ ?_ t ht
  · intro t ht hh
    rw [hb t ht] at hh
    simp only [Bool.or_eq_true, decide_eq_true_eq] at hh
    rcases hh with rfl | rfl
    · exact stB_self h hc he
    · exact stB_0 h c hc he
  · intro j j1 j2 j3 t j4
    rw [hb j j2] at j3
    simp only [Bool.or_eq_true, decide_eq_true_eq] at j3
    omega
variable {g : Gr} {R : Nat} {I : Mem} {J : Nat → Nat → Int64} {Z : Option Nat}
theorem M_supL (hG : ModG g R) (hv : v < 2) : ∀ (k f : Nat) (s : Int32), k < 10 → k < f → lX9_supertypes_9 f R (nI v) s (nI k) (mm g I J Z) = some (spL (I (R + 1)) v k s, mm g I J Z) := by
  intro k
  induction k with
  | zero =>
    intro f s hk hf
    obtain ⟨f, rfl⟩ : ∃ z, f = z + 1 := ⟨f - 1, by omega⟩
    show bX9_supertypes_9 (lX9_supertypes_9 f) R (nI v) s (nI 0) _ = _
    unfold bX9_supertypes_9
    rw [if_pos (by decide)]
    rfl
  | succ k ih =>
    intro f s hk hf
    obtain ⟨f, rfl⟩ : ∃ z, f = z + 1 := ⟨f - 1, by omega⟩
    have hnx : ∀ s, fX9_supertypes_45 (lX9_supertypes_9 f) R (nI v) s (nI (k + 1)) (mm g I J Z) = some (spL (I (R + 1)) v k s, mm g I J Z) := by
      intro s
      unfold fX9_supertypes_45
      rw [pk_m1]
      exact ih f s (by omega) (by omega)
    show bX9_supertypes_9 (lX9_supertypes_9 f) R (nI v) s (nI (k + 1)) _ = _
    unfold bX9_supertypes_9
    rw [if_neg (nI_nle (by omega) (by omega)), M_has (by omega), bd_some]
    unfold spL
    cases hb : bt s (k + 1)
    · rw [if_pos (by decide), hnx, if_neg (by decide)]
    · rw [if_neg (by decide), cv_m hG.1, M_of hG hv (by omega) (by decide), bd_some, cv_m hG.1, M_of hG hv (by omega) (by decide), bd_some, hnx, if_pos rfl]
theorem M_sup (hG : ModG g R) (hv : v < 2) {c : Nat} (hc : c < 10) : fX9_supertypes R (nI v) (nI c) (mm g I J Z) = some (spm (I (R + 1)) v c, mm g I J Z) := by
  unfold fX9_supertypes
  exact M_supL hG hv c fuel _ hc (by unfold fuel; omega)
end Sp

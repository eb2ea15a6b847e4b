/-! ===== the search of a field ===== -/
def isFd (w : Nat → Int32) (v : Nat) (nm : Int32) (an : Bool) (t : Int32) (m : Nat) : Bool := decide (mb w v m 0 = nI 0) && decide (mb w v m 2 = nm) && (an || decide (mb w v m 5 = t))
abbrev onF (w : Nat → Int32) (v : Nat) (nm : Int32) (an : Bool) (t : Int32) (i : Nat) : Option Nat := onS (nmb w v) (ow w v) (isFd w v nm an t) i
/-- the first interface of k (of d from i) that finds one -/
def fbG (w : Nat → Int32) (v : Nat) (F : Nat → Option Nat) (k i d : Nat) : Option Nat := (fst (fun i => bt (cl w v k 3) i && (F i).isSome) i d).bind F
def fdF (w : Nat → Int32) (v : Nat) (nm : Int32) (an : Bool) (t : Int32) : Nat → Nat → Option Nat
  | 0, _ => none
  | f + 1, k => if exC w v k then orS (onF w v nm an t k) (if k = 0 then none else orS (fbG w v (fdF w v nm an t f) k 0 k) (fdF w v nm an t f (spn w v k))) else none
def fdS (w : Nat → Int32) (v : Nat) (nm : Int32) (an : Bool) (t : Int32) (k : Nat) : Option Nat := fdF w v nm an t (k + 1) k
theorem fst_congr {p q : Nat → Bool} : ∀ {d i : Nat}, (∀ k, i ≤ k → k < i + d → p k = q k) → fst p i d = fst q i d
  | 0, _, _ => rfl
  | d + 1, i, h => by
    unfold fst
    rw [h i (by omega) (by omega), fst_congr (fun k h1 h2 => h k (by omega) (by omega))]
theorem fbG_congr {w : Nat → Int32} {v : Nat} {F G : Nat → Option Nat} {k i d : Nat} (h : ∀ j, i ≤ j → j < i + d → bt (cl w v k 3) j = true → F j = G j) : fbG w v F k i d = fbG w v G k i d := by
  unfold fbG
  have e : fst (fun i => bt (cl w v k 3) i && (F i).isSome) i d = fst (fun i => bt (cl w v k 3) i && (G i).isSome) i d := by
    refine fst_congr (fun j h1 h2 => ?_)
    cases hb : bt (cl w v k 3) j
    · rfl
    · rw [h j h1 h2 hb]
  rw [e]
  cases hf : fst (fun i => bt (cl w v k 3) i && (G i).isSome) i d with
  | none => rfl
  | some j =>
    obtain ⟨a, b, c, -⟩ := fst_some hf
    rw [Bool.and_eq_true] at c
    exact h j a b c.1
section Fd
variable {g : Gr} {R a : Nat} {I I' : Mem} {J : Nat → Nat → Int64} {Z : Option Nat} {w : Nat → Int32} {v : Nat} {nm t : Int32} {an : Bool}
theorem fdF_fuel (h : WC w v) : ∀ (k : Nat), ∀ (f1 f2 : Nat), k < f1 → k < f2 → fdF w v nm an t f1 k = fdF w v nm an t f2 k := by
  intro k
  induction k using Nat.strongRecOn with
  | ind k ih =>
    intro f1 f2 h1 h2
    obtain ⟨f1, rfl⟩ : ∃ z, f1 = z + 1 := ⟨f1 - 1, by omega⟩
    obtain ⟨f2, rfl⟩ : ∃ z, f2 = z + 1 := ⟨f2 - 1, by omega⟩
    unfold fdF
    cases he : exC w v k
    · rfl
    · rw [if_tt, if_tt]
      by_cases h0 : k = 0
      · rw [if_pos h0, if_pos h0]
      · obtain ⟨a1, a2, a3, a4⟩ := h.spx (by omega) he
        rw [if_neg h0, if_neg h0, ih _ a1 f1 f2 (by omega) (by omega), fbG_congr (fun j _ hj _ => ih j (by omega) f1 f2 (by omega) (by omega))]
theorem fdS_eq (h : WC w v) {k : Nat} (he : exC w v k = true) : fdS w v nm an t k = orS (onF w v nm an t k) (if k = 0 then none else orS (fbG w v (fdS w v nm an t) k 0 k) (fdS w v nm an t (spn w v k))) := by
  show fdF w v nm an t (k + 1) k = _
  unfold fdF
  rw [he, if_tt]
  by_cases h0 : k = 0
  · rw [if_pos h0, if_pos h0]
  · obtain ⟨a1, a2, a3, a4⟩ := h.spx (by omega) he
    rw [if_neg h0, if_neg h0, fdF_fuel h (spn w v k) k (spn w v k + 1) a1 (by omega), fbG_congr (G := fdS w v nm an t) (fun j _ hj _ => fdF_fuel h j k (j + 1) (by omega) (by omega))]
    rfl
theorem fdS_no {k : Nat} (he : exC w v k = false) : fdS w v nm an t k = none := by
  show fdF w v nm an t (k + 1) k = _
  unfold fdF
  rw [he, if_ff]
theorem WM.uF (hM : WM w v) : ∀ k j, k < nmb w v → j < nmb w v → isFd w v nm an t k = true → isFd w v nm an t j = true → ow w v k = ow w v j → k = j := by
  intro k j hk hj h1 h2 he
  unfold isFd at h1 h2
  simp only [Bool.and_eq_true, decide_eq_true_eq] at h1 h2
  exact hM.unq k j hk hj (by rw [h1.1.1, h2.1.1]) (by rw [(hM.own k hk).2.2.1, (hM.own j hj).2.2.1, he]) (by rw [h1.1.2, h2.1.2]) (Or.inl h1.1.1)
theorem orS_lt {n : Nat} {a b : Option Nat} (ha : ∀ m, a = some m → m < n) (hb : ∀ m, b = some m → m < n) : ∀ m, orS a b = some m → m < n := by
  intro m hm
  cases a with
  | none => exact hb m hm
  | some k => exact ha m hm
theorem fdS_lt (h : WC w v) : ∀ (k : Nat) (m : Nat), fdS w v nm an t k = some m → m < nmb w v := by
  intro k
  induction k using Nat.strongRecOn with
  | ind k ih =>
    cases he : exC w v k
    · intro m e; rw [fdS_no he] at e; cases e
    · rw [fdS_eq h he]
      refine orS_lt (fun m e => (onS_some e).1) ?_
      by_cases h0 : k = 0
      · rw [if_pos h0]; intro m e; cases e
      · obtain ⟨a1, a2, a3, a4⟩ := h.spx (by omega) he
        rw [if_neg h0]
        refine orS_lt (fun m e => ?_) (ih _ a1)
        unfold fbG at e
        cases hf : fst (fun i => bt (cl w v k 3) i && (fdS w v nm an t i).isSome) 0 k with
        | none => rw [hf] at e; cases e
        | some j =>
          rw [hf] at e
          exact ih j (by have := (fst_some hf).2.1; omega) m e
/-! the reference -/
theorem M_ownF (h : Mb g R I w v) {c : Nat} (hc : c < 10) : fX9_ownField R (nI v) (nI c) nm (bI an) t (mm g I J Z) = some (oI (onF w v nm an t c), mm g I J Z) := by
  have hM := h.M
  have hn := hM.n40
  unfold fX9_ownField
  have hfd : fX9_found R (nI v) (nI c) (nI 0) nm (nI 0) (-2) (-2) (mm g I J Z) = some (oI (fst (isF w v (nI c) (nI 0) nm (nI 0) (-2) (-2)) 0 (nmb w v)), mm g I J Z) := by
    obtain ⟨a, b, rfl, _, d⟩ := h
    exact M_found a b hn d.n
  rw [h.cv, hfd, bd_some]
  have hF : ∀ m, m < nmb w v → (isF w v (nI c) (nI 0) nm (nI 0) (-2) (-2) m = true ↔ ow w v m = c ∧ mb w v m 0 = nI 0 ∧ mb w v m 2 = nm) := by
    intro m hm
    unfold isF
    simp only [Bool.and_eq_true, Bool.or_eq_true, decide_eq_true_eq, and_assoc]
    rw [(hM.own m hm).2.2.1, nI_eq (by have := (hM.own m hm).2.1; omega) (by omega), show ((nI 0 = 0) = True) from by decide, true_or, and_true]
  cases hf : fst (isF w v (nI c) (nI 0) nm (nI 0) (-2) (-2)) 0 (nmb w v) with
  | none =>
    show (if (-2 : Int32) = -2 then _ else _) = _
    rw [if_pos rfl]
    have : onF w v nm an t c = none := by
      refine fst_none_of (fun j _ hj => ?_)
      cases hd : decide (ow w v j = c) && isFd w v nm an t j
      · rfl
      · unfold isFd at hd
        simp only [Bool.and_eq_true, decide_eq_true_eq] at hd
        have := fst_none hf j (by omega) hj
        rw [(hF j (by omega)).mpr ⟨hd.1, hd.2.1.1, hd.2.1.2⟩] at this
        cases this
    rw [this]
    rfl
  | some m =>
    obtain ⟨-, m1, m2, -⟩ := fst_some hf
    have m1 : m < nmb w v := by omega
    obtain ⟨f1, f2, f3⟩ := (hF m m1).mp m2
    rw [if_neg (oI_ne (by omega)), bIf]
    show (if an = true then some (nI m, mm g I J Z) else cv 9 R (fX9_its R (nI v) (nI m) (nI 5)) (mm g I J Z) _) = _
    cases an
    · rw [if_ff, h.cv, h.its m1 (by decide), bd_some]
      by_cases ht : mb w v m 5 = t
      · rw [if_pos ht, show onF w v nm false t c = some m from onS_of hM.uF m1 f1 (by unfold isFd; simp [f2, f3, ht])]
      · rw [if_neg ht]
        have : onF w v nm false t c = none := by
          refine fst_none_of (fun j _ hj => ?_)
          cases hd : decide (ow w v j = c) && isFd w v nm false t j
          · rfl
          · unfold isFd at hd
            simp only [Bool.and_eq_true, decide_eq_true_eq, Bool.false_or] at hd
            have e : m = j := hM.unq m j m1 (by omega) (by rw [f2, hd.2.1.1]) (by rw [(hM.own m m1).2.2.1, (hM.own j (by omega)).2.2.1, f1, hd.1]) (by rw [f3, hd.2.1.2]) (Or.inl f2)
            rw [e] at ht
            exact absurd hd.2.2 ht
        rw [this]
        rfl
    · rw [if_tt, show onF w v nm true t c = some m from onS_of hM.uF m1 f1 (by unfold isFd; simp [f2, f3])]
      rfl
theorem ModG.ld4 (hG : ModG g R) {k : Nat} (hk : k < 10) : ldI (R + 4) (nI k) (mm g I J Z) = some (I (R + 4) k) := ldI_m hG.2.2.2.2.2.2.2.2.2.2.2.1.1 (by rw [hG.2.2.2.2.2.2.2.2.2.2.2.1.2]; exact hk) (by omega)
theorem ModG.st4 (hG : ModG g R) {k : Nat} (hk : k < 10) {x : Int32} : stI (R + 4) (nI k) x (mm g I J Z) = some (mm g (up2 I (R + 4) k x) J Z) := stI_m hG.2.2.2.2.2.2.2.2.2.2.2.1.1 (by rw [hG.2.2.2.2.2.2.2.2.2.2.2.1.2]; exact hk) (by omega)
theorem M_fl47 (h : Mb g R I w v) {c k : Nat} (hk : k < 10) {x5 : Int32} {K : Nat → Int32 → Int32 → Int32 → Int32 → Int32 → Int32 → AH → Option (Int32 × AH)} (hI : ∀ j, j < k → I (R + 4) j = oI (fdS w v nm an t j)) :
    ∀ (d i f : Nat) (o : Option Nat), (∀ m, o = some m → m < nmb w v) → i + d = k → d < f → lX9_fieldOf_47 K f R (nI v) (nI c) nm x5 t (nI k) (oI o) (nI i) (mm g I J Z) = fX9_fieldOf_97 K R (nI v) (nI c) nm x5 t (nI k) (oI (orS o (fbG w v (fdS w v nm an t) k i d))) (mm g I J Z) := by
  have hn := h.M.n40
  intro d
  induction d with
  | zero =>
    intro i f o ho hi hf
    obtain ⟨f, rfl⟩ : ∃ z, f = z + 1 := ⟨f - 1, by omega⟩
    show bX9_fieldOf_47 K (lX9_fieldOf_47 K f) R _ _ _ _ _ _ _ _ _ = _
    unfold bX9_fieldOf_47
    rw [if_pos (nI_le (by omega) (by omega))]
    cases o <;> rfl
  | succ d ih =>
    intro i f o ho hi hf
    obtain ⟨f, rfl⟩ : ∃ z, f = z + 1 := ⟨f - 1, by omega⟩
    show bX9_fieldOf_47 K (lX9_fieldOf_47 K f) R _ _ _ _ _ _ _ _ _ = _
    unfold bX9_fieldOf_47
    rw [if_neg (nI_ge (by omega) (by omega))]
    cases o with
    | some m =>
      rw [if_neg (oI_ne (by have := ho m rfl; omega))]
      rfl
    | none =>
      have h89 : ∀ o : Option Nat, (∀ m, o = some m → m < nmb w v) → fX9_fieldOf_89 K (lX9_fieldOf_47 K f) R (nI v) (nI c) nm x5 t (nI k) (nI i) (oI o) (mm g I J Z) = fX9_fieldOf_97 K R (nI v) (nI c) nm x5 t (nI k) (oI (orS o (fbG w v (fdS w v nm an t) k (i + 1) d))) (mm g I J Z) := by
        intro o ho
        unfold fX9_fieldOf_89
        rw [nI_add]
        exact ih (i + 1) f o ho (by omega) (by omega)
      show (if (-2 : Int32) = -2 then _ else _) = _
      rw [if_pos rfl, h.cv, h.of hk (by decide), bd_some, M_has (by omega), bd_some, bIf]
      have hfb : fbG w v (fdS w v nm an t) k i (d + 1) = if bt (cl w v k 3) i && (fdS w v nm an t i).isSome then fdS w v nm an t i else fbG w v (fdS w v nm an t) k (i + 1) d := by
        unfold fbG
        rw [fst]
        by_cases q : (bt (cl w v k 3) i && (fdS w v nm an t i).isSome) = true
        · rw [if_pos q, if_pos q]; rfl
        · rw [if_neg q, if_neg q]
      cases hb : bt (cl w v k 3) i
      · rw [if_ff]
        refine (h89 none (fun m e => by cases e)).trans ?_
        rw [hfb, hb]
        rfl
      · rw [if_tt, h.G.p5, Option.bind_some, h.G.ld4 (by omega), Option.bind_some, hI i (by omega), h89 _ (fdS_lt h.C i), hfb, hb]
        cases fdS w v nm an t i <;> rfl
/-- only fields' places may change -/
def Ff (R : Nat) (I I' : Mem) : Prop := ∀ a, a ≠ R + 4 → I' a = I a
theorem M_flL {c : Nat} (hc : exC w v c = true) : ∀ (d k f : Nat) (I : Mem), Mb g R I w v → k + d = c + 1 → d < f → (∀ j, j < k → I (R + 4) j = oI (fdS w v nm an t j)) →
    ∃ I', lX9_fieldOf_3 f R (nI v) (nI c) nm (bI an) t (nI k) (mm g I J Z) = some (oI (fdS w v nm an t c), mm g I' J Z) ∧ Ff R I I' := by
  have hcl := exC_lt hc
  intro d
  induction d with
  | zero =>
    intro k f I h hk hf hI
    obtain ⟨f, rfl⟩ : ∃ z, f = z + 1 := ⟨f - 1, by omega⟩
    refine ⟨I, ?_, fun _ _ => rfl⟩
    show bX9_fieldOf_3 (lX9_fieldOf_3 f) R _ _ _ _ _ _ _ = _
    unfold bX9_fieldOf_3
    rw [if_pos (nI_lt (by omega) (by omega)), h.G.p5, Option.bind_some, h.G.ld4 (by omega), Option.bind_some, hI c (by omega)]
  | succ d ih =>
    intro k f I h hk hf hI
    obtain ⟨f, rfl⟩ : ∃ z, f = z + 1 := ⟨f - 1, by omega⟩
    have hk10 : k < 10 := by omega
    show ∃ I', bX9_fieldOf_3 (lX9_fieldOf_3 f) R _ _ _ _ _ _ _ = _ ∧ _
    unfold bX9_fieldOf_3
    rw [if_neg (nI_nlt (by omega) (by omega)), h.G.p5, Option.bind_some, h.G.st4 hk10, Option.bind_some]
    have h1 : Mb g R (up2 I (R + 4) k (-2)) w v := h.fr (by rw [up2_ne (by omega)])
    have hI1 : ∀ j, j < k → up2 I (R + 4) k (-2) (R + 4) j = oI (fdS w v nm an t j) := fun j hj => by rw [up2_at, if_neg (by omega)]; exact hI j hj
    rw [h1.cv, h1.of hk10 (by decide), bd_some]
    have h134 : ∀ I2, Mb g R I2 w v → Ff R I I2 → (∀ j, j < k + 1 → I2 (R + 4) j = oI (fdS w v nm an t j)) → ∃ I', fX9_fieldOf_134 (lX9_fieldOf_3 f) R (nI v) (nI c) nm (bI an) t (nI k) (mm g I2 J Z) = some (oI (fdS w v nm an t c), mm g I' J Z) ∧ Ff R I I' := by
      intro I2 h2 hF hI2
      unfold fX9_fieldOf_134
      rw [nI_add]
      obtain ⟨I3, e1, e2⟩ := ih (k + 1) f I2 h2 (by omega) (by omega) hI2
      exact ⟨I3, e1, fun a ha => (e2 a ha).trans (hF a ha)⟩
    cases he : exC w v k
    · rw [if_neg (fun q => by rw [exC_of hk10 q] at he; cases he)]
      refine h134 _ h1 (fun a ha => up2_ne ha) (fun j hj => ?_)
      by_cases hjk : j = k
      · subst hjk; rw [up2_at, if_pos rfl, fdS_no he]; rfl
      · exact hI1 j (by omega)
    · rw [if_pos (exC_ex he), h1.cv, M_ownF h1 hk10, bd_some, M_fl47 h1 hk10 hI1 k 0 fuel _ (fun m e => (onS_some e).1) (by omega) (by unfold fuel; omega)]
      have h133 : ∀ o, o = fdS w v nm an t k → ∃ I', fX9_fieldOf_133 (lX9_fieldOf_3 f) R (nI v) (nI c) nm (bI an) t (nI k) (R + 4) (nI k) (oI o) (mm g (up2 I (R + 4) k (-2)) J Z) = some (oI (fdS w v nm an t c), mm g I' J Z) ∧ Ff R I I' := by
        intro o eo
        unfold fX9_fieldOf_133
        rw [h.G.st4 hk10, Option.bind_some]
        refine h134 _ (h1.fr (by rw [up2_ne (by omega)])) (fun a ha => by rw [up2_ne ha, up2_ne ha]) (fun j hj => ?_)
        rw [up2_at]
        by_cases hjk : j = k
        · rw [if_pos hjk, hjk, eo]
        · rw [if_neg hjk]; exact hI1 j (by omega)
      unfold fX9_fieldOf_97 fX9_fieldOf_131
      rw [h.G.p5, Option.bind_some]
      have heq := fdS_eq (nm := nm) (an := an) (t := t) h.C he
      cases ho : orS (onF w v nm an t k) (fbG w v (fdS w v nm an t) k 0 k) with
      | some m =>
        have hm : m < nmb w v := by
          refine orS_lt (fun m e => (onS_some e).1) (fun m e => ?_) m ho
          unfold fbG at e
          cases hf2 : fst (fun i => bt (cl w v k 3) i && (fdS w v nm an t i).isSome) 0 k with
          | none => rw [hf2] at e; cases e
          | some j => rw [hf2] at e; exact fdS_lt h.C j m e
        rw [if_neg (oI_ne (h.M.ne2 hm))]
        refine h133 (some m) ?_
        rw [heq]
        by_cases h0 : k = 0
        · subst h0
          rw [if_pos rfl]
          have : fbG w v (fdS w v nm an t) 0 0 0 = none := rfl
          rw [this] at ho
          exact ho.symm
        · rw [if_neg h0]
          cases hon : onF w v nm an t k with
          | none => rw [hon] at ho; rw [show fbG w v (fdS w v nm an t) k 0 k = some m from ho]; rfl
          | some j => rw [hon] at ho; exact ho.symm
      | none =>
        have hon : onF w v nm an t k = none := by
          cases hon : onF w v nm an t k with
          | none => rfl
          | some j => rw [hon] at ho; cases ho
        rw [hon] at ho
        have hfb : fbG w v (fdS w v nm an t) k 0 k = none := ho
        show ∃ I', (if (-2 : Int32) = -2 then _ else _) = _ ∧ _
        rw [if_pos rfl]
        by_cases h0 : 0 < k
        · obtain ⟨a1, a2, a3, a4⟩ := h.C.spx h0 he
          rw [if_neg (nI_nle h0 (by omega)), Option.bind_some, h1.cv, h1.of hk10 (by decide), bd_some, a2, h.G.ld4 (by omega), Option.bind_some, hI1 _ a1]
          refine h133 _ ?_
          rw [heq, hon, hfb, if_neg (by omega)]
          rfl
        · obtain rfl : k = 0 := by omega
          rw [if_pos (by decide)]
          refine h133 none ?_
          rw [heq, hon, if_pos rfl]
          rfl
theorem M_fieldOf (h : Mb g R I w v) {c : Nat} (hc : exC w v c = true) : ∃ I', fX9_fieldOf R (nI v) (nI c) nm (bI an) t (mm g I J Z) = some (oI (fdS w v nm an t c), mm g I' J Z) ∧ Ff R I I' := by
  have hcl := exC_lt hc
  unfold fX9_fieldOf
  exact M_flL hc (c + 1) 0 fuel I h (by omega) (by unfold fuel; omega) (fun j hj => absurd hj (by omega))
end Fd

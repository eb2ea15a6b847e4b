/-! ===== the reference: methodOf, selectedBy, selectedFor, isIncomplete ===== -/
section Cg
variable {n : Nat} {o : Nat → Nat} {P Q D C S S' ab : Nat → Bool} {st : Nat → Nat → Bool}
theorem ct_congr : ∀ {n : Nat}, (∀ k, k < n → P k = Q k) → ct P n = ct Q n
  | 0, _ => rfl
  | n + 1, h => by
    unfold ct
    rw [h n (by omega), ct_congr (n := n) (fun k hk => h k (by omega))]
theorem ls_congr : ∀ {n : Nat}, (∀ k, k < n → P k = Q k) → ls P n = ls Q n
  | 0, _ => rfl
  | n + 1, h => by
    unfold ls
    rw [h n (by omega), ls_congr (n := n) (fun k hk => h k (by omega))]
theorem mi_congr : ∀ {n : Nat}, (∀ k, k < n → P k = Q k) → mi o P n = mi o Q n
  | 0, _ => rfl
  | n + 1, h => by
    unfold mi
    rw [h n (by omega), mi_congr (n := n) (fun k hk => h k (by omega))]
theorem cdB_congr (h : ∀ i, i < 10 → S i = S' i) {i : Nat} (hi : i < 10) : cdB n o C S i = cdB n o C S' i := by
  unfold cdB
  rw [h i hi]
theorem mlB_congr (h : ∀ i, i < 10 → S i = S' i) {i : Nat} (hi : i < 10) : mlB n o C S st i = mlB n o C S' st i := by
  rw [Bool.eq_iff_iff, mlB_iff, mlB_iff, cdB_congr h hi]
  refine and_congr Iff.rfl ⟨fun q k hk => ?_, fun q k hk => ?_⟩
  · rw [← cdB_congr h hk]; exact q k hk
  · rw [cdB_congr h hk]; exact q k hk
theorem imS_congr (h : ∀ i, i < 10 → S i = S' i) (ho : ∀ m, m < n → o m < 10) {low : Bool} : imS n o D C S ab st low = imS n o D C S' ab st low := by
  unfold imS
  rw [ct_congr (P := fun m => D m && mlB n o C S st (o m) && !ab m) (Q := fun m => D m && mlB n o C S' st (o m) && !ab m) (fun k hk => by rw [mlB_congr h (ho k hk)]), ls_congr (P := fun m => D m && mlB n o C S st (o m) && !ab m) (Q := fun m => D m && mlB n o C S' st (o m) && !ab m) (fun k hk => by rw [mlB_congr h (ho k hk)]), mi_congr (P := fun m => D m && mlB n o C S st (o m)) (Q := fun m => D m && mlB n o C S' st (o m)) (fun k hk => by rw [mlB_congr h (ho k hk)])]
end Cg
/-- only looksAt's places may change -/
def Fk (R : Nat) (I I' : Mem) : Prop := (∀ a, a ≠ R → I' a = I a) ∧ ∀ k, k < 11 ∨ 14 < k → I' R k = I R k
theorem Fk.refl {R : Nat} {I : Mem} : Fk R I I := ⟨fun _ _ => rfl, fun _ _ => rfl⟩
theorem Fk.lkW {R : Nat} {I : Mem} {w : Nat → Int32} {v : Nat} {nm r y z : Int32} {S : Nat → Bool} {i : Nat} : Fk R I (lkW w v nm r y z S I R i) := ⟨fun _ h => lkW_ne h, fun _ h => lkW_o h⟩
theorem Fk.trans {R : Nat} {I I' I'' : Mem} (h : Fk R I I') (h' : Fk R I' I'') : Fk R I I'' := ⟨fun a ha => (h'.1 a ha).trans (h.1 a ha), fun k hk => (h'.2 k hk).trans (h.2 k hk)⟩
theorem Wnt.fk {g : Gr} {R : Nat} {I I' : Mem} {w : Nat → Int32} {v : Nat} {nm r x y z : Int32} (h : Wnt g R I w v nm r x y z) (hf : Fk R I I') : Wnt g R I' w v nm r x y z :=
  ⟨h.G, h.v2, (hf.1 _ (by omega)).trans h.row, h.C, h.M, (hf.2 _ (by omega)).trans h.h6, (hf.2 _ (by omega)).trans h.h7, (hf.2 _ (by omega)).trans h.h8, h.h9.imp (fun e => (hf.2 _ (by omega)).trans e) id, h.h10.imp (fun e => (hf.2 _ (by omega)).trans e) id, h.P⟩
/-- the wanted method along a line of classes -/
abbrev lnW (w : Nat → Int32) (v : Nat) (D : Nat → Bool) (L : Nat → Bool) : Option Nat := mx (ow w v) (fun m => D m && L (ow w v m)) (nmb w v)
def orS (a b : Option Nat) : Option Nat := match a with | some m => some m | none => b
def metS (w : Nat → Int32) (v : Nat) (nm r y z : Int32) (c : Nat) : Option Nat := orS (lnW w v (isD w v nm r y z) (lnB w v c)) (imW w v nm r y z (upS w v c) true)
def cdW (w : Nat → Int32) (v : Nat) (nm r y z : Int32) (m : Nat) : Bool := isD w v nm r y z m && cnB w v m
def selS (w : Nat → Int32) (v : Nat) (nm r y z : Int32) (L S : Nat → Bool) : Option Nat := orS (lnW w v (cdW w v nm r y z) L) (imW w v nm r y z S false)
section Me
variable {g : Gr} {R : Nat} {I : Mem} {J : Nat → Nat → Int64} {Z : Option Nat} {w : Nat → Int32} {v : Nat} {nm r x y z : Int32}
theorem imW_congr (hM : WM w v) {S S' : Nat → Bool} {low : Bool} (h : ∀ i, i < 10 → S i = S' i) : imW w v nm r y z S low = imW w v nm r y z S' low := imS_congr h (fun m hm => (hM.own m hm).2.1)
theorem imW_lt {S : Nat → Bool} {low : Bool} {m : Nat} (h : imW w v nm r y z S low = some m) : m < nmb w v := by
  unfold imW imS at h
  split at h
  · exact (ls_some h).1
  · split at h
    · exact (mi_some h).1
    · cases h
theorem if_ff {α : Type} {A B : α} : (if false = true then A else B) = B := rfl
theorem if_tt {α : Type} {A B : α} : (if true = true then A else B) = A := rfl
theorem oI_ne {m : Nat} (h : m < 2 ^ 31) : oI (some m) ≠ -2 := nI_nem h (by decide)
theorem M_met51 (h : Wnt g R I w v nm r x y z) {c : Nat} (he : exC w v c = true) (o : Option Nat) (ho : ∀ m, o = some m → m < nmb w v) : ∃ I', fX9_methodOf_51 R (nI v) (nI c) (oI o) (mm g I J Z) = some (oI (orS o (imW w v nm r y z (upS w v c) true)), mm g I' J Z) ∧ Fk R I I' := by
  have hn := h.M.n40
  unfold fX9_methodOf_51
  cases o with
  | none =>
    obtain ⟨S, s1, s2⟩ := M_iface (J := J) (Z := Z) h he
    refine ⟨lkW w v nm r y z S I R 10, ?_, Fk.lkW⟩
    show (if (-2 : Int32) = -2 then _ else _) = _
    rw [if_pos rfl, M_cv h.G, s2, bd_some, imW_congr h.M s1]
    rfl
  | some m =>
    refine ⟨I, ?_, Fk.refl⟩
    rw [if_neg (oI_ne (by have := ho m rfl; omega))]
    rfl
theorem M_metL (h : Wnt g R I w v nm r x y z) {c : Nat} (he : exC w v c = true) (hc : itB w v c = false) : ∀ (k : Nat), exC w v k = true → itB w v k = false → ∀ f, k < f →
    lX9_methodOf_10 f R (nI v) (nI c) (oI (onW w v nm r y z k)) (nI k) (mm g I J Z) = fX9_methodOf_51 R (nI v) (nI c) (oI (lnW w v (isD w v nm r y z) (lnB w v k))) (mm g I J Z) := by
  have hn := h.M.n40
  intro k
  induction k using Nat.strongRecOn with
  | ind k ih =>
    intro hek hik f hf
    obtain ⟨f, rfl⟩ : ∃ z, f = z + 1 := ⟨f - 1, by omega⟩
    show bX9_methodOf_10 (lX9_methodOf_10 f) R (nI v) (nI c) (oI (onW w v nm r y z k)) (nI k) _ = _
    unfold bX9_methodOf_10
    cases ho : onW w v nm r y z k with
    | some m =>
      rw [if_neg (oI_ne (by have := (onS_some ho).1; omega))]
      show _ = fX9_methodOf_51 R (nI v) (nI c) (oI (mx _ _ _)) _
      rw [line_own h.C hek h.M.uD ho]
    | none =>
      show (if (-2 : Int32) = -2 then _ else _) = fX9_methodOf_51 R (nI v) (nI c) (oI (mx _ _ _)) _
      rw [if_pos rfl, line_none h.C hek ho]
      by_cases hk0 : 0 < k
      · obtain ⟨a1, a2, a3, a4⟩ := h.C.spx hk0 hek
        rw [if_neg (nI_nle hk0 (by have := exC_lt hek; omega)), M_cv h.G, h.itB (exC_lt he), bd_some, hc, bIf, if_neg (by decide), M_cv h.G, h.of (exC_lt hek) (by decide), bd_some, a2, M_cv h.G, h.own (exC_lt a3), bd_some, if_pos ⟨hk0, hik⟩]
        exact ih _ a1 a3 a4 f (by omega)
      · obtain rfl : k = 0 := by omega
        rw [if_pos (by decide), if_neg (by omega)]
theorem M_methodOf (h : Wnt g R I w v nm r x y z) {c : Nat} (he : exC w v c = true) : ∃ I', fX9_methodOf R (nI v) (nI c) (mm g I J Z) = some (oI (metS w v nm r y z c), mm g I' J Z) ∧ Fk R I I' := by
  have hn := h.M.n40
  have hc := exC_lt he
  unfold fX9_methodOf
  rw [M_cv h.G, h.own hc, bd_some]
  cases hi : itB w v c
  · show ∃ I', lX9_methodOf_10 fuel R (nI v) (nI c) (oI (onW w v nm r y z c)) (nI c) _ = _ ∧ _
    rw [M_metL h he hi c he hi fuel (by unfold fuel; omega)]
    exact M_met51 h he _ (fun m hm => (mx_some hm).1)
  · -- an interface: its own alone
    have e : lX9_methodOf_10 fuel R (nI v) (nI c) (oI (onW w v nm r y z c)) (nI c) (mm g I J Z) = fX9_methodOf_51 R (nI v) (nI c) (oI (lnW w v (isD w v nm r y z) (lnB w v c))) (mm g I J Z) := by
      obtain ⟨f, hf⟩ : ∃ z, fuel = z + 1 := ⟨fuel - 1, by unfold fuel; omega⟩
      rw [hf]
      show bX9_methodOf_10 (lX9_methodOf_10 f) R (nI v) (nI c) (oI (onW w v nm r y z c)) (nI c) _ = fX9_methodOf_51 R (nI v) (nI c) (oI (mx _ _ _)) _
      unfold bX9_methodOf_10
      cases ho : onW w v nm r y z c with
      | some m =>
        rw [if_neg (oI_ne (by have := (onS_some ho).1; omega)), line_own h.C he h.M.uD ho]
      | none =>
        show (if (-2 : Int32) = -2 then _ else _) = _
        have hz : ¬ (0 < c ∧ itB w v c = false) := fun q => by rw [hi] at q; exact absurd q.2 (by decide)
        rw [if_pos rfl, line_none h.C he ho, if_neg hz]
        by_cases h0 : nI c ≤ 0
        · rw [if_pos h0]
        · rw [if_neg h0, M_cv h.G, h.itB hc, bd_some, hi, bIf, if_pos rfl]
    show ∃ I', lX9_methodOf_10 fuel R (nI v) (nI c) (oI (onW w v nm r y z c)) (nI c) _ = _ ∧ _
    rw [e]
    exact M_met51 h he _ (fun m hm => (mx_some hm).1)
/-! selection -/
theorem WM.uC (hM : WM w v) : ∀ k j, k < nmb w v → j < nmb w v → cdW w v nm r y z k = true → cdW w v nm r y z j = true → ow w v k = ow w v j → k = j := fun k j hk hj h1 h2 => hM.uD k j hk hj (by unfold cdW at h1; rw [Bool.and_eq_true] at h1; exact h1.1) (by unfold cdW at h2; rw [Bool.and_eq_true] at h2; exact h2.1)
theorem onC (hM : WM w v) (c : Nat) : (cO w v (onW w v nm r y z c) = true → onS (nmb w v) (ow w v) (cdW w v nm r y z) c = onW w v nm r y z c) ∧ (cO w v (onW w v nm r y z c) = false → onS (nmb w v) (ow w v) (cdW w v nm r y z) c = none) := by
  constructor
  · intro q
    cases ho : onW w v nm r y z c with
    | none => rw [ho] at q; cases q
    | some m =>
      rw [ho] at q
      obtain ⟨a, b, d⟩ := onS_some ho
      exact onS_of hM.uC a b (by unfold cdW; rw [d]; exact q)
  · intro q
    cases ho : onS (nmb w v) (ow w v) (cdW w v nm r y z) c with
    | none => rfl
    | some m =>
      obtain ⟨a, b, d⟩ := onS_some ho
      unfold cdW at d
      rw [Bool.and_eq_true] at d
      rw [show onW w v nm r y z c = some m from onS_of hM.uD a b d.1] at q
      rw [show cO w v (some m) = cnB w v m from rfl, d.2] at q
      cases q
theorem M_sel69 (h : Wnt g R I w v nm r x y z) {s0 : Int32} (hs : ∀ k, k < 10 → bt s0 k = true → exC w v k = true) {o : Option Nat} (ho : ∀ m, o = some m → m < nmb w v) : ∃ I', fX9_selectedBy_69 R (nI v) s0 (oI o) (mm g I J Z) = some (oI (if cO w v o then o else imW w v nm r y z (seB w v s0) false), mm g I' J Z) ∧ Fk R I I' := by
  unfold fX9_selectedBy_69
  rw [M_cv h.G, h.cand ho, bd_some, bIf]
  cases cO w v o
  · refine ⟨lkW w v nm r y z (seB w v s0) I R 10, ?_, Fk.lkW⟩
    rw [if_neg (by decide), M_cv h.G, M_looksAt h hs, bd_some, gI_m h.G.1, Option.bind_some, lkW_13, if_ff]
    by_cases q : ct (gvW w v nm r y z (seB w v s0)) 10 = 1
    · rw [if_pos (ct10.mpr q), gI_m h.G.1, Option.bind_some, lkW_14, (M_lkAns h.M).1 q]
    · rw [if_neg (fun e => q (ct10.mp e)), (M_lkAns h.M).2 q, if_neg (by decide)]
      rfl
  · exact ⟨I, by rw [if_pos rfl, if_pos rfl], Fk.refl⟩
/-- the loop ends at a candidate -/
theorem M_selEnd (h : Wnt g R I w v nm r x y z) {s0 q : Int32} {o : Option Nat} (ho : ∀ m, o = some m → m < nmb w v) (hc : cO w v o = true ∨ q < 0) {f : Nat} : lX9_selectedBy_22 (f + 1) R (nI v) s0 (oI o) q (mm g I J Z) = fX9_selectedBy_69 R (nI v) s0 (oI o) (mm g I J Z) := by
  show bX9_selectedBy_22 (lX9_selectedBy_22 f) R (nI v) s0 (oI o) q _ = _
  unfold bX9_selectedBy_22
  rw [M_cv h.G, h.cand ho, bd_some, bIf]
  cases hb : cO w v o
  · rcases hc with hc | hc
    · rw [hb] at hc; cases hc
    · rw [if_neg (by decide), if_pos hc]
  · rw [if_pos rfl]
theorem M_selL (h : Wnt g R I w v nm r x y z) {s0 : Int32} (hs : ∀ k, k < 10 → bt s0 k = true → exC w v k = true) : ∀ (k : Nat), exC w v k = true → itB w v k = false → ∀ (f : Nat) (o : Option Nat), (∀ m, o = some m → m < nmb w v) → cO w v o = false → k + 1 < f →
    ∃ I', lX9_selectedBy_22 f R (nI v) s0 (oI o) (nI k) (mm g I J Z) = some (oI (selS w v nm r y z (lnB w v k) (seB w v s0)), mm g I' J Z) ∧ Fk R I I' := by
  intro k
  induction k using Nat.strongRecOn with
  | ind k ih =>
    intro hek hik f o ho hco hf
    obtain ⟨f, rfl⟩ : ∃ z, f = z + 2 := ⟨f - 2, by omega⟩
    have hk := exC_lt hek
    show ∃ I', bX9_selectedBy_22 (lX9_selectedBy_22 (f + 1)) R (nI v) s0 (oI o) (nI k) _ = _ ∧ _
    unfold bX9_selectedBy_22
    rw [M_cv h.G, h.cand ho, bd_some, hco, bIf, if_neg (by decide), if_neg (nI_pos (by omega)), M_cv h.G, h.own hk, bd_some]
    unfold fX9_selectedBy_64
    have hon : ∀ m, onW w v nm r y z k = some m → m < nmb w v := fun m e => (onS_some e).1
    cases hc : cO w v (onW w v nm r y z k)
    · -- no candidate here
      have hnone := (onC h.M k).2 hc
      have hsel : selS w v nm r y z (lnB w v k) (seB w v s0) = if 0 < k ∧ itB w v k = false then selS w v nm r y z (lnB w v (spn w v k)) (seB w v s0) else imW w v nm r y z (seB w v s0) false := by
        unfold selS lnW
        rw [line_none h.C hek hnone]
        by_cases q : 0 < k ∧ itB w v k = false
        · rw [if_pos q, if_pos q]
        · rw [if_neg q, if_neg q]
          rfl
      by_cases hk0 : 0 < k
      · obtain ⟨a1, a2, a3, a4⟩ := h.C.spx hk0 hek
        rw [if_neg (nI_ne0 hk0 (by omega)), M_cv h.G, h.of hk (by decide), bd_some, a2, hsel, if_pos ⟨hk0, hik⟩]
        exact ih _ a1 a3 a4 (f + 1) _ hon hc (by omega)
      · obtain rfl : k = 0 := by omega
        rw [if_pos nI_0, hsel, if_neg (by omega), M_selEnd h hon (Or.inr (by decide))]
        obtain ⟨I', e1, e2⟩ := M_sel69 (J := J) (Z := Z) h hs hon
        refine ⟨I', ?_, e2⟩
        rw [e1, hc, if_neg (by decide)]
    · -- its own
      have hsome := (onC h.M k).1 hc
      obtain ⟨m, hm⟩ : ∃ m, onW w v nm r y z k = some m := by
        cases ho2 : onW w v nm r y z k with
        | none => rw [ho2] at hc; cases hc
        | some m => exact ⟨m, rfl⟩
      have hsel : selS w v nm r y z (lnB w v k) (seB w v s0) = onW w v nm r y z k := by
        unfold selS lnW
        rw [line_own h.C hek h.M.uC (hsome.trans hm), hm]
        rfl
      obtain ⟨I', e1, e2⟩ := M_sel69 (J := J) (Z := Z) h hs hon
      refine ⟨I', ?_, e2⟩
      rw [hsel]
      by_cases hk0 : 0 < k
      · rw [if_neg (nI_ne0 hk0 (by omega)), M_cv h.G, h.of hk (by decide), bd_some, M_selEnd h hon (Or.inl hc), e1, hc, if_pos rfl]
      · obtain rfl : k = 0 := by omega
        rw [if_pos nI_0, M_selEnd h hon (Or.inl hc), e1, hc, if_pos rfl]
/-- for a class that is made with the base b -/
theorem M_selB (h : Wnt g R I w v nm r x y z) {s0 : Int32} (hs : ∀ k, k < 10 → bt s0 k = true → exC w v k = true) {b : Nat} (he : exC w v b = true) (hi : itB w v b = false) : ∃ I', fX9_selectedBy R (nI v) (-2) (nI b) s0 (mm g I J Z) = some (oI (selS w v nm r y z (lnB w v b) (seB w v s0)), mm g I' J Z) ∧ Fk R I I' := by
  unfold fX9_selectedBy fX9_selectedBy_17
  rw [if_pos rfl, show (-2 : Int32) = oI none from rfl]
  exact M_selL h hs b he hi fuel none (fun m e => by cases e) rfl (by have := exC_lt he; unfold fuel; omega)
/-- for a class that exists -/
theorem M_selC (h : Wnt g R I w v nm r x y z) {s0 : Int32} (hs : ∀ k, k < 10 → bt s0 k = true → exC w v k = true) {c : Nat} (he : exC w v c = true) : ∃ I', fX9_selectedBy R (nI v) (nI c) (if c = 0 then -2 else cl w v c 2) s0 (mm g I J Z) = some (oI (selS w v nm r y z (lnB w v c) (seB w v s0)), mm g I' J Z) ∧ Fk R I I' := by
  have hk := exC_lt he
  have hon : ∀ m, onW w v nm r y z c = some m → m < nmb w v := fun m e => (onS_some e).1
  unfold fX9_selectedBy fX9_selectedBy_17
  rw [if_neg (nI_nem (by omega) (by decide)), M_cv h.G, h.own hk, bd_some]
  obtain ⟨f, hf⟩ : ∃ z, fuel = z + 1 := ⟨fuel - 1, by unfold fuel; omega⟩
  cases hc : cO w v (onW w v nm r y z c)
  · have hnone := (onC h.M c).2 hc
    by_cases hc0 : c = 0
    · subst hc0
      rw [if_pos rfl, hf, M_selEnd h hon (Or.inr (by decide))]
      obtain ⟨I', e1, e2⟩ := M_sel69 (J := J) (Z := Z) h hs hon
      refine ⟨I', ?_, e2⟩
      rw [e1, hc, if_neg (by decide)]
      unfold selS lnW
      rw [line_none h.C he hnone, if_neg (by omega)]
      rfl
    · obtain ⟨a1, a2, a3, a4⟩ := h.C.spx (by omega) he
      rw [if_neg hc0, a2]
      obtain ⟨I', e1, e2⟩ := M_selL (J := J) (Z := Z) h hs _ a3 a4 fuel _ hon hc (by unfold fuel; omega)
      refine ⟨I', ?_, e2⟩
      refine e1.trans ?_
      unfold selS lnW
      rw [line_none h.C he hnone]
      cases hi : itB w v c
      · rw [if_pos ⟨by omega, rfl⟩]
      · rw [if_neg (fun q => absurd q.2 (by decide))]
        have h0 : spn w v c = 0 := (h.C.sup (by omega) hk (exC_ex he)).2.2.2.2 (by unfold itB at hi; exact of_decide_eq_true hi)
        rw [h0, mx_nil (P := fun m => cdW w v nm r y z m && lnB w v 0 (ow w v m)) (fun m hm => ?_)]
        cases hl : lnB w v 0 (ow w v m)
        · rw [Bool.and_false]
        · have := (lnB_le h.C 0 h.C.ex0 _ hl).1
          have := (h.M.own m hm).1
          omega
  · have hsome := (onC h.M c).1 hc
    obtain ⟨m, hm⟩ : ∃ m, onW w v nm r y z c = some m := by
      cases ho2 : onW w v nm r y z c with
      | none => rw [ho2] at hc; cases hc
      | some m => exact ⟨m, rfl⟩
    rw [hf, M_selEnd h hon (Or.inl hc)]
    obtain ⟨I', e1, e2⟩ := M_sel69 (J := J) (Z := Z) h hs hon
    refine ⟨I', ?_, e2⟩
    rw [e1, hc, if_pos rfl]
    unfold selS lnW
    rw [line_own h.C he h.M.uC (hsome.trans hm), hm]
    rfl
end Me

/-! ===== compiling a client: what it means; the reference ===== -/
def nr : Nat → Int32 := fun j => if j = 0 then nI 0 else -2
def opcB (w : Nat → Int32) (v c : Nat) (pk : Int32) : Bool := decide (cl w v c 5 = nI 1) || decide (cl w v c 4 = pk)
def baB (w : Nat → Int32) (v b : Nat) (pk : Int32) : Bool := exC w v b && !itB w v b && !decide (cl w v b 6 = nI 1) && opcB w v b pk
def cfM (w : Nat → Int32) (v : Nat) (k : Nat → Int32) (u b m : Nat) : Int32 × (Nat → Int32) := if opB w v m (k 3) b = true then (if u = 1 ∧ bt (mb w v m 4) 1 = true then (nI 6, nr) else if u = 0 ∧ mb w v m 9 ≠ -2 then (nI 0, fun j => if j = 0 then nI 1 else if j = 1 then mb w v m 9 else -2) else (nI 0, fun j => if j = 0 then nI 0 else if j = 2 then mb w v m 5 else if j = 3 then bI (bt (mb w v m 4) 0) else -2)) else (nI 5, nr)
def cfO (w : Nat → Int32) (v : Nat) (k : Nat → Int32) (u b : Nat) : Option Nat → Int32 × (Nat → Int32)
  | none => (nI 3, nr)
  | some m => cfM w v k u b m
def cfE (w : Nat → Int32) (v : Nat) (k : Nat → Int32) (u c b : Nat) : Int32 × (Nat → Int32) := cfO w v k u b (fdS w v (k 2) true (nI 0) c)
def caM (w : Nat → Int32) (v c m : Nat) : Nat → Int32 := fun j => if j = 0 then nI 0 else if j = 2 then mb w v m 5 else if j = 3 then bI (bt (mb w v m 4) 0) else if j = 4 then mb w v m 6 else if j = 5 then mb w v m 7 else if j = 6 then mb w v m 8 else if j = 7 then cl w v c 1 else -2
def caO (w : Nat → Int32) (v c : Nat) : Option Nat → Int32 × (Nat → Int32)
  | none => (nI 4, nr)
  | some m => (nI 0, caM w v c m)
def caE (w : Nat → Int32) (v : Nat) (k : Nat → Int32) (c b : Nat) : Int32 × (Nat → Int32) := if ct (apB w v k c b) (nmb w v) = 0 then (nI 3, nr) else caO w v c (caS w v (apB w v k c b))
def exE (w : Nat → Int32) (v c : Nat) (e1 e2 : Int32) : Int32 := if itB w v c = true ∨ cl w v c 6 = nI 1 then e1 else if incS w v (stB w v c) (lnB w v c) (upS w v c) = true then e2 else nI 0
def icB (w : Nat → Int32) (v c b : Nat) : Bool := incS w v (fun i => stB w v c i || stB w v b i) (lnB w v b) (fun i => (stB w v c i || stB w v b i) && itB w v i)
def comS (w : Nat → Int32) (v : Nat) (k : Nat → Int32) (u c b : Nat) : Int32 × (Nat → Int32) :=
  if exC w v c = false then (nI 1, nr) else if opcB w v c (k 3) = false then (nI 2, nr) else
  if u ≤ 1 then cfE w v k u c b else if u = 2 then caE w v k c b else if u = 3 then (if cl w v c 7 = nI 1 then nI 6 else nI 0, nr) else if u = 4 then (exE w v c (nI 6) (nI 7), nr)
  else (if itB w v c = false then nI 6 else if baB w v b (k 3) = false then nI 8 else if icB w v c b = true then nI 7 else nI 0, nr)
/-- only the reference's scratch may change -/
def Fm (R : Nat) (I I' : Mem) : Prop := (∀ x, x ≠ R → x ≠ R + 4 → x ≠ R + 6 → x ≠ R + 7 → I' x = I x) ∧ ∀ k, k < 6 ∨ 14 < k → I' R k = I R k
theorem Fm.refl {R : Nat} {I : Mem} : Fm R I I := ⟨fun _ _ _ _ _ => rfl, fun _ _ => rfl⟩
theorem Fm.trans {R : Nat} {I I' I'' : Mem} (h : Fm R I I') (h' : Fm R I' I'') : Fm R I I'' := ⟨fun x a b c d => (h'.1 x a b c d).trans (h.1 x a b c d), fun k hk => (h'.2 k hk).trans (h.2 k hk)⟩
theorem Fw.fm {R : Nat} {I I' : Mem} (h : Fw R I I') : Fm R I I' := ⟨fun x a _ _ _ => h.1 x a, h.2⟩
theorem Ff.fm {R : Nat} {I I' : Mem} (h : Ff R I I') : Fm R I I' := ⟨fun x _ b _ _ => h x b, fun k _ => by rw [h R (by omega)]⟩
theorem F7.fm {R : Nat} {I I' : Mem} (h : F7 R I I') : Fm R I I' := ⟨fun x _ _ _ d => h x d, fun k _ => by rw [h R (by omega)]⟩
theorem fm_up6 {R : Nat} {I : Mem} {j : Nat} {x : Int32} : Fm R I (up2 I (R + 6) j x) := ⟨fun y _ _ c _ => up2_ne c, fun k _ => by rw [up2_ne (by omega)]⟩
theorem oI_s {m : Nat} : oI (some m) = nI m := rfl
section Co
variable {g : Gr} {R : Nat} {I I' : Mem} {J : Nat → Nat → Int64} {Z : Option Nat} {w : Nat → Int32} {v m c b u : Nat} {k : Nat → Int32}
theorem Mb.fm (h : Mb g R I w v) (hf : Fm R I I') : Mb g R I' w v := h.fr (hf.1 _ (by omega) (by omega) (by omega) (by omega))
theorem Fm.r5 {I I' : Mem} (hf : Fm R I I') : I' (R + 5) = I (R + 5) := hf.1 _ (by omega) (by omega) (by omega) (by omega)
theorem WC.f67 (h : WC w v) (he : exC w v c = true) : (cl w v c 6 = nI 0 ∨ cl w v c 6 = nI 1) ∧ (cl w v c 7 = nI 0 ∨ cl w v c 7 = nI 1) := by
  by_cases h0 : c = 0
  · subst h0; exact ⟨Or.inl h.1.2.2.2.2.2.2.1, Or.inl h.1.2.2.2.2.2.2.2⟩
  · obtain ⟨-, -, -, -, -, a, b, -⟩ := h.2.2 c (by omega) (exC_lt he) (exC_ex he)
    exact ⟨a, b⟩
theorem M_noRef (hG : ModG g R) : ∀ (d i f : Nat) (I : Mem), i + d = 8 → d < f → (∀ j, j < i → I (R + 6) j = -2) → ∃ I', lX9_noReference_2 f R (nI i) (mm g I J Z) = some ((), mm g I' J Z) ∧ (∀ x, x ≠ R + 6 → I' x = I x) ∧ ∀ j, j < 8 → I' (R + 6) j = nr j := by
  intro d
  induction d with
  | zero =>
    intro i f I hi hf hI
    obtain ⟨f, rfl⟩ : ∃ z, f = z + 1 := ⟨f - 1, by omega⟩
    refine ⟨up2 I (R + 6) 0 (nI 0), ?_, fun x hx => up2_ne hx, fun j hj => ?_⟩
    · show bX9_noReference_2 (lX9_noReference_2 f) R _ _ = _
      unfold bX9_noReference_2
      rw [if_pos (nI_le (by omega) (by omega)), hG.p16, Option.bind_some, hG.st6 (by decide), Option.bind_some]
    · rw [up2_at]
      unfold nr
      by_cases e : j = 0
      · rw [if_pos e, if_pos e]
      · rw [if_neg e, if_neg e]; exact hI j (by omega)
  | succ d ih =>
    intro i f I hi hf hI
    obtain ⟨f, rfl⟩ : ∃ z, f = z + 1 := ⟨f - 1, by omega⟩
    show ∃ I', bX9_noReference_2 (lX9_noReference_2 f) R _ _ = _ ∧ _
    unfold bX9_noReference_2
    rw [if_neg (nI_ge (by omega) (by omega)), hG.p16, Option.bind_some, hG.st6 (by omega), Option.bind_some, nI_add]
    obtain ⟨I3, t1, t2, t3⟩ := ih (i + 1) f (up2 I (R + 6) i (-2)) (by omega) (by omega) (fun j hj => by
      rw [up2_at]
      by_cases e : j = i
      · rw [if_pos e]
      · rw [if_neg e]; exact hI j (by omega))
    exact ⟨I3, t1, fun x hx => (t2 x hx).trans (up2_ne hx), t3⟩
theorem M_compF (h : Mb g R I w v) (hK : CK (I (R + 5)) u c b) (hu : u ≤ 1) (hc : exC w v c = true) (hr : ∀ j, j < 8 → I (R + 6) j = nr j) : ∃ I', fX9_compiledField R (nI v) (nI c) (mm g I J Z) = some ((cfE w v (I (R + 5)) u c b).1, mm g I' J Z) ∧ Fm R I I' ∧ ∀ j, j < 8 → I' (R + 6) j = (cfE w v (I (R + 5)) u c b).2 j := by
  obtain ⟨k1, k2, k3, k4, k5, k6, k7, k8⟩ := hK
  obtain ⟨I1, e1, e2⟩ := M_fieldOf (J := J) (Z := Z) (nm := I (R + 5) 2) (t := nI 0) (an := true) h hc
  have hf1 := e2.fm
  have h1 := h.fm hf1
  have hk1 : I1 (R + 5) = I (R + 5) := hf1.r5
  have hr1 : ∀ j, j < 8 → I1 (R + 6) j = nr j := fun j hj => by rw [e2 _ (by omega)]; exact hr j hj
  unfold fX9_compiledField cfE
  rw [h.G.p15, Option.bind_some, h.G.cl (by decide), Option.bind_some, h.cv, show fX9_fieldOf R (nI v) (nI c) (I (R + 5) 2) (nI 1) (nI 0) (mm g I J Z) = _ from e1, bd_some]
  cases hfd : fdS w v (I (R + 5) 2) true (nI 0) c with
  | none =>
    refine ⟨I1, ?_, hf1, hr1⟩
    show (if (-2 : Int32) = -2 then _ else _) = _
    rw [if_pos rfl]
    rfl
  | some m =>
    have hm := fdS_lt h.C c m hfd
    rw [if_neg (oI_ne (h.M.ne2 hm))]
    simp only [oI_s]
    show ∃ I', cv 9 R (fX9_isOpen R (nI v) (nI m)) (mm g I1 J Z) _ = _ ∧ _
    rw [h1.cv, h1.opm hm k3 (by rw [hk1]; exact k6), bd_some, bIf, hk1]
    show ∃ I', _ = some ((cfM w v (I (R + 5)) u b m).1, _) ∧ _ ∧ ∀ j, j < 8 → _ = (cfM w v (I (R + 5)) u b m).2 j
    unfold cfM
    cases hop : opB w v m (I (R + 5) 3) b
    · refine ⟨I1, ?_, hf1, hr1⟩
      rw [if_ff, if_ff]
    · rw [if_tt, if_tt, h1.G.p15, Option.bind_some, h1.G.cl (by decide), Option.bind_some, hk1, k4]
      have h101 : ∃ I', fX9_compiledField_101 R (nI v) (nI m) (mm g I1 J Z) = some (nI 0, mm g I' J Z) ∧ Fm R I I' ∧ ∀ j, j < 8 → I' (R + 6) j = (if j = 0 then nI 0 else if j = 2 then mb w v m 5 else if j = 3 then bI (bt (mb w v m 4) 0) else -2) := by
        refine ⟨up2 (up2 I1 (R + 6) 2 (mb w v m 5)) (R + 6) 3 (bI (bt (mb w v m 4) 0)), ?_, (hf1.trans fm_up6).trans fm_up6, fun j hj => ?_⟩
        · unfold fX9_compiledField_101 fX9_compiledField_133
          have h2 := h1.fm (fm_up6 (j := 2) (x := mb w v m 5))
          rw [h1.G.p16, Option.bind_some, h1.cv, h1.its hm (by decide), bd_some, h1.G.st6 (by decide), Option.bind_some, h1.G.p16, Option.bind_some, h2.cv, h2.sta hm, bd_some, bIf]
          cases bt (mb w v m 4) 0
          · rw [if_ff, h1.G.st6 (by decide), Option.bind_some]; rfl
          · rw [if_tt, h1.G.st6 (by decide), Option.bind_some]; rfl
        · rw [up2_at, up2_at]
          by_cases j3 : j = 3
          · subst j3; rfl
          · rw [if_neg j3]
            by_cases j2 : j = 2
            · subst j2; rfl
            · rw [if_neg j2, hr1 j hj, if_neg j2, if_neg j3]
              rfl
      have h56 : (u = 1 → bt (mb w v m 4) 1 = false) → ∃ I', fX9_compiledField_56 R (nI v) (nI m) (mm g I1 J Z) = some ((if u = 1 ∧ bt (mb w v m 4) 1 = true then (nI 6, nr) else if u = 0 ∧ mb w v m 9 ≠ -2 then (nI 0, fun j => if j = 0 then nI 1 else if j = 1 then mb w v m 9 else -2) else (nI 0, fun j => if j = 0 then nI 0 else if j = 2 then mb w v m 5 else if j = 3 then bI (bt (mb w v m 4) 0) else -2)).1, mm g I' J Z) ∧ Fm R I I' ∧ ∀ j, j < 8 → I' (R + 6) j = (if u = 1 ∧ bt (mb w v m 4) 1 = true then (nI 6, nr) else if u = 0 ∧ mb w v m 9 ≠ -2 then (nI 0, fun j => if j = 0 then nI 1 else if j = 1 then mb w v m 9 else -2) else (nI 0, fun j => if j = 0 then nI 0 else if j = 2 then mb w v m 5 else if j = 3 then bI (bt (mb w v m 4) 0) else -2)).2 j := by
        intro hno
        rw [if_neg (fun q => by rw [hno q.1] at q; exact absurd q.2 (by decide))]
        unfold fX9_compiledField_56
        rw [h1.G.p15, Option.bind_some, h1.G.cl (by decide), Option.bind_some, hk1, k4]
        by_cases hu0 : u = 0
        · rw [if_pos (by rw [hu0]; rfl), h1.cv, h1.its hm (by decide), bd_some]
          by_cases h9 : mb w v m 9 = -2
          · rw [if_pos h9, if_neg (fun q => q.2 h9)]
            exact h101
          · rw [if_neg h9, if_pos ⟨hu0, h9⟩]
            have h2 := h1.fm (fm_up6 (j := 0) (x := nI 1))
            refine ⟨up2 (up2 I1 (R + 6) 0 (nI 1)) (R + 6) 1 (mb w v m 9), ?_, (hf1.trans fm_up6).trans fm_up6, fun j hj => ?_⟩
            · rw [h1.G.p16, Option.bind_some, h1.G.st6 (by decide), Option.bind_some, h1.G.p16, Option.bind_some, h2.cv, h2.its hm (by decide), bd_some, h1.G.st6 (by decide), Option.bind_some]
            · rw [up2_at, up2_at]
              by_cases j1 : j = 1
              · subst j1; rfl
              · rw [if_neg j1]
                by_cases j0 : j = 0
                · subst j0; rfl
                · rw [if_neg j0, hr1 j hj]
                  show nr j = if j = 0 then nI 1 else if j = 1 then mb w v m 9 else -2
                  rw [if_neg j0, if_neg j1]
                  unfold nr
                  rw [if_neg j0]
        · rw [if_neg (nI_ne0 (by omega) (by omega)), if_neg (fun q => hu0 q.1)]
          exact h101
      by_cases hu1 : u = 1
      · rw [if_pos (by rw [hu1]), h1.cv, h1.fin hm, bd_some, bIf]
        cases hfi : bt (mb w v m 4) 1
        · rw [if_ff]
          have := h56 (fun _ => hfi)
          rw [hfi] at this
          exact this
        · rw [if_tt, if_pos ⟨hu1, rfl⟩]
          exact ⟨I1, rfl, hf1, hr1⟩
      · rw [if_neg (fun q => hu1 (nI_inj (by omega) (by omega) q))]
        exact h56 (fun q => absurd q hu1)
end Co

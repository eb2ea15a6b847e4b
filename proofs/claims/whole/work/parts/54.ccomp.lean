/-! ===== the class: errorOf of a compiler ===== -/
def SymR (I : Mem) (s : Nat) (f : Nat → Int32) : Prop := I s 0 = f 0 ∧ I s 1 = f 1 ∧ I s 2 = f 2 ∧ I s 3 = f 3 ∧ I s 4 = f 5 ∧ I s 5 = f 6 ∧ I s 6 = f 7
theorem SymR.fr {I I' : Mem} {s : Nat} {f : Nat → Int32} (h : SymR I s f) (e : I' s = I s) : SymR I' s f := by
  unfold SymR
  rw [e]
  exact h
/-- only the compiler's own places may change -/
def Fq (q a : Nat) (I I' : Mem) : Prop := ∀ x, x ≠ q → x ≠ q + 1 → x ≠ q + 2 → x ≠ a + 19 → I' x = I x
section Ce
variable {g : Gr} {q a p : Nat} {I I' I'' : Mem} {J : Nat → Nat → Int64} {Z : Option Nat} {w : Nat → Int32} {v m : Nat} {k : Nat → Int32} {u c b : Nat}
theorem Fq.refl : Fq q a I I := fun _ _ _ _ _ => rfl
theorem Fq.trans (h : Fq q a I I') (h' : Fq q a I' I'') : Fq q a I I'' := fun x a b c d => (h' x a b c d).trans (h x a b c d)
theorem Fa.fq (h : Fa a I I') : Fq q a I I' := fun x _ _ _ d => h x d
theorem Fg.fq (h : Fg q I I') : Fq q a I I' := fun x d _ e _ => h x d e
theorem fq_up1 {j : Nat} {x : Int32} : Fq q a I (up2 I (q + 1) j x) := fun y _ d _ _ => up2_ne d
theorem fq_up0 {j : Nat} {x : Int32} : Fq q a I (up2 I q j x) := fun y d _ _ _ => up2_ne d
theorem CB.fq (h : CB g I a w v) (hQ : CQ g q a p) (hf : Fq q a I I') : CB g I' a w v := h.fr (fun y y1 y2 => by have := hQ.2.1; exact hf y (by omega) (by omega) (by omega) (by omega))
theorem Fq.cp (hf : Fq q a I I') (hQ : CQ g q a p) : I' p = I p := by
  obtain ⟨_, h1, h2, _, h3⟩ := hQ
  exact hf p (by omega) (by omega) (by omega) (by omega)
theorem Fq.cp1 (hf : Fq q a I I') (hQ : CQ g q a p) : I' (p + 1) = I (p + 1) := by
  obtain ⟨_, h1, h2, _, h3⟩ := hQ
  exact hf (p + 1) (by omega) (by omega) (by omega) (by omega)
theorem C_clear {s : Nat} (hs : g.1 s = 8) : ∃ I', fX7_clear s (mm g I J Z) = some ((), mm g I' J Z) ∧ (∀ x, x ≠ s → I' x = I x) ∧ SymR I' s nr := by
  refine ⟨up2 (up2 (up2 (up2 (up2 (up2 (up2 I s 0 (nI 0)) s 1 (-2)) s 2 (-2)) s 3 (-2)) s 4 (-2)) s 5 (-2)) s 6 (-2), ?_, fun x hx => ?_, ?_⟩
  · unfold fX7_clear
    rw [sym_s0 (x := nI 0) hs (Or.inl rfl), Option.bind_some, sym_s1 hs, Option.bind_some, sym_s2 hs, Option.bind_some, sym_s3 hs, Option.bind_some, sym_s4 hs, Option.bind_some, sym_s5 hs, Option.bind_some, sym_s6 hs, Option.bind_some]
  · rw [up2_ne hx, up2_ne hx, up2_ne hx, up2_ne hx, up2_ne hx, up2_ne hx, up2_ne hx]
  · unfold SymR nr
    simp [up2]
theorem fdF_any {nm t t' : Int32} : ∀ (f k : Nat), fdF w v nm true t f k = fdF w v nm true t' f k := by
  have h : isFd w v nm true t = isFd w v nm true t' := by
    funext m
    unfold isFd
    simp
  intro f
  induction f with
  | zero => intro k; rfl
  | succ f ih =>
    intro k
    unfold fdF onF
    rw [h, ih (spn w v k), show fdF w v nm true t f = fdF w v nm true t' f from funext ih]
theorem fdS_any {nm t t' : Int32} {c : Nat} : fdS w v nm true t c = fdS w v nm true t' c := fdF_any (c + 1) c
theorem C_fieldE (hQ : CQ g q a p) (h : CB g I a w v) (hkI : ∀ j, j < 8 → I p j = k j) (hK : CK k u c b) (hu : u ≤ 1) (hc : exC w v c = true) (hr : SymR I (q + 1) nr) : ∃ I', fX1_fieldError q p (mm g I J Z) = some ((cfE w v k u c b).1, mm g I' J Z) ∧ Fq q a I I' ∧ SymR I' (q + 1) (cfE w v k u c b).2 ∧ I' q 4 = I q 4 := by
  obtain ⟨k1, k2, k3, k4, k5, k6, k7, k8⟩ := hK
  obtain ⟨I1, e1, e2⟩ := C_fieldFor (J := J) (Z := Z) (nm := k 2) (t := -3) h hc
  have hf1 : Fq q a I I1 := e2.fq
  have h1 := h.fq hQ hf1
  have hk1 : ∀ j, j < 8 → I1 p j = k j := fun j hj => by rw [hf1.cp hQ]; exact hkI j hj
  have hqa := hQ.2.1
  have hr1 : SymR I1 (q + 1) nr := hr.fr (e2 _ (by omega))
  have hq1 : I1 q = I q := e2 _ (by omega)
  unfold fX1_fieldError cfE
  rw [hQ.g0, Option.bind_some, hQ.gp, Option.bind_some, hQ.gp, Option.bind_some, hkI 1 (by decide), hkI 2 (by decide), k5, CB_cv h, e1, bd_some, show decide ((-3 : Int32) = -3) = true from rfl, fdS_any (t := -3) (t' := nI 0)]
  cases hfd : fdS w v (k 2) true (nI 0) c with
  | none =>
    refine ⟨I1, ?_, hf1, hr1, by rw [hq1]⟩
    show (if (-2 : Int32) = -2 then _ else _) = _
    rw [if_pos rfl]
    rfl
  | some m =>
    have hm := fdS_lt h.C c m hfd
    rw [if_neg (oI_ne (h.M.ne2 hm))]
    simp only [oI_s]
    rw [hQ.g0, Option.bind_some, CB_cv h1, C_mopen h1.L h1.R h1.M hm hQ.2.2.2.1 k3 (by rw [hk1 4 (by decide)]; exact k6), bd_some, bIf, hk1 3 (by decide)]
    show ∃ I', _ = some ((cfM w v k u b m).1, _) ∧ _ ∧ SymR I' (q + 1) (cfM w v k u b m).2 ∧ _
    unfold cfM
    cases hop : opB w v m (k 3) b
    · refine ⟨I1, ?_, hf1, hr1, by rw [hq1]⟩
      rw [if_ff, if_ff]
    · rw [if_tt, if_tt, hQ.gp, Option.bind_some, hk1 0 (by decide), k4]
      have h121 : ∃ I', fX1_fieldError_121 q (nI m) (mm g I1 J Z) = some (nI 0, mm g I' J Z) ∧ Fq q a I I' ∧ SymR I' (q + 1) (fun j => if j = 0 then nI 0 else if j = 2 then mb w v m 5 else if j = 3 then bI (bt (mb w v m 4) 0) else -2) ∧ I' q 4 = I q 4 := by
        have h2 := h1.fq hQ (fq_up1 (j := 2) (x := mb w v m 5))
        obtain ⟨fl, fl1, fl2⟩ := h.M.flg m hm
        refine ⟨up2 (up2 I1 (q + 1) 2 (mb w v m 5)) (q + 1) 3 (bI (bt (mb w v m 4) 0)), ?_, (hf1.trans fq_up1).trans fq_up1, ?_, by rw [up2_ne (by omega), up2_ne (by omega), hq1]⟩
        · unfold fX1_fieldError_121
          rw [hQ.g1, Option.bind_some, hQ.g0, Option.bind_some, c_typ h1 hm, sym_s2 hQ.k1, Option.bind_some, hQ.g1, Option.bind_some, hQ.g0, Option.bind_some, c_flg h2 hm, sym_s3 hQ.k1, Option.bind_some, fl2, flg_1 fl1]
        · obtain ⟨r0, r1, r2, r3, r4, r5, r6⟩ := hr1
          unfold SymR
          simp only [up2_at]
          refine ⟨r0, r1, rfl, rfl, r4, r5, r6⟩
      have h68 : (u = 1 → bt (mb w v m 4) 1 = false) → ∃ I', fX1_fieldError_68 q p (nI m) (mm g I1 J Z) = some ((if u = 1 ∧ bt (mb w v m 4) 1 = true then (nI 6, nr) else if u = 0 ∧ mb w v m 9 ≠ -2 then (nI 0, fun j => if j = 0 then nI 1 else if j = 1 then mb w v m 9 else -2) else (nI 0, fun j => if j = 0 then nI 0 else if j = 2 then mb w v m 5 else if j = 3 then bI (bt (mb w v m 4) 0) else -2)).1, mm g I' J Z) ∧ Fq q a I I' ∧ SymR I' (q + 1) (if u = 1 ∧ bt (mb w v m 4) 1 = true then (nI 6, nr) else if u = 0 ∧ mb w v m 9 ≠ -2 then (nI 0, fun j => if j = 0 then nI 1 else if j = 1 then mb w v m 9 else -2) else (nI 0, fun j => if j = 0 then nI 0 else if j = 2 then mb w v m 5 else if j = 3 then bI (bt (mb w v m 4) 0) else -2)).2 ∧ I' q 4 = I q 4 := by
        intro hno
        rw [if_neg (fun z => by rw [hno z.1] at z; exact absurd z.2 (by decide))]
        unfold fX1_fieldError_68
        rw [hQ.gp, Option.bind_some, hk1 0 (by decide), k4]
        by_cases hu0 : u = 0
        · rw [if_pos (by rw [hu0]; rfl), hQ.g0, Option.bind_some, c_con h1 hm]
          by_cases h9 : mb w v m 9 = -2
          · rw [if_pos h9, if_neg (fun z => z.2 h9)]
            exact h121
          · rw [if_neg h9, if_pos ⟨hu0, h9⟩]
            have h2 := h1.fq hQ (fq_up1 (j := 0) (x := nI 1))
            refine ⟨up2 (up2 I1 (q + 1) 0 (nI 1)) (q + 1) 1 (mb w v m 9), ?_, (hf1.trans fq_up1).trans fq_up1, ?_, by rw [up2_ne (by omega), up2_ne (by omega), hq1]⟩
            · rw [hQ.g1, Option.bind_some, sym_s0 (x := nI 1) hQ.k1 (Or.inr rfl), Option.bind_some, hQ.g1, Option.bind_some, hQ.g0, Option.bind_some, c_con h2 hm, sym_s1 hQ.k1, Option.bind_some]
            · obtain ⟨r0, r1, r2, r3, r4, r5, r6⟩ := hr1
              unfold SymR
              simp only [up2_at]
              refine ⟨rfl, rfl, r2, r3, r4, r5, r6⟩
        · rw [if_neg (nI_ne0 (by omega) (by omega)), if_neg (fun z => hu0 z.1)]
          exact h121
      by_cases hu1 : u = 1
      · rw [if_pos (by rw [hu1]), hQ.g0, Option.bind_some, c_flg h1 hm, (flg_if h.M hm).2.1]
        cases hfi : bt (mb w v m 4) 1
        · rw [if_ff]
          have := h68 (fun _ => hfi)
          rw [hfi] at this
          exact this
        · rw [if_tt, if_pos ⟨hu1, rfl⟩]
          exact ⟨I1, rfl, hf1, hr1, by rw [hq1]⟩
      · rw [if_neg (fun z => hu1 (nI_inj (by omega) (by omega) z))]
        exact h68 (fun z => absurd z hu1)
end Ce

/-! ===== the class: errorOf of a linker ===== -/
/-- a linker l of the library a, a client p -/
def CL (g : Gr) (l a p : Nat) : Prop := LkG g l a ∧ a + 20 ≤ l ∧ p + 2 ≤ l ∧ ClG g p ∧ (p + 2 ≤ a ∨ a + 20 ≤ p)
/-- a client object holds a client's row -/
def RK (I : Mem) (p : Nat) (k : Nat → Int32) : Prop := (∀ j, j < 8 → I p j = k j) ∧ SymR I (p + 1) (fun j => k (8 + j))
def Fn (l a : Nat) (I I' : Mem) : Prop := ∀ x, x ≠ l → x ≠ a + 19 → I' x = I x
section Cl2
variable {g : Gr} {l a p : Nat} {I I' I'' : Mem} {J : Nat → Nat → Int64} {Z : Option Nat} {w : Nat → Int32} {v m : Nat} {k : Nat → Int32} {u c b : Nat}
theorem CL.g0 (h : CL g l a p) : gP 3 l 0 (mm g I J Z) = some a := gP_m h.1.1 h.1.2
theorem CL.cv (h : CL g l a p) {ρ γ : Type} {f : AH → Option (ρ × AH)} {K : ρ → AH → Option γ} : cv 3 l f (mm g I J Z) K = bd (f (mm g I J Z)) K := cv_m h.1.1
theorem CL.gp (h : CL g l a p) {j : Nat} : gI 0 p j (mm g I J Z) = some (I p j) := gI_m h.2.2.2.1.1
theorem CL.g8 (h : CL g l a p) : gP 0 p 8 (mm g I J Z) = some (p + 1) := cln_p8 h.2.2.2.1
theorem CL.gs (h : CL g l a p) {j : Nat} : gI 7 (p + 1) j (mm g I J Z) = some (I (p + 1) j) := gI_m h.2.2.2.1.2.2
theorem CL.pi (h : CL g l a p) {x : Int32} : pI 3 l 1 x (mm g I J Z) = some (mm g (up2 I l 1 x) J Z) := pI_m h.1.1
theorem Fn.refl : Fn l a I I := fun _ _ _ => rfl
theorem Fn.trans (h : Fn l a I I') (h' : Fn l a I' I'') : Fn l a I I'' := fun x a b => (h' x a b).trans (h x a b)
theorem Fa.fn (h : Fa a I I') : Fn l a I I' := fun x _ d => h x d
theorem fn_up {x : Int32} : Fn l a I (up2 I l 1 x) := fun y d _ => up2_ne d
theorem CB.fn (h : CB g I a w v) (hQ : CL g l a p) (hf : Fn l a I I') : CB g I' a w v := h.fr (fun y y1 y2 => by have := hQ.2.1; exact hf y (by omega) (by omega))
theorem RK.fn (h : RK I p k) (hQ : CL g l a p) (hf : Fn l a I I') : RK I' p k := by
  obtain ⟨_, h1, h2, _, h3⟩ := hQ
  exact ⟨fun j hj => by rw [hf p (by omega) (by omega)]; exact h.1 j hj, h.2.fr (hf (p + 1) (by omega) (by omega))⟩
theorem C_lnkF (hQ : CL g l a p) (h : CB g I a w v) (hk : RK I p k) (hK : CK k u c b) (hS : SK k u) (hu : u ≤ 1) (hc : exC w v c = true) (h18 : I l 1 = -2) : ∃ I', fX3_fieldError l p (mm g I J Z) = some ((lfO w v k u b (fdS w v (k 2) false (k 10) c)).1, mm g I' J Z) ∧ Fn l a I I' ∧ I' l 1 = (lfO w v k u b (fdS w v (k 2) false (k 10) c)).2 := by
  obtain ⟨k1, k2, k3, k4, k5, k6, k7, k8⟩ := hK
  have hqa := hQ.2.1
  obtain ⟨I1, e1, e2⟩ := C_fieldFor (J := J) (Z := Z) (nm := k 2) (t := k 10) h hc
  have hf1 : Fn l a I I1 := e2.fn
  have h1 := h.fn hQ hf1
  have hk1 := hk.fn hQ hf1
  have h181 : I1 l 1 = -2 := by rw [e2 l (by omega)]; exact h18
  unfold fX3_fieldError
  rw [hQ.g0, Option.bind_some, hQ.gp, Option.bind_some, hQ.gp, Option.bind_some, hQ.g8, Option.bind_some, hQ.gs, Option.bind_some, hk.1 1 (by decide), hk.1 2 (by decide), k5, show I (p + 1) 2 = k 10 from hk.2.2.2.1, CB_cv h, e1, bd_some, decide_eq_false hS.2.1]
  cases hfd : fdS w v (k 2) false (k 10) c with
  | none =>
    refine ⟨I1, ?_, hf1, h181⟩
    show (if (-2 : Int32) = -2 then _ else _) = _
    rw [if_pos rfl]
    rfl
  | some m =>
    have hm := fdS_lt h.C c m hfd
    obtain ⟨fl, fl1, fl2⟩ := h.M.flg m hm
    have hfl : mb w v m 4 &&& nI 1 = bI (bt (mb w v m 4) 0) := by rw [fl2]; exact flg_1 fl1
    rw [if_neg (oI_ne (h.M.ne2 hm))]
    simp only [oI_s]
    rw [hQ.g0, Option.bind_some, CB_cv h1, C_mopen h1.L h1.R h1.M hm hQ.2.2.2.1.1 k3 (by rw [hk1.1 4 (by decide)]; exact k6), bd_some, bIf, hk1.1 3 (by decide)]
    show ∃ I', _ = some ((lfM w v k u b m).1, _) ∧ _ ∧ _ = (lfM w v k u b m).2
    unfold lfM
    cases hop : opB w v m (k 3) b
    · exact ⟨I1, rfl, hf1, h181⟩
    · rw [if_tt, if_tt, hQ.g0, Option.bind_some, c_flg h1 hm, hQ.g8, Option.bind_some, hQ.gs, Option.bind_some, hfl, show I1 (p + 1) 3 = k 11 from hk1.2.2.2.2.1]
      have h89 : fX3_fieldError_89 l (nI m) (mm g I1 J Z) = some (nI 0, mm g (up2 I1 l 1 (mb w v m 1)) J Z) := by
        unfold fX3_fieldError_89
        rw [hQ.g0, Option.bind_some, c_own h1 hm, hQ.pi, Option.bind_some, (h.M.own m hm).2.2.1]
      by_cases hst : bI (bt (mb w v m 4) 0) = k 11
      · rw [if_pos hst, if_pos hst, hQ.gp, Option.bind_some, hk1.1 0 (by decide), k4]
        by_cases hu1 : u = 1
        · rw [if_pos (by rw [hu1]), (flg_if h.M hm).2.1]
          cases hfi : bt (mb w v m 4) 1
          · rw [if_ff, h89, if_neg (fun z => absurd z.2 (by decide))]
            exact ⟨_, rfl, hf1.trans fn_up, by rw [up2_at, if_pos rfl]⟩
          · rw [if_tt, if_pos ⟨hu1, rfl⟩]
            exact ⟨I1, rfl, hf1, h181⟩
        · rw [if_neg (fun z => hu1 (nI_inj (by omega) (by omega) z)), h89, if_neg (fun z => hu1 z.1)]
          exact ⟨_, rfl, hf1.trans fn_up, by rw [up2_at, if_pos rfl]⟩
      · rw [if_neg hst, if_neg hst]
        exact ⟨I1, rfl, hf1, h181⟩
theorem C_lnkC (hQ : CL g l a p) (h : CB g I a w v) (hk : RK I p k) (hK : CK k 2 c b) (hS : SK k 2) (hc : exC w v c = true) (h18 : I l 1 = -2) : ∃ I', fX3_callError l p (mm g I J Z) = some ((lcE w v k c b).1, mm g I' J Z) ∧ Fn l a I I' ∧ I' l 1 = (lcE w v k c b).2 := by
  obtain ⟨k1, k2, k3, k4, k5, k6, k7, k8⟩ := hK
  obtain ⟨q, hq, eq⟩ := k7 (by omega)
  obtain ⟨hPt, hTy⟩ := hS.2.2.1 rfl
  have hsy := hk.2
  have main : ∃ I', fX3_callError_24 l p (p + 1) (cl w v c 1) (mm g I J Z) = some ((lcE w v k c b).1, mm g I' J Z) ∧ Fn l a I I' ∧ I' l 1 = (lcE w v k c b).2 := by
    unfold fX3_callError_24 lcE
    rw [hQ.gs, Option.bind_some, show I (p + 1) 6 = k 15 from hsy.2.2.2.2.2.2]
    by_cases h15 : cl w v c 1 = k 15
    · rw [if_pos h15, if_pos h15, hQ.gp, Option.bind_some, hQ.gs, Option.bind_some, hQ.gs, Option.bind_some, hk.1 2 (by decide), show I (p + 1) 4 = k 13 from hsy.2.2.2.2.1, show I (p + 1) 5 = k 14 from hsy.2.2.2.2.2.1]
      rw [show fX4_signatureOf (k 2) (k 13) (k 14) (mm g I J Z) = some (sgI (k 2) (k 13) (k 14), mm g I J Z) from rfl, bd_some, hQ.gs, Option.bind_some, show I (p + 1) 2 = k 10 from hsy.2.2.1]
      rw [show fX4_descriptorOf (sgI (k 2) (k 13) (k 14)) (k 10) (mm g I J Z) = some (dsI (sgI (k 2) (k 13) (k 14)) (k 10), mm g I J Z) from rfl, bd_some, hQ.g0, Option.bind_some, hQ.gp, Option.bind_some, hk.1 1 (by decide), k5, eq, CB_cv h, C_methodFor h hq hPt.t1 hPt.t2 hTy hc, bd_some]
      cases hme : metS w v (nI q) (k 10) (k 13) (k 14) c with
      | none =>
        refine ⟨I, ?_, Fn.refl, h18⟩
        show (if (-2 : Int32) = -2 then _ else _) = _
        rw [if_pos rfl]
        rfl
      | some m =>
        obtain ⟨hm, hD⟩ := metS_D hme
        obtain ⟨d1, d2, d3, d4, d5⟩ := isD_iff.mp hD
        obtain ⟨fl, fl1, fl2⟩ := h.M.flg m hm
        have hfl : mb w v m 4 &&& nI 1 = bI (bt (mb w v m 4) 0) := by rw [fl2]; exact flg_1 fl1
        rw [if_neg (oI_ne (h.M.ne2 hm))]
        simp only [oI_s]
        rw [hQ.g0, Option.bind_some, CB_cv h, C_mopen h.L h.R h.M hm hQ.2.2.2.1.1 k3 (by rw [hk.1 4 (by decide)]; exact k6), bd_some, bIf, hk.1 3 (by decide)]
        show ∃ I', _ = some ((lcM w v k c b m).1, _) ∧ _ ∧ _ = (lcM w v k c b m).2
        unfold lcM
        cases hop : opB w v m (k 3) b
        · exact ⟨I, rfl, Fn.refl, h18⟩
        · rw [if_tt, if_tt, hQ.g0, Option.bind_some, c_flg h hm, hQ.gs, Option.bind_some, hfl, show I (p + 1) 3 = k 11 from hsy.2.2.2.1]
          have h147 : fX3_callError_147 l (nI m) (mm g I J Z) = some (nI 0, mm g (up2 I l 1 (mb w v m 1)) J Z) := by
            unfold fX3_callError_147
            rw [hQ.g0, Option.bind_some, c_own h hm, hQ.pi, Option.bind_some, (h.M.own m hm).2.2.1]
          by_cases hst : bI (bt (mb w v m 4) 0) = k 11
          · rw [if_pos hst, if_pos hst, bIf]
            cases hs : bt (mb w v m 4) 0
            · have hrun : fX3_runs l (nI c) (dsI (sgI (nI q) (k 13) (k 14)) (k 10)) (mm g I J Z) = some (bI (!(!itB w v c && !decide (cl w v c 7 = nI 1) && !false && abO w v (selM w v m (lnB w v c) (upS w v c)))), mm g I J Z) := by
                unfold fX3_runs
                rw [hQ.g0, Option.bind_some, CB_cv h, C_isI h.L h.R k2, bd_some, hc, Bool.true_and, bIf]
                cases hi : itB w v c
                · rw [if_ff, hQ.g0, Option.bind_some, CB_cv h, C_isAbs h.L h.R k2, bd_some, hc, Bool.true_and, bIf]
                  cases h7 : decide (cl w v c 7 = nI 1)
                  · rw [if_ff, hQ.g0, Option.bind_some, Option.bind_some, lib_p9 h.L, Option.bind_some, lib_l5 h.L k2, Option.bind_some, Option.bind_some, lib_p8 h.L, Option.bind_some, lib_l4 h.L k2, Option.bind_some, CB_cv h, C_selC h hq hPt.t1 hPt.t2 hTy hc, bd_some]
                    have hsel : selM w v m (lnB w v c) (upS w v c) = selS w v (nI q) (k 10) (k 13) (k 14) (lnB w v c) (upS w v c) := by unfold selM; rw [d2, d3, d4, d5]
                    rw [hsel]
                    cases hse : selS w v (nI q) (k 10) (k 13) (k 14) (lnB w v c) (upS w v c) with
                    | none =>
                      show (if (-2 : Int32) = -2 then _ else _) = _
                      rw [if_pos rfl, rz_n0]
                      rfl
                    | some j =>
                      have hj := selS_lt hse
                      rw [if_neg (oI_ne (h.M.ne2 hj))]
                      simp only [oI_s]
                      rw [hQ.g0, Option.bind_some, lib_p10 h.L, Option.bind_some, mem_cv h.L.mem, C_mabs h hj, bd_some, bIf, show abO w v (some j) = abB w v j from rfl]
                      cases abB w v j
                      · rw [if_ff, rz_n1]; rfl
                      · rw [if_tt, rz_n0]; rfl
                  · rw [if_tt, rz_n1]; rfl
                · rw [if_tt, rz_n1]; rfl
              rw [if_ff, hQ.gp, Option.bind_some, hk.1 1 (by decide), k5, hQ.cv, hrun, bd_some, bIf]
              cases (!itB w v c && !decide (cl w v c 7 = nI 1) && !false && abO w v (selM w v m (lnB w v c) (upS w v c)))
              · rw [Bool.not_false, if_tt, if_ff, h147]
                exact ⟨_, rfl, fn_up, by rw [up2_at, if_pos rfl]⟩
              · rw [Bool.not_true, if_ff, if_tt]
                exact ⟨I, rfl, Fn.refl, h18⟩
            · rw [if_tt, h147]
              refine ⟨up2 I l 1 (mb w v m 1), ?_, fn_up, ?_⟩
              · simp
              · rw [up2_at, if_pos rfl]; simp
          · rw [if_neg hst, if_neg hst]
            exact ⟨I, rfl, Fn.refl, h18⟩
    · rw [if_neg h15, if_neg h15]
      exact ⟨I, rfl, Fn.refl, h18⟩
  unfold fX3_callError
  rw [hQ.g8, Option.bind_some, hQ.g0, Option.bind_some, hQ.gp, Option.bind_some, hk.1 1 (by decide), k5, CB_cv h, C_isI h.L h.R k2, bd_some, hc, Bool.true_and, bIf]
  rcases h.C.i01 hc with hi | hi
  · have h1c : cl w v c 1 = nI 1 := by unfold itB at hi; exact of_decide_eq_true hi
    rw [h1c] at main
    rw [hi, if_tt]
    exact main
  · rw [hi] at main
    rw [itB_0 hi, if_ff]
    exact main
end Cl2

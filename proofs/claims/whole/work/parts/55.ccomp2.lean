/-! ===== the class: errorOf of a compiler, calls and the rest ===== -/
section Cg
variable {g : Gr} {q a p : Nat} {I I' : Mem} {J : Nat → Nat → Int64} {Z : Option Nat} {w : Nat → Int32} {v m : Nat} {k : Nat → Int32} {u c b : Nat}
theorem C_callE (hQ : CQ g q a p) (h : CB g I a w v) (hkI : ∀ j, j < 8 → I p j = k j) (hK : CK k 2 c b) (hc : exC w v c = true) (hr : SymR I (q + 1) nr) (h4 : I q 4 = nI 0) : ∃ I', fX1_callError q p (mm g I J Z) = some ((caE w v k c b).1, mm g I' J Z) ∧ Fq q a I I' ∧ SymR I' (q + 1) (caE w v k c b).2 ∧ I' q 4 = bI (anyF (nsB w v k c) 0 (nmb w v)) := by
  have hn := h.M.n40
  have hcl := exC_lt hc
  have hqa := hQ.2.1
  have hct := ct_le (P := apB w v k c b) (nmb w v)
  have hK' := hK
  obtain ⟨k1, k2, k3, k4, k5, k6, k7, k8⟩ := hK
  have f0 : Fq q a I (up2 I q 3 (nI 0)) := fq_up0
  obtain ⟨I1, e1, e2, e3, e4, e5⟩ := C_gatL (J := J) (Z := Z) hQ hK' hc (x := I (a + 4) c) (fun i hi => by rw [h.R.sty c i hcl (by omega), hc, Bool.true_and]) (nmb w v) 0 fuel (up2 I q 3 (nI 0)) (h.fq hQ f0) (fun j hj => by rw [f0.cp hQ]; exact hkI j hj) (by omega) (by unfold fuel; omega) (by rw [up2_at, if_pos rfl]; rfl) (fun j hj => absurd hj (by omega)) (by rw [up2_at, if_neg (by decide), h4]; rfl)
  have f1 : Fq q a I I1 := f0.trans e2.fq
  have h1 := h.fq hQ f1
  have hk1 : ∀ j, j < 8 → I1 p j = k j := fun j hj => by rw [f1.cp hQ]; exact hkI j hj
  have hr1 : SymR I1 (q + 1) nr := hr.fr (by rw [e2 _ (by omega) (by omega), up2_ne (by omega)])
  have hgat : fX1_gatherApplicable q p (mm g I J Z) = some ((), mm g I1 J Z) := by
    unfold fX1_gatherApplicable
    rw [hQ.g0, Option.bind_some, lib_p10 h.L, Option.bind_some, Option.bind_some, lib_p8 h.L, Option.bind_some, hQ.gp, Option.bind_some, hkI 1 (by decide), k5, lib_l4 h.L hcl, Option.bind_some, pI_m hQ.1.1, Option.bind_some]
    exact e1
  unfold fX1_callError caE
  rw [hQ.cv, hgat, bd_some, hQ.gi, Option.bind_some, e3]
  by_cases e : ct (apB w v k c b) (nmb w v) = 0
  · rw [if_pos (by rw [e]; rfl), if_pos e]
    exact ⟨I1, rfl, f1, hr1, e5⟩
  · rw [if_neg (nI_ne0 (by omega) (by omega)), if_neg e, hQ.cv, C_best hQ h1 e3 e4, bd_some]
    cases hs : caS w v (apB w v k c b) with
    | none =>
      refine ⟨I1, ?_, f1, hr1, e5⟩
      show (if (-2 : Int32) = -2 then _ else _) = _
      rw [if_pos rfl]
      rfl
    | some m =>
      have hm := (caS_A hs).1
      obtain ⟨fl, fl1, fl2⟩ := h.M.flg m hm
      rw [if_neg (oI_ne (h.M.ne2 hm))]
      simp only [oI_s]
      have g1 : Fq q a I1 (up2 I1 (q + 1) 2 (mb w v m 5)) := fq_up1
      have g2 := g1.trans (fq_up1 (j := 4) (x := mb w v m 7))
      have g3 := g2.trans (fq_up1 (j := 5) (x := mb w v m 8))
      have g4 := g3.trans (fq_up1 (j := 3) (x := bI (bt (mb w v m 4) 0)))
      have g5 := g4.trans (fq_up1 (j := 6) (x := cl w v c 1))
      have b1 := h1.fq hQ g1
      have b2 := h1.fq hQ g2
      have b3 := h1.fq hQ g3
      have b4 := h1.fq hQ g4
      refine ⟨_, ?_, f1.trans g5, ?_, ?_⟩
      · rw [hQ.g1, Option.bind_some, hQ.g0, Option.bind_some, c_typ h1 hm, sym_s2 hQ.k1, Option.bind_some, hQ.g1, Option.bind_some, hQ.g0, Option.bind_some, c_fst b1 hm, sym_s4 hQ.k1, Option.bind_some, hQ.g1, Option.bind_some, hQ.g0, Option.bind_some, c_snd b2 hm, sym_s5 hQ.k1, Option.bind_some, hQ.g1, Option.bind_some, hQ.g0, Option.bind_some, c_flg b3 hm, sym_s3 hQ.k1, Option.bind_some, hQ.g1, Option.bind_some, hQ.g0, Option.bind_some, hQ.gp, Option.bind_some]
        have hfl : mb w v m 4 &&& nI 1 = bI (bt (mb w v m 4) 0) := by rw [fl2]; exact flg_1 fl1
        rw [hfl, g4.cp hQ, hk1 1 (by decide), k5, CB_cv b4, C_isI b4.L b4.R hcl, bd_some, hc, Bool.true_and, bIf]
        unfold fX1_callError_128
        rcases h.C.i01 hc with hi | hi
        · have h1c : cl w v c 1 = nI 1 := by unfold itB at hi; exact of_decide_eq_true hi
          rw [hi, if_tt, sym_s6 hQ.k1, Option.bind_some, h1c]
          rfl
        · rw [itB_0 hi, if_ff, sym_s6 hQ.k1, Option.bind_some, hi]
          rfl
      · obtain ⟨r0, r1, r2, r3, r4, r5, r6⟩ := hr1
        unfold SymR
        simp only [up2_at]
        refine ⟨r0, r1, rfl, rfl, rfl, rfl, rfl⟩
      · rw [up2_ne (by omega), up2_ne (by omega), up2_ne (by omega), up2_ne (by omega), up2_ne (by omega)]
        exact e5
theorem C_base (hQ : CQ g q a p) (h : CB g I a w v) (hb : b < 10) {x : Int32} : fX1_canBeBase q (nI b) x (mm g I J Z) = some (bI (baB w v b x), mm g I J Z) := by
  unfold fX1_canBeBase baB
  rw [hQ.g0, Option.bind_some, CB_cv h, C_isThere h.L h.R hb, bd_some, bIf]
  cases he : exC w v b
  · rw [if_ff, rz_n0]; rfl
  · rw [if_tt, hQ.g0, Option.bind_some, CB_cv h, C_isI h.L h.R hb, bd_some, he, Bool.true_and, bIf]
    cases itB w v b
    · rw [if_ff, hQ.g0, Option.bind_some, CB_cv h, C_isFinal h.L h.R hb, bd_some, he, Bool.true_and, bIf]
      cases decide (cl w v b 6 = nI 1)
      · rw [if_ff, hQ.g0, Option.bind_some, CB_cv h, C_open h.L h.R he, bd_some, bIf]
        unfold opcB
        cases (decide (cl w v b 5 = nI 1) || decide (cl w v b 4 = x))
        · rw [if_ff, rz_n0]; rfl
        · rw [if_tt, rz_n1]; rfl
      · rw [if_tt, rz_n0]; rfl
    · rw [if_tt, rz_n0]; rfl
theorem C_baseX (hQ : CQ g q a p) (h : CB g I a w v) {y : Int32} (hy : y < 0 ∨ nI 10 ≤ y) {x : Int32} : fX1_canBeBase q y x (mm g I J Z) = some (bI false, mm g I J Z) := by
  unfold fX1_canBeBase
  rw [hQ.g0, Option.bind_some, CB_cv h, C_isThereX hy, bd_some, bIf, if_ff, rz_n0]
/-- what hasNamesakes tells -/
def nkS (w : Nat → Int32) (v : Nat) (k : Nat → Int32) (u c : Nat) : Bool := decide (u = 2) && exC w v c && opcB w v c (k 3) && anyF (nsB w v k c) 0 (nmb w v)
theorem C_comp (hQ : CQ g q a p) (h : CB g I a w v) (hkI : ∀ j, j < 8 → I p j = k j) (hK : CK k u c b) : ∃ I', fX1_errorOf q p (mm g I J Z) = some ((comS w v k u c b).1, mm g I' J Z) ∧ Fq q a I I' ∧ SymR I' (q + 1) (comS w v k u c b).2 ∧ I' q 4 = bI (nkS w v k u c) := by
  have hqa := hQ.2.1
  have hK' := hK
  obtain ⟨k1, k2, k3, k4, k5, k6, k7, k8⟩ := hK
  obtain ⟨I0, c1, c2, c3⟩ := C_clear (I := I) (J := J) (Z := Z) hQ.k1
  have f1 : Fq q a I (up2 I0 q 4 (nI 0)) := fun x x1 x2 _ _ => by rw [up2_ne x1]; exact c2 x x2
  have h1 := h.fq hQ f1
  have hk1 : ∀ j, j < 8 → up2 I0 q 4 (nI 0) p j = k j := fun j hj => by rw [f1.cp hQ]; exact hkI j hj
  have hr1 : SymR (up2 I0 q 4 (nI 0)) (q + 1) nr := c3.fr (up2_ne (by omega))
  have h40 : up2 I0 q 4 (nI 0) q 4 = nI 0 := by rw [up2_at, if_pos rfl]
  unfold fX1_errorOf comS
  rw [hQ.g1, Option.bind_some, sym_cv hQ.k1, c1, bd_some, pZ_m (x := nI 0) hQ.1.1 (Or.inl rfl), Option.bind_some]
  generalize up2 I0 q 4 (nI 0) = I1 at f1 h1 hk1 hr1 h40 ⊢
  rw [hQ.g0, Option.bind_some, hQ.gp, Option.bind_some, hk1 1 (by decide), k5, CB_cv h1, C_isThere h1.L h1.R k2, bd_some, bIf]
  cases hc : exC w v c
  · rw [if_ff, if_pos rfl]
    exact ⟨I1, rfl, f1, hr1, by rw [h40]; unfold nkS; rw [hc]; simp; rfl⟩
  · rw [if_tt, if_neg (by decide), hQ.g0, Option.bind_some, hQ.gp, Option.bind_some, hQ.gp, Option.bind_some, hk1 1 (by decide), hk1 3 (by decide), k5, CB_cv h1, C_open h1.L h1.R hc, bd_some, bIf]
    show ∃ I', (if opcB w v c (k 3) = true then _ else _) = _ ∧ _
    cases ho : opcB w v c (k 3)
    · rw [if_ff, if_pos rfl]
      exact ⟨I1, rfl, f1, hr1, by rw [h40]; unfold nkS; rw [ho]; simp; rfl⟩
    · rw [if_tt, if_neg (by decide), hQ.gp, Option.bind_some, hk1 0 (by decide), k4]
      have hnk : u ≠ 2 → I1 q 4 = bI (nkS w v k u c) := fun e => by rw [h40]; unfold nkS; rw [decide_eq_false e]; rfl
      by_cases u0 : u ≤ 1
      · rw [if_pos u0]
        obtain ⟨I2, t1, t2, t3, t4⟩ := C_fieldE (J := J) (Z := Z) hQ h1 hk1 hK' u0 hc hr1
        refine ⟨I2, ?_, f1.trans t2, t3, by rw [t4]; exact hnk (by omega)⟩
        rcases (by omega : u = 0 ∨ u = 1) with e | e
        · rw [if_pos (by rw [e]), hQ.cv, t1, bd_some]
        · rw [if_neg (by rw [e]; decide), if_pos (by rw [e]), hQ.cv, t1, bd_some]
      · rw [if_neg u0, if_neg (fun z => by have := nI_inj (by omega) (by omega) z; omega), if_neg (fun z => by have := nI_inj (by omega) (by omega) z; omega)]
        by_cases u2 : u = 2
        · subst u2
          obtain ⟨I2, t1, t2, t3, t4⟩ := C_callE (J := J) (Z := Z) hQ h1 hk1 hK' hc hr1 h40
          refine ⟨I2, ?_, f1.trans t2, t3, by rw [t4]; unfold nkS; rw [hc, ho]; rfl⟩
          rw [if_pos rfl, hQ.cv, t1, bd_some]
          rfl
        · rw [if_neg u2, if_neg (fun z => u2 (nI_inj (by omega) (by omega) z))]
          by_cases u3 : u = 3
          · rw [if_pos u3, if_pos (by rw [u3]), hQ.g0, Option.bind_some, hQ.gp, Option.bind_some, hk1 1 (by decide), k5, CB_cv h1, C_isAbs h1.L h1.R k2, bd_some, hc, Bool.true_and, bIf]
            refine ⟨I1, ?_, f1, hr1, hnk u2⟩
            by_cases h7 : cl w v c 7 = nI 1
            · rw [if_pos h7, decide_eq_true h7, if_tt]
            · rw [if_neg h7, decide_eq_false h7, if_ff]
          · rw [if_neg u3, if_neg (fun z => u3 (nI_inj (by omega) (by omega) z))]
            by_cases u4 : u = 4
            · rw [if_pos u4, if_pos (by rw [u4]), hQ.gp, Option.bind_some, hk1 1 (by decide), k5, hQ.cv]
              refine ⟨I1, ?_, f1, hr1, hnk u2⟩
              unfold fX1_extendingError exE
              rw [hQ.g0, Option.bind_some, CB_cv h1, C_isI h1.L h1.R k2, bd_some, hc, Bool.true_and, bIf]
              cases hi : itB w v c
              · rw [if_ff, hQ.g0, Option.bind_some, CB_cv h1, C_isFinal h1.L h1.R k2, bd_some, hc, Bool.true_and, bIf]
                by_cases h6 : cl w v c 6 = nI 1
                · rw [decide_eq_true h6, if_tt, if_pos (Or.inr h6), bd_some]
                · rw [decide_eq_false h6, if_ff, if_neg (fun z => by rcases z with z | z; cases z; exact h6 z), hQ.g0, Option.bind_some, Option.bind_some, lib_p9 h1.L, Option.bind_some, lib_l5 h1.L k2, Option.bind_some, Option.bind_some, lib_p8 h1.L, Option.bind_some, lib_l4 h1.L k2, Option.bind_some, CB_cv h1, C_inc h1 hc, bd_some, bIf]
                  cases incS w v (stB w v c) (lnB w v c) (upS w v c)
                  · rw [if_ff, if_ff, bd_some]
                  · rw [if_tt, if_tt, bd_some]
              · rw [if_tt, if_pos (Or.inl rfl), bd_some]
            · rw [if_neg u4, if_neg (fun z => u4 (nI_inj (by omega) (by omega) z)), hQ.cv]
              refine ⟨I1, ?_, f1, hr1, hnk u2⟩
              unfold fX1_implementingError
              rw [hQ.g0, Option.bind_some, hQ.gp, Option.bind_some, hk1 1 (by decide), k5, CB_cv h1, C_isI h1.L h1.R k2, bd_some, hc, Bool.true_and, bIf]
              cases hi : itB w v c
              · rw [if_ff, if_pos rfl, bd_some]
              · rw [if_tt, if_neg (by decide), hQ.gp, Option.bind_some, hQ.gp, Option.bind_some, hk1 4 (by decide), hk1 3 (by decide), k6, hQ.cv, C_base hQ h1 k3, bd_some, bIf]
                cases hb : baB w v b (k 3)
                · rw [if_ff, if_pos rfl, bd_some]
                · have hb' := hb
                  unfold baB at hb'
                  simp only [Bool.and_eq_true, Bool.not_eq_true'] at hb'
                  rw [if_tt, if_neg (by decide), hQ.g0, Option.bind_some, lib_p8 h1.L, Option.bind_some, hQ.gp, Option.bind_some, hk1 4 (by decide), k6, lib_l4 h1.L k3, Option.bind_some, Option.bind_some, lib_p8 h1.L, Option.bind_some, hQ.gp, Option.bind_some, hk1 1 (by decide), k5, lib_l4 h1.L k2, Option.bind_some, Option.bind_some, Option.bind_some, lib_p9 h1.L, Option.bind_some, Option.bind_some, lib_l5 h1.L k3, Option.bind_some, CB_cv h1, C_incB h1 hc hb'.1.1.1 hb'.1.1.2, bd_some, bIf]
                  unfold icB
                  cases incS w v (fun i => stB w v c i || stB w v b i) (lnB w v b) (fun i => (stB w v c i || stB w v b i) && itB w v i)
                  · rw [if_ff, if_ff, bd_some]
                  · rw [if_tt, if_tt, bd_some]
end Cg

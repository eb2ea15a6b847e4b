/-! ===== the class: applicable methods, the best of them ===== -/
/-- a compiler q of the library a, and a client p: places apart -/
def CQ (g : Gr) (q a p : Nat) : Prop := CoG g q a ∧ a + 20 ≤ q ∧ p + 2 ≤ q ∧ g.1 p = 1 ∧ (p + 2 ≤ a ∨ a + 20 ≤ p)
section Ca
variable {g : Gr} {q a p : Nat} {I I' : Mem} {J : Nat → Nat → Int64} {Z : Option Nat} {w : Nat → Int32} {v m : Nat} {k : Nat → Int32} {c b : Nat}
theorem CQ.g0 (h : CQ g q a p) : gP 1 q 0 (mm g I J Z) = some a := gP_m h.1.1 h.1.2.1
theorem CQ.g1 (h : CQ g q a p) : gP 1 q 1 (mm g I J Z) = some (q + 1) := gP_m h.1.1 h.1.2.2.1
theorem CQ.g2 (h : CQ g q a p) : gP 1 q 2 (mm g I J Z) = some (q + 2) := gP_m h.1.1 h.1.2.2.2.2.1
theorem CQ.k1 (h : CQ g q a p) : g.1 (q + 1) = 8 := h.1.2.2.2.1
theorem CQ.ld (h : CQ g q a p) {j : Nat} (hj : j < 40) : ldI (q + 2) (nI j) (mm g I J Z) = some (I (q + 2) j) := ldI_m h.1.2.2.2.2.2.1 (by rw [h.1.2.2.2.2.2.2]; exact hj) (by omega)
theorem CQ.st (h : CQ g q a p) {j : Nat} (hj : j < 40) {x : Int32} : stI (q + 2) (nI j) x (mm g I J Z) = some (mm g (up2 I (q + 2) j x) J Z) := stI_m h.1.2.2.2.2.2.1 (by rw [h.1.2.2.2.2.2.2]; exact hj) (by omega)
theorem CQ.gi (h : CQ g q a p) {j : Nat} : gI 1 q j (mm g I J Z) = some (I q j) := gI_m h.1.1
theorem CQ.cv (h : CQ g q a p) {ρ γ : Type} {f : AH → Option (ρ × AH)} {K : ρ → AH → Option γ} : cv 1 q f (mm g I J Z) K = bd (f (mm g I J Z)) K := cv_m h.1.1
theorem CQ.gp (h : CQ g q a p) {j : Nat} : gI 0 p j (mm g I J Z) = some (I p j) := gI_m h.2.2.2.1
theorem C_hidL (hQ : CQ g q a p) (h : CB g I a w v) (hm : m < nmb w v) (hmet : mb w v m 0 = nI 1) {x : Int32} : ∀ (d i f : Nat), i + d = nmb w v → d < f → lX1_isHidden_19 f q (nI m) x (a + 6) (nI (ow w v m)) (nI i) (mm g I J Z) = some (bI (anyF (hdM w v (bt x) m) i d), mm g I J Z) := by
  have hn := h.M.n40
  obtain ⟨p1, p2, p3, p4⟩ := h.M.own m hm
  obtain ⟨s, hs, es⟩ := h.M.nam m hm
  intro d
  induction d with
  | zero =>
    intro i f hi hf
    obtain ⟨f, rfl⟩ : ∃ z, f = z + 1 := ⟨f - 1, by omega⟩
    show bX1_isHidden_19 (lX1_isHidden_19 f) q _ _ _ _ _ _ = _
    unfold bX1_isHidden_19
    rw [m_size h, Option.bind_some, if_pos (nI_le (by omega) (by omega)), rz_n0]
    rfl
  | succ d ih =>
    intro i f hi hf
    obtain ⟨f, rfl⟩ : ∃ z, f = z + 1 := ⟨f - 1, by omega⟩
    have hi' : i < nmb w v := by omega
    obtain ⟨o1, o2, o3, o4⟩ := h.M.own i hi'
    show bX1_isHidden_19 (lX1_isHidden_19 f) q _ _ _ _ _ _ = _
    unfold bX1_isHidden_19
    have hno : hdM w v (bt x) m i = false → fX1_isHidden_99 (lX1_isHidden_19 f) q (nI m) x (a + 6) (nI (ow w v m)) (nI i) (mm g I J Z) = some (bI (anyF (hdM w v (bt x) m) i (d + 1)), mm g I J Z) := by
      intro e
      unfold fX1_isHidden_99
      rw [nI_add, anyF, e, Bool.false_or]
      exact ih (i + 1) f (by omega) (by omega)
    rw [m_size h, Option.bind_some, if_neg (nI_ge hi' (by omega)), m_own h hi', m_sig h hi', m_sig h hm, h.R.sig m hm, if_pos hmet, es]
    have hsg := C_sign h.R h.M hi' hs (h.M.par m hm).t1 (h.M.par m hm).t2
    cases hG : isG w v (nI s) (mb w v m 7) (mb w v m 8) i
    · rw [if_neg (fun e => by rw [hsg.mp e] at hG; cases hG)]
      exact hno (by unfold hdM; rw [es, hG]; rfl)
    · rw [if_pos (hsg.mpr hG)]
      by_cases hoo : ow w v i = ow w v m
      · rw [if_pos (by rw [hoo])]
        exact hno (by unfold hdM; rw [decide_eq_true hoo]; simp)
      · rw [if_neg (fun e => hoo (nI_inj (by omega) (by omega) e)), tst_if (by omega)]
        cases hT : bt x (ow w v i)
        · rw [if_ff]
          exact hno (by unfold hdM; rw [hT]; simp)
        · rw [if_tt, hQ.g0, Option.bind_some, lib_p8 h.L, Option.bind_some, lib_l4 h.L o2, Option.bind_some, tst_if (by omega), h.R.sty _ _ o2 (by omega), o4, Bool.true_and]
          cases hst : stB w v (ow w v i) (ow w v m)
          · rw [if_ff]
            exact hno (by unfold hdM; rw [hst]; simp)
          · rw [if_tt, m_acc h hi']
            by_cases h3 : mb w v i 3 = 0
            · rw [if_pos h3]
              exact hno (by unfold hdM; rw [decide_eq_true h3]; simp)
            · rw [if_neg h3, rz_n1, anyF]
              have : hdM w v (bt x) m i = true := by unfold hdM; rw [es, hG, decide_eq_false hoo, hT, decide_eq_false h3, hst]; rfl
              rw [this, Bool.true_or]
theorem C_hid (hQ : CQ g q a p) (h : CB g I a w v) (hm : m < nmb w v) (hmet : mb w v m 0 = nI 1) (hc : exC w v c = true) : fX1_isHidden q (nI m) (I (a + 4) c) (mm g I J Z) = some (bI (hdB w v (stB w v c) m), mm g I J Z) := by
  have hn := h.M.n40
  unfold fX1_isHidden
  rw [hQ.g0, Option.bind_some, lib_p10 h.L, Option.bind_some, m_own h hm, C_hidL hQ h hm hmet (nmb w v) 0 fuel (by omega) (by unfold fuel; omega)]
  show some (bI (hdB w v (bt (I (a + 4) c)) m), _) = _
  rw [hdB_congr h.M (T' := stB w v c) (fun i hi => by rw [h.R.sty c i (exC_lt hc) (by omega), hc, Bool.true_and])]
def cdB2 (w : Nat → Int32) (v : Nat) (k : Nat → Int32) (c b m : Nat) : Bool := !decide (mb w v m 3 = 0) && opB w v m (k 3) b && !(bt (mb w v m 4) 0 && itB w v (ow w v m) && !decide (ow w v m = c)) && !hdB w v (stB w v c) m
theorem C_cand (hQ : CQ g q a p) (h : CB g I a w v) (hm : m < nmb w v) (hmet : mb w v m 0 = nI 1) (hc : exC w v c = true) (hb : b < 10) (hk1 : I p 1 = nI c) (hk4 : I p 4 = nI b) : fX1_isCandidate q (nI m) p (mm g I J Z) = some (bI (cdB2 w v (I p) c b m), mm g I J Z) := by
  obtain ⟨o1, o2, o3, o4⟩ := h.M.own m hm
  have hcl := exC_lt hc
  have h73 : fX1_isCandidate_73 q (nI m) p (mm g I J Z) = some (bI (!hdB w v (stB w v c) m), mm g I J Z) := by
    unfold fX1_isCandidate_73
    rw [hQ.g0, Option.bind_some, lib_p8 h.L, Option.bind_some, hQ.gp, Option.bind_some, hk1, lib_l4 h.L hcl, Option.bind_some, hQ.cv, C_hid hQ h hm hmet hc, bd_some, bIf]
    cases hdB w v (stB w v c) m
    · rw [if_ff, rz_n1]; rfl
    · rw [if_tt, rz_n0]; rfl
  unfold fX1_isCandidate cdB2
  rw [hQ.g0, Option.bind_some, lib_p10 h.L, Option.bind_some, m_own h hm, m_acc h hm]
  by_cases h3 : mb w v m 3 = 0
  · rw [if_pos h3, rz_n0, decide_eq_true h3]
    rfl
  · rw [if_neg h3, decide_eq_false h3, Option.bind_some, CB_cv h, C_mopen h.L h.R h.M hm hQ.2.2.2.1 hb hk4, bd_some, bIf]
    cases hop : opB w v m (I p 3) b
    · rw [if_ff, rz_n0]; rfl
    · rw [if_tt, m_flg h hm, (flg_if h.M hm).1]
      cases hs : bt (mb w v m 4) 0
      · rw [if_ff, h73]; rfl
      · rw [if_tt, hQ.g0, Option.bind_some, CB_cv h, C_isI h.L h.R o2, bd_some, o4, Bool.true_and, bIf]
        cases hi : itB w v (ow w v m)
        · rw [if_ff, h73]; rfl
        · rw [if_tt, hQ.gp, Option.bind_some, hk1]
          by_cases hoc : ow w v m = c
          · rw [if_pos (by rw [hoc]), h73, decide_eq_true hoc]; rfl
          · rw [if_neg (fun e => hoc (nI_inj (by omega) (by omega) e)), rz_n0, decide_eq_false hoc]; rfl
/-- a namesake: what could be called with other argument types -/
def nsB (w : Nat → Int32) (v : Nat) (k : Nat → Int32) (c m : Nat) : Bool := decide (mb w v m 0 = nI 1) && decide (mb w v m 2 = k 2) && decide (mb w v m 6 = k 5) && stB w v c (ow w v m)
/-- only the compiler's row and count may change -/
def Fg (q : Nat) (I I' : Mem) : Prop := ∀ x, x ≠ q → x ≠ q + 2 → I' x = I x
theorem apB_eq : apB w v k c b m = (nsB w v k c m && cdB2 w v k c b m && (fitB w v (k 6) (mb w v m 7) && fitB w v (k 7) (mb w v m 8))) := by
  unfold apB nsB cdB2
  cases decide (mb w v m 0 = nI 1) <;> cases stB w v c (ow w v m) <;> cases decide (mb w v m 2 = k 2) <;> simp
theorem ct_mono {P : Nat → Bool} {n m : Nat} (h : n ≤ m) : ct P n ≤ ct P m := by
  induction m with
  | zero => have : n = 0 := by omega
            rw [this]; exact Nat.le_refl _
  | succ m ih =>
    by_cases e : n = m + 1
    · rw [e]; exact Nat.le_refl _
    · have := ih (by omega)
      rw [ct]
      split <;> omega
theorem C_gatL (hQ : CQ g q a p) (hK : CK k 2 c b) (hc : exC w v c = true) {x : Int32} (hx : ∀ i, i < 10 → bt x i = stB w v c i) : ∀ (d m f : Nat) (I : Mem), CB g I a w v → (∀ j, j < 8 → I p j = k j) → m + d = nmb w v → d < f → I q 3 = nI (ct (apB w v k c b) m) → (∀ j, j < m → apB w v k c b j = true → I (q + 2) (ct (apB w v k c b) j) = nI j) → I q 4 = bI (anyF (nsB w v k c) 0 m) →
    ∃ I', lX1_gatherApplicable_29 f q p (a + 6) x (nI m) (mm g I J Z) = some ((), mm g I' J Z) ∧ Fg q I I' ∧ I' q 3 = nI (ct (apB w v k c b) (nmb w v)) ∧ (∀ j, j < nmb w v → apB w v k c b j = true → I' (q + 2) (ct (apB w v k c b) j) = nI j) ∧ I' q 4 = bI (anyF (nsB w v k c) 0 (nmb w v)) := by
  obtain ⟨k1, k2, k3, k4, k5, k6, k7, k8⟩ := hK
  have hP := k8 rfl
  intro d
  induction d with
  | zero =>
    intro m f I h hkI hm hf e1 e2 e3
    obtain ⟨f, rfl⟩ : ∃ z, f = z + 1 := ⟨f - 1, by omega⟩
    obtain rfl : m = nmb w v := by omega
    refine ⟨I, ?_, fun _ _ _ => rfl, e1, e2, e3⟩
    show bX1_gatherApplicable_29 (lX1_gatherApplicable_29 f) q _ _ _ _ _ = _
    unfold bX1_gatherApplicable_29
    have hn := h.M.n40
    rw [m_size h, Option.bind_some, if_pos (nI_le (Nat.le_refl _) (by omega))]
  | succ d ih =>
    intro m f I h hkI hm hf e1 e2 e3
    obtain ⟨f, rfl⟩ : ∃ z, f = z + 1 := ⟨f - 1, by omega⟩
    have hn := h.M.n40
    have hm' : m < nmb w v := by omega
    obtain ⟨o1, o2, o3, o4⟩ := h.M.own m hm'
    have hns1 : anyF (nsB w v k c) 0 (m + 1) = (anyF (nsB w v k c) 0 m || nsB w v k c m) := by
      rw [Bool.eq_iff_iff, Bool.or_eq_true, anyF_iff, anyF_iff]
      constructor
      · rintro ⟨j, j1, j2, j3⟩
        by_cases e : j = m
        · subst e; exact Or.inr j3
        · exact Or.inl ⟨j, j1, by omega, j3⟩
      · rintro (⟨j, j1, j2, j3⟩ | j3)
        · exact ⟨j, j1, by omega, j3⟩
        · exact ⟨m, by omega, by omega, j3⟩
    show ∃ I', bX1_gatherApplicable_29 (lX1_gatherApplicable_29 f) q _ _ _ _ _ = _ ∧ _
    unfold bX1_gatherApplicable_29
    -- going on with nothing new in the row
    have hno : ∀ I2, Fg q I I2 → I2 q 3 = I q 3 → I2 (q + 2) = I (q + 2) → I2 q 4 = bI (anyF (nsB w v k c) 0 (m + 1)) → apB w v k c b m = false → ∃ I', fX1_gatherApplicable_169 (lX1_gatherApplicable_29 f) q p (a + 6) x (nI m) (mm g I2 J Z) = some ((), mm g I' J Z) ∧ Fg q I I' ∧ I' q 3 = nI (ct (apB w v k c b) (nmb w v)) ∧ (∀ j, j < nmb w v → apB w v k c b j = true → I' (q + 2) (ct (apB w v k c b) j) = nI j) ∧ I' q 4 = bI (anyF (nsB w v k c) 0 (nmb w v)) := by
      intro I2 hF z3 zr z4 hap
      unfold fX1_gatherApplicable_169
      rw [nI_add]
      have hct : ct (apB w v k c b) (m + 1) = ct (apB w v k c b) m := by rw [ct, hap, if_ff]
      obtain ⟨I3, t1, t2, t3, t4, t5⟩ := ih (m + 1) f I2 (h.fr (fun y y1 y2 => hF y (by have := hQ.2.1; omega) (by have := hQ.2.1; omega))) (fun j hj => by rw [hF p (by have := hQ.2.2.1; omega) (by have := hQ.2.2.1; omega)]; exact hkI j hj) (by omega) (by omega) (by rw [z3, e1, hct]) (fun j hj hj2 => by
        have hne : j ≠ m := fun e => by rw [e, hap] at hj2; cases hj2
        rw [zr]; exact e2 j (by omega) hj2) z4
      exact ⟨I3, t1, fun y y1 y2 => (t2 y y1 y2).trans (hF y y1 y2), t3, t4, t5⟩
    have hno0 : nsB w v k c m = false → ∃ I', fX1_gatherApplicable_169 (lX1_gatherApplicable_29 f) q p (a + 6) x (nI m) (mm g I J Z) = some ((), mm g I' J Z) ∧ Fg q I I' ∧ I' q 3 = nI (ct (apB w v k c b) (nmb w v)) ∧ (∀ j, j < nmb w v → apB w v k c b j = true → I' (q + 2) (ct (apB w v k c b) j) = nI j) ∧ I' q 4 = bI (anyF (nsB w v k c) 0 (nmb w v)) := by
      intro e
      exact hno I (fun _ _ _ => rfl) rfl rfl (by rw [hns1, e, Bool.or_false]; exact e3) (by rw [apB_eq, e]; rfl)
    rw [m_size h, Option.bind_some, if_neg (nI_ge hm' (by omega)), m_knd h hm']
    by_cases hk : mb w v m 0 = nI 1
    · rw [if_pos hk, m_nam h hm', hQ.gp, Option.bind_some, hkI 2 (by decide)]
      by_cases h2 : mb w v m 2 = k 2
      · rw [if_pos h2, m_man h hm', if_pos hk, hQ.gp, Option.bind_some, hkI 5 (by decide)]
        by_cases h6 : mb w v m 6 = k 5
        · rw [if_pos h6, m_own h hm', tst_if (by omega), hx _ o2]
          cases hst : stB w v c (ow w v m)
          · rw [if_ff]
            exact hno0 (by unfold nsB; rw [hst, Bool.and_false])
          · have hns : nsB w v k c m = true := by unfold nsB; rw [decide_eq_true hk, decide_eq_true h2, decide_eq_true h6, hst]; rfl
            rw [if_tt, pZ_m (x := nI 1) hQ.1.1 (Or.inr rfl), Option.bind_some]
            have hF1 : Fg q I (up2 I q 4 (nI 1)) := fun y y1 y2 => up2_ne y1
            have hB1 : CB g (up2 I q 4 (nI 1)) a w v := h.fr (fun y y1 y2 => hF1 y (by have := hQ.2.1; omega) (by have := hQ.2.1; omega))
            have hk1 : ∀ j, j < 8 → up2 I q 4 (nI 1) p j = k j := fun j hj => by rw [hF1 p (by have := hQ.2.2.1; omega) (by have := hQ.2.2.1; omega)]; exact hkI j hj
            have hno1 := hno (up2 I q 4 (nI 1)) hF1 (by rw [up2_at, if_neg (by decide)]) (up2_ne (by omega)) (by rw [up2_at, if_pos rfl, hns1, hns, Bool.or_true]; rfl)
            rw [hQ.g0, Option.bind_some, hQ.gp, Option.bind_some, hk1 6 (by decide), m_fst hB1 hm', CB_cv hB1, C_fits hB1.L hB1.R hP.t1 (h.M.par m hm').t1, bd_some, bIf]
            cases hf1 : fitB w v (k 6) (mb w v m 7)
            · rw [if_ff]
              exact hno1 (by rw [apB_eq, hf1]; simp)
            · rw [if_tt, hQ.g0, Option.bind_some, hQ.gp, Option.bind_some, hk1 7 (by decide), m_snd hB1 hm', CB_cv hB1, C_fits hB1.L hB1.R hP.t2 (h.M.par m hm').t2, bd_some, bIf]
              cases hf2 : fitB w v (k 7) (mb w v m 8)
              · rw [if_ff]
                exact hno1 (by rw [apB_eq, hf2]; simp)
              · have hcd := C_cand (J := J) (Z := Z) hQ hB1 hm' hk hc k3 (by rw [hk1 1 (by decide)]; exact k5) (by rw [hk1 4 (by decide)]; exact k6)
                have hcc : cdB2 w v (up2 I q 4 (nI 1) p) c b m = cdB2 w v k c b m := by unfold cdB2; rw [hk1 3 (by decide)]
                rw [if_tt, hQ.cv, hcd, hcc, bd_some, bIf]
                cases hcb : cdB2 w v k c b m
                · rw [if_ff]
                  exact hno1 (by rw [apB_eq, hcb]; simp)
                · have hap : apB w v k c b m = true := by rw [apB_eq, hns, hcb, hf1, hf2]; rfl
                  have hct : ct (apB w v k c b) (m + 1) = ct (apB w v k c b) m + 1 := by rw [ct, hap, if_tt]
                  have hcl := ct_le (P := apB w v k c b) m
                  rw [if_tt, hQ.g2, Option.bind_some, hQ.gi, Option.bind_some, show up2 I q 4 (nI 1) q 3 = nI (ct (apB w v k c b) m) from by rw [up2_at, if_neg (by decide)]; exact e1, hQ.st (by omega), Option.bind_some, hQ.gi, Option.bind_some, show up2 (up2 I q 4 (nI 1)) (q + 2) (ct (apB w v k c b) m) (nI m) q 3 = nI (ct (apB w v k c b) m) from by rw [up2_ne (by omega), up2_at, if_neg (by decide)]; exact e1, pI_m hQ.1.1, Option.bind_some, nI_add]
                  unfold fX1_gatherApplicable_169
                  rw [nI_add]
                  have hF2 : Fg q I (up2 (up2 (up2 I q 4 (nI 1)) (q + 2) (ct (apB w v k c b) m) (nI m)) q 3 (nI (ct (apB w v k c b) m + 1))) := fun y y1 y2 => by rw [up2_ne y1, up2_ne y2, up2_ne y1]
                  obtain ⟨I3, t1, t2, t3, t4, t5⟩ := ih (m + 1) f _ (h.fr (fun y y1 y2 => hF2 y (by have := hQ.2.1; omega) (by have := hQ.2.1; omega))) (fun j hj => by rw [hF2 p (by have := hQ.2.2.1; omega) (by have := hQ.2.2.1; omega)]; exact hkI j hj) (by omega) (by omega) (by rw [up2_at, if_pos rfl, hct]) (fun j hj hj2 => by
                    rw [up2_ne (by omega), up2_at]
                    by_cases hjm : j = m
                    · rw [hjm, if_pos rfl]
                    · have hlt : ct (apB w v k c b) j < ct (apB w v k c b) m := by
                        have h1 : ct (apB w v k c b) (j + 1) = ct (apB w v k c b) j + 1 := by rw [ct, hj2, if_tt]
                        have h2 := ct_mono (P := apB w v k c b) (n := j + 1) (m := m) (by omega)
                        omega
                      rw [if_neg (by omega), up2_ne (by omega)]
                      exact e2 j (by omega) hj2) (by rw [up2_at, if_neg (by decide), up2_ne (by omega), up2_at, if_pos rfl, hns1, hns, Bool.or_true]; rfl)
                  exact ⟨I3, t1, fun y y1 y2 => (t2 y y1 y2).trans (hF2 y y1 y2), t3, t4, t5⟩
        · rw [if_neg h6]
          exact hno0 (by unfold nsB; rw [decide_eq_false h6]; simp)
      · rw [if_neg h2]
        exact hno0 (by unfold nsB; rw [decide_eq_false h2]; simp)
    · rw [if_neg hk]
      exact hno0 (by unfold nsB; rw [decide_eq_false hk]; simp)
end Ca

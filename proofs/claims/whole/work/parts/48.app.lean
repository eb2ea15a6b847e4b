/-! ===== calls: hidden methods, applicable methods ===== -/
/-- n hides m from a class with the supertypes T -/
def hdM (w : Nat → Int32) (v : Nat) (T : Nat → Bool) (m n : Nat) : Bool := isG w v (mb w v m 2) (mb w v m 7) (mb w v m 8) n && !decide (ow w v n = ow w v m) && T (ow w v n) && !decide (mb w v n 3 = 0) && stB w v (ow w v n) (ow w v m)
def hdB (w : Nat → Int32) (v : Nat) (T : Nat → Bool) (m : Nat) : Bool := anyF (hdM w v T m) 0 (nmb w v)
/-- a client's row -/
def CK (k : Nat → Int32) (u c b : Nat) : Prop := u < 6 ∧ c < 10 ∧ b < 10 ∧ k 0 = nI u ∧ k 1 = nI c ∧ k 4 = nI b ∧ (u ≤ 2 → ∃ q, q < 8 ∧ k 2 = nI q) ∧ (u = 2 → Pt (k 5) (k 6) (k 7))
/-- m is applicable to the call -/
def apB (w : Nat → Int32) (v : Nat) (k : Nat → Int32) (c b m : Nat) : Bool := decide (mb w v m 0 = nI 1) && stB w v c (ow w v m) && decide (mb w v m 2 = k 2) && decide (mb w v m 6 = k 5) && (!decide (mb w v m 3 = 0) && opB w v m (k 3) b && !(bt (mb w v m 4) 0 && itB w v (ow w v m) && !decide (ow w v m = c)) && !hdB w v (stB w v c) m) && (fitB w v (k 6) (mb w v m 7) && fitB w v (k 7) (mb w v m 8))
section Ap
variable {g : Gr} {R a : Nat} {I I' : Mem} {J : Nat → Nat → Int64} {Z : Option Nat} {w : Nat → Int32} {v m : Nat} {k : Nat → Int32} {c b : Nat}
theorem acc_le (hM : WM w v) (hm : m < nmb w v) {α : Type} {A B : α} : (if mb w v m 3 ≤ 0 then A else B) = if mb w v m 3 = 0 then A else B := by
  obtain ⟨ac, ac1, ac2⟩ := hM.acc m hm
  rw [ac2]
  by_cases h : nI ac = 0
  · rw [if_pos h, if_pos ((by decide +kernel : ∀ k, k < 4 → nI k = 0 → nI k ≤ 0) ac ac1 h)]
  · rw [if_neg h, if_neg (fun q => h ((by decide +kernel : ∀ k, k < 4 → nI k ≤ 0 → nI k = 0) ac ac1 q))]
theorem Mb.hp (h : Mb g R I w v) {n : Nat} (hn : n < nmb w v) {x y z : Int32} : fX9_hasParameters R (nI v) (nI n) x y z (mm g I J Z) = some (bI (hp w v n x y z), mm g I J Z) := by
  obtain ⟨a, b, rfl, _, d⟩ := h
  exact M_hasP a b (d.m40 hn)
theorem M_hidL (h : Mb g R I w v) (hm : m < nmb w v) {s0 : Int32} (hs : ∀ i, i < 10 → bt s0 i = true → exC w v i = true) :
    ∀ (d i f : Nat) (s : Bool), i + d = nmb w v → d < f → lX9_isHidden_15 f R (nI v) (nI m) s0 (bI s) (nI (ow w v m)) (nI i) (mm g I J Z) = some (bI (s || anyF (hdM w v (bt s0) m) i d), mm g I J Z) := by
  have hn := h.M.n40
  obtain ⟨p1, p2, p3, p4⟩ := h.M.own m hm
  intro d
  induction d with
  | zero =>
    intro i f s hi hf
    obtain ⟨f, rfl⟩ : ∃ z, f = z + 1 := ⟨f - 1, by omega⟩
    show bX9_isHidden_15 (lX9_isHidden_15 f) R _ _ _ _ _ _ _ = _
    unfold bX9_isHidden_15
    rw [h.cv, h.many, bd_some, if_pos (nI_le (by omega) (by omega)), rz_bI]
    simp [anyF]
  | succ d ih =>
    intro i f s hi hf
    obtain ⟨f, rfl⟩ : ∃ z, f = z + 1 := ⟨f - 1, by omega⟩
    have hi' : i < nmb w v := by omega
    obtain ⟨o1, o2, o3, o4⟩ := h.M.own i hi'
    show bX9_isHidden_15 (lX9_isHidden_15 f) R _ _ _ _ _ _ _ = _
    unfold bX9_isHidden_15
    rw [h.cv, h.many, bd_some, if_neg (nI_ge hi' (by omega)), bIf]
    cases s
    · rw [if_ff, h.cv, h.its hi' (by decide), bd_some, o3]
      have h161 : ∀ s : Bool, s = hdM w v (bt s0) m i → fX9_isHidden_161 (lX9_isHidden_15 f) R (nI v) (nI m) s0 (nI (ow w v m)) (nI i) (bI s) (mm g I J Z) = some (bI (false || anyF (hdM w v (bt s0) m) i (d + 1)), mm g I J Z) := by
        intro s e
        unfold fX9_isHidden_161
        rw [nI_add, ih (i + 1) f s (by omega) (by omega), anyF, e, Bool.false_or]
      have h160 : hdM w v (bt s0) m i = false → fX9_isHidden_160 (lX9_isHidden_15 f) R (nI v) (nI m) s0 (nI (ow w v m)) (nI i) (mm g I J Z) = some (bI (false || anyF (hdM w v (bt s0) m) i (d + 1)), mm g I J Z) := by
        intro e
        unfold fX9_isHidden_160
        exact h161 false e.symm
      have h106 : hdM w v (bt s0) m i = false → fX9_isHidden_106 (lX9_isHidden_15 f) R (nI v) (nI m) s0 (nI (ow w v m)) (nI i) (nI (ow w v i)) (mm g I J Z) = some (bI (false || anyF (hdM w v (bt s0) m) i (d + 1)), mm g I J Z) := by
        intro e
        unfold fX9_isHidden_106 fX9_isHidden_107
        rw [if_pos (by decide)]
        exact h160 e
      rw [h.cv, h.met hi', bd_some, bIf]
      by_cases hk : mb w v i 0 = nI 1
      · rw [decide_eq_true hk, if_tt, h.cv, h.its hi' (by decide), bd_some, h.cv, h.its hm (by decide), bd_some]
        by_cases h2 : mb w v i 2 = mb w v m 2
        · rw [if_pos h2, h.cv, h.its hm (by decide), bd_some, h.cv, h.its hm (by decide), bd_some, h.cv, h.its hm (by decide), bd_some, h.cv, h.hp hi', bd_some, bIf]
          have hpi := hp_iff (h.M.par i hi') (h.M.par m hm)
          cases hpp : hp w v i (mb w v m 6) (mb w v m 7) (mb w v m 8)
          · rw [if_ff]
            refine h106 ?_
            unfold hdM
            have : isG w v (mb w v m 2) (mb w v m 7) (mb w v m 8) i = false := by
              cases hg : isG w v (mb w v m 2) (mb w v m 7) (mb w v m 8) i
              · rfl
              · obtain ⟨-, -, e3, e4⟩ := isG_iff.mp hg
                rw [hpi.mpr ⟨e3, e4⟩] at hpp; cases hpp
            rw [this]
            rfl
          · have hG : isG w v (mb w v m 2) (mb w v m 7) (mb w v m 8) i = true := isG_iff.mpr ⟨hk, h2, (hpi.mp hpp).1, (hpi.mp hpp).2⟩
            rw [if_tt]
            unfold fX9_isHidden_107
            rw [if_neg (by decide)]
            by_cases hoo : ow w v i = ow w v m
            · rw [if_pos (by rw [hoo])]
              exact h160 (by unfold hdM; rw [decide_eq_true hoo]; simp)
            · rw [if_neg (fun q => hoo (nI_inj (by omega) (by omega) q)), M_has (by omega), bd_some, bIf]
              cases hT : bt s0 (ow w v i)
              · rw [if_ff]
                exact h160 (by unfold hdM; rw [hT]; simp)
              · rw [if_tt, h.cv, h.its hi' (by decide), bd_some, acc_le h.M hi']
                by_cases h3 : mb w v i 3 = 0
                · rw [if_pos h3]
                  exact h160 (by unfold hdM; rw [decide_eq_true h3]; simp)
                · rw [if_neg h3, h.cv, h.sup o2, bd_some, M_has (by omega), bd_some, bIf, spb h.C o4 (by omega)]
                  cases hst : stB w v (ow w v i) (ow w v m)
                  · rw [if_ff]
                    exact h160 (by unfold hdM; rw [hst]; simp)
                  · rw [if_tt]
                    exact h161 true (by unfold hdM; rw [hG, decide_eq_false hoo, hT, decide_eq_false h3, hst]; rfl)
        · rw [if_neg h2]
          refine h106 ?_
          unfold hdM isG
          rw [decide_eq_false h2]
          simp
      · rw [decide_eq_false hk, if_ff]
        refine h106 ?_
        unfold hdM isG
        rw [decide_eq_false hk]
        simp
    · rw [if_tt, rz_bI, Bool.true_or]
theorem hdB_congr {T T' : Nat → Bool} (hM : WM w v) (h : ∀ i, i < 10 → T i = T' i) : hdB w v T m = hdB w v T' m := by
  unfold hdB
  refine anyF_congr (fun n _ hn => ?_)
  unfold hdM
  rw [h _ (hM.own n (by omega)).2.1]
theorem M_hid (h : Mb g R I w v) (hm : m < nmb w v) (hc : exC w v c = true) : fX9_isHidden R (nI v) (nI m) (spm w v c) (mm g I J Z) = some (bI (hdB w v (stB w v c) m), mm g I J Z) := by
  have hn := h.M.n40
  unfold fX9_isHidden
  rw [h.cv, h.its hm (by decide), bd_some, (h.M.own m hm).2.2.1, show (nI 0) = bI false from rfl]
  refine (M_hidL h hm (fun i hi e => ?_) (nmb w v) 0 fuel false (by omega) (by unfold fuel; omega)).trans ?_
  · rw [spb h.C hc (by omega)] at e
    exact exC_of hi (stB_le h.C c (exC_lt hc) (exC_ex hc) i e).2
  · rw [Bool.false_or]
    show some (bI (hdB w v (bt (spm w v c)) m), _) = _
    rw [hdB_congr h.M (T' := stB w v c) (fun i hi => spb h.C hc (by omega))]
theorem fit_self (x : Int32) : fitB w v x x = true := by
  unfold fitB
  rw [decide_eq_true rfl, Bool.true_or]
/-- the parameters, one after the other: how the reference asks -/
theorem M_fitL (h : Mb g R I w v) (hm : m < nmb w v) (hP : Pt (I (R + 5) 5) (I (R + 5) 6) (I (R + 5) 7)) (h6 : mb w v m 6 = I (R + 5) 5) : fX9_isApplicable_133 R (nI v) (nI m) (bI true) (mm g I J Z) = some (bI (fitB w v (I (R + 5) 6) (mb w v m 7) && fitB w v (I (R + 5) 7) (mb w v m 8)), mm g I J Z) := by
  have hPm := h.M.par m hm
  obtain ⟨f, hf⟩ : ∃ z, fuel = z + 4 := ⟨fuel - 4, by unfold fuel; omega⟩
  have step : ∀ (f : Nat) (s : Bool) (i : Nat), lX9_isApplicable_138 (f + 1) R (nI v) (nI m) (bI s) (nI i) (mm g I J Z) = (if I (R + 5) 5 ≤ nI i then some (bI s, mm g I J Z) else if s = true then (ldI (R + 5) (nI 6 + nI i) (mm g I J Z)).bind fun x_44 => cv 9 R (fX9_its R (nI v) (nI m) (nI 7 + nI i)) (mm g I J Z) fun x_45 h => cv 9 R (fX9_isFit R (nI v) x_44 x_45) h fun x_46 h => lX9_isApplicable_138 f R (nI v) (nI m) x_46 (nI i + nI 1) h else some (bI s, mm g I J Z)) := by
    intro f s i
    show bX9_isApplicable_138 (lX9_isApplicable_138 f) R _ _ _ _ _ = _
    unfold bX9_isApplicable_138
    rw [h.G.p15, Option.bind_some, h.G.cl (by decide), Option.bind_some, rz_bI, bIf, Option.bind_some]
  unfold fX9_isApplicable_133
  rw [hf, show f + 4 = (f + 3) + 1 from rfl, step]
  rcases hP with ⟨q1, q2, q3⟩ | ⟨q1, q2, q3⟩ | ⟨q1, q2, q3⟩
  · rw [if_pos (by rw [q1]; decide)]
    rw [h6, q1] at hPm
    rcases hPm with ⟨e1, e2, e3⟩ | ⟨e1, _⟩ | ⟨e1, _⟩
    · rw [q2, q3, e2, e3, fit_self]
      rfl
    · exact absurd e1 (by decide)
    · exact absurd e1 (by decide)
  · rw [h6, q1] at hPm
    rcases hPm with ⟨e1, _⟩ | ⟨e1, e2, e3⟩ | ⟨e1, _⟩
    · exact absurd e1 (by decide)
    · rw [if_neg (by rw [q1]; decide), if_tt, nI_add, h.G.cl (by decide), Option.bind_some, nI_add, h.cv, h.its hm (by decide), bd_some, h.cv, h.fit q2.ty e2.ty, bd_some, nI_add, show f + 3 = (f + 2) + 1 from rfl, step, if_pos (by rw [q1]; decide), q3, e3, fit_self, Bool.and_true]
    · exact absurd e1 (by decide)
  · rw [h6, q1] at hPm
    rcases hPm with ⟨e1, _⟩ | ⟨e1, _⟩ | ⟨e1, e2, e3⟩
    · exact absurd e1 (by decide)
    · exact absurd e1 (by decide)
    · rw [if_neg (by rw [q1]; decide), if_tt, nI_add, h.G.cl (by decide), Option.bind_some, nI_add, h.cv, h.its hm (by decide), bd_some, h.cv, h.fit q2.ty e2.ty, bd_some, nI_add, show f + 3 = (f + 2) + 1 from rfl, step, if_neg (by rw [q1]; decide)]
      cases hfit : fitB w v (I (R + 5) 6) (mb w v m 7)
      · rw [if_ff]
        rfl
      · rw [if_tt, nI_add, h.G.cl (by decide), Option.bind_some, nI_add, h.cv, h.its hm (by decide), bd_some, h.cv, h.fit q3.ty e3.ty, bd_some, nI_add, show f + 2 = (f + 1) + 1 from rfl, step, if_pos (by rw [q1]; decide)]
        rfl
theorem M_app (h : Mb g R I w v) (hm : m < nmb w v) (hK : CK (I (R + 5)) 2 c b) (hc : exC w v c = true) : fX9_isApplicable R (nI v) (nI m) (nI c) (spm w v c) (mm g I J Z) = some (bI (apB w v (I (R + 5)) c b m), mm g I J Z) := by
  have hn := h.M.n40
  obtain ⟨k1, k2, k3, k4, k5, k6, k7, k8⟩ := hK
  obtain ⟨o1, o2, o3, o4⟩ := h.M.own m hm
  have h132 : fX9_isApplicable_132 R (nI v) (nI m) (mm g I J Z) = some (bI false, mm g I J Z) := by
    unfold fX9_isApplicable_132 fX9_isApplicable_133
    obtain ⟨f, hf⟩ : ∃ z, fuel = z + 1 := ⟨fuel - 1, by unfold fuel; omega⟩
    rw [hf]
    show bX9_isApplicable_138 (lX9_isApplicable_138 f) R _ _ _ _ _ = _
    unfold bX9_isApplicable_138
    rw [h.G.p15, Option.bind_some, h.G.cl (by decide), Option.bind_some, show (nI 0) = bI false from rfl, rz_bI, bIf, if_ff]
    by_cases q : I (R + 5) 5 ≤ bI false
    · rw [if_pos q]
    · rw [if_neg q]
  have h84 : apB w v (I (R + 5)) c b m = false → fX9_isApplicable_84 R (nI v) (nI m) (nI c) (spm w v c) (nI (ow w v m)) (mm g I J Z) = some (bI (apB w v (I (R + 5)) c b m), mm g I J Z) := by
    intro e
    unfold fX9_isApplicable_84 fX9_isApplicable_85
    rw [if_pos (by decide), h132, e]
  unfold fX9_isApplicable
  rw [h.cv, h.its hm (by decide), bd_some, o3, h.cv, h.met hm, bd_some, bIf]
  by_cases hk : mb w v m 0 = nI 1
  · rw [decide_eq_true hk, if_tt, M_has (by omega), bd_some, bIf, spb h.C hc (by omega)]
    cases hst : stB w v c (ow w v m)
    · rw [if_ff]
      exact h84 (by unfold apB; rw [hst]; simp)
    · rw [if_tt, h.cv, h.its hm (by decide), bd_some, h.G.p15, Option.bind_some, h.G.cl (by decide), Option.bind_some]
      by_cases h2 : mb w v m 2 = I (R + 5) 2
      · rw [if_pos h2, h.cv, h.its hm (by decide), bd_some, h.G.p15, Option.bind_some, h.G.cl (by decide), Option.bind_some]
        by_cases h6 : mb w v m 6 = I (R + 5) 5
        · rw [if_pos h6, h.cv, h.its hm (by decide), bd_some, acc_le h.M hm]
          by_cases h3 : mb w v m 3 = 0
          · rw [if_pos h3]
            exact h84 (by unfold apB; rw [decide_eq_true h3]; simp)
          · rw [if_neg h3, h.cv, h.opm hm k3 k6, bd_some, bIf]
            cases hop : opB w v m (I (R + 5) 3) b
            · rw [if_ff]
              exact h84 (by unfold apB; rw [hop]; simp)
            · rw [if_tt]
              have h117 : (bt (mb w v m 4) 0 && itB w v (ow w v m) && !decide (ow w v m = c)) = false → fX9_isApplicable_117 R (nI v) (nI m) (spm w v c) (mm g I J Z) = some (bI (apB w v (I (R + 5)) c b m), mm g I J Z) := by
                intro e
                unfold fX9_isApplicable_117
                rw [h.cv, M_hid h hm hc, bd_some, bIf]
                cases hh : hdB w v (stB w v c) m
                · rw [if_ff, show (nI 1) = bI true from rfl, M_fitL h hm (k8 rfl) h6]
                  unfold apB
                  rw [e, hh, hop, hst, decide_eq_true hk, decide_eq_true h2, decide_eq_true h6, decide_eq_false h3]
                  rfl
                · rw [if_tt, h132]
                  unfold apB
                  rw [hh]
                  simp
              unfold fX9_isApplicable_85
              rw [if_neg (by decide), h.cv, h.sta hm, bd_some, bIf]
              cases hs : bt (mb w v m 4) 0
              · rw [if_ff]
                exact h117 (by rw [hs]; rfl)
              · rw [if_tt, h.cv, h.itf o2, bd_some, bIf]
                cases hi : itB w v (ow w v m)
                · rw [if_ff]
                  exact h117 (by rw [hi, Bool.and_false]; rfl)
                · rw [if_tt]
                  by_cases hoc : ow w v m = c
                  · rw [if_pos (by rw [hoc])]
                    exact h117 (by rw [decide_eq_true hoc]; simp)
                  · rw [if_neg (fun q => hoc (nI_inj (by omega) (by omega) q)), h132]
                    unfold apB
                    rw [hs, hi, decide_eq_false hoc]
                    simp
        · rw [if_neg h6]
          exact h84 (by unfold apB; rw [decide_eq_false h6]; simp)
      · rw [if_neg h2]
        exact h84 (by unfold apB; rw [decide_eq_false h2]; simp)
  · rw [decide_eq_false hk, if_ff]
    exact h84 (by unfold apB; rw [decide_eq_false hk]; simp)
end Ap

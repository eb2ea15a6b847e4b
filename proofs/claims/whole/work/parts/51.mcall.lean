/-! ===== the reference: compiledCall ===== -/
section Mc
variable {g : Gr} {R : Nat} {I I' : Mem} {J : Nat → Nat → Int64} {Z : Option Nat} {w : Nat → Int32} {v m c : Nat} {A : Nat → Bool} {x5 x6 x7 : Int32}
/-- the applicable ones stand in the row, and have the number of parameters of the call -/
def MA (w : Nat → Int32) (v : Nat) (I : Mem) (R : Nat) (A : Nat → Bool) : Prop := (∀ n, n < nmb w v → I (R + 7) n = bI (A n)) ∧ (∀ n, n < nmb w v → A n = true → mb w v n 6 = I (R + 5) 5) ∧ Pt (I (R + 5) 5) (I (R + 5) 6) (I (R + 5) 7)
theorem M_c126 (h : Mb g R I w v) (hA : MA w v I R A) (hm : m < nmb w v) (h6 : mb w v m 6 = I (R + 5) 5) {n : Nat} (hn : n < nmb w v) {K86 : Nat → Int32 → Int32 → Int32 → Int32 → Int32 → Int32 → AH → Option (Int32 × AH)} {K108 : Nat → Int32 → Int32 → Int32 → Int32 → Int32 → Int32 → Int32 → Int32 → AH → Option (Int32 × AH)} :
    lX9_compiledCall_126 K86 K108 fuel R (nI v) (nI c) x5 x6 x7 (nI m) (bI true) (nI n) (nI 0) (mm g I J Z) = K108 R (nI v) (nI c) x5 x6 x7 (nI m) (bI (!A n || f2B w v m n)) (nI (n + 1)) (mm g I J Z) := by
  have hn40 := h.M.m40 hn
  have hPm := h.M.par m hm
  have hPn := h.M.par n hn
  obtain ⟨f, hf⟩ : ∃ z, fuel = z + 4 := ⟨fuel - 4, by unfold fuel; omega⟩
  have step : ∀ (f : Nat) (s : Bool) (i : Nat), lX9_compiledCall_126 K86 K108 (f + 1) R (nI v) (nI c) x5 x6 x7 (nI m) (bI s) (nI n) (nI i) (mm g I J Z) = (if I (R + 5) 5 ≤ nI i then K108 R (nI v) (nI c) x5 x6 x7 (nI m) (bI s) (nI (n + 1)) (mm g I J Z) else if s = true then (if A n = true then cv 9 R (fX9_its R (nI v) (nI m) (nI 7 + nI i)) (mm g I J Z) fun x_67 h => cv 9 R (fX9_its R (nI v) (nI n) (nI 7 + nI i)) h fun x_68 h => cv 9 R (fX9_isFit R (nI v) x_67 x_68) h fun x_69 h => lX9_compiledCall_126 K86 K108 f R (nI v) (nI c) x5 x6 x7 (nI m) x_69 (nI n) (nI i + nI 1) h else K108 R (nI v) (nI c) x5 x6 x7 (nI m) (bI s) (nI (n + 1)) (mm g I J Z)) else K108 R (nI v) (nI c) x5 x6 x7 (nI m) (bI s) (nI (n + 1)) (mm g I J Z)) := by
    intro f s i
    show bX9_compiledCall_126 K86 K108 (lX9_compiledCall_126 K86 K108 f) R _ _ _ _ _ _ _ _ _ _ = _
    unfold bX9_compiledCall_126 fX9_compiledCall_189
    rw [h.G.p15, Option.bind_some, h.G.cl (by decide), Option.bind_some, bIf, h.G.p17, Option.bind_some, h.G.ldZ hn40, Option.bind_some, hA.1 n hn, bIf, nI_add]
  rw [hf, show f + 4 = (f + 3) + 1 from rfl, step]
  cases hAn : A n
  · rw [if_tt, if_ff]
    by_cases q : I (R + 5) 5 ≤ nI 0
    · rw [if_pos q]; rfl
    · rw [if_neg q]; rfl
  · have hn6 := hA.2.1 n hn hAn
    unfold f2B
    rcases hA.2.2 with ⟨q1, q2, q3⟩ | ⟨q1, q2, q3⟩ | ⟨q1, q2, q3⟩
    · rw [if_pos (by rw [q1]; decide)]
      rw [h6, q1] at hPm
      rw [hn6, q1] at hPn
      rcases hPm with ⟨e1, e2, e3⟩ | ⟨e1, _⟩ | ⟨e1, _⟩
      · rcases hPn with ⟨d1, d2, d3⟩ | ⟨d1, _⟩ | ⟨d1, _⟩
        · rw [e2, e3, d2, d3, fit_self]; rfl
        · exact absurd d1 (by decide)
        · exact absurd d1 (by decide)
      · exact absurd e1 (by decide)
      · exact absurd e1 (by decide)
    · rw [h6, q1] at hPm
      rw [hn6, q1] at hPn
      rcases hPm with ⟨e1, _⟩ | ⟨e1, e2, e3⟩ | ⟨e1, _⟩
      · exact absurd e1 (by decide)
      · rcases hPn with ⟨d1, _⟩ | ⟨d1, d2, d3⟩ | ⟨d1, _⟩
        · exact absurd d1 (by decide)
        · rw [if_neg (by rw [q1]; decide), if_tt, if_tt, nI_add, h.cv, h.its hm (by decide), bd_some, h.cv, h.its hn (by decide), bd_some, h.cv, h.fit e2.ty d2.ty, bd_some, nI_add, show f + 3 = (f + 2) + 1 from rfl, step, if_pos (by rw [q1]; decide), e3, d3, fit_self, Bool.and_true]
          rfl
        · exact absurd d1 (by decide)
      · exact absurd e1 (by decide)
    · rw [h6, q1] at hPm
      rw [hn6, q1] at hPn
      rcases hPm with ⟨e1, _⟩ | ⟨e1, _⟩ | ⟨e1, e2, e3⟩
      · exact absurd e1 (by decide)
      · exact absurd e1 (by decide)
      · rcases hPn with ⟨d1, _⟩ | ⟨d1, _⟩ | ⟨d1, d2, d3⟩
        · exact absurd d1 (by decide)
        · exact absurd d1 (by decide)
        · rw [if_neg (by rw [q1]; decide), if_tt, if_tt, nI_add, h.cv, h.its hm (by decide), bd_some, h.cv, h.its hn (by decide), bd_some, h.cv, h.fit e2.ty d2.ty, bd_some, nI_add, show f + 3 = (f + 2) + 1 from rfl, step, if_neg (by rw [q1]; decide)]
          cases hfit : fitB w v (mb w v m 7) (mb w v n 7)
          · rw [if_ff]
            rfl
          · rw [if_tt, hAn, if_tt, nI_add, h.cv, h.its hm (by decide), bd_some, h.cv, h.its hn (by decide), bd_some, h.cv, h.fit e3.ty d3.ty, bd_some, nI_add, show f + 2 = (f + 1) + 1 from rfl, step, if_pos (by rw [q1]; decide)]
            rfl
theorem M_c108 (h : Mb g R I w v) (hA : MA w v I R A) (hm : m < nmb w v) {K86 : Nat → Int32 → Int32 → Int32 → Int32 → Int32 → Int32 → AH → Option (Int32 × AH)} :
    ∀ (d n f : Nat) (s : Bool), (s = true → mb w v m 6 = I (R + 5) 5) → n + d = nmb w v → d < f → lX9_compiledCall_108 K86 f R (nI v) (nI c) x5 x6 x7 (nI m) (bI s) (nI n) (mm g I J Z) = fX9_compiledCall_195 K86 R (nI v) (nI c) x5 x6 x7 (nI m) (bI (s && !anyF (fun n => A n && !f2B w v m n) n d)) (mm g I J Z) := by
  have hn40 := h.M.n40
  intro d
  induction d with
  | zero =>
    intro n f s hs hi hf
    obtain ⟨f, rfl⟩ : ∃ z, f = z + 1 := ⟨f - 1, by omega⟩
    show bX9_compiledCall_108 K86 (lX9_compiledCall_108 K86 f) R _ _ _ _ _ _ _ _ _ = _
    unfold bX9_compiledCall_108
    rw [h.cv, h.many, bd_some, if_pos (nI_le (by omega) (by omega))]
    simp [anyF]
  | succ d ih =>
    intro n f s hs hi hf
    obtain ⟨f, rfl⟩ : ∃ z, f = z + 1 := ⟨f - 1, by omega⟩
    show bX9_compiledCall_108 K86 (lX9_compiledCall_108 K86 f) R _ _ _ _ _ _ _ _ _ = _
    unfold bX9_compiledCall_108
    rw [h.cv, h.many, bd_some, if_neg (nI_ge (by omega) (by omega)), bIf]
    cases s
    · rw [if_ff]
      rfl
    · rw [if_tt, M_c126 h hA hm (hs rfl) (by omega), ih (n + 1) f _ (fun _ => hs rfl) (by omega) (by omega), anyF]
      cases A n <;> cases f2B w v m n <;> rfl
theorem M_c86 (h : Mb g R I w v) (hA : MA w v I R A) : ∀ (d m f : Nat), m + d = nmb w v → d < f → lX9_compiledCall_86 f R (nI v) (nI c) (oI (fst (beB w v A) 0 m)) (oI (ls (fun m => beB w v A m && !abB w v m) m)) (nI (ct (fun m => beB w v A m && !abB w v m) m)) (nI m) (mm g I J Z) = if (fst (beB w v A) 0 (nmb w v)).isSome then fX9_compiledCall_283 R (nI v) (nI c) (oI (caS w v A)) (mm g I J Z) else some (nI 4, mm g I J Z) := by
  have hn40 := h.M.n40
  intro d
  induction d with
  | zero =>
    intro m f hi hf
    obtain ⟨f, rfl⟩ : ∃ z, f = z + 1 := ⟨f - 1, by omega⟩
    obtain rfl : m = nmb w v := by omega
    have hc2 := ct_le (P := fun m => beB w v A m && !abB w v m) (nmb w v)
    show bX9_compiledCall_86 (lX9_compiledCall_86 f) R _ _ _ _ _ _ _ = _
    unfold bX9_compiledCall_86 caS
    rw [h.cv, h.many, bd_some, if_pos (nI_le (Nat.le_refl _) (by omega))]
    cases hb : fst (beB w v A) 0 (nmb w v) with
    | none =>
      show (if (-2 : Int32) = -2 then _ else _) = _
      rw [if_pos rfl]
      rfl
    | some j =>
      rw [if_neg (oI_ne (by have := fst_lt hb; omega))]
      show _ = fX9_compiledCall_283 R (nI v) (nI c) _ (mm g I J Z)
      by_cases e : ct (fun m => beB w v A m && !abB w v m) (nmb w v) = 1
      · rw [if_pos (by rw [e]), if_pos e]
      · rw [if_neg (fun z => e ((nI_eq (by omega) (by omega)).mp z)), if_neg e]
  | succ d ih =>
    intro m f hi hf
    obtain ⟨f, rfl⟩ : ∃ z, f = z + 1 := ⟨f - 1, by omega⟩
    have hm : m < nmb w v := by omega
    have ih' := ih (m + 1) f (by omega) (by omega)
    show bX9_compiledCall_86 (lX9_compiledCall_86 f) R _ _ _ _ _ _ _ = _
    unfold bX9_compiledCall_86
    rw [h.cv, h.many, bd_some, if_neg (nI_ge hm (by omega)), h.G.p17, Option.bind_some, h.G.ldZ (by omega), Option.bind_some, hA.1 m hm, M_c108 h hA hm (nmb w v) 0 fuel (A m) (fun e => hA.2.1 m hm e) (by omega) (by unfold fuel; omega)]
    show fX9_compiledCall_195 (lX9_compiledCall_86 f) R (nI v) (nI c) _ _ _ (nI m) (bI (beB w v A m)) _ = _
    unfold fX9_compiledCall_195
    rw [bIf]
    cases hb : beB w v A m
    · have e1 : fst (beB w v A) 0 (m + 1) = fst (beB w v A) 0 m := by rw [fst_suc0, hb]; cases fst (beB w v A) 0 m <;> rfl
      have e2 : ls (fun m => beB w v A m && !abB w v m) (m + 1) = ls (fun m => beB w v A m && !abB w v m) m := by rw [ls, hb]; rfl
      have e3 : ct (fun m => beB w v A m && !abB w v m) (m + 1) = ct (fun m => beB w v A m && !abB w v m) m := by rw [ct, hb]; rfl
      rw [if_ff]
      unfold fX9_compiledCall_255
      rw [nI_add]
      rw [e1, e2, e3] at ih'
      exact ih'
    · rw [if_tt]
      have h214 : ∀ lo : Int32, lo = oI (fst (beB w v A) 0 (m + 1)) → fX9_compiledCall_214 (lX9_compiledCall_86 f) R (nI v) (nI c) (oI (ls (fun m => beB w v A m && !abB w v m) m)) (nI (ct (fun m => beB w v A m && !abB w v m) m)) (nI m) lo (mm g I J Z) = if (fst (beB w v A) 0 (nmb w v)).isSome then fX9_compiledCall_283 R (nI v) (nI c) (oI (caS w v A)) (mm g I J Z) else some (nI 4, mm g I J Z) := by
        intro lo elo
        unfold fX9_compiledCall_214 fX9_compiledCall_233 fX9_compiledCall_252 fX9_compiledCall_255
        rw [h.cv, h.abs hm, bd_some, bIf, elo]
        cases hab : abB w v m
        · have e2 : ls (fun m => beB w v A m && !abB w v m) (m + 1) = some m := by rw [ls, hb, hab]; rfl
          have e3 : ct (fun m => beB w v A m && !abB w v m) (m + 1) = ct (fun m => beB w v A m && !abB w v m) m + 1 := by rw [ct, hb, hab]; rfl
          rw [if_ff, h.cv, h.abs hm, bd_some, bIf, hab, if_ff, nI_add, nI_add]
          rw [e2, e3] at ih'
          exact ih'
        · have e2 : ls (fun m => beB w v A m && !abB w v m) (m + 1) = ls (fun m => beB w v A m && !abB w v m) m := by rw [ls, hb, hab]; rfl
          have e3 : ct (fun m => beB w v A m && !abB w v m) (m + 1) = ct (fun m => beB w v A m && !abB w v m) m := by rw [ct, hb, hab]; rfl
          rw [if_tt, h.cv, h.abs hm, bd_some, bIf, hab, if_tt, nI_add, nI_add]
          rw [e2, e3] at ih'
          exact ih'
      cases hf2 : fst (beB w v A) 0 m with
      | none =>
        show (if (-2 : Int32) = -2 then _ else _) = _
        rw [if_pos rfl]
        exact h214 _ (by rw [fst_suc0, hf2, hb]; rfl)
      | some j =>
        rw [if_neg (oI_ne (by have := fst_lt hf2; omega))]
        exact h214 _ (by rw [fst_suc0, hf2]; rfl)
/-- only the row of the applicable ones may change -/
def F7 (R : Nat) (I I' : Mem) : Prop := ∀ x, x ≠ R + 7 → I' x = I x
theorem M_c13 {k : Nat → Int32} {b : Nat} (hK : CK k 2 c b) (hc : exC w v c = true) : ∀ (d m f : Nat) (I : Mem), Mb g R I w v → I (R + 5) = k → m + d = nmb w v → d < f → (∀ j, j < m → I (R + 7) j = bI (apB w v k c b j)) →
    ∃ I', lX9_compiledCall_13 f R (nI v) (nI c) (spm w v c) (nI (ct (apB w v k c b) m)) (nI m) (mm g I J Z) = (if ct (apB w v k c b) (nmb w v) = 0 then some (nI 3, mm g I' J Z) else if (fst (beB w v (apB w v k c b)) 0 (nmb w v)).isSome then fX9_compiledCall_283 R (nI v) (nI c) (oI (caS w v (apB w v k c b))) (mm g I' J Z) else some (nI 4, mm g I' J Z)) ∧ F7 R I I' := by
  intro d
  induction d with
  | zero =>
    intro m f I h hk hi hf hI
    obtain ⟨f, rfl⟩ : ∃ z, f = z + 1 := ⟨f - 1, by omega⟩
    obtain rfl : m = nmb w v := by omega
    have hn40 := h.M.n40
    have hc2 := ct_le (P := apB w v k c b) (nmb w v)
    have hA : MA w v I R (apB w v k c b) := by
      refine ⟨hI, fun n hn e => ?_, ?_⟩
      · rw [hk]
        unfold apB at e
        simp only [Bool.and_eq_true, decide_eq_true_eq] at e
        exact e.1.1.2
      · rw [hk]; exact hK.2.2.2.2.2.2.2 rfl
    refine ⟨I, ?_, fun _ _ => rfl⟩
    show bX9_compiledCall_13 (lX9_compiledCall_13 f) R _ _ _ _ _ _ = _
    unfold bX9_compiledCall_13
    rw [h.cv, h.many, bd_some, if_pos (nI_le (Nat.le_refl _) (by omega))]
    by_cases e : ct (apB w v k c b) (nmb w v) = 0
    · rw [if_pos (by rw [e]; rfl), if_pos e]
    · rw [if_neg (nI_ne0 (by omega) (by omega)), if_neg e]
      exact M_c86 h hA (nmb w v) 0 fuel (by omega) (by unfold fuel; omega)
  | succ d ih =>
    intro m f I h hk hi hf hI
    obtain ⟨f, rfl⟩ : ∃ z, f = z + 1 := ⟨f - 1, by omega⟩
    have hm : m < nmb w v := by omega
    have hn40 := h.M.n40
    show ∃ I', bX9_compiledCall_13 (lX9_compiledCall_13 f) R _ _ _ _ _ _ = _ ∧ _
    unfold bX9_compiledCall_13
    have hap := M_app (J := J) (Z := Z) h hm (hk.symm ▸ hK) hc
    rw [hk] at hap
    rw [h.cv, h.many, bd_some, if_neg (nI_ge hm (by omega)), h.G.p17, Option.bind_some, h.cv, hap, bd_some, h.G.stZ (by omega), Option.bind_some, h.G.p17, Option.bind_some, h.G.ldZ (by omega), Option.bind_some, up2_at, if_pos rfl, bIf]
    have hF : F7 R I (up2 I (R + 7) m (bI (apB w v k c b m))) := fun x hx => up2_ne hx
    have h2 : Mb g R (up2 I (R + 7) m (bI (apB w v k c b m))) w v := h.fr (hF _ (by omega))
    have hI2 : ∀ j, j < m + 1 → up2 I (R + 7) m (bI (apB w v k c b m)) (R + 7) j = bI (apB w v k c b j) := by
      intro j hj
      rw [up2_at]
      by_cases e : j = m
      · rw [if_pos e, e]
      · rw [if_neg e]; exact hI j (by omega)
    obtain ⟨I3, t1, t2⟩ := ih (m + 1) f _ h2 (by rw [hF _ (by omega)]; exact hk) (by omega) (by omega) hI2
    refine ⟨I3, ?_, fun x hx => (t2 x hx).trans (hF x hx)⟩
    unfold fX9_compiledCall_56
    cases hb : apB w v k c b m
    · have e : ct (apB w v k c b) (m + 1) = ct (apB w v k c b) m := by rw [ct, hb, if_ff]
      rw [hb, e] at t1
      rw [if_ff, nI_add, nI_add]
      exact t1
    · have e : ct (apB w v k c b) (m + 1) = ct (apB w v k c b) m + 1 := by rw [ct, hb, if_tt]
      rw [hb, e] at t1
      rw [if_tt, nI_add, nI_add]
      exact t1
end Mc

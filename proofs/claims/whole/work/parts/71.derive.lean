/-! ===== the class: deriveSupertypes ===== -/
section Dv
variable {g : Gr} {a : Nat} {I I' : Mem} {J : Nat → Nat → Int64} {Z : Option Nat} {w : Nat → Int32} {v c : Nat}
theorem L_there (hL : LibG g a) (hc : c < 10) : fX2_isThere a (nI c) (mm g I J Z) = some (bI (bt (I a 0) c), mm g I J Z) := by
  unfold fX2_isThere
  rw [if_neg (nI_pos (by omega)), if_neg (nI_ge hc (by omega)), lib_g0 hL, Option.bind_some, tst_if (by omega)]
  cases bt (I a 0) c
  · exact rz_n0 _
  · exact rz_n1 _
theorem L_isI (hL : LibG g a) (hc : c < 10) : fX2_isInterface a (nI c) (mm g I J Z) = some (bI (bt (I a 1) c), mm g I J Z) := by
  unfold fX2_isInterface
  rw [lib_g1 hL, Option.bind_some, tst_if (by omega)]
  cases bt (I a 1) c
  · exact rz_n0 _
  · exact rz_n1 _
theorem L_dv80 (hL : LibG g a) (hc : c < 10) : ∀ (d k f : Nat) (I : Mem), k + d = c → d < f → ∃ I', lX2_deriveSupertypesOf_80 f a (nI c) (nI k) (mm g I J Z) = some ((), mm g I' J Z) ∧ (∀ x, x ≠ a + 4 → I' x = I x) ∧ (∀ j, j ≠ c → I' (a + 4) j = I (a + 4) j) ∧ ∀ t, bt (I' (a + 4) c) t = (bt (I (a + 4) c) t || anyF (fun j => bt (I (a + 3) c) j && bt (I (a + 4) j) t) k d) := by
  intro d
  induction d with
  | zero =>
    intro k f I hi hf
    obtain ⟨f, rfl⟩ : ∃ z, f = z + 1 := ⟨f - 1, by omega⟩
    refine ⟨I, ?_, fun _ _ => rfl, fun _ _ => rfl, fun t => by rw [anyF, Bool.or_false]⟩
    show bX2_deriveSupertypesOf_80 (lX2_deriveSupertypesOf_80 f) a _ _ _ = _
    unfold bX2_deriveSupertypesOf_80
    rw [if_pos (nI_le (by omega) (by omega))]
  | succ d ih =>
    intro k f I hi hf
    obtain ⟨f, rfl⟩ : ∃ z, f = z + 1 := ⟨f - 1, by omega⟩
    show ∃ I', bX2_deriveSupertypesOf_80 (lX2_deriveSupertypesOf_80 f) a _ _ _ = _ ∧ _
    unfold bX2_deriveSupertypesOf_80 fX2_deriveSupertypesOf_113
    rw [if_neg (nI_ge (by omega) (by omega)), lib_p7 hL, Option.bind_some, lib_l3 hL hc, Option.bind_some, tst_if (by omega)]
    cases hb : bt (I (a + 3) c) k
    · rw [if_ff, nI_add]
      obtain ⟨I3, t1, t2, t3, t4⟩ := ih (k + 1) f I (by omega) (by omega)
      exact ⟨I3, t1, t2, t3, fun t => by rw [t4 t, anyF, hb, Bool.false_and, Bool.false_or]⟩
    · rw [if_tt, lib_p8 hL, Option.bind_some, lib_l4 hL hc, Option.bind_some, Option.bind_some, lib_l4 hL (by omega), Option.bind_some, lib_t4 hL hc, Option.bind_some, nI_add]
      obtain ⟨I3, t1, t2, t3, t4⟩ := ih (k + 1) f (up2 I (a + 4) c (I (a + 4) c ||| I (a + 4) k)) (by omega) (by omega)
      refine ⟨I3, t1, fun x hx => (t2 x hx).trans (up2_ne hx), fun j hj => by rw [t3 j hj, up2_at, if_neg hj], fun t => ?_⟩
      rw [t4 t, up2_at, if_pos rfl, b_or, up2_ne (by omega : a + 3 ≠ a + 4), anyF, hb, Bool.true_and, Bool.or_assoc]
      congr 2
      refine anyF_congr (fun j h1 h2 => ?_)
      rw [up2_at, if_neg (by omega)]
theorem L_dvOf (hL : LibG g a) (hc : c < 10) : ∃ I', fX2_deriveSupertypesOf a (nI c) (mm g I J Z) = some ((), mm g I' J Z) ∧ (∀ x, x ≠ a + 4 → x ≠ a + 5 → I' x = I x) ∧ (∀ j, j ≠ c → I' (a + 4) j = I (a + 4) j ∧ I' (a + 5) j = I (a + 5) j) ∧
    (∀ s, s < c → I (a + 2) c = nI s → ∀ t, t < 32 → bt (I' (a + 4) c) t = (decide (t = c) || decide (t = 0) || bt (I (a + 4) s) t || anyF (fun j => bt (I (a + 3) c) j && bt (I (a + 4) j) t) 0 c) ∧ bt (I' (a + 5) c) t = (decide (t = c) || (!bt (I a 1) c && bt (I (a + 5) s) t))) ∧
    (I (a + 2) c < 0 → ∀ t, t < 32 → bt (I' (a + 4) c) t = (decide (t = c) || decide (t = 0) || anyF (fun j => bt (I (a + 3) c) j && bt (I (a + 4) j) t) 0 c) ∧ bt (I' (a + 5) c) t = decide (t = c)) := by
  have b1 : ∀ t, t < 32 → bt ((nI 1 <<< (nI c &&& 31)) ||| nI 1) t = (decide (t = c) || decide (t = 0)) := fun t ht => by
    rw [b_or, show bt (nI 1 <<< (nI c &&& 31)) t = decide (t = c) from bt_one c (by omega) ht, show bt (nI 1) t = decide (t = 0) from bt_1 t]
  have b2 : ∀ t, t < 32 → bt (nI 1 <<< (nI c &&& 31)) t = decide (t = c) := fun t ht => bt_one c (by omega) ht
  have n45 : a + 4 ≠ a + 5 := by omega
  have n54 : a + 5 ≠ a + 4 := by omega
  have key : ∀ (I1 : Mem) (S L : Int32), (∀ x, x ≠ a + 4 → x ≠ a + 5 → I1 x = I x) → (∀ j, I1 (a + 4) j = if j = c then S else I (a + 4) j) → (∀ j, I1 (a + 5) j = if j = c then L else I (a + 5) j) →
      ∃ I', lX2_deriveSupertypesOf_80 fuel a (nI c) (nI 0) (mm g I1 J Z) = some ((), mm g I' J Z) ∧ (∀ x, x ≠ a + 4 → x ≠ a + 5 → I' x = I x) ∧ (∀ j, j ≠ c → I' (a + 4) j = I (a + 4) j ∧ I' (a + 5) j = I (a + 5) j) ∧ (∀ t, bt (I' (a + 4) c) t = (bt S t || anyF (fun j => bt (I (a + 3) c) j && bt (I (a + 4) j) t) 0 c)) ∧ I' (a + 5) c = L := by
    intro I1 S L e1 e2 e3
    obtain ⟨I3, t1, t2, t3, t4⟩ := L_dv80 (J := J) (Z := Z) hL hc c 0 fuel I1 (by omega) (by unfold fuel; omega)
    refine ⟨I3, t1, fun x h1 h2 => (t2 x h1).trans (e1 x h1 h2), fun j hj => ⟨by rw [t3 j hj, e2, if_neg hj], by rw [t2 _ n54, e3, if_neg hj]⟩, fun t => ?_, by rw [t2 _ n54, e3, if_pos rfl]⟩
    rw [t4 t, e2, if_pos rfl, e1 (a + 3) (by omega) (by omega)]
    congr 1
    refine anyF_congr (fun j h1 h2 => ?_)
    rw [e2, if_neg (by omega)]
  -- the memory behind the first two stores
  obtain ⟨I0, f0, f4, f5, ev⟩ : ∃ I0 : Mem, (∀ x, x ≠ a + 4 → x ≠ a + 5 → I0 x = I x) ∧ (∀ j, I0 (a + 4) j = if j = c then (nI 1 <<< (nI c &&& 31)) ||| nI 1 else I (a + 4) j) ∧ (∀ j, I0 (a + 5) j = if j = c then nI 1 <<< (nI c &&& 31) else I (a + 5) j) ∧
      fX2_deriveSupertypesOf a (nI c) (mm g I J Z) = if I (a + 2) c < 0 then lX2_deriveSupertypesOf_80 fuel a (nI c) (nI 0) (mm g I0 J Z) else if nI c ≤ I (a + 2) c then lX2_deriveSupertypesOf_80 fuel a (nI c) (nI 0) (mm g I0 J Z) else (ldI (a + 4) (I (a + 2) c) (mm g I0 J Z)).bind fun x_52 => bd (some (bI (bt (I0 a 1) c), mm g (up2 I0 (a + 4) c (I0 (a + 4) c ||| x_52)) J Z)) fun x_55 h => if x_55 = 0 then ((gP 2 a 9 h).bind fun a_56 => (ldI a_56 (I (a + 2) c) h).bind fun x_57 => fX2_deriveSupertypesOf_76 a (nI c) (a + 5) (nI c) (I0 (a + 5) c) x_57 h) else fX2_deriveSupertypesOf_76 a (nI c) (a + 5) (nI c) (I0 (a + 5) c) (nI 0) h := by
    refine ⟨up2 (up2 I (a + 4) c (nI 1 <<< (nI c &&& 31) ||| nI 1)) (a + 5) c (nI 1 <<< (nI c &&& 31)), fun x h1 h2 => by rw [up2_ne h2, up2_ne h1], fun j => by rw [up2_ne n45, up2_at], fun j => by rw [up2_at, up2_ne n54], ?_⟩
    unfold fX2_deriveSupertypesOf fX2_deriveSupertypesOf_78
    rw [lib_p6 hL, Option.bind_some, lib_l2 hL hc, Option.bind_some, lib_p8 hL, Option.bind_some, lib_t4 hL hc, Option.bind_some, lib_p9 hL, Option.bind_some, lib_t5 hL hc, Option.bind_some]
    by_cases h1 : I (a + 2) c < 0
    · rw [if_pos h1, if_pos h1]
    · rw [if_neg h1, if_neg h1]
      by_cases h2 : nI c ≤ I (a + 2) c
      · rw [if_pos h2, if_pos h2]
      · obtain ⟨s, hsb, es⟩ := nI_of h1
        have hsc : s < c := by
          rw [es] at h2
          exact Nat.lt_of_not_le (fun q => h2 (nI_le q hsb))
        rw [if_neg h2, if_neg h2, lib_p8 hL, Option.bind_some, lib_l4 hL hc, Option.bind_some, Option.bind_some, es, lib_l4 hL (by omega), Option.bind_some, Option.bind_some, lib_t4 hL hc, Option.bind_some, lib_p9 hL, Option.bind_some, lib_l5 hL hc, Option.bind_some, lib_cv hL, L_isI hL hc, up2_ne n54, up2_ne (by omega : a ≠ a + 4)]
  by_cases hs : I (a + 2) c < 0
  · obtain ⟨I3, t1, t2, t3, t4, t5⟩ := key I0 _ _ f0 f4 f5
    refine ⟨I3, by rw [ev, if_pos hs]; exact t1, t2, t3, fun s hsc e => absurd (e ▸ hs) (nI_pos (by omega)), fun _ t ht => ⟨by rw [t4 t, b1 t ht], by rw [t5, b2 t ht]⟩⟩
  · by_cases hg : nI c ≤ I (a + 2) c
    · obtain ⟨I3, t1, t2, t3, t4, t5⟩ := key I0 _ _ f0 f4 f5
      exact ⟨I3, by rw [ev, if_neg hs, if_pos hg]; exact t1, t2, t3, fun s hsc e => absurd (e ▸ hg) (nI_ge hsc (by omega)), fun q => absurd q hs⟩
    · obtain ⟨s, hsb, es⟩ := nI_of hs
      have hsc : s < c := by
        rw [es] at hg
        exact Nat.lt_of_not_le (fun q => hg (nI_le q hsb))
      rw [if_neg hs, if_neg hg, es, lib_l4 hL (by omega), Option.bind_some, bd_some, bIf] at ev
      have g4 : I0 (a + 4) s = I (a + 4) s := by rw [f4, if_neg (by omega)]
      obtain ⟨x, ex, hx⟩ : ∃ x : Int32, fX2_deriveSupertypesOf a (nI c) (mm g I J Z) = fX2_deriveSupertypesOf_76 a (nI c) (a + 5) (nI c) (I0 (a + 5) c) x (mm g (up2 I0 (a + 4) c (I0 (a + 4) c ||| I0 (a + 4) s)) J Z) ∧ ∀ t, t < 32 → bt x t = (!bt (I a 1) c && bt (I (a + 5) s) t) := by
        rw [f0 a (by omega) (by omega)] at ev
        by_cases hbi : bt (I a 1) c = true
        · rw [if_pos hbi] at ev
          exact ⟨nI 0, ev, fun t ht => by rw [hbi, Bool.not_true, Bool.false_and]; exact b_0 t⟩
        · rw [if_neg hbi, lib_p9 hL, Option.bind_some, lib_l5 hL (by omega), Option.bind_some, up2_ne n54] at ev
          refine ⟨_, ev, fun t ht => ?_⟩
          have hbf : bt (I a 1) c = false := by cases q : bt (I a 1) c; rfl; exact absurd q hbi
          rw [hbf, Bool.not_false, Bool.true_and, f5, if_neg (by omega)]
      obtain ⟨I3, t1, t2, t3, t4, t5⟩ := key (up2 (up2 I0 (a + 4) c (I0 (a + 4) c ||| I0 (a + 4) s)) (a + 5) c (I0 (a + 5) c ||| x)) ((nI 1 <<< (nI c &&& 31) ||| nI 1) ||| I (a + 4) s) ((nI 1 <<< (nI c &&& 31)) ||| x)
        (fun y h1 h2 => by rw [up2_ne h2, up2_ne h1, f0 y h1 h2]) (fun j => by
          rw [up2_ne n45, up2_at, g4, f4, if_pos rfl, f4]
          by_cases e : j = c
          · rw [if_pos e, if_pos e]
          · rw [if_neg e, if_neg e, if_neg e]) (fun j => by
          rw [up2_at, up2_ne n54, f5, if_pos rfl, f5]
          by_cases e : j = c
          · rw [if_pos e, if_pos e]
          · rw [if_neg e, if_neg e, if_neg e])
      refine ⟨I3, ?_, t2, t3, fun s' hs' e t ht => ?_, fun q => absurd q hs⟩
      · rw [ex]
        unfold fX2_deriveSupertypesOf_76 fX2_deriveSupertypesOf_78
        rw [lib_t5 hL hc, Option.bind_some]
        exact t1
      · have e' : s' = s := nI_inj (by omega) (by omega) (e.symm.trans es)
        subst e'
        exact ⟨by rw [t4 t, b_or, b1 t ht], by rw [t5, b_or, b2 t ht, hx t ht]⟩
theorem L_dvL (hL : LibG g a) : ∀ (d c f : Nat) (I : Mem), c + d = 10 → d < f → ∃ I', lX2_deriveSupertypes_2 f a (nI c) (mm g I J Z) = some ((), mm g I' J Z) ∧ (∀ x, x ≠ a + 4 → x ≠ a + 5 → I' x = I x) ∧ (∀ j, j < c → I' (a + 4) j = I (a + 4) j ∧ I' (a + 5) j = I (a + 5) j) ∧
    ∀ w v, RLc I a w v → WC w v → (∀ k t, k < c → t < 32 → bt (I (a + 4) k) t = (exC w v k && stB w v k t) ∧ bt (I (a + 5) k) t = (exC w v k && lnB w v k t)) → RLs I' a w v := by
  intro d
  induction d with
  | zero =>
    intro c f I hi hf
    obtain ⟨f, rfl⟩ : ∃ z, f = z + 1 := ⟨f - 1, by omega⟩
    refine ⟨I, ?_, fun _ _ _ => rfl, fun _ _ => ⟨rfl, rfl⟩, fun w v hr hW hk => ⟨fun c t hc ht => (hk c t (by omega) ht).1, fun c t hc ht => (hk c t (by omega) ht).2⟩⟩
    show bX2_deriveSupertypes_2 (lX2_deriveSupertypes_2 f) a _ _ = _
    unfold bX2_deriveSupertypes_2
    rw [if_pos (nI_le (by omega) (by omega))]
  | succ d ih =>
    intro c f I hi hf
    obtain ⟨f, rfl⟩ : ∃ z, f = z + 1 := ⟨f - 1, by omega⟩
    have hc : c < 10 := by omega
    have n45 : a + 4 ≠ a + 5 := by omega
    have n54 : a + 5 ≠ a + 4 := by omega
    show ∃ I', bX2_deriveSupertypes_2 (lX2_deriveSupertypes_2 f) a _ _ = _ ∧ _
    unfold bX2_deriveSupertypes_2 fX2_deriveSupertypes_35
    rw [if_neg (nI_ge (by omega) (by omega)), lib_p8 hL, Option.bind_some, lib_t4 hL hc, Option.bind_some, lib_p9 hL, Option.bind_some, lib_t5 hL hc, Option.bind_some, lib_cv hL, L_there hL hc, bd_some, bIf]
    have e0 : ∀ x, x ≠ a + 4 → x ≠ a + 5 → up2 (up2 I (a + 4) c (nI 0)) (a + 5) c (nI 0) x = I x := fun x h1 h2 => by rw [up2_ne h2, up2_ne h1]
    have e4 : ∀ j, up2 (up2 I (a + 4) c (nI 0)) (a + 5) c (nI 0) (a + 4) j = if j = c then nI 0 else I (a + 4) j := fun j => by rw [up2_ne n45, up2_at]
    have e5 : ∀ j, up2 (up2 I (a + 4) c (nI 0)) (a + 5) c (nI 0) (a + 5) j = if j = c then nI 0 else I (a + 5) j := fun j => by rw [up2_at, up2_ne n54]
    generalize up2 (up2 I (a + 4) c (nI 0)) (a + 5) c (nI 0) = I1 at e0 e4 e5 ⊢
    rw [e0 a (by omega) (by omega), nI_add]
    have rc : ∀ {I2 : Mem} {w v}, (∀ x, x ≠ a + 4 → x ≠ a + 5 → I2 x = I x) → RLc I a w v → RLc I2 a w v := fun {I2 w v} q hr => by
      unfold RLc
      rw [q a (by omega) (by omega), q (a + 1) (by omega) (by omega), q (a + 2) (by omega) (by omega), q (a + 3) (by omega) (by omega)]
      exact hr
    by_cases hb : bt (I a 0) c = true
    · rw [if_pos hb, lib_cv hL]
      obtain ⟨I2, s1, s2, s3, s4, s5⟩ := L_dvOf (I := I1) (J := J) (Z := Z) hL hc
      rw [s1, bd_some]
      obtain ⟨I3, t1, t2, t3, t4⟩ := ih (c + 1) f I2 (by omega) (by omega)
      refine ⟨I3, t1, fun x h1 h2 => by rw [t2 x h1 h2, s2 x h1 h2, e0 x h1 h2], fun j hj => ⟨by rw [(t3 j (by omega)).1, (s3 j (by omega)).1, e4, if_neg (by omega)], by rw [(t3 j (by omega)).2, (s3 j (by omega)).2, e5, if_neg (by omega)]⟩, fun w v hr hW hk => ?_⟩
      refine t4 w v (rc (fun x h1 h2 => by rw [s2 x h1 h2, e0 x h1 h2]) hr) hW (fun k t hk1 ht => ?_)
      by_cases hkc : k = c
      · subst hkc
        have he : exC w v k = true := (hr.1 k (by omega)).symm.trans hb
        have hsup := hr.2.2.2.2.2.2.1 k he
        have hitf := hr.2.2.2.2.2.2.2 k he
        have hif := hr.2.1 k (by omega)
        rw [he, Bool.true_and, Bool.true_and]
        rw [he, Bool.true_and] at hif
        have any : anyF (fun j => bt (I1 (a + 3) k) j && bt (I1 (a + 4) j) t) 0 k = true ↔ ∃ j, j < k ∧ bt (cl w v k 3) j = true ∧ stB w v j t = true := by
          rw [anyF_iff]
          constructor
          · rintro ⟨j, -, j2, j3⟩
            rw [Bool.and_eq_true, e0 (a + 3) (by omega) (by omega), hitf, e4, if_neg (by omega), (hk j t (by omega) ht).1, Bool.and_eq_true] at j3
            exact ⟨j, by omega, j3.1, j3.2.2⟩
          · rintro ⟨j, j1, j2, j3⟩
            refine ⟨j, by omega, by omega, ?_⟩
            have hx : exC w v j = true := by
              by_cases h0 : 0 < k
              · have hi := (hW.2.2 k h0 (by omega) (exC_ex he)).2.2.1 j (by omega) j2
                exact exC_of (by omega) hi.2.1
              · omega
            rw [Bool.and_eq_true, e0 (a + 3) (by omega) (by omega), hitf, e4, if_neg (by omega), (hk j t (by omega) ht).1, hx, j3]
            exact ⟨j2, rfl⟩
        by_cases h0 : 0 < k
        · obtain ⟨a1, a2, a3, a4⟩ := hW.spx h0 he
          obtain ⟨q1, q2⟩ := s4 (spn w v k) a1 (by rw [e0 (a + 2) (by omega) (by omega), hsup, a2]) t ht
          constructor
          · rw [q1]
            refine Bool.eq_iff_iff.mpr ?_
            rw [Bool.or_eq_true, Bool.or_eq_true, Bool.or_eq_true, any, e4, if_neg (by omega), (hk _ t a1 ht).1, a3, Bool.true_and, stB_step hW hc (exC_ex he), decide_eq_true_eq, decide_eq_true_eq]
            constructor
            · rintro (((e | e) | e) | e)
              · exact Or.inl e.symm
              · rw [e]
                exact (stB_step hW hc (exC_ex he) 0).mp (stB_0 hW k hc (exC_ex he))
              · exact Or.inr ⟨h0, Or.inl e⟩
              · exact Or.inr ⟨h0, Or.inr e⟩
            · rintro (e | ⟨_, e | e⟩)
              · exact Or.inl (Or.inl (Or.inl e.symm))
              · exact Or.inl (Or.inr e)
              · exact Or.inr e
          · rw [q2, e0 a (by omega) (by omega), hif]
            refine Bool.eq_iff_iff.mpr ?_
            rw [Bool.or_eq_true, Bool.and_eq_true, e5, if_neg (by omega), (hk _ t a1 ht).2, a3, Bool.true_and, lnB_step hW he, decide_eq_true_eq, Bool.not_eq_true']
            exact ⟨fun q => q.elim (fun e => Or.inl e.symm) (fun e => Or.inr ⟨h0, e.1, e.2⟩), fun q => q.elim (fun e => Or.inl e.symm) (fun e => Or.inr ⟨e.2.1, e.2.2⟩)⟩
        · have k0 : k = 0 := by omega
          subst k0
          obtain ⟨q1, q2⟩ := s5 (by rw [e0 (a + 2) (by omega) (by omega), hsup, hW.1.2.2.1]; decide) t ht
          constructor
          · rw [q1, anyF, Bool.or_false, Bool.or_self]
            refine Bool.eq_iff_iff.mpr ?_
            rw [stB_step hW hc (exC_ex he), decide_eq_true_eq]
            exact ⟨fun e => Or.inl e.symm, fun q => q.elim (fun e => e.symm) (fun e => absurd e.1 (by omega))⟩
          · rw [q2]
            refine Bool.eq_iff_iff.mpr ?_
            rw [lnB_step hW he, decide_eq_true_eq]
            exact ⟨fun e => Or.inl e.symm, fun q => q.elim (fun e => e.symm) (fun e => absurd e.1 (by omega))⟩
      · rw [(s3 k hkc).1, (s3 k hkc).2, e4, if_neg hkc, e5, if_neg hkc]
        exact hk k t (by omega) ht
    · rw [if_neg hb]
      obtain ⟨I3, t1, t2, t3, t4⟩ := ih (c + 1) f I1 (by omega) (by omega)
      refine ⟨I3, t1, fun x h1 h2 => by rw [t2 x h1 h2, e0 x h1 h2], fun j hj => ⟨by rw [(t3 j (by omega)).1, e4, if_neg (by omega)], by rw [(t3 j (by omega)).2, e5, if_neg (by omega)]⟩, fun w v hr hW hk => ?_⟩
      refine t4 w v (rc e0 hr) hW (fun k t hk1 ht => ?_)
      by_cases hkc : k = c
      · subst hkc
        have he : exC w v k = false := by
          cases q : exC w v k
          · rfl
          · exact absurd ((hr.1 k (by omega)).trans q) hb
        rw [he, Bool.false_and, Bool.false_and, e4, if_pos rfl, e5, if_pos rfl]
        exact ⟨b_0 t, b_0 t⟩
      · rw [e4, if_neg hkc, e5, if_neg hkc]
        exact hk k t (by omega) ht
theorem L_derive (hL : LibG g a) : ∃ I', fX2_deriveSupertypes a (mm g I J Z) = some ((), mm g I' J Z) ∧ (∀ x, x ≠ a + 4 → x ≠ a + 5 → I' x = I x) ∧ ∀ w v, RLc I a w v → WC w v → RLs I' a w v := by
  obtain ⟨I3, t1, t2, t3, t4⟩ := L_dvL (J := J) (Z := Z) hL 10 0 fuel I (by omega) (by unfold fuel; omega)
  exact ⟨I3, t1, t2, fun w v hr hW => t4 w v hr hW (fun k t hk => absurd hk (by omega))⟩
theorem RLc.fr (h : RLc I a w v) (h0 : I' a = I a) (h1 : I' (a + 1) = I (a + 1)) (h2 : I' (a + 2) = I (a + 2)) (h3 : I' (a + 3) = I (a + 3)) : RLc I' a w v := by
  unfold RLc
  rw [h0, h1, h2, h3]
  exact h
theorem RLm.fr (h : RLm I a w v) (hf : ∀ x, a + 6 ≤ x → x < a + 19 → I' x = I x) : RLm I' a w v := ⟨by rw [hf _ (by omega) (by omega)]; exact h.1, fun j h1 h2 m hm => by rw [hf _ (by omega) (by omega)]; exact h.2 j h1 h2 m hm⟩
theorem RLs.fr (h : RLs I a w v) (h4 : I' (a + 4) = I (a + 4)) (h5 : I' (a + 5) = I (a + 5)) : RLs I' a w v := by
  unfold RLs
  rw [h4, h5]
  exact h
end Dv

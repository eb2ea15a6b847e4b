/-! ===== the first classes: what the class derives wants no more than what is there, interfaces, supers ===== -/
def RLd (I : Mem) (a : Nat) (w : Nat → Int32) (v : Nat) : Prop :=
  (∀ c, c < 32 → bt (I a 0) c = exC w v c) ∧
  (∀ c, c < 32 → bt (I a 1) c = (exC w v c && itB w v c)) ∧
  (∀ c, exC w v c = true → I (a + 2) c = cl w v c 2) ∧
  (∀ c, exC w v c = true → I (a + 3) c = cl w v c 3)
section Dd
variable {g : Gr} {a : Nat} {I I' : Mem} {J : Nat → Nat → Int64} {Z : Option Nat} {w w' : Nat → Int32} {v v' c : Nat} {s f x : Int32} {B : Bool}
theorem RLd.fr (h : RLd I a w v) (h0 : I' a = I a) (h2 : I' (a + 2) = I (a + 2)) (h3 : I' (a + 3) = I (a + 3)) : RLd I' a w v := by
  unfold RLd
  rw [h0, h2, h3]
  exact h
theorem RLc.d (hr : RLc I a w v) (h : ∀ c p, c < 10 → p < 4 → cl w' v' c p = cl w v c p) : RLd I a w' v' := by
  have h0 : ∀ c, c < 10 → cl w' v' c 0 = cl w v c 0 := fun c hc => h c 0 hc (by decide)
  refine ⟨fun c hc => by rw [exC_cg h0]; exact hr.1 c hc, fun c hc => ?_, fun c he => ?_, fun c he => ?_⟩
  · rw [and_cg h0 (q := itB w v c) (fun he => by unfold itB; rw [h c 1 (exC_lt he) (by decide)])]; exact hr.2.1 c hc
  · rw [exC_cg h0] at he; rw [h c 2 (exC_lt he) (by decide)]; exact hr.2.2.2.2.2.2.1 c he
  · rw [exC_cg h0] at he; rw [h c 3 (exC_lt he) (by decide)]; exact hr.2.2.2.2.2.2.2 c he
theorem L_dvD (hL : LibG g a) : ∀ (d c f : Nat) (I : Mem), c + d = 10 → d < f → ∃ I', lX2_deriveSupertypes_2 f a (nI c) (mm g I J Z) = some ((), mm g I' J Z) ∧ (∀ x, x ≠ a + 4 → x ≠ a + 5 → I' x = I x) ∧ (∀ j, j < c → I' (a + 4) j = I (a + 4) j ∧ I' (a + 5) j = I (a + 5) j) ∧
    ∀ w v, RLd I a w v → WC w v → (∀ k t, k < c → t < 32 → bt (I (a + 4) k) t = (exC w v k && stB w v k t) ∧ bt (I (a + 5) k) t = (exC w v k && lnB w v k t)) → RLs I' a w v := by
  intro d
  induction d with
  | zero =>
    intro c f I hi hf
    obtain ⟨f, rfl⟩ : ∃ z, f = z + 1 := ⟨f - 1, by omega⟩
    refine ⟨I, ?_, fun _ _ _ => rfl, fun _ _ => ⟨rfl, rfl⟩, fun w v hr hW hk => ⟨fun c t hc ht => (hk c t (by omega) ht).1, fun c t hc ht => (hk c t (by omega) ht).2⟩⟩
    show bX2_deriveSupertypes_2 (lX2_deriveSupertypes_2 f) a _ _ = _
    unfold bX2_deriveSupertypes_2
    rw [if_pos (nI_le (by omega) (by omega))]
  | succ d ih =>
    intro c f I hi hf
    obtain ⟨f, rfl⟩ : ∃ z, f = z + 1 := ⟨f - 1, by omega⟩
    have hc : c < 10 := by omega
    have n45 : a + 4 ≠ a + 5 := by omega
    have n54 : a + 5 ≠ a + 4 := by omega
    show ∃ I', bX2_deriveSupertypes_2 (lX2_deriveSupertypes_2 f) a _ _ = _ ∧ _
    unfold bX2_deriveSupertypes_2 fX2_deriveSupertypes_35
    rw [if_neg (nI_ge (by omega) (by omega)), lib_p8 hL, Option.bind_some, lib_t4 hL hc, Option.bind_some, lib_p9 hL, Option.bind_some, lib_t5 hL hc, Option.bind_some, lib_cv hL, L_there hL hc, bd_some, bIf]
    have e0 : ∀ x, x ≠ a + 4 → x ≠ a + 5 → up2 (up2 I (a + 4) c (nI 0)) (a + 5) c (nI 0) x = I x := fun x h1 h2 => by rw [up2_ne h2, up2_ne h1]
    have e4 : ∀ j, up2 (up2 I (a + 4) c (nI 0)) (a + 5) c (nI 0) (a + 4) j = if j = c then nI 0 else I (a + 4) j := fun j => by rw [up2_ne n45, up2_at]
    have e5 : ∀ j, up2 (up2 I (a + 4) c (nI 0)) (a + 5) c (nI 0) (a + 5) j = if j = c then nI 0 else I (a + 5) j := fun j => by rw [up2_at, up2_ne n54]
    generalize up2 (up2 I (a + 4) c (nI 0)) (a + 5) c (nI 0) = I1 at e0 e4 e5 ⊢
    rw [e0 a (by omega) (by omega), nI_add]
    have rc : ∀ {I2 : Mem} {w v}, (∀ x, x ≠ a + 4 → x ≠ a + 5 → I2 x = I x) → RLd I a w v → RLd I2 a w v := fun {I2 w v} q hr => by
      unfold RLd
      rw [q a (by omega) (by omega), q (a + 2) (by omega) (by omega), q (a + 3) (by omega) (by omega)]
      exact hr
    by_cases hb : bt (I a 0) c = true
    · rw [if_pos hb, lib_cv hL]
      obtain ⟨I2, s1, s2, s3, s4, s5⟩ := L_dvOf (I := I1) (J := J) (Z := Z) hL hc
      rw [s1, bd_some]
      obtain ⟨I3, t1, t2, t3, t4⟩ := ih (c + 1) f I2 (by omega) (by omega)
      refine ⟨I3, t1, fun x h1 h2 => by rw [t2 x h1 h2, s2 x h1 h2, e0 x h1 h2], fun j hj => ⟨by rw [(t3 j (by omega)).1, (s3 j (by omega)).1, e4, if_neg (by omega)], by rw [(t3 j (by omega)).2, (s3 j (by omega)).2, e5, if_neg (by omega)]⟩, fun w v hr hW hk => ?_⟩
      refine t4 w v (rc (fun x h1 h2 => by rw [s2 x h1 h2, e0 x h1 h2]) hr) hW (fun k t hk1 ht => ?_)
      by_cases hkc : k = c
      · subst hkc
        have he : exC w v k = true := (hr.1 k (by omega)).symm.trans hb
        have hsup := hr.2.2.1 k he
        have hitf := hr.2.2.2 k he
        have hif := hr.2.1 k (by omega)
        rw [he, Bool.true_and, Bool.true_and]
        rw [he, Bool.true_and] at hif
        have any : anyF (fun j => bt (I1 (a + 3) k) j && bt (I1 (a + 4) j) t) 0 k = true ↔ ∃ j, j < k ∧ bt (cl w v k 3) j = true ∧ stB w v j t = true := by
          rw [anyF_iff]
          constructor
          · rintro ⟨j, -, j2, j3⟩
            rw [Bool.and_eq_true, e0 (a + 3) (by omega) (by omega), hitf, e4, if_neg (by omega), (hk j t (by omega) ht).1, Bool.and_eq_true] at j3
            exact ⟨j, by omega, j3.1, j3.2.2⟩
          · rintro ⟨j, j1, j2, j3⟩
            refine ⟨j, by omega, by omega, ?_⟩
            have hx : exC w v j = true := by
              by_cases h0 : 0 < k
              · have hi := (hW.2.2 k h0 (by omega) (exC_ex he)).2.2.1 j (by omega) j2
                exact exC_of (by omega) hi.2.1
              · omega
            rw [Bool.and_eq_true, e0 (a + 3) (by omega) (by omega), hitf, e4, if_neg (by omega), (hk j t (by omega) ht).1, hx, j3]
            exact ⟨j2, rfl⟩
        by_cases h0 : 0 < k
        · obtain ⟨a1, a2, a3, a4⟩ := hW.spx h0 he
          obtain ⟨q1, q2⟩ := s4 (spn w v k) a1 (by rw [e0 (a + 2) (by omega) (by omega), hsup, a2]) t ht
          constructor
          · rw [q1]
            refine Bool.eq_iff_iff.mpr ?_
            rw [Bool.or_eq_true, Bool.or_eq_true, Bool.or_eq_true, any, e4, if_neg (by omega), (hk _ t a1 ht).1, a3, Bool.true_and, stB_step hW hc (exC_ex he), decide_eq_true_eq, decide_eq_true_eq]
            constructor
            · rintro (((e | e) | e) | e)
              · exact Or.inl e.symm
              · rw [e]
                exact (stB_step hW hc (exC_ex he) 0).mp (stB_0 hW k hc (exC_ex he))
              · exact Or.inr ⟨h0, Or.inl e⟩
              · exact Or.inr ⟨h0, Or.inr e⟩
            · rintro (e | ⟨_, e | e⟩)
              · exact Or.inl (Or.inl (Or.inl e.symm))
              · exact Or.inl (Or.inr e)
              · exact Or.inr e
          · rw [q2, e0 a (by omega) (by omega), hif]
            refine Bool.eq_iff_iff.mpr ?_
            rw [Bool.or_eq_true, Bool.and_eq_true, e5, if_neg (by omega), (hk _ t a1 ht).2, a3, Bool.true_and, lnB_step hW he, decide_eq_true_eq, Bool.not_eq_true']
            exact ⟨fun q => q.elim (fun e => Or.inl e.symm) (fun e => Or.inr ⟨h0, e.1, e.2⟩), fun q => q.elim (fun e => Or.inl e.symm) (fun e => Or.inr ⟨e.2.1, e.2.2⟩)⟩
        · have k0 : k = 0 := by omega
          subst k0
          obtain ⟨q1, q2⟩ := s5 (by rw [e0 (a + 2) (by omega) (by omega), hsup, hW.1.2.2.1]; decide) t ht
          constructor
          · rw [q1, anyF, Bool.or_false, Bool.or_self]
            refine Bool.eq_iff_iff.mpr ?_
            rw [stB_step hW hc (exC_ex he), decide_eq_true_eq]
            exact ⟨fun e => Or.inl e.symm, fun q => q.elim (fun e => e.symm) (fun e => absurd e.1 (by omega))⟩
          · rw [q2]
            refine Bool.eq_iff_iff.mpr ?_
            rw [lnB_step hW he, decide_eq_true_eq]
            exact ⟨fun e => Or.inl e.symm, fun q => q.elim (fun e => e.symm) (fun e => absurd e.1 (by omega))⟩
      · rw [(s3 k hkc).1, (s3 k hkc).2, e4, if_neg hkc, e5, if_neg hkc]
        exact hk k t (by omega) ht
    · rw [if_neg hb]
      obtain ⟨I3, t1, t2, t3, t4⟩ := ih (c + 1) f I1 (by omega) (by omega)
      refine ⟨I3, t1, fun x h1 h2 => by rw [t2 x h1 h2, e0 x h1 h2], fun j hj => ⟨by rw [(t3 j (by omega)).1, e4, if_neg (by omega)], by rw [(t3 j (by omega)).2, e5, if_neg (by omega)]⟩, fun w v hr hW hk => ?_⟩
      refine t4 w v (rc e0 hr) hW (fun k t hk1 ht => ?_)
      by_cases hkc : k = c
      · subst hkc
        have he : exC w v k = false := by
          cases q : exC w v k
          · rfl
          · exact absurd ((hr.1 k (by omega)).trans q) hb
        rw [he, Bool.false_and, Bool.false_and, e4, if_pos rfl, e5, if_pos rfl]
        exact ⟨b_0 t, b_0 t⟩
      · rw [e4, if_neg hkc, e5, if_neg hkc]
        exact hk k t (by omega) ht
theorem L_deriveD (hL : LibG g a) : ∃ I', fX2_deriveSupertypes a (mm g I J Z) = some ((), mm g I' J Z) ∧ (∀ x, x ≠ a + 4 → x ≠ a + 5 → I' x = I x) ∧ ∀ w v, RLd I a w v → WC w v → RLs I' a w v := by
  obtain ⟨I3, t1, t2, t3, t4⟩ := L_dvD (J := J) (Z := Z) hL 10 0 fuel I (by omega) (by unfold fuel; omega)
  exact ⟨I3, t1, t2, fun w v hr hW => t4 w v hr hW (fun k t hk => absurd hk (by omega))⟩
theorem L_putD (hL : LibG g a) (hc : c < 10) : ∃ I', fX2_putClass a (nI c) (bI B) s f (mm g I J Z) = some ((), mm g I' J Z) ∧ (∀ y, y < a ∨ a + 6 ≤ y → I' y = I y) ∧
    (∀ i, i < 32 → bt (I' a 0) i = ((bt (I a 0) i && !decide (i = c)) || decide (i = c)) ∧ bt (I' a 1) i = ((bt (I a 1) i && !decide (i = c)) || (B && decide (i = c))) ∧ bt (I' a 2) i = (bt (I a 2) i && !decide (i = c)) ∧ bt (I' a 3) i = (bt (I a 3) i && !decide (i = c)) ∧ bt (I' a 4) i = ((bt (I a 4) i && !decide (i = c)) || (B && decide (i = c)))) ∧
    (∀ i, I' (a + 1) i = if i = c then nI 0 else I (a + 1) i) ∧ (∀ i, I' (a + 2) i = if i = c then s else I (a + 2) i) ∧ (∀ i, I' (a + 3) i = if i = c then f else I (a + 3) i) ∧ ∀ w v, RLd I' a w v → WC w v → RLs I' a w v := by
  obtain ⟨I1, t1, t2, t3, -⟩ := L_take (I := I) (J := J) (Z := Z) hL hc
  have b2 : ∀ t, t < 32 → bt (nI 1 <<< (nI c &&& 31)) t = decide (t = c) := fun t ht => bt_one c (by omega) ht
  -- the sets
  obtain ⟨I2, e2, f2, g0, g1, g2, g3, g4⟩ : ∃ I2 : Mem, fX2_putClass a (nI c) (bI B) s f (mm g I J Z) = fX2_putClass_47 a (nI c) s f (mm g I2 J Z) ∧ (∀ y, y ≠ a → I2 y = I1 y) ∧ (∀ i, i < 32 → bt (I2 a 0) i = ((bt (I a 0) i && !decide (i = c)) || decide (i = c))) ∧ (∀ i, i < 32 → bt (I2 a 1) i = ((bt (I a 1) i && !decide (i = c)) || (B && decide (i = c)))) ∧ (∀ i, i < 32 → bt (I2 a 2) i = (bt (I a 2) i && !decide (i = c))) ∧ (∀ i, i < 32 → bt (I2 a 3) i = (bt (I a 3) i && !decide (i = c))) ∧ (∀ i, i < 32 → bt (I2 a 4) i = ((bt (I a 4) i && !decide (i = c)) || (B && decide (i = c)))) := by
    unfold fX2_putClass
    rw [lib_cv hL, t1, bd_some, lib_g0 hL, Option.bind_some, lib_s0 hL, Option.bind_some, bIf]
    have o0 : ∀ i, i < 32 → bt (I1 a 0 ||| (nI 1 <<< (nI c &&& 31))) i = ((bt (I a 0) i && !decide (i = c)) || decide (i = c)) := fun i hi => by rw [b_or, t3 0 (by decide) i hi, b2 i hi]
    cases B
    · rw [if_ff]
      refine ⟨_, rfl, fun y hy => up2_ne hy, fun i hi => ?_, fun i hi => ?_, fun i hi => ?_, fun i hi => ?_, fun i hi => ?_⟩
      · rw [up2_at, if_pos rfl]; exact o0 i hi
      · rw [up2_at, if_neg (by decide), t3 1 (by decide) i hi, Bool.false_and, Bool.or_false]
      · rw [up2_at, if_neg (by decide), t3 2 (by decide) i hi]
      · rw [up2_at, if_neg (by decide), t3 3 (by decide) i hi]
      · rw [up2_at, if_neg (by decide), t3 4 (by decide) i hi, Bool.false_and, Bool.or_false]
    · rw [if_tt, lib_g1 hL, Option.bind_some, lib_s1 hL, Option.bind_some, lib_g4 hL, Option.bind_some, lib_s4 hL, Option.bind_some]
      refine ⟨_, rfl, fun y hy => by rw [up2_ne hy, up2_ne hy, up2_ne hy], fun i hi => ?_, fun i hi => ?_, fun i hi => ?_, fun i hi => ?_, fun i hi => ?_⟩
      · rw [up2_at, if_neg (by decide), up2_at, if_neg (by decide), up2_at, if_pos rfl]; exact o0 i hi
      · rw [up2_at, if_neg (by decide), up2_at, if_pos rfl, up2_at, if_neg (by decide), b_or, t3 1 (by decide) i hi, b2 i hi, Bool.true_and]
      · rw [up2_at, if_neg (by decide), up2_at, if_neg (by decide), up2_at, if_neg (by decide), t3 2 (by decide) i hi]
      · rw [up2_at, if_neg (by decide), up2_at, if_neg (by decide), up2_at, if_neg (by decide), t3 3 (by decide) i hi]
      · rw [up2_at, if_pos rfl, up2_at, if_neg (by decide), up2_at, if_neg (by decide), b_or, t3 4 (by decide) i hi, b2 i hi, Bool.true_and]
  obtain ⟨I4, d1, d2, d3⟩ := L_deriveD (I := up2 (up2 (up2 I2 (a + 1) c (nI 0)) (a + 2) c s) (a + 3) c f) (J := J) (Z := Z) hL
  have fa : up2 (up2 (up2 I2 (a + 1) c (nI 0)) (a + 2) c s) (a + 3) c f a = I2 a := by rw [up2_ne (by omega), up2_ne (by omega), up2_ne (by omega)]
  have q1 : ∀ y, y ≠ a → y ≠ a + 4 → y ≠ a + 5 → I2 y = I y := fun y h1 h2 h3 => (f2 y h1).trans (t2 y h1 h2 h3)
  refine ⟨I4, ?_, fun y hy => ?_, fun i hi => ?_, fun i => ?_, fun i => ?_, fun i => ?_, fun w v hr hW => ?_⟩
  · rw [e2]
    unfold fX2_putClass_47
    rw [lib_p5 hL, Option.bind_some, lib_t1 hL hc, Option.bind_some, lib_p6 hL, Option.bind_some, lib_t2 hL hc, Option.bind_some, lib_p7 hL, Option.bind_some, lib_t3 hL hc, Option.bind_some, lib_cv hL, d1, bd_some]
  · rw [d2 y (by omega) (by omega), up2_ne (by omega), up2_ne (by omega), up2_ne (by omega), q1 y (by omega) (by omega) (by omega)]
  · rw [d2 a (by omega) (by omega), fa]
    exact ⟨g0 i hi, g1 i hi, g2 i hi, g3 i hi, g4 i hi⟩
  · rw [d2 _ (by omega) (by omega), up2_ne (by omega), up2_ne (by omega), up2_at, q1 _ (by omega) (by omega) (by omega)]
  · rw [d2 _ (by omega) (by omega), up2_ne (by omega), up2_at, up2_ne (by omega), q1 _ (by omega) (by omega) (by omega)]
  · rw [d2 _ (by omega) (by omega), up2_at, up2_ne (by omega), up2_ne (by omega), q1 _ (by omega) (by omega) (by omega)]
  · exact d3 w v (hr.fr (d2 _ (by omega) (by omega)).symm (d2 _ (by omega) (by omega)).symm (d2 _ (by omega) (by omega)).symm) hW
theorem L_put1 (hL : LibG g a) (hc : c < 10) (hx : x = bI B) (hr : RLc I a w 0) : ∃ I', fX2_putClass a (nI c) x s f (mm g I J Z) = some ((), mm g I' J Z) ∧ (∀ y, y < a ∨ a + 6 ≤ y → I' y = I y) ∧ RLc I' a (puW w 0 c (puR B s f (nI 0) (nI 0) (bI B))) 0 ∧ ∀ w v, RLd I' a w v → WC w v → RLs I' a w v := by
  rw [hx]
  obtain ⟨I1, e, f1, b1, a1, a2, a3, d1⟩ := L_putD (I := I) (J := J) (Z := Z) (B := B) (s := s) (f := f) hL hc
  exact ⟨I1, e, f1, hr.put hc (fun k p _ q3 q4 => puW_cl q3 q4) (puW_in (by decide)) (puW_in (by decide)) (puW_in (by decide)) (puW_in (by decide)) (puW_in (by decide)) (puW_in (by decide)) (puW_in (by decide)) (puW_in (by decide)) b1 a1 a2 a3, d1⟩
theorem L_pv0 (hL : LibG g a) (he : exC w 0 c = true) (hr : RLc I a w 0) : ∃ I', fX2_putValue a (nI c) (nI 0) (nI 1) (mm g I J Z) = some ((), mm g I' J Z) ∧ (∀ y, y ≠ a → I' y = I y) ∧ RLc I' a (sW w (481 * 0 + 8 * c + 5) (nI 1)) 0 := by
  obtain ⟨t, ro1, ro2⟩ := wb_run (x := nI 1) (exC_lt he) (Or.inr rfl) (I a 2) (mm g I J Z)
  refine ⟨up2 I a 2 t, ?_, fun y hy => up2_ne hy, hr.cell (x := nI 1) (I' := up2 I a 2 t) he (pl := 5) (by decide) (by decide) (fun k' i hk' hi => ?_) (fun i => by rw [up2_ne (by omega), if_neg (fun q => absurd q.2 (by decide))]) (fun i => by rw [up2_ne (by omega), if_neg (fun q => absurd q.2 (by decide))]) (fun i => by rw [up2_ne (by omega), if_neg (fun q => absurd q.2 (by decide))])⟩
  · unfold fX2_putValue
    rw [if_pos rfl, lib_g2 hL, Option.bind_some, ro1, bd_some, lib_s2 hL, Option.bind_some]
  · rw [up2_at]
    by_cases z : k' = 2
    · rw [if_pos z, ro2 i hi, z]
      by_cases z2 : i = c
      · rw [if_pos z2, if_pos ⟨z2, rfl, by decide⟩]
      · rw [if_neg z2, if_neg (fun q => z2 q.1)]
    · rw [if_neg z, if_neg (fun q => z (by have := q.2.1; omega))]
theorem L_pv2 (hL : LibG g a) (he : exC w 0 c = true) (hr : RLc I a w 0) : ∃ I', fX2_putValue a (nI c) (nI 2) (nI 1) (mm g I J Z) = some ((), mm g I' J Z) ∧ (∀ y, y ≠ a → I' y = I y) ∧ RLc I' a (sW w (481 * 0 + 8 * c + 7) (nI 1)) 0 := by
  obtain ⟨t, ro1, ro2⟩ := wb_run (x := nI 1) (exC_lt he) (Or.inr rfl) (I a 4) (mm g I J Z)
  refine ⟨up2 I a 4 t, ?_, fun y hy => up2_ne hy, hr.cell (x := nI 1) (I' := up2 I a 4 t) he (pl := 7) (by decide) (by decide) (fun k' i hk' hi => ?_) (fun i => by rw [up2_ne (by omega), if_neg (fun q => absurd q.2 (by decide))]) (fun i => by rw [up2_ne (by omega), if_neg (fun q => absurd q.2 (by decide))]) (fun i => by rw [up2_ne (by omega), if_neg (fun q => absurd q.2 (by decide))])⟩
  · unfold fX2_putValue
    rw [if_neg (by decide), if_neg (by decide), if_pos rfl, lib_g4 hL, Option.bind_some, ro1, bd_some, lib_s4 hL, Option.bind_some]
  · rw [up2_at]
    by_cases z : k' = 4
    · rw [if_pos z, ro2 i hi, z]
      by_cases z2 : i = c
      · rw [if_pos z2, if_pos ⟨z2, rfl, by decide⟩]
      · rw [if_neg z2, if_neg (fun q => z2 q.1)]
    · rw [if_neg z, if_neg (fun q => z (by have := q.2.1; omega))]
theorem L_pv3 (hL : LibG g a) (he : exC w 0 c = true) (hr : RLc I a w 0) : ∃ I', fX2_putValue a (nI c) (nI 3) (nI 1) (mm g I J Z) = some ((), mm g I' J Z) ∧ (∀ y, y ≠ a + 1 → I' y = I y) ∧ RLc I' a (sW w (481 * 0 + 8 * c + 4) (nI 1)) 0 := by
  refine ⟨up2 I (a + 1) c (nI 1), ?_, fun y hy => up2_ne hy, hr.cell (x := nI 1) (I' := up2 I (a + 1) c (nI 1)) he (pl := 4) (by decide) (by decide) (fun k' i hk' hi => ?_) (fun i => ?_) (fun i => by rw [up2_ne (by omega), if_neg (fun q => absurd q.2 (by decide))]) (fun i => by rw [up2_ne (by omega), if_neg (fun q => absurd q.2 (by decide))])⟩
  · unfold fX2_putValue
    rw [if_neg (by decide), if_neg (by decide), if_neg (by decide), if_pos rfl, lib_p5 hL, Option.bind_some, lib_t1 hL (exC_lt he), Option.bind_some]
  · rw [up2_ne (by omega), if_neg (by omega)]
  · rw [up2_at]
    by_cases z : i = c
    · rw [if_pos z, if_pos ⟨z, rfl⟩]
    · rw [if_neg z, if_neg (fun q => z q.1)]
end Dd
/-! ===== the first row ===== -/
def w0c (v : Nat) (w : Nat → Int32) : Nat → Int32 := puW (puW (puW (puW (puW w v 0 (puR false (-2) (nI 0) (nI 0) (nI 1) (nI 0))) v 1 (puR false (nI 0) (nI 0) (nI 0) (nI 1) (nI 0))) v 2 (puR true (nI 0) (nI 0) (nI 0) (nI 1) (nI 1))) v 3 (puR false (nI 1) (nI 4) (nI 0) (nI 1) (nI 0))) v 4 (puR false (nI 1) (nI 0) (nI 1) (nI 1) (nI 1))
def adQ (x0 x1 x2 x3 x4 x5 x6 x7 : Int32) : Nat → Int32 := adR x0 x1 x2 x3 x4 x5 x6 (if x6 ≤ 0 then -2 else x7)
def w0m (v : Nat) (w : Nat → Int32) : Nat → Int32 := addW (addW (addW (addW (addW (addW (sW (addW (addW w v 0 (adQ (nI 0) (nI 1) (nI 0) (nI 3) (nI 0) (-1) (nI 0) (nI 0)) (-2)) v 1 (adQ (nI 0) (nI 1) (nI 1) (nI 3) (nI 3) (-1) (nI 0) (nI 0)) (-2)) (481 * v + 81 + 10 * 1 + 9) (nI 7)) v 2 (adQ (nI 1) (nI 1) (nI 0) (nI 3) (nI 0) (-1) (nI 0) (nI 0)) (-2)) v 3 (adQ (nI 1) (nI 1) (nI 1) (nI 2) (nI 0) (-1) (nI 1) (nI 1)) (-2)) v 4 (adQ (nI 1) (nI 2) (nI 2) (nI 3) (nI 4) (nI 1) (nI 0) (nI 0)) (-2)) v 5 (adQ (nI 1) (nI 3) (nI 2) (nI 3) (nI 0) (nI 1) (nI 0) (nI 0)) (-2)) v 6 (adQ (nI 1) (nI 3) (nI 0) (nI 3) (nI 0) (-1) (nI 0) (nI 0)) (-2)) v 7 (adQ (nI 1) (nI 4) (nI 1) (nI 3) (nI 0) (-1) (nI 1) (nI 3)) (-2)
def ro1 : Nat → Int32 := w0m 1 (w0c 1 (w0m 0 (w0c 0 (fun _ => 0))))
theorem ro1_01 : (∀ c, c < 10 → ∀ p, p < 8 → cl ro1 1 c p = cl ro1 0 c p) ∧ mn ro1 1 = mn ro1 0 ∧ ∀ m, m < 8 → ∀ p, p < 10 → mb ro1 1 m p = mb ro1 0 m p := by decide +kernel
theorem ro1_n : nmb ro1 0 = 8 := by decide +kernel
theorem ro1_c : ∀ c, c < 5 → cl ro1 0 c 0 = nI 1 := by decide +kernel
theorem ro1_WC : WC ro1 0 := by
  refine ⟨by decide +kernel, by decide +kernel, fun c h1 h2 h3 => ?_⟩
  rcases (by omega : c = 1 ∨ c = 2 ∨ c = 3 ∨ c = 4 ∨ 5 ≤ c) with rfl | rfl | rfl | rfl | h5
  · exact ⟨by decide +kernel, ⟨0, by decide +kernel⟩, by decide +kernel, ⟨0, by decide +kernel⟩, by decide +kernel⟩
  · exact ⟨by decide +kernel, ⟨0, by decide +kernel⟩, by decide +kernel, ⟨0, by decide +kernel⟩, by decide +kernel⟩
  · exact ⟨by decide +kernel, ⟨1, by decide +kernel⟩, by decide +kernel, ⟨0, by decide +kernel⟩, by decide +kernel⟩
  · exact ⟨by decide +kernel, ⟨1, by decide +kernel⟩, by decide +kernel, ⟨1, by decide +kernel⟩, by decide +kernel⟩
  · exact absurd h3 ((by decide +kernel : ∀ c, c < 10 → 5 ≤ c → ¬ cl ro1 0 c 0 = nI 1) c h2 h5)
def tyN (x : Int32) : Nat := (x + 2).toNatClampNeg
def tyOk (x : Int32) : Bool := decide (1 ≤ tyN x ∧ tyN x < 12 ∧ x = tI (tyN x))
theorem tyOk_t {x : Int32} (h : tyOk x = true) : Ty1 x := ⟨tyN x, of_decide_eq_true h⟩
theorem ro1_WM : WM ro1 0 := by
  have n := ro1_n
  unfold WM
  rw [n]
  refine ⟨by decide, by decide +kernel, by decide +kernel, by decide +kernel, fun m hm => ⟨(mb ro1 0 m 2).toNatClampNeg, (by decide +kernel : ∀ m, m < 8 → (mb ro1 0 m 2).toNatClampNeg < 8 ∧ mb ro1 0 m 2 = nI (mb ro1 0 m 2).toNatClampNeg) m hm⟩, fun m hm => ⟨(mb ro1 0 m 3).toNatClampNeg, (by decide +kernel : ∀ m, m < 8 → (mb ro1 0 m 3).toNatClampNeg < 4 ∧ mb ro1 0 m 3 = nI (mb ro1 0 m 3).toNatClampNeg) m hm⟩, fun m hm => ⟨(mb ro1 0 m 4).toNatClampNeg, (by decide +kernel : ∀ m, m < 8 → (mb ro1 0 m 4).toNatClampNeg < 8 ∧ mb ro1 0 m 4 = nI (mb ro1 0 m 4).toNatClampNeg) m hm⟩, fun m hm => tyOk_t ((by decide +kernel : ∀ m, m < 8 → tyOk (mb ro1 0 m 5) = true) m hm), fun m hm => ?_, by decide +kernel, by decide +kernel, by decide +kernel, by decide +kernel, fun m k hm hk z0 z1 z2 z3 => (by decide +kernel : ∀ m, m < 8 → ∀ k, k < 8 → (mb ro1 0 m 0 = mb ro1 0 k 0 ∧ mb ro1 0 m 1 = mb ro1 0 k 1 ∧ mb ro1 0 m 2 = mb ro1 0 k 2 ∧ (mb ro1 0 m 0 = nI 0 ∨ (mb ro1 0 m 6 = mb ro1 0 k 6 ∧ mb ro1 0 m 7 = mb ro1 0 k 7 ∧ mb ro1 0 m 8 = mb ro1 0 k 8))) → m = k) m hm k hk ⟨z0, z1, z2, z3⟩⟩
  rcases (by decide +kernel : ∀ m, m < 8 → (mb ro1 0 m 6 = nI 0 ∧ mb ro1 0 m 7 = -2 ∧ mb ro1 0 m 8 = -2) ∨ (mb ro1 0 m 6 = nI 1 ∧ tyOk (mb ro1 0 m 7) = true ∧ mb ro1 0 m 8 = -2)) m hm with q | ⟨q1, q2, q3⟩
  · exact Or.inl q
  · exact Or.inr (Or.inl ⟨q1, tyOk_t q2, q3⟩)
/-! the class's first classes -/
def pC1 : Nat → Int32 := puW (fun _ => 0) 0 0 (puR false (-2) (nI 0) (nI 0) (nI 0) (bI false))
def pC2 : Nat → Int32 := puW pC1 0 1 (puR false (nI 0) (nI 0) (nI 0) (nI 0) (bI false))
def pC3 : Nat → Int32 := puW pC2 0 2 (puR true (nI 0) (nI 0) (nI 0) (nI 0) (bI true))
def pC4 : Nat → Int32 := puW pC3 0 3 (puR false (nI 1) (nI 4) (nI 0) (nI 0) (bI false))
def pC5 : Nat → Int32 := puW pC4 0 4 (puR false (nI 1) (nI 0) (nI 0) (nI 0) (bI false))
def pQ : Nat → (Nat → Int32)
  | 0 => pC5
  | c + 1 => sW (pQ c) (481 * 0 + 8 * c + 5) (nI 1)
section Fc
variable {g : Gr} {a c : Nat} {I I' : Mem} {J : Nat → Nat → Int64} {Z : Option Nat}
theorem pQ_ex : ∀ k, k < 7 → ∀ c, c < 5 → exC (pQ k) 0 c = true := by decide +kernel
theorem L_f43 {K : Nat → Int32 → AH → Option (Unit × AH)} (hL : LibG g a) (hc : c < 5) (hr : RLc I a (pQ c) 0) : ∃ I', bX8_buildFirstClasses_43 K a (nI c) (mm g I J Z) = K a (nI (c + 1)) (mm g I' J Z) ∧ (∀ y, y ≠ a → I' y = I y) ∧ RLc I' a (pQ (c + 1)) 0 := by
  obtain ⟨I1, e, f1, r1⟩ := L_pv0 (J := J) (Z := Z) hL (pQ_ex c (by omega) c hc) hr
  refine ⟨I1, ?_, f1, r1⟩
  unfold bX8_buildFirstClasses_43
  rw [if_neg (nI_nlt (by omega) (by omega)), lib_cv hL, e, bd_some, nI_add]
theorem L_first (hL : LibG g a) (hz : LZ I a) : ∃ I', fX8_buildFirstClasses a (mm g I J Z) = some ((), mm g I' J Z) ∧ (∀ y, y < a ∨ a + 6 ≤ y → I' y = I y) ∧ RLc I' a ro1 0 ∧ RLs I' a ro1 0 := by
  have ex0 : ∀ c, exC (fun _ => 0) 0 c = false := fun c => by
    unfold exC cl
    rw [show decide ((0 : Int32) = nI 1) = false from by decide, Bool.and_false]
  have r0 : RLc I a (fun _ => 0) 0 := by
    refine ⟨fun c hc => ?_, fun c hc => ?_, fun c hc => ?_, fun c hc => ?_, fun c hc => ?_, fun c he => ?_, fun c he => ?_, fun c he => ?_⟩
    · rw [hz.1 0 (by decide), ex0]; exact b_0 c
    · rw [hz.1 1 (by decide), ex0, Bool.false_and]; exact b_0 c
    · rw [hz.1 2 (by decide), ex0, Bool.false_and]; exact b_0 c
    · rw [hz.1 3 (by decide), ex0, Bool.false_and]; exact b_0 c
    · rw [hz.1 4 (by decide), ex0, Bool.false_and]; exact b_0 c
    · rw [ex0] at he; cases he
    · rw [ex0] at he; cases he
    · rw [ex0] at he; cases he
  obtain ⟨I1, e1, f1, r1, -⟩ := L_put1 (c := 0) (B := false) (x := nI 0) (s := -2) (f := nI 0) (J := J) (Z := Z) hL (by decide) (by decide) r0
  obtain ⟨I2, e2, f2, r2, -⟩ := L_put1 (c := 1) (B := false) (x := nI 0) (s := nI 0) (f := nI 0) (J := J) (Z := Z) hL (by decide) (by decide) r1
  obtain ⟨I3, e3, f3, r3, -⟩ := L_put1 (c := 2) (B := true) (x := nI 1) (s := nI 0) (f := nI 0) (J := J) (Z := Z) hL (by decide) (by decide) r2
  obtain ⟨I4, e4, f4, r4, -⟩ := L_put1 (c := 3) (B := false) (x := nI 0) (s := nI 1) (f := nI 4) (J := J) (Z := Z) hL (by decide) (by decide) r3
  obtain ⟨I5, e5, f5, r5, d5⟩ := L_put1 (c := 4) (B := false) (x := nI 0) (s := nI 1) (f := nI 0) (J := J) (Z := Z) hL (by decide) (by decide) r4
  have s5 : RLs I5 a ro1 0 := d5 ro1 0 (RLc.d (w := pC5) (v := 0) r5 (fun c p hc hp => (by decide +kernel : ∀ c, c < 10 → ∀ p, p < 4 → cl ro1 0 c p = cl pC5 0 c p) c hc p hp)) ro1_WC
  have q0 : RLc I5 a (pQ 0) 0 := r5
  obtain ⟨I6, e6, f6, r6⟩ := L_f43 (K := lX8_buildFirstClasses_43 (fuel - 1)) (c := 0) (J := J) (Z := Z) hL (by omega) q0
  obtain ⟨I7, e7, f7, r7⟩ := L_f43 (K := lX8_buildFirstClasses_43 (fuel - 2)) (c := 1) (J := J) (Z := Z) hL (by omega) r6
  obtain ⟨I8, e8, f8, r8⟩ := L_f43 (K := lX8_buildFirstClasses_43 (fuel - 3)) (c := 2) (J := J) (Z := Z) hL (by omega) r7
  obtain ⟨I9, e9, f9, r9⟩ := L_f43 (K := lX8_buildFirstClasses_43 (fuel - 4)) (c := 3) (J := J) (Z := Z) hL (by omega) r8
  obtain ⟨Ia, ea, fa, ra⟩ := L_f43 (K := lX8_buildFirstClasses_43 (fuel - 5)) (c := 4) (J := J) (Z := Z) hL (by omega) r9
  obtain ⟨Ib, eb, fb, rb⟩ := L_pv2 (c := 4) (J := J) (Z := Z) hL (pQ_ex 5 (by omega) 4 (by omega)) ra
  obtain ⟨Ic, ec, fc, rc⟩ := L_pv3 (c := 4) (J := J) (Z := Z) hL (by decide +kernel) rb
  have fz : ∀ y, y ≠ a → y ≠ a + 1 → Ic y = I5 y := fun y h1 h2 => by rw [fc y h2, fb y h1, fa y h1, f9 y h1, f8 y h1, f7 y h1, f6 y h1]
  refine ⟨Ic, ?_, fun y hy => by rw [fz y (by omega) (by omega), f5 y hy, f4 y hy, f3 y hy, f2 y hy, f1 y hy], rc.cg (fun c p hc hp => (by decide +kernel : ∀ c, c < 10 → ∀ p, p < 8 → cl ro1 0 c p = cl (sW (sW (pQ 5) (481 * 0 + 8 * 4 + 7) (nI 1)) (481 * 0 + 8 * 4 + 4) (nI 1)) 0 c p) c hc p hp), s5.fr (fz _ (by omega) (by omega)) (fz _ (by omega) (by omega))⟩
  unfold fX8_buildFirstClasses
  rw [lib_cv hL, e1, bd_some, lib_cv hL, e2, bd_some, lib_cv hL, e3, bd_some, lib_cv hL, e4, bd_some, lib_cv hL, e5, bd_some]
  have s0 : ∀ z, z + 1 ≤ fuel → ∀ x h, lX8_buildFirstClasses_43 (fuel - z) a x h = bX8_buildFirstClasses_43 (lX8_buildFirstClasses_43 (fuel - (z + 1))) a x h := fun z hz x h => by
    rw [show fuel - z = (fuel - (z + 1)) + 1 from by omega]
    rfl
  have hf : 10 ≤ fuel := by unfold fuel; omega
  refine (s0 0 (by omega) _ _).trans (e6.trans ?_)
  refine (s0 1 (by omega) _ _).trans (e7.trans ?_)
  refine (s0 2 (by omega) _ _).trans (e8.trans ?_)
  refine (s0 3 (by omega) _ _).trans (e9.trans ?_)
  refine (s0 4 (by omega) _ _).trans (ea.trans ?_)
  refine (s0 5 (by omega) _ _).trans ?_
  unfold bX8_buildFirstClasses_43
  rw [if_pos (nI_lt (by omega) (by omega)), lib_cv hL, eb, bd_some, lib_cv hL, ec, bd_some]
end Fc

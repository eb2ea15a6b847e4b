/-! ===== undo, copyVersion, draft ===== -/
section Ud
variable {g : Gr} {A R : Nat} {I I' : Mem} {J : Nat → Nat → Int64} {Z : Option Nat} {w w' : Nat → Int32} {n k v c m : Nat} {P P' : Nat → Nat → Int32} {d d' : Nat → Int32} {x y z : Int32}
theorem M_undoF (hG : ModG g R) {n : Nat} (hn : n < 5) (h2 : I R 2 = nI (n + 1)) : ∃ I', fX9_undo R (mm g I J Z) = some (nI n, mm g I' J Z) ∧ (∀ x, x ≠ R → x ≠ R + 1 → I' x = I x) ∧ I' R 2 = nI n ∧ I' R 3 = nI 0 ∧ ∀ j, I' (R + 1) j = if j < 1155 then I (R + 2) (1155 * n + j) else I (R + 1) j := by
  obtain ⟨I3, t1, t2, t3⟩ := M_un33 (J := J) (Z := Z) hG hn 1155 0 fuel (up2 (up2 I R 3 (nI 0)) R 2 (nI n)) (by omega) (by unfold fuel; omega) (by rw [up2_at, if_pos rfl])
  refine ⟨I3, ?_, fun x a b => by rw [t2 x b, up2_ne a, up2_ne a], by rw [t2 R (by omega), up2_at, if_pos rfl], by rw [t2 R (by omega), up2_at, if_neg (by decide), up2_at, if_pos rfl], fun j => ?_⟩
  · unfold fX9_undo fX9_undo_13
    rw [gI_m hG.1, Option.bind_some, h2, if_neg (nI_ne0 (by omega) (by omega)), M_cv hG, M_refused hG, bd_some, bIf, if_neg (by decide), gI_m hG.1, Option.bind_some, up2_at, if_neg (by decide), h2, show nI (n + 1) - nI 1 = nI n from nI_pred n, pI_m hG.1, Option.bind_some]
    exact t1
  · rw [t3 j, up2_ne (by omega), up2_ne (by omega), up2_ne (by omega), up2_ne (by omega)]
    by_cases q : j < 1155
    · rw [if_pos (by omega), if_pos q]
    · rw [if_neg (by omega), if_neg q]
theorem C_undo (hJ : JG g A) (h : RelC I A w (m + 1) P d) (hW : Wf w (m + 1) P d) : ∃ I', fX8_undo A (mm g I J Z) = some (.inr (nI m), mm g I' J Z) ∧ RelC I' A (P m) m P d ∧ ∀ x, x < A ∨ A + 418 ≤ x → I' x = I x := by
  obtain ⟨h1, h2, h3, ⟨o, o1, o2, o3⟩, h5⟩ := h
  have hm : (nI o + nI m) - (nI o + nI m) / nI 5 * nI 5 = nI ((o + m) % 5) := by rw [nI_add]; exact md5 _ (by omega)
  have sl : (o + m) % 5 < 5 := by omega
  have f1 : ∀ x, x ≠ A → up2 I A 3 (nI m) x = I x := fun x hx => up2_ne hx
  have hWm := hW.2.1 m (by omega)
  obtain ⟨I3, t1, t2, t3⟩ := C_stCopy (I := up2 I A 3 (nI m)) (J := J) (Z := Z) hJ.S (hJ.SS sl) (by omega) hWm ((o3 m (by omega)).fr (fun x a b _ _ => f1 x (by omega)) hWm.2.1)
  have a3 : up2 I A 3 (nI m) A 3 = nI m := by rw [up2_at, if_pos rfl]
  have a2 : up2 I A 3 (nI m) A 2 = nI o := by rw [up2_at, if_neg (by decide)]; exact o2
  refine ⟨I3, ?_, ⟨t3, by omega, by rw [t2 A (by omega)]; exact a3, ⟨o, o1, by rw [t2 A (by omega)]; exact a2, fun j hj => ?_⟩, fun i hi => by rw [t2 _ (by omega), f1 _ (by omega)]; exact h5 i hi⟩, fun x hx => by rw [t2 x (by omega), f1 x (by omega)]⟩
  · unfold fX8_undo
    rw [gI_m hJ.K, Option.bind_some, h3, if_neg (nI_ne0 (by omega) (by omega)), Option.bind_some, show nI (m + 1) - nI 1 = nI m from nI_pred m, pI_m hJ.K, Option.bind_some, hJ.p0, Option.bind_some, hJ.p1, Option.bind_some, gI_m hJ.K, Option.bind_some, gI_m hJ.K, Option.bind_some, a2, a3, hm, hJ.sv sl, Option.bind_some, cv_m hJ.S.1, t1, bd_some, gI_m hJ.K, Option.bind_some, t2 A (by omega), a3]
  · exact (o3 j (by omega)).fr (fun x a b _ _ => by rw [t2 x (by omega), f1 x (by omega)]) (hW.2.1 j (by omega)).2.1
theorem Q_undo (h : Rel g A I w n P d) : Agr g A I (fX8_undo A) (fX9_undo (A + 418)) [3] := by
  rcases Nat.eq_zero_or_pos n with e | e
  · subst e
    refine Agr.rfs h (i := 0) (e := 3) ⟨by decide, rfl⟩ (fun J Z => ⟨I, none, ?_, FvC.refl⟩) (fun I1 J Z h1 => ⟨nI 0, up2 I1 (A + 418) 3 (nI 1), ?_, fvm_3, up3⟩)
    · unfold fX8_undo
      rw [gI_m h.jg.K, Option.bind_some, h.2.2.1.2.2.1, if_pos (by decide), thr_m]
    · exact M_undo0 h1.G h1.2.1.2.2.2.1
  · obtain ⟨m, rfl⟩ : ∃ m, n = m + 1 := ⟨n - 1, by omega⟩
    have h5 := h.2.2.1.2.1
    refine Agr.mod h (b := nI m) (w' := P m) (n' := m) (P' := P) (d' := d) (fun J Z => ?_) (fun I1 J Z h1 => ?_) ⟨h.2.2.2.2.2.1 m (by omega), fun j hj => h.2.2.2.2.2.1 j (by omega), h.2.2.2.2.2.2⟩
    · obtain ⟨I3, t1, t2, t3⟩ := C_undo (J := J) (Z := Z) h.jg h.2.2.1 h.2.2.2.2
      exact ⟨I3, Z, t1, t2, t3⟩
    · obtain ⟨r1, r2, r3, r4, r5, r6⟩ := h1.2.1
      obtain ⟨I3, t1, t2, t3, t4, t5⟩ := M_undoF (J := J) (Z := Z) h1.G (n := m) (by omega) r4
      refine ⟨I3, t1, ⟨?_, (r5 m (by omega)).2, by omega, t3, fun j hj => ?_, by rw [t2 _ (by omega) (by omega)]; exact r6⟩, fun x hx => t2 x (by omega) (by omega), t4⟩
      · funext j
        rw [t5 j]
        by_cases q : j < 1155
        · rw [if_pos q]; exact (r5 m (by omega)).1 j q
        · rw [if_neg q, r1, r2 j (by omega), (r5 m (by omega)).2 j (by omega)]
      · exact ⟨fun i hi => by rw [t2 _ (by omega) (by omega)]; exact (r5 j (by omega)).1 i hi, (r5 j (by omega)).2⟩
/-! changes of one version -/
theorem ncl_cg (h : w' 962 = w 962) : ncl w' = ncl w := by unfold ncl; rw [h]
theorem rowC_cg (h : ∀ i, 962 ≤ i → w' i = w i) : rowC w' k = rowC w k := by funext j; exact h _ (by omega)
theorem cl_out {u : Nat} (hu : u < 2) (hv : v < 2) (huv : u ≠ v) (hw : ∀ i, (i < 481 * v ∨ 481 * v + 481 ≤ i) → w' i = w i) : (∀ c p, c < 10 → p < 8 → cl w' u c p = cl w u c p) ∧ mn w' u = mn w u ∧ ∀ m p, m < 40 → p < 10 → mb w' u m p = mb w u m p :=
  ⟨fun c p hc hp => hw _ (by omega), hw _ (by omega), fun m p hm hp => hw _ (by omega)⟩
theorem WS.lib (h : WS w) (hv : v < 2) (hw : ∀ i, (i < 481 * v ∨ 481 * v + 481 ≤ i) → w' i = w i) (hC : WC w' v) (hM : WM w' v) : WS w' := by
  have e := ncl_cg (w' := w') (w := w) (hw 962 (by omega))
  refine ⟨fun u hu => ?_, by rw [e]; exact h.2.1, by rw [e, hw 962 (by omega)]; exact h.2.2.1, fun k hk => ?_⟩
  · by_cases q : u = v
    · subst q; exact ⟨hC, hM⟩
    · obtain ⟨a, b, c⟩ := cl_out hu hv q hw
      exact ⟨(h.1 u hu).1.cg a, (h.1 u hu).2.cg b (fun m p hm hp => c m p ((h.1 u hu).2.m40 hm) hp) a⟩
  · rw [e] at hk
    rw [rowC_cg (fun i hi => hw i (by omega))]
    exact h.2.2.2 k hk
theorem RSt.lib {s : Nat} (h : RSt I s w) (hW : WS w) (hv : v < 2) (hf : ∀ x, x < s + 3 + 20 * v ∨ s + 3 + 20 * v + 20 ≤ x → I' x = I x) (hR : RLib I' (s + 3 + 20 * v) w' v) (hw : ∀ i, (i < 481 * v ∨ 481 * v + 481 ≤ i) → w' i = w i) : RSt I' s w' := by
  have e := ncl_cg (w' := w') (w := w) (hw 962 (by omega))
  have hn := hW.2.1
  refine ⟨fun u hu => ?_, by rw [hf s (by omega), hw 962 (by omega)]; exact h.2.1, fun k hk => ?_⟩
  · by_cases q : u = v
    · subst q; exact hR
    · obtain ⟨a, b, c⟩ := cl_out hu hv q hw
      exact ((h.1 u hu).fr (fun x h1 h2 => hf x (by omega))).cg (hW.1 u hu).1 a b (fun m p hm hp => c m p ((hW.1 u hu).2.m40 hm) hp)
  · rw [e] at hk
    rw [rowC_cg (fun i hi => hw i (by omega))]
    exact (h.2.2 k hk).fr (hf _ (by omega)) (hf _ (by omega))
theorem RelC.lib (h : RelC I A w n P d) (hW : Wf w n P d) (hv : v < 2) (hf : ∀ x, x < A + 1 + 3 + 20 * v ∨ A + 1 + 3 + 20 * v + 20 ≤ x → I' x = I x) (hR : RLib I' (A + 1 + 3 + 20 * v) w' v) (hw : ∀ i, (i < 481 * v ∨ 481 * v + 481 ≤ i) → w' i = w i) : RelC I' A w' n P d := by
  obtain ⟨h1, h2, h3, ⟨o, o1, o2, o3⟩, h5⟩ := h
  exact ⟨h1.lib hW.1 hv hf hR hw, h2, by rw [hf A (by omega)]; exact h3, ⟨o, o1, by rw [hf A (by omega)]; exact o2, fun j hj => (o3 j hj).fr (fun x a b _ _ => hf x (by omega)) (hW.2.1 j hj).2.1⟩, fun i hi => by rw [hf _ (by omega)]; exact h5 i hi⟩
/-- a call that saves the state and then changes one version -/
theorem Agr.lib {fC : AH → Option ((Nat ⊕ Int32) × AH)} {fM : AH → Option (Int32 × AH)} {es : List Nat} {b : Int32} (h : Rel g A I w n P d) (hv : v < 2) (hw : ∀ i, (i < 481 * v ∨ 481 * v + 481 ≤ i) → w' i = w i) (hC' : WC w' v) (hM' : WM w' v) (opC : AH → Option ((Nat ⊕ Int32) × AH)) (opM : AH → Option (Int32 × AH))
    (eC : ∀ J Z, fC (mm g I J Z) = bd (fX8_saveState A (mm g I J Z)) fun _ h => opC h)
    (oC : ∀ I1 J Z, (∀ u, u < 2 → CB g I1 (A + 1 + 3 + 20 * u) w u) → (∀ i, i < 4 → I1 (A + 404) i = d i) → ∃ I2, opC (mm g I1 J Z) = some (.inr b, mm g I2 J Z) ∧ (∀ x, x < A + 1 + 3 + 20 * v ∨ A + 1 + 3 + 20 * v + 20 ≤ x → I2 x = I1 x) ∧ RLib I2 (A + 1 + 3 + 20 * v) w' v)
    (eM : ∀ I1 J Z, MRel g A I1 w n P d → fM (mm g I1 J Z) = bd (fX9_saves (A + 418) (mm g (up2 I1 (A + 418) 3 (nI 0)) J Z)) fun _ h => opM h)
    (oM : ∀ I1 J Z, MRel g A I1 w (pushN n) (pushP P n w) d → ∃ I2, opM (mm g I1 J Z) = some (b, mm g I2 J Z) ∧ (∀ x, x ≠ A + 418 + 1 → I2 x = I1 x) ∧ I2 (A + 418 + 1) = w') : Agr g A I fC fM es := by
  have hWp := h.2.2.2.2.push
  refine Agr.mod h (b := b) (w' := w') (n' := pushN n) (P' := pushP P n w) (d' := d) (fun J Z => ?_) (fun I1 J Z h1 => ?_) ⟨h.W.lib hv hw hC' hM', hWp.2⟩
  · obtain ⟨I1, s1, s2, s3⟩ := C_save (J := J) (Z := Z) h.jg h.2.2.1 h.2.2.2.2
    obtain ⟨I2, t1, t2, t3⟩ := oC I1 J Z (fun u hu => ⟨h.jg.lib hu, s2.1.1 u hu, (h.W.1 u hu).1, (h.W.1 u hu).2⟩) s2.2.2.2.2
    refine ⟨I2, Z, by rw [eC, s1, bd_some]; exact t1, s2.lib hWp hv t2 t3 hw, fun x hx => by rw [t2 x (by omega), s3 x (by omega) (by omega)]⟩
  · have h2 := h1.up3 (x := nI 0)
    obtain ⟨I2, s1, s2, s3, s4⟩ := M_save (J := J) (Z := Z) h2.G h2.2.1
    obtain ⟨I3, t1, t2, t3⟩ := oM I2 J Z ⟨h1.G, s2, hWp⟩
    obtain ⟨r1, r2, r3, r4, r5, r6⟩ := s2
    refine ⟨I3, by rw [eM I1 J Z h1, s1, bd_some]; exact t1, ⟨t3, fun i hi => ?_, r3, by rw [t2 _ (by omega)]; exact r4, fun j hj => ⟨fun i hi => by rw [t2 _ (by omega)]; exact (r5 j hj).1 i hi, (r5 j hj).2⟩, by rw [t2 _ (by omega)]; exact r6⟩, fun x hx => by rw [t2 x (by omega), s3 x (by omega) (by omega), up2_ne (by omega)], by rw [t2 _ (by omega), s4 3 (by decide), up3]⟩
    rw [hw i (by omega)]
    exact r2 i hi
/-! copyVersion -/
def cpW (w : Nat → Int32) : Nat → Int32 := fun j => if 481 ≤ j ∧ j < 962 then w (j - 481) else w j
theorem cpW_out {i : Nat} (h : i < 481 * 1 ∨ 481 * 1 + 481 ≤ i) : cpW w i = w i := by unfold cpW; rw [if_neg (by omega)]
theorem cpW_in {i : Nat} (h : i < 481) : cpW w (481 + i) = w i := by unfold cpW; rw [if_pos (by omega), show 481 + i - 481 = i from by omega]
theorem cpW_cl : (∀ c p, c < 10 → p < 8 → cl (cpW w) 1 c p = cl w 0 c p) ∧ mn (cpW w) 1 = mn w 0 ∧ ∀ m p, m < 40 → p < 10 → mb (cpW w) 1 m p = mb w 0 m p := by
  refine ⟨fun c p hc hp => ?_, ?_, fun m p hm hp => ?_⟩
  · unfold cl
    rw [show 481 * 1 + 8 * c + p = 481 + (481 * 0 + 8 * c + p) from by omega, cpW_in (by omega)]
  · unfold mn
    rw [show 481 * 1 + 80 = 481 + (481 * 0 + 80) from by omega, cpW_in (by omega)]
  · unfold mb
    rw [show 481 * 1 + 81 + 10 * m + p = 481 + (481 * 0 + 81 + 10 * m + p) from by omega, cpW_in (by omega)]
theorem M_cpL (hG : ModG g R) : ∀ (e k f : Nat) (I : Mem), k + e = 481 → e < f → ∃ I', lX9_copyVersion_11 f R (nI k) (mm g I J Z) = some (I' (R + 1) 561, mm g I' J Z) ∧ (∀ x, x ≠ R + 1 → I' x = I x) ∧ ∀ j, I' (R + 1) j = if 481 + k ≤ j ∧ j < 962 then I (R + 1) (j - 481) else I (R + 1) j := by
  intro e
  induction e with
  | zero =>
    intro k f I hi hf
    obtain ⟨f, rfl⟩ : ∃ z, f = z + 1 := ⟨f - 1, by omega⟩
    refine ⟨I, ?_, fun _ _ => rfl, fun j => by rw [if_neg (by omega)]⟩
    show bX9_copyVersion_11 (lX9_copyVersion_11 f) R _ _ = _
    unfold bX9_copyVersion_11
    rw [if_pos (nI_le (by omega) (by omega)), M_cv hG, M_many hG (v := 1) (by omega), bd_some]
    rfl
  | succ e ih =>
    intro k f I hi hf
    obtain ⟨f, rfl⟩ : ∃ z, f = z + 1 := ⟨f - 1, by omega⟩
    obtain ⟨I3, t1, t2, t3⟩ := ih (k + 1) f (up2 I (R + 1) (481 + k) (I (R + 1) k)) (by omega) (by omega)
    refine ⟨I3, ?_, fun x hx => (t2 x hx).trans (up2_ne hx), fun j => ?_⟩
    · show bX9_copyVersion_11 (lX9_copyVersion_11 f) R _ _ = _
      unfold bX9_copyVersion_11
      rw [if_neg (nI_ge (by omega) (by omega)), hG.p0, Option.bind_some, Option.bind_some, hG.ld1 (by omega), Option.bind_some, nI_add, hG.st1 (by omega), Option.bind_some, nI_add]
      exact t1
    · rw [t3 j, up2_at, up2_at]
      by_cases q : 481 + (k + 1) ≤ j ∧ j < 962
      · rw [if_pos q, if_neg (by omega), if_pos (by omega)]
      · rw [if_neg q]
        by_cases e : j = 481 + k
        · rw [if_pos e, if_pos (by omega), e, show 481 + k - 481 = k from by omega]
        · rw [if_neg e, if_neg (by omega)]
theorem Q_copyVersion (h : Rel g A I w n P d) : Agr g A I (fun h => bd (fX8_copyVersion A h) fun x h => some (.inr x, h)) (fX9_copyVersion (A + 418)) [] := by
  have hW0 := h.W.1 0 (by omega)
  have hn := hW0.2.n40
  have hm : ∀ m p, m < nmb w 0 → p < 10 → mb (cpW w) 1 m p = mb w 0 m p := fun m p hm hp => cpW_cl.2.2 m p (by omega) hp
  refine Agr.lib h (v := 1) (w' := cpW w) (b := mn w 0) (by omega) (fun i hi => cpW_out hi) (hW0.1.cg cpW_cl.1) (hW0.2.cg cpW_cl.2.1 hm cpW_cl.1)
    (fun h => bd ((gP 8 A 0 h).bind fun a_12 => (gP 6 a_12 0 h).bind fun a_13 => (ldP 2 a_13 (nI 1) h).bind fun a_14 => (gP 8 A 0 h).bind fun a_15 => (gP 6 a_15 0 h).bind fun a_16 => (ldP 2 a_16 (nI 0) h).bind fun a_17 => cv 2 a_14 (fX2_copyFrom a_14 a_17) h fun _ h => (gP 8 A 0 h).bind fun a_18 => (gP 6 a_18 0 h).bind fun a_19 => (ldP 2 a_19 (nI 1) h).bind fun a_20 => (gP 2 a_20 10 h).bind fun a_21 => (gI 4 a_21 0 h).bind fun x_22 => some (x_22, h)) fun x h => some (.inr x, h))
    (fun h => lX9_copyVersion_11 fuel (A + 418) (nI 0) h) (fun J Z => ?_) (fun I1 J Z hb hd => ?_) (fun I1 J Z h1 => ?_) (fun I1 J Z h1 => ?_)
  · unfold fX8_copyVersion
    obtain ⟨I1, s1, s2, s3⟩ := C_save (J := J) (Z := Z) h.jg h.2.2.1 h.2.2.2.2
    rw [h.jg.cv, s1, bd_some, bd_some]
  · have h0 := hb 0 (by omega)
    obtain ⟨I3, t1, t2, t3⟩ := C_libCopy (I := I1) (J := J) (Z := Z) (h.jg.lib (v := 1) (by omega)) (h.jg.lib (v := 0) (by omega)) (by omega) hn (h0.R.size.trans hW0.2.n)
    have hr := t3 w 0 hW0.2 h0.R
    refine ⟨I3, ?_, fun x hx => t2 x (by omega), hr.cg hW0.1 cpW_cl.1 cpW_cl.2.1 hm⟩
    show bd ((gP 8 A 0 (mm g I1 J Z)).bind _) _ = _
    rw [h.jg.p0, Option.bind_some, st_p0 h.jg.S, Option.bind_some, st_lib h.jg.S (by omega), Option.bind_some, Option.bind_some, st_p0 h.jg.S, Option.bind_some, st_lib h.jg.S (by omega), Option.bind_some, lib_cv (h.jg.lib (by omega)), t1, bd_some, h.jg.p0, Option.bind_some, st_p0 h.jg.S, Option.bind_some, st_lib h.jg.S (by omega), Option.bind_some, lib_p10 (h.jg.lib (by omega)), Option.bind_some, mem_gI (h.jg.lib (v := 1) (by omega)).mem, Option.bind_some, hr.size, bd_some]
  · unfold fX9_copyVersion
    rw [pI_m h1.G.1, Option.bind_some, M_cv h1.G]
  · obtain ⟨I3, t1, t2, t3⟩ := M_cpL (J := J) (Z := Z) h1.G 481 0 fuel I1 (by omega) (by unfold fuel; omega)
    refine ⟨I3, ?_, t2, ?_⟩
    · rw [t1, t3, if_pos (by omega), h1.row]
      rfl
    · funext j
      rw [t3 j, h1.row]
      rfl
/-! draft -/
def drD (x : Int32) (k : Nat) (y z : Int32) : Nat → Int32
  | 0 => x
  | 1 => nI k
  | 2 => if k = 0 then -2 else y
  | _ => if k < 2 then -2 else z
theorem drD_ok (hx : Ty1 x) (hk : k < 3) (hy : 1 ≤ k → Ty1 y) (hz : 2 ≤ k → Ty1 z) : Ty1 (drD x k y z 0) ∧ Pt (drD x k y z 1) (drD x k y z 2) (drD x k y z 3) := by
  refine ⟨hx, ?_⟩
  rcases (by omega : k = 0 ∨ k = 1 ∨ k = 2) with rfl | rfl | rfl
  · exact Or.inl ⟨rfl, rfl, rfl⟩
  · exact Or.inr (Or.inl ⟨rfl, hy (by omega), rfl⟩)
  · exact Or.inr (Or.inr ⟨rfl, hy (by omega), hz (by omega)⟩)
theorem C_drf (h : Rel g A I w n P d) (hx : Ty1 x) (hk : k < 3) (hy : 1 ≤ k → Ty1 y) (hz : 2 ≤ k → Ty1 z) : ∃ I', fX8_draft A x (nI k) y z (mm g I J Z) = some (.inr (d 1), mm g I' J Z) ∧ (∀ a, a ≠ A + 404 → I' a = I a) ∧ ∀ i, i < 4 → I' (A + 404) i = drD x k y z i := by
  have hp : ∀ (a b : Int32), (∀ e, e ≠ A + 404 → (up2 (up2 (up2 (up2 I (A + 404) 0 x) (A + 404) 1 (nI k)) (A + 404) 2 a) (A + 404) 3 b) e = I e) := fun a b e he => by rw [up2_ne he, up2_ne he, up2_ne he, up2_ne he]
  have hd := h.jg.D
  have run : ∀ a b, (k = 0 → a = -2) → (1 ≤ k → a = y) → (k < 2 → b = -2) → (2 ≤ k → b = z) → fX8_draft_61 A x (nI k) y z (mm g I J Z) = some (.inr (d 1), mm g (up2 (up2 (up2 (up2 I (A + 404) 0 x) (A + 404) 1 (nI k)) (A + 404) 2 a) (A + 404) 3 b) J Z) := by
    intro a b a0 a1 b0 b1
    unfold fX8_draft_61 fX5_put fX5_put_22 fX5_put_38
    rw [h.jg.p4, Option.bind_some, h.D (by decide), Option.bind_some, Option.bind_some, cv_m hd, pI_m hd, Option.bind_some, pI_m hd, Option.bind_some]
    rcases (by omega : k = 0 ∨ k = 1 ∨ k = 2) with rfl | rfl | rfl
    · rw [a0 rfl, b0 (by omega), if_pos (by decide), pI_m hd, Option.bind_some, if_pos (by decide), pI_m hd, Option.bind_some, bd_some]
    · rw [a1 (by omega), b0 (by omega), if_neg (by decide), pI_m hd, Option.bind_some, if_pos (by decide), pI_m hd, Option.bind_some, bd_some]
    · rw [a1 (by omega), b1 (by omega), if_neg (by decide), pI_m hd, Option.bind_some, if_neg (by decide), pI_m hd, Option.bind_some, bd_some]
  rcases (by omega : k = 0 ∨ k = 1 ∨ k = 2) with rfl | rfl | rfl
  · refine ⟨_, ?_, hp (-2) (-2), fun i hi => ?_⟩
    · unfold fX8_draft fX8_draft_38
      rw [if_neg (by decide), if_pos (by decide), C_isType hx, bd_some, bIf, if_tt, if_pos (by decide), if_pos (by decide)]
      exact run _ _ (fun _ => rfl) (fun q => absurd q (by omega)) (fun _ => rfl) (fun q => absurd q (by omega))
    · rcases (by omega : i = 0 ∨ i = 1 ∨ i = 2 ∨ i = 3) with rfl | rfl | rfl | rfl <;> simp [up2, drD]
  · refine ⟨_, ?_, hp y (-2), fun i hi => ?_⟩
    · unfold fX8_draft fX8_draft_38
      rw [if_neg (by decide), if_pos (by decide), C_isType hx, bd_some, bIf, if_tt, if_neg (by decide), C_isType (hy (by omega)), bd_some, bIf, if_tt, if_pos (by decide)]
      exact run _ _ (fun q => absurd q (by omega)) (fun _ => rfl) (fun _ => rfl) (fun q => absurd q (by omega))
    · rcases (by omega : i = 0 ∨ i = 1 ∨ i = 2 ∨ i = 3) with rfl | rfl | rfl | rfl <;> simp [up2, drD]
  · refine ⟨_, ?_, hp y z, fun i hi => ?_⟩
    · unfold fX8_draft fX8_draft_38
      rw [if_neg (by decide), if_pos (by decide), C_isType hx, bd_some, bIf, if_tt, if_neg (by decide), C_isType (hy (by omega)), bd_some, bIf, if_tt, if_neg (by decide), C_isType (hz (by omega)), bd_some, bIf, if_tt]
      exact run _ _ (fun q => absurd q (by omega)) (fun _ => rfl) (fun q => absurd q (by omega)) (fun _ => rfl)
    · rcases (by omega : i = 0 ∨ i = 1 ∨ i = 2 ∨ i = 3) with rfl | rfl | rfl | rfl <;> simp [up2, drD]
theorem ModG.st3 (hG : ModG g R) {k : Nat} (hk : k < 4) : stI (R + 3) (nI k) x (mm g I J Z) = some (mm g (up2 I (R + 3) k x) J Z) := stI_m hG.2.2.2.2.2.2.2.2.2.2.1.1 (by rw [hG.2.2.2.2.2.2.2.2.2.2.1.2]; exact hk) (by omega)
theorem M_drf (h : MRel g A I w n P d) (hx : Ty1 x) (hk : k < 3) (hy : 1 ≤ k → Ty1 y) (hz : 2 ≤ k → Ty1 z) : ∃ I', fX9_draft (A + 418) x (nI k) y z (mm g I J Z) = some (d 1, mm g I' J Z) ∧ (∀ a, a ≠ A + 418 → a ≠ A + 418 + 3 → I' a = I a) ∧ I' (A + 418) 2 = I (A + 418) 2 ∧ I' (A + 418) 3 = nI 0 ∧ ∀ i, i < 4 → I' (A + 418 + 3) i = drD x k y z i := by
  obtain ⟨r1, r2, r3, r4, r5, r6, r7, r8, r9⟩ := h.2.1
  have hG := h.G
  have fr : ∀ a b, (∀ e, e ≠ A + 418 → e ≠ A + 418 + 3 → (up2 (up2 (up2 (up2 (up2 I (A + 418) 3 (nI 0)) (A + 418 + 3) 0 x) (A + 418 + 3) 1 (nI k)) (A + 418 + 3) 2 a) (A + 418 + 3) 3 b) e = I e) ∧ (up2 (up2 (up2 (up2 (up2 I (A + 418) 3 (nI 0)) (A + 418 + 3) 0 x) (A + 418 + 3) 1 (nI k)) (A + 418 + 3) 2 a) (A + 418 + 3) 3 b) (A + 418) = up2 I (A + 418) 3 (nI 0) (A + 418) := fun a b => ⟨fun e e1 e2 => by rw [up2_ne e2, up2_ne e2, up2_ne e2, up2_ne e2, up2_ne e1], by rw [up2_ne (by omega), up2_ne (by omega), up2_ne (by omega), up2_ne (by omega)]⟩
  have run : ∀ a b, (k = 0 → a = -2) → (1 ≤ k → a = y) → (k < 2 → b = -2) → (2 ≤ k → b = z) → fX9_draft_55 (A + 418) x (nI k) y z (nI 1) (mm g I J Z) = some (d 1, mm g (up2 (up2 (up2 (up2 (up2 I (A + 418) 3 (nI 0)) (A + 418 + 3) 0 x) (A + 418 + 3) 1 (nI k)) (A + 418 + 3) 2 a) (A + 418 + 3) 3 b) J Z) := by
    intro a b a0 a1 b0 b1
    unfold fX9_draft_55 fX9_draft_68 fX9_draft_113 fX9_draft_131
    rw [if_neg (by decide), M_cv hG, M_ref0 hG, bd_some, bIf, if_ff, hG.p4, Option.bind_some, hG.ld3 (by decide), Option.bind_some, Option.bind_some, hG.st3 (by decide), Option.bind_some, hG.p4, Option.bind_some, hG.st3 (by decide), Option.bind_some, hG.p4, Option.bind_some, up2_ne (by omega), r7]
    rcases (by omega : k = 0 ∨ k = 1 ∨ k = 2) with rfl | rfl | rfl
    · rw [a0 rfl, b0 (by omega), if_pos (by decide), hG.st3 (by decide), Option.bind_some, hG.p4, Option.bind_some, if_pos (by decide), hG.st3 (by decide), Option.bind_some]
    · rw [a1 (by omega), b0 (by omega), if_neg (by decide), hG.st3 (by decide), Option.bind_some, hG.p4, Option.bind_some, if_pos (by decide), hG.st3 (by decide), Option.bind_some]
    · rw [a1 (by omega), b1 (by omega), if_neg (by decide), hG.st3 (by decide), Option.bind_some, hG.p4, Option.bind_some, if_neg (by decide), hG.st3 (by decide), Option.bind_some]
  rcases (by omega : k = 0 ∨ k = 1 ∨ k = 2) with rfl | rfl | rfl
  · refine ⟨_, ?_, (fr (-2) (-2)).1, by rw [(fr (-2) (-2)).2, up2_at, if_neg (by decide)], by rw [(fr (-2) (-2)).2, up3], fun i hi => ?_⟩
    · unfold fX9_draft fX9_draft_34
      rw [wi_yes (by omega) (by omega), bd_some, bIf, if_tt, M_wiT hx, bd_some, bIf, if_tt, if_pos (by decide), if_pos (by decide)]
      exact run _ _ (fun _ => rfl) (fun q => absurd q (by omega)) (fun _ => rfl) (fun q => absurd q (by omega))
    · rcases (by omega : i = 0 ∨ i = 1 ∨ i = 2 ∨ i = 3) with rfl | rfl | rfl | rfl <;> simp [up2, drD]
  · refine ⟨_, ?_, (fr y (-2)).1, by rw [(fr y (-2)).2, up2_at, if_neg (by decide)], by rw [(fr y (-2)).2, up3], fun i hi => ?_⟩
    · unfold fX9_draft fX9_draft_34
      rw [wi_yes (by omega) (by omega), bd_some, bIf, if_tt, M_wiT hx, bd_some, bIf, if_tt, if_neg (by decide), M_wiT (hy (by omega)), bd_some, bIf, if_tt, if_pos (by decide)]
      exact run _ _ (fun q => absurd q (by omega)) (fun _ => rfl) (fun _ => rfl) (fun q => absurd q (by omega))
    · rcases (by omega : i = 0 ∨ i = 1 ∨ i = 2 ∨ i = 3) with rfl | rfl | rfl | rfl <;> simp [up2, drD]
  · refine ⟨_, ?_, (fr y z).1, by rw [(fr y z).2, up2_at, if_neg (by decide)], by rw [(fr y z).2, up3], fun i hi => ?_⟩
    · unfold fX9_draft fX9_draft_34
      rw [wi_yes (by omega) (by omega), bd_some, bIf, if_tt, M_wiT hx, bd_some, bIf, if_tt, if_neg (by decide), M_wiT (hy (by omega)), bd_some, bIf, if_tt, if_neg (by decide), M_wiT (hz (by omega)), bd_some, bIf, if_tt]
      exact run _ _ (fun q => absurd q (by omega)) (fun _ => rfl) (fun q => absurd q (by omega)) (fun _ => rfl)
    · rcases (by omega : i = 0 ∨ i = 1 ∨ i = 2 ∨ i = 3) with rfl | rfl | rfl | rfl <;> simp [up2, drD]
theorem M_drfX (h : MRel g A I w n P d) {c0 : Int32} : fX9_draft_54 (A + 418) x y z c0 (mm g I J Z) = some (nI 0, mm g (up2 I (A + 418) 3 (nI 1)) J Z) := by
  unfold fX9_draft_54 fX9_draft_55 fX9_draft_68
  rw [if_pos (by decide), M_cv h.G, rf1 h.G, bd_some, bIf, if_tt]
theorem Q_draft (h : Rel g A I w n P d) {u : Int32} : Agr g A I (fX8_draft A x u y z) (fX9_draft (A + 418) x u y z) [2] := by
  have rf : (∀ J Z, fX8_draft A x u y z (mm g I J Z) = some (.inl 2, mm g I J none)) → (∀ I1 J Z, MRel g A I1 w n P d → fX9_draft (A + 418) x u y z (mm g I1 J Z) = fX9_draft_54 (A + 418) x u y z (mm g I1 J Z)) → Agr g A I (fX8_draft A x u y z) (fX9_draft (A + 418) x u y z) [2] := by
    intro q1 q2
    exact Agr.rfs h (i := 0) (e := 2) ⟨by decide, rfl⟩ (fun J Z => ⟨I, none, q1 J Z, FvC.refl⟩) (fun I1 J Z h1 => ⟨nI 0, up2 I1 (A + 418) 3 (nI 1), by rw [q2 I1 J Z h1]; exact M_drfX h1, fvm_3, up3⟩)
  rcases int_x u 3 (by omega) with hu | ⟨k, hk, rfl⟩
  · refine rf (fun J Z => ?_) (fun I1 J Z h1 => ?_)
    · unfold fX8_draft
      by_cases h0 : u < 0
      · rw [if_pos h0, thr_m]
      · rw [if_neg h0, if_neg (fun q => absurd (Int32.le_trans (hu.resolve_left h0) q) (by decide)), thr_m]
    · unfold fX9_draft
      rw [wi_no hu (by omega), bd_some, bIf, if_ff]
  · have k0 : ¬ nI k < 0 := nI_pos (by omega)
    have k2 : nI k ≤ nI 2 := nI_le (by omega) (by omega)
    rcases typ_cases x with hx | ⟨x1, x2, x3⟩
    · have go : (1 ≤ k → Ty1 y) → (2 ≤ k → Ty1 z) → Agr g A I (fX8_draft A x (nI k) y z) (fX9_draft (A + 418) x (nI k) y z) [2] := by
        intro hy hz
        have hw := drD_ok hx hk hy hz
        refine Agr.mod h (b := d 1) (w' := w) (n' := n) (P' := P) (d' := drD x k y z) (fun J Z => ?_) (fun I1 J Z h1 => ?_) ⟨h.W, h.2.2.2.2.2.1, hw⟩
        · obtain ⟨I3, t1, t2, t3⟩ := C_drf (J := J) (Z := Z) h hx hk hy hz
          obtain ⟨s1, s2, s3, ⟨o, o1, o2, o3⟩, s5⟩ := h.2.2.1
          exact ⟨I3, Z, t1, ⟨s1.fr (fun x a b _ _ => t2 x (by omega)) h.nc, s2, by rw [t2 A (by omega)]; exact s3, ⟨o, o1, by rw [t2 A (by omega)]; exact o2, fun j hj => (o3 j hj).fr (fun x a b _ _ => t2 x (by omega)) (h.2.2.2.2.2.1 j hj).2.1⟩, t3⟩, fun x hx => t2 x (by omega)⟩
        · obtain ⟨I3, t1, t2, t3, t4, t5⟩ := M_drf (J := J) (Z := Z) h1 hx hk hy hz
          obtain ⟨r1, r2, r3, r4, r5, r6⟩ := h1.2.1
          exact ⟨I3, t1, ⟨(t2 _ (by omega) (by omega)).trans r1, r2, r3, t3.trans r4, fun j hj => ⟨fun i hi => by rw [t2 _ (by omega) (by omega)]; exact (r5 j hj).1 i hi, (r5 j hj).2⟩, t5 0 (by decide), t5 1 (by decide), Or.inl (t5 2 (by decide)), Or.inl (t5 3 (by decide))⟩, fun x hx => t2 x (by omega) (by omega), t4⟩
      by_cases h1 : 1 ≤ k
      · rcases typ_cases y with hy | ⟨y1, y2, y3⟩
        · by_cases h2 : 2 ≤ k
          · rcases typ_cases z with hz | ⟨z1, z2, z3⟩
            · exact go (fun _ => hy) (fun _ => hz)
            · refine rf (fun J Z => ?_) (fun I1 J Z h1' => ?_)
              · unfold fX8_draft fX8_draft_38
                rw [if_neg k0, if_pos k2, C_isType hx, bd_some, bIf, if_tt, if_neg (nI_nlt h1 (by omega)), C_isType hy, bd_some, bIf, if_tt, if_neg (nI_nlt h2 (by omega)), z1, bd_some, bIf, if_ff, thr_m]
              · unfold fX9_draft fX9_draft_34
                rw [wi_yes (by omega) (by omega), bd_some, bIf, if_tt, M_wiT hx, bd_some, bIf, if_tt, if_neg (nI_nlt h1 (by omega)), M_wiT hy, bd_some, bIf, if_tt, if_neg (nI_nlt h2 (by omega)), z2, bd_some, bIf, if_ff]
          · exact go (fun _ => hy) (fun q => absurd q h2)
        · refine rf (fun J Z => ?_) (fun I1 J Z h1' => ?_)
          · unfold fX8_draft
            rw [if_neg k0, if_pos k2, C_isType hx, bd_some, bIf, if_tt, if_neg (nI_nlt h1 (by omega)), y1, bd_some, bIf, if_ff, thr_m]
          · unfold fX9_draft
            rw [wi_yes (by omega) (by omega), bd_some, bIf, if_tt, M_wiT hx, bd_some, bIf, if_tt, if_neg (nI_nlt h1 (by omega)), y2, bd_some, bIf, if_ff]
      · exact go (fun q => absurd q h1) (fun q => absurd q (by omega))
    · refine rf (fun J Z => ?_) (fun I1 J Z h1 => ?_)
      · unfold fX8_draft
        rw [if_neg k0, if_pos k2, x1, bd_some, bIf, if_ff, thr_m]
      · unfold fX9_draft
        rw [wi_yes (by omega) (by omega), bd_some, bIf, if_tt, x2, bd_some, bIf, if_ff]
end Ud

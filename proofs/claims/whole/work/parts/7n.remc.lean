/-! ===== removeClient ===== -/
section Rc
variable {g : Gr} {A R p q s : Nat} {I I' : Mem} {J : Nat → Nat → Int64} {Z : Option Nat} {w w' : Nat → Int32} {n n' v u c b : Nat} {P : Nat → Nat → Int32} {d : Nat → Int32} {x y z : Int32} {k kk : Nat → Int32}
theorem C_cdropL (hS : StG g s) (hn : n ≤ 12) : ∀ (e k f : Nat) (I : Mem) (r : Nat → Nat → Int32), k + 1 + e = n → e < f → I s 2 = nI n → (∀ i, i < n → RK I (s + 43 + 2 * i) (r i) ∧ (r i 8 = nI 0 ∨ r i 8 = nI 1)) → ∃ I', lX6_dropAt_2 f s (nI k) (mm g I J Z) = some ((), mm g I' J Z) ∧ (∀ x, x ≠ s → x < s + 43 ∨ s + 67 ≤ x → I' x = I x) ∧ I' s 2 = nI (n - 1) ∧ ∀ i, i < n - 1 → RK I' (s + 43 + 2 * i) (r (skp k i)) := by
  intro e
  induction e with
  | zero =>
    intro k f I r hi hf h0 hr
    obtain ⟨f, rfl⟩ : ∃ z, f = z + 1 := ⟨f - 1, by omega⟩
    refine ⟨up2 I s 2 (nI (n - 1)), ?_, fun x hx _ => up2_ne hx, by rw [up2_at, if_pos rfl], fun i hi2 => ?_⟩
    · show bX6_dropAt_2 (lX6_dropAt_2 f) s _ _ = _
      unfold bX6_dropAt_2
      rw [gI_m hS.1, Option.bind_some, h0, nI_add, if_pos (nI_le (by omega) (by omega)), Option.bind_some, pk_sub (by omega), pI_m hS.1, Option.bind_some]
    · rw [skp_lo (by omega)]
      exact (hr i (by omega)).1.fr (up2_ne (by omega)) (up2_ne (by omega))
  | succ e ih =>
    intro k f I r hi hf h0 hr
    obtain ⟨f, rfl⟩ : ∃ z, f = z + 1 := ⟨f - 1, by omega⟩
    obtain ⟨I1, a1, a2, a3, a4⟩ := C_clCopy (I := I) (J := J) (Z := Z) (p := s + 43 + 2 * k) (r := s + 43 + 2 * (k + 1)) (hS.cli (by omega)) (hS.cli (by omega)) (by omega) (by omega) (by omega) (by rw [(hr (k + 1) (by omega)).1.s0]; exact (hr (k + 1) (by omega)).2)
    obtain ⟨I3, t1, t2, t3, t4⟩ := ih (k + 1) f I1 (fun i => if i = k then r (k + 1) else r i) (by omega) (by omega) (by rw [a2 _ (by omega) (by omega)]; exact h0) (fun i hi2 => by
      by_cases z : i = k
      · subst z
        show RK I1 _ (if i = i then r (i + 1) else r i) ∧ _
        rw [if_pos rfl]
        exact ⟨(hr (i + 1) (by omega)).1.cp a3 a4, (hr (i + 1) (by omega)).2⟩
      · show RK I1 _ (if i = k then r (k + 1) else r i) ∧ _
        rw [if_neg z]
        exact ⟨(hr i hi2).1.fr (a2 _ (by omega) (by omega)) (a2 _ (by omega) (by omega)), (hr i hi2).2⟩)
    refine ⟨I3, ?_, fun x hx h2 => by rw [t2 x hx h2, a2 _ (by omega) (by omega)], t3, fun i hi2 => ?_⟩
    · show bX6_dropAt_2 (lX6_dropAt_2 f) s _ _ = _
      unfold bX6_dropAt_2
      rw [gI_m hS.1, Option.bind_some, h0, nI_add, if_neg (nI_ge (by omega) (by omega)), st_p1 hS, Option.bind_some, st_cli hS (by omega), Option.bind_some, Option.bind_some, st_cli hS (by omega), Option.bind_some, cln_cv (hS.cli (by omega)), a1, bd_some]
      exact t1
    · have := t4 i hi2
      by_cases q1 : i < k
      · rw [skp_lo (m := k + 1) (by omega), if_neg (by omega)] at this
        rw [skp_lo q1]; exact this
      · by_cases q2 : i = k
        · rw [skp_lo (m := k + 1) (by omega), if_pos q2] at this
          rw [skp_hi (m := k) (by omega), q2]; rw [q2] at this; exact this
        · rw [skp_hi (m := k + 1) (by omega), if_neg (by omega)] at this
          rw [skp_hi (m := k) (by omega)]; exact this
theorem M_rcliL (hG : ModG g R) (hn : n ≤ 12) : ∀ (e i f : Nat) (I : Mem), i + e = 963 + 16 * (n - 1) → 963 ≤ i → 1 ≤ n → e < f → I (R + 1) 962 = nI n → ∃ I', lX9_removeClient_31 f R (nI i) (mm g I J Z) = some (nI (n - 1), mm g I' J Z) ∧ (∀ x, x ≠ R + 1 → I' x = I x) ∧ ∀ j, I' (R + 1) j = if i ≤ j ∧ j < 963 + 16 * (n - 1) then I (R + 1) (j + 16) else if j = 962 then nI (n - 1) else I (R + 1) j := by
  have ix : ∀ m, nI 963 + nI 16 * nI m = nI (963 + 16 * m) := fun m => by rw [pk_mul, nI_add]
  have many : ∀ I : Mem, fX9_clientMany R (mm g I J Z) = some (I (R + 1) 962, mm g I J Z) := fun I => by
    unfold fX9_clientMany
    rw [hG.p0, Option.bind_some, hG.ld1 (by omega), Option.bind_some]
  intro e
  induction e with
  | zero =>
    intro i f I hi h81 h1 hf hmn
    obtain ⟨f, rfl⟩ : ∃ z, f = z + 1 := ⟨f - 1, by omega⟩
    refine ⟨up2 I (R + 1) 962 (nI (n - 1)), ?_, fun x hx => up2_ne hx, fun j => by rw [up2_at, if_neg (show ¬ (i ≤ j ∧ j < 963 + 16 * (n - 1)) by omega)]⟩
    show bX9_removeClient_31 (lX9_removeClient_31 f) R _ _ = _
    unfold bX9_removeClient_31 fX9_client
    rw [M_cv hG, many, bd_some, hmn, pk_sub (by omega), ix, bd_some, if_pos (nI_le (by omega) (by omega)), hG.p0, Option.bind_some, hG.ld1 (by omega), Option.bind_some, hmn, pk_sub (by omega), hG.st1 (by omega), Option.bind_some, M_cv hG, many, bd_some, up2_at, if_pos rfl]
  | succ e ih =>
    intro i f I hi h81 h1 hf hmn
    obtain ⟨f, rfl⟩ : ∃ z, f = z + 1 := ⟨f - 1, by omega⟩
    obtain ⟨I3, t1, t2, t3⟩ := ih (i + 1) f (up2 I (R + 1) i (I (R + 1) (i + 16))) (by omega) (by omega) h1 (by omega) (by rw [up2_at, if_neg (by omega)]; exact hmn)
    refine ⟨I3, ?_, fun x hx => (t2 x hx).trans (up2_ne hx), fun j => ?_⟩
    · show bX9_removeClient_31 (lX9_removeClient_31 f) R _ _ = _
      unfold bX9_removeClient_31 fX9_client
      rw [M_cv hG, many, bd_some, hmn, pk_sub (by omega), ix, bd_some, if_neg (nI_ge (by omega) (by omega)), hG.p0, Option.bind_some, Option.bind_some, nI_add, hG.ld1 (by omega), Option.bind_some, hG.st1 (by omega), Option.bind_some, nI_add]
      exact t1
    · rw [t3 j, up2_at, up2_at]
      by_cases q : i + 1 ≤ j ∧ j < 963 + 16 * (n - 1)
      · rw [if_pos q, if_pos (show i ≤ j ∧ j < 963 + 16 * (n - 1) by omega), if_neg (show ¬ j + 16 = i by omega)]
      · rw [if_neg q]
        by_cases e : j = i
        · rw [if_neg (show ¬ j = 962 by omega), if_pos e, if_pos (show i ≤ j ∧ j < 963 + 16 * (n - 1) by omega), e]
        · rw [if_neg e, if_neg (show ¬ (i ≤ j ∧ j < 963 + 16 * (n - 1)) by omega)]
theorem drc_lo {i : Nat} (h : i < 962) : drcW w q i = w i := by unfold drcW; rw [if_neg (by omega), if_neg (by omega)]
theorem drc_n : drcW w q 962 = nI (ncl w - 1) := by unfold drcW; rw [if_neg (by omega), if_pos rfl]
theorem drc_row {r : Nat} (hr : r < ncl w - 1) {j : Nat} (hj : j < 16) : rowC (drcW w q) r j = rowC w (skp q r) j := by
  show drcW w q (963 + 16 * r + j) = w (963 + 16 * skp q r + j)
  unfold drcW
  by_cases z : r < q
  · rw [skp_lo z, if_neg (by omega), if_neg (by omega)]
  · rw [skp_hi (by omega), if_pos (by omega), show 963 + 16 * r + j + 16 = 963 + 16 * (r + 1) + j from by omega]
theorem drc_z (hn : ncl w ≤ 12) (hz : ∀ i, 1155 ≤ i → w i = 0) : ∀ i, 1155 ≤ i → drcW w q i = 0 := fun i hi => by
  unfold drcW
  rw [if_neg (by omega), if_neg (by omega)]
  exact hz i hi
theorem drc_WS (h : WS w) (hq : q < ncl w) : WS (drcW w q) := by
  have hn := h.2.1
  exact h.cli (n' := ncl w - 1) (fun i hi => drc_lo hi) (by omega) drc_n (fun r hr => (h.2.2.2 _ (skp_lt hq hr)).ag (fun j hj => drc_row hr hj))
theorem Q_removeClient (h : Rel g A I w n P d) : Agr g A I (fX8_removeClient A x) (fX9_removeClient (A + 418) x) [1] := by
  rcases cli_cases h x with ⟨q, hq, rfl⟩ | ⟨q1, q2, q3⟩
  · have hn := h.nc
    have hWp := h.2.2.2.2.push
    refine Agr.mod h (b := nI (ncl w - 1)) (w' := drcW w q) (n' := pushN n) (P' := pushP P n w) (d' := d) (fun J Z => ?_) (fun I1 J Z h1 => ?_) ⟨drc_WS h.W hq, hWp.2⟩
    · obtain ⟨I4, s1, s2, s4⟩ := C_save (J := J) (Z := Z) h.jg h.2.2.1 h.2.2.2.2
      obtain ⟨I5, t1, t2, t3, t4⟩ := C_cdropL (J := J) (Z := Z) h.jg.S hn (ncl w - 1 - q) q fuel I4 (rowC w) (by omega) (by unfold fuel; omega) (s2.1.2.1.trans h.W.2.2.1) (fun i hi => ⟨s2.1.2.2 i hi, by obtain ⟨_, _, _, _, hs⟩ := h.W.2.2.2 i hi; exact hs.1⟩)
      have h5 : RSt I5 (A + 1) (drcW w q) := s2.1.cli h.W (n' := ncl w - 1) (fun i hi => drc_lo hi) (fun y h1 h2 => t2 y (by omega) (by omega)) (by omega) drc_n t3 (fun r hr => (t4 r hr).ag (fun j hj => drc_row hr hj))
      refine ⟨I5, Z, ?_, s2.cli hWp h5 (fun y y1 y2 y3 => t2 y (by omega) (by omega)), fun y hy => by rw [t2 y (by omega) (by omega), s4 y (by omega) (by omega)]⟩
      unfold fX8_removeClient fX6_dropAt
      rw [h.jg.cv, C_reqC h hq, bd_some, xp_r, h.jg.cv, s1, bd_some, h.jg.p0, Option.bind_some, cv_m h.jg.S.1, t1, bd_some, h.jg.p0, Option.bind_some, gI_m h.jg.S.1, Option.bind_some, t3]
    · have h3 := h1.up3 (x := nI 0)
      obtain ⟨I4, s1, s2, s4, s5⟩ := M_save (J := J) (Z := Z) h3.G h3.2.1
      obtain ⟨I5, t1, t2, t3⟩ := M_rcliL (J := J) (Z := Z) h1.G hn (16 * (ncl w - 1) - 16 * q) (963 + 16 * q) fuel I4 (by omega) (by omega) (by omega) (by unfold fuel; omega) (by rw [s2.1]; exact h.W.2.2.1)
      have r5 : I5 (A + 418 + 1) = drcW w q := by
        funext i
        rw [t3, s2.1]; rfl
      refine ⟨I5, ?_, s2.cli r5 (drc_z hn s2.2.1) (fun y q1 q2 q3 q4 q5 q6 => t2 y q2) (by rw [t2 _ (by omega)]), fun y hy => by rw [t2 y (by omega), s4 y (by omega) (by omega), up2_ne (by omega)], by rw [t2 _ (by omega), s5 3 (by decide), up3]⟩
      unfold fX9_removeClient fX9_removeClient_14 fX9_client
      rw [M_cv h1.G, M_isCli h1 hq, bd_some, bIf, if_tt, M_cv h1.G, M_ref0 h1.G, bd_some, bIf, if_ff, M_cv h1.G, s1, bd_some, pk_mul, nI_add, bd_some]
      exact t1
  · refine Agr.rfs h (i := 0) (e := 1) ⟨by decide, rfl⟩ (fun J Z => ⟨I, none, ?_, FvC.refl⟩) (fun I1 J Z h1 => ⟨nI 0, up2 I1 (A + 418) 3 (nI 1), ?_, fvm_3, up3⟩)
    · unfold fX8_removeClient
      rw [h.jg.cv, q1, bd_some, xp_l]
    · unfold fX9_removeClient fX9_removeClient_14
      rw [M_cv h1.G, q3 I1 J Z h1, bd_some, bIf, if_ff, M_cv h1.G, M_refS h1.G (i := 0) (by decide), bd_some, bIf, if_tt]
end Rc

/-! ===== new cells: the judge ===== -/
def JA (g : Gr) (A : Nat) : Prop := g.1 A = 8 + 1 ∧ StG g (A + 1) ∧ g.2.2 A 0 = some (A + 1) ∧ g.2.2 A 1 = some (A + 68) ∧ g.1 (A + 68) = 30 + 6 ∧ g.2.1 (A + 68) = 5
def JB (g : Gr) (A : Nat) : Prop := JA g A ∧ ∀ k, k < 5 → g.2.2 (A + 68) k = some (A + 69 + 67 * k) ∧ StG g (A + 69 + 67 * k)
def JC (g : Gr) (A : Nat) : Prop := JB g A ∧ (g.2.2 A 4 = some (A + 404) ∧ g.1 (A + 404) = 6) ∧ g.2.2 A 5 = some (A + 405) ∧ ClG g (A + 405) ∧ (g.2.2 A 6 = some (A + 407) ∧ g.1 (A + 407) = 30 + 1 ∧ g.2.1 (A + 407) = 2) ∧ (g.2.2 A 7 = some (A + 408) ∧ g.1 (A + 408) = 30 + 3 ∧ g.2.1 (A + 408) = 2)
def JM (I : Mem) (A : Nat) : Prop := I (A + 1) 2 = nI 0 ∧ LZ I (A + 4)
section Nj
variable {g g' : Gr} {A r b n q l : Nat} {I I' : Mem} {J : Nat → Nat → Int64}
theorem JM.fr (h : JM I A) (hf : ∀ a, A + 1 ≤ a → a < A + 68 → I' a = I a) : JM I' A := ⟨by rw [hf _ (by omega) (by omega)]; exact h.1, h.2.fr (fun a q1 q2 => hf a (by omega) (by omega))⟩
theorem JA.sm (h : JA g A) (hk : g'.1 A = 8 + 1) (h0 : g'.2.2 A 0 = g.2.2 A 0) (h1 : g'.2.2 A 1 = g.2.2 A 1) (hs : ∀ a, A + 1 ≤ a → a < A + 69 → a ≠ A + 68 → Sm3 g g' a) (h68 : g'.1 (A + 68) = g.1 (A + 68) ∧ g'.2.1 (A + 68) = g.2.1 (A + 68)) : JA g' A :=
  ⟨hk, h.2.1.sm (fun a q1 q2 => hs a (by omega) (by omega) (by omega)), h0.trans h.2.2.1, h1.trans h.2.2.2.1, h68.1.trans h.2.2.2.2.1, h68.2.trans h.2.2.2.2.2⟩
theorem JB.sm (h : JB g A) (hk : g'.1 A = 8 + 1) (h0 : g'.2.2 A 0 = g.2.2 A 0) (h1 : g'.2.2 A 1 = g.2.2 A 1) (hs : ∀ a, A + 1 ≤ a → a < A + 404 → Sm3 g g' a) : JB g' A :=
  ⟨h.1.sm hk h0 h1 (fun a q1 q2 _ => hs a q1 (by omega)) ⟨(hs _ (by omega) (by omega)).1, (hs _ (by omega) (by omega)).2.1⟩, fun k hk => ⟨(congrFun (hs _ (by omega) (by omega)).2.2 k).trans (h.2 k hk).1, (h.2 k hk).2.sm (fun a q1 q2 => hs a (by omega) (by omega))⟩⟩
theorem N_jA {K : AH → Option (Unit × AH)} (hr : g.1 A = 8 + 1) : ∃ (g' : Gr) (I' : Mem) (J' : Nat → Nat → Int64), (bd (nwO 6 (mm g I J (some (A + 1)))) fun a_255 h => bd (fX6_init a_255 h) fun _ h => (pP 8 A 0 a_255 h).bind fun h => bd (nwP 6 (nI 5) h) fun a_256 h => (pP 8 A 1 a_256 h).bind fun h => K h) = K (mm g' I' J' (some (A + 69))) ∧ (∀ a, a < A → Sm3 g g' a ∧ I' a = I a) ∧ JA g' A ∧ JM I' A := by
  obtain ⟨g1, I1, J1, e1, s1, S1, z1, z2⟩ := N_state (g := gN g (A + 1) (6 + 1) 0) (r := A + 1) (I := up1 I (A + 1) (fun _ => 0)) (J := up1 J (A + 1) (fun _ => 0)) gN_k
  have k1 : g1.1 A = 8 + 1 := (s1 A (by omega)).1.1.trans ((gN_s (by omega)).1.trans hr)
  have k2 : (gR g1 A 0 (A + 1)).1 A = 8 + 1 := k1
  refine ⟨gR (gN (gR g1 A 0 (A + 1)) (A + 68) (30 + 6) 5) A 1 (A + 68), up1 I1 (A + 68) (fun _ => 0), up1 J1 (A + 68) (fun _ => 0), ?_, fun a ha => ⟨((((gN_s (by omega)).trans (s1 a (by omega)).1).trans (gR_s (by omega))).trans (gN_s (by omega))).trans (gR_s (by omega)), by rw [up1_ne (by omega), (s1 a (by omega)).2, up1_ne (by omega)]⟩, ⟨(gN_s (g := gR g1 A 0 (A + 1)) (n := A + 68) (a := A) (k := 30 + 6) (z := 5) (by omega)).1.trans k1, S1.sm (fun a q1 q2 => ((gR_s (by omega)).trans (gN_s (by omega))).trans (gR_s (by omega))), ?_, gR_at, gN_k (g := gR g1 A 0 (A + 1)) (n := A + 68) (k := 30 + 6) (z := 5), gN_l (g := gR g1 A 0 (A + 1)) (n := A + 68) (k := 30 + 6) (z := 5)⟩, (JM.fr (I := I1) ⟨z1, z2⟩ (fun a q1 q2 => up1_ne (by omega)))⟩
  · rw [nwO_m, bd_some, e1, bd_some, pP_m k1, Option.bind_some, show A + 1 + 67 = A + 68 from rfl, N_stP (by omega) k2 (by omega)]
  · rw [gR_ne (by decide), (gN_s (g := gR g1 A 0 (A + 1)) (n := A + 68) (a := A) (k := 30 + 6) (z := 5) (by omega)).2.2, gR_at]
theorem N_j25 : ∀ (d k f : Nat) (g : Gr) (I : Mem) (J : Nat → Nat → Int64), k + d = 5 → d < f → JA g A → (∀ j, j < k → g.2.2 (A + 68) j = some (A + 69 + 67 * j) ∧ StG g (A + 69 + 67 * j)) →
    ∃ (f' : Nat) (g' : Gr) (I' : Mem) (J' : Nat → Nat → Int64), lX8_init_25 f A (nI k) (mm g I J (some (A + 69 + 67 * k))) = lX8_init_25 (f' + 1) A (nI 5) (mm g' I' J' (some (A + 404))) ∧ (∀ a, a < A + 69 → a ≠ A + 68 → Sm3 g g' a) ∧ (∀ a, a < A + 69 → I' a = I a) ∧ JB g' A := by
  intro d
  induction d with
  | zero =>
    intro k f g I J hi hf h1 h2
    obtain ⟨f, rfl⟩ : ∃ z, f = z + 1 := ⟨f - 1, by omega⟩
    have e : k = 5 := by omega
    subst e
    exact ⟨f, g, I, J, rfl, fun _ _ _ => Sm3.refl, fun _ _ => rfl, h1, h2⟩
  | succ d ih =>
    intro k f g I J hi hf h1 h2
    obtain ⟨f, rfl⟩ : ∃ z, f = z + 1 := ⟨f - 1, by omega⟩
    obtain ⟨g2, I2, J2, e2, s2, c2, -, -⟩ := N_state (g := gN g (A + 69 + 67 * k) (6 + 1) 0) (r := A + 69 + 67 * k) (I := up1 I (A + 69 + 67 * k) (fun _ => 0)) (J := up1 J (A + 69 + 67 * k) (fun _ => 0)) gN_k
    have t2 : ∀ a, a < A + 69 + 67 * k → Sm3 g g2 a := fun a ha => (gN_s (by omega)).trans (s2 a ha).1
    have t3 : ∀ a, a < A + 69 + 67 * k → a ≠ A + 68 → Sm3 g (gR g2 (A + 68) k (A + 69 + 67 * k)) a := fun a ha hn => (t2 a ha).trans (gR_s hn)
    have u2 := t2 (A + 68) (by omega)
    have tA := t3 A (by omega) (by omega)
    obtain ⟨f', g', I', J', a1, a2, a3, a4⟩ := ih (k + 1) f (gR g2 (A + 68) k (A + 69 + 67 * k)) I2 J2 (by omega) (by omega) (h1.sm (tA.1.trans h1.1) (congrFun tA.2.2 0) (congrFun tA.2.2 1) (fun a q1 q2 q3 => t3 a (by omega) q3) ⟨u2.1, u2.2.1⟩) (fun j hj => by
      by_cases q : j = k
      · subst q
        exact ⟨gR_at, c2.sm (fun a q1 q2 => gR_s (by omega))⟩
      · obtain ⟨p1, p2⟩ := h2 j (by omega)
        exact ⟨(gR_ne q).trans ((congrFun u2.2.2 j).trans p1), p2.sm (fun a q1 q2 => t3 a (by omega) (by omega))⟩)
    refine ⟨f', g', I', J', ?_, fun a q1 q2 => (t3 a (by omega) q2).trans (a2 a q1 q2), fun a q1 => by rw [a3 a q1, (s2 a (by omega)).2, up1_ne (by omega)], a4⟩
    refine Eq.trans ?_ a1
    show bX8_init_25 (lX8_init_25 f) A _ _ = _
    unfold bX8_init_25
    rw [if_neg (nI_ge (by omega) (by omega)), gP_m h1.1 h1.2.2.2.1, Option.bind_some, nwO_m, bd_some, e2, bd_some, stP_m (u2.1.trans h1.2.2.2.2.1) (by rw [u2.2.1, h1.2.2.2.2.2]; omega) (by omega) c2.1, Option.bind_some, nI_add, show A + 69 + 67 * k + 67 = A + 69 + 67 * (k + 1) from by omega]
/-- a compiler, a linker -/
theorem N_com (hq : g.1 q = 1 + 1) : ∃ (g' : Gr) (I' : Mem) (J' : Nat → Nat → Int64), fX1_init q l (mm g I J (some (q + 1))) = some ((), mm g' I' J' (some (q + 3))) ∧ (∀ a, a < q → Sm3 g g' a ∧ I' a = I a) ∧ CoG g' q l := by
  obtain ⟨I1, J1, e1, f1, -⟩ := N_sym (g := g) (n := q + 1) (I := I) (J := J) (K := fun a_3 h => (pP 1 q 1 a_3 h).bind fun h => bd (nwI (nI 40) h) fun a_4 h => (pP 1 q 2 a_4 h).bind fun h => (pI 1 q 3 (nI 0) h).bind fun h => (pZ 1 q 4 (nI 0) h).bind fun h => (pP 1 q 0 l h).bind fun h => some ((), h))
  have k1 : (gN g (q + 1) 8 0).1 q = 1 + 1 := (gN_s (by omega)).1.trans hq
  have k2 : (gR (gN g (q + 1) 8 0) q 1 (q + 1)).1 q = 1 + 1 := k1
  have k3 : (gR (gN (gR (gN g (q + 1) 8 0) q 1 (q + 1)) (q + 2) 20 40) q 2 (q + 2)).1 q = 1 + 1 := (gN_s (g := gR (gN g (q + 1) 8 0) q 1 (q + 1)) (n := q + 2) (k := 20) (z := 40) (a := q) (by omega)).1.trans k1
  have n1 : ∀ j, (gN (gR (gN g (q + 1) 8 0) q 1 (q + 1)) (q + 2) 20 40).2.2 q j = (gR (gN g (q + 1) 8 0) q 1 (q + 1)).2.2 q j := fun j => congrFun (gN_s (g := gR (gN g (q + 1) 8 0) q 1 (q + 1)) (n := q + 2) (k := 20) (z := 40) (a := q) (by omega)).2.2 j
  refine ⟨gR (gR (gN (gR (gN g (q + 1) 8 0) q 1 (q + 1)) (q + 2) 20 40) q 2 (q + 2)) q 0 l, up2 (up2 (up1 I1 (q + 2) (fun _ => 0)) q 3 (nI 0)) q 4 (nI 0), up1 J1 (q + 2) (fun _ => 0), (show fX1_init q l (mm g I J (some (q + 1))) = _ from e1).trans ?_, fun a ha => ⟨((((gN_s (by omega)).trans (gR_s (by omega))).trans (gN_s (by omega))).trans (gR_s (by omega))).trans (gR_s (by omega)), by rw [up2_ne (by omega), up2_ne (by omega), up1_ne (by omega), f1 a (by omega)]⟩, k3, gR_at, ?_, ?_, ?_, gN_k (g := gR (gN g (q + 1) 8 0) q 1 (q + 1)) (n := q + 2) (k := 20) (z := 40), gN_l (g := gR (gN g (q + 1) 8 0) q 1 (q + 1)) (n := q + 2) (k := 20) (z := 40)⟩
  · show ((pP 1 q 1 (q + 1) (mm (gN g (q + 1) 8 0) I1 J1 (some (q + 2)))).bind fun h => bd (nwI (nI 40) h) fun a_4 h => (pP 1 q 2 a_4 h).bind fun h => (pI 1 q 3 (nI 0) h).bind fun h => (pZ 1 q 4 (nI 0) h).bind fun h => (pP 1 q 0 l h).bind fun h => some ((), h)) = _
    rw [pP_m k1, Option.bind_some, N_st (by omega) k2 (by omega), pI_m k3, Option.bind_some, pZ_m (x := nI 0) k3 (Or.inl rfl), Option.bind_some, pP_m k3, Option.bind_some]
  · rw [gR_ne (by decide), gR_ne (by decide), n1, gR_at]
  · show (gN (gR (gN g (q + 1) 8 0) q 1 (q + 1)) (q + 2) 20 40).1 (q + 1) = 8
    exact (gN_s (g := gR (gN g (q + 1) 8 0) q 1 (q + 1)) (n := q + 2) (k := 20) (z := 40) (a := q + 1) (by omega)).1.trans (gN_k (g := g) (n := q + 1) (k := 8) (z := 0))
  · rw [gR_ne (by decide), gR_at]
theorem N_lnk {Z : Option Nat} (hq : g.1 q = 3 + 1) : fX3_init q l (mm g I J Z) = some ((), mm (gR g q 0 l) (up2 I q 1 (-2)) J Z) := by
  unfold fX3_init
  rw [pI_m hq, Option.bind_some, pP_m hq, Option.bind_some]
theorem CoG.sm (h : CoG g q l) (hs : ∀ a, q ≤ a → a < q + 3 → Sm3 g g' a) : CoG g' q l := by
  obtain ⟨h1, h2, h3, h4, h5, h6, h7⟩ := h
  have s0 := hs q (by omega) (by omega)
  have s1 := hs (q + 1) (by omega) (by omega)
  have s2 := hs (q + 2) (by omega) (by omega)
  exact ⟨s0.1.trans h1, (congrFun s0.2.2 0).trans h2, (congrFun s0.2.2 1).trans h3, s1.1.trans h4, (congrFun s0.2.2 2).trans h5, s2.1.trans h6, s2.2.1.trans h7⟩
theorem LkG.sm (h : LkG g q l) (hs : Sm3 g g' q) : LkG g' q l := ⟨hs.1.trans h.1, (congrFun hs.2.2 0).trans h.2⟩
theorem JC.sm (h : JC g A) (hs : ∀ a, A ≤ a → a < A + 407 → Sm3 g g' a) (h7 : g'.1 (A + 407) = g.1 (A + 407) ∧ g'.2.1 (A + 407) = g.2.1 (A + 407)) (h8 : g'.1 (A + 408) = g.1 (A + 408) ∧ g'.2.1 (A + 408) = g.2.1 (A + 408)) : JC g' A := by
  obtain ⟨q1, ⟨q2, q3⟩, q4, q5, ⟨q6, q7, q8⟩, q9, q10, q11⟩ := h
  have s0 := hs A (by omega) (by omega)
  exact ⟨q1.sm (s0.1.trans q1.1.1) (congrFun s0.2.2 0) (congrFun s0.2.2 1) (fun a z1 z2 => hs a (by omega) (by omega)), ⟨(congrFun s0.2.2 4).trans q2, (hs _ (by omega) (by omega)).1.trans q3⟩, (congrFun s0.2.2 5).trans q4, q5.sm (fun a z1 z2 => hs a (by omega) (by omega)), ⟨(congrFun s0.2.2 6).trans q6, h7.1.trans q7, h7.2.trans q8⟩, (congrFun s0.2.2 7).trans q9, h8.1.trans q10, h8.2.trans q11⟩
theorem N_j99 {K : Nat → Int32 → AH → Option (Unit × AH)} {v : Nat} (hv : v < 2) (hn : A + 408 < n) (h : JC g A) : ∃ (g' : Gr) (I' : Mem) (J' : Nat → Nat → Int64), bX8_init_99 K A (nI v) (mm g I J (some n)) = K A (nI (v + 1)) (mm g' I' J' (some (n + 4))) ∧ (∀ a, a < n → a ≠ A + 407 → a ≠ A + 408 → Sm3 g g' a) ∧ (∀ a, a < n → I' a = I a) ∧ JC g' A ∧ (∀ j, j ≠ v → g'.2.2 (A + 407) j = g.2.2 (A + 407) j ∧ g'.2.2 (A + 408) j = g.2.2 (A + 408) j) ∧ g'.2.2 (A + 407) v = some n ∧ g'.2.2 (A + 408) v = some (n + 3) ∧ CoG g' n (A + 4 + 20 * v) ∧ LkG g' (n + 3) (A + 4 + 20 * v) := by
  have hA := h.1.1
  obtain ⟨g2, I2, J2, e2, s2, c2⟩ := N_com (g := gN g n (1 + 1) 0) (q := n) (l := A + 1 + 3 + 20 * v) (I := up1 I n (fun _ => 0)) (J := up1 J n (fun _ => 0)) gN_k
  have t2 : ∀ a, a < n → Sm3 g g2 a := fun a ha => (gN_s (by omega)).trans (s2 a ha).1
  have h1 : JC (gN g n (1 + 1) 0) A := h.sm (fun a q1 q2 => gN_s (by omega)) ⟨(gN_s (by omega)).1, (gN_s (by omega)).2.1⟩ ⟨(gN_s (by omega)).1, (gN_s (by omega)).2.1⟩
  have h2 : JC (gR g2 (A + 407) v n) A := h.sm (fun a q1 q2 => (t2 a (by omega)).trans (gR_s (by omega))) ⟨(t2 _ (by omega)).1, (t2 _ (by omega)).2.1⟩ ⟨(t2 _ (by omega)).1, (t2 _ (by omega)).2.1⟩
  have t3 : ∀ a, a < n + 3 → Sm3 (gR g2 (A + 407) v n) (gR (gN (gR g2 (A + 407) v n) (n + 3) (3 + 1) 0) (n + 3) 0 (A + 1 + 3 + 20 * v)) a := fun a ha => (gN_s (by omega)).trans (gR_s (by omega))
  have h3 : JC (gN (gR g2 (A + 407) v n) (n + 3) (3 + 1) 0) A := h2.sm (fun a q1 q2 => gN_s (by omega)) ⟨(gN_s (by omega)).1, (gN_s (by omega)).2.1⟩ ⟨(gN_s (by omega)).1, (gN_s (by omega)).2.1⟩
  have h4 : JC (gR (gN (gR g2 (A + 407) v n) (n + 3) (3 + 1) 0) (n + 3) 0 (A + 1 + 3 + 20 * v)) A := h2.sm (fun a q1 q2 => t3 a (by omega)) ⟨(t3 _ (by omega)).1, (t3 _ (by omega)).2.1⟩ ⟨(t3 _ (by omega)).1, (t3 _ (by omega)).2.1⟩
  have kn : (gN (gR g2 (A + 407) v n) (n + 3) (3 + 1) 0).1 (n + 3) = 3 + 1 := gN_k
  have el : A + 1 + 3 + 20 * v = A + 4 + 20 * v := by omega
  refine ⟨gR (gR (gN (gR g2 (A + 407) v n) (n + 3) (3 + 1) 0) (n + 3) 0 (A + 1 + 3 + 20 * v)) (A + 408) v (n + 3), up2 (up1 I2 (n + 3) (fun _ => 0)) (n + 3) 1 (-2), up1 J2 (n + 3) (fun _ => 0), ?_, fun a q1 q2 q3 => (((t2 a q1).trans (gR_s q2)).trans (t3 a (by omega))).trans (gR_s q3), fun a q1 => by rw [up2_ne (by omega), up1_ne (by omega), (s2 a q1).2, up1_ne (by omega)], h4.sm (fun a q1 q2 => gR_s (by omega)) ⟨rfl, rfl⟩ ⟨rfl, rfl⟩, fun j hj => ⟨?_, ?_⟩, ?_, gR_at, ?_, ?_⟩
  · unfold bX8_init_99
    rw [if_neg (nI_ge hv (by omega)), gP_m hA.1 h.2.2.2.2.1.1, Option.bind_some, nwO_m, bd_some, gP_m h1.1.1.1 h1.1.1.2.2.1, Option.bind_some, st_p0 h1.1.1.2.1, Option.bind_some, st_lib h1.1.1.2.1 hv, Option.bind_some, e2, bd_some, stP_m ((t2 (A + 407) (by omega)).1.trans h.2.2.2.2.1.2.1) (by rw [(t2 (A + 407) (by omega)).2.1, h.2.2.2.2.1.2.2]; exact hv) (by omega) c2.1, Option.bind_some, gP_m h2.1.1.1 h2.2.2.2.2.2.1, Option.bind_some, nwO_m, bd_some, gP_m h3.1.1.1 h3.1.1.2.2.1, Option.bind_some, st_p0 h3.1.1.2.1, Option.bind_some, st_lib h3.1.1.2.1 hv, Option.bind_some, N_lnk kn, bd_some, stP_m h4.2.2.2.2.2.2.1 (by rw [h4.2.2.2.2.2.2.2]; exact hv) (by omega) kn, Option.bind_some, nI_add]
  · rw [(gR_s (g := gR (gN (gR g2 (A + 407) v n) (n + 3) (3 + 1) 0) (n + 3) 0 (A + 1 + 3 + 20 * v)) (a := A + 407) (by omega)).2.2, (t3 _ (by omega)).2.2, gR_ne hj, (t2 _ (by omega)).2.2]
  · rw [gR_ne hj, (t3 _ (by omega)).2.2, (gR_s (g := g2) (a := A + 408) (by omega)).2.2, (t2 _ (by omega)).2.2]
  · rw [(gR_s (g := gR (gN (gR g2 (A + 407) v n) (n + 3) (3 + 1) 0) (n + 3) 0 (A + 1 + 3 + 20 * v)) (a := A + 407) (by omega)).2.2, (t3 _ (by omega)).2.2, gR_at]
  · rw [← el]
    exact c2.sm (fun a q1 q2 => ((gR_s (by omega)).trans (t3 a (by omega))).trans (gR_s (by omega)))
  · rw [← el]
    exact LkG.sm (g := gR (gN (gR g2 (A + 407) v n) (n + 3) (3 + 1) 0) (n + 3) 0 (A + 1 + 3 + 20 * v)) ⟨kn, gR_at⟩ (gR_s (by omega))
/-- the judge's cells -/
theorem N_jC {K : AH → Option (Unit × AH)} (h : JB g A) (hm : JM I A) : ∃ (g' : Gr) (I' : Mem) (J' : Nat → Nat → Int64), ((pI 8 A 2 (nI 0) (mm g I J (some (A + 404)))).bind fun h =>
    (pI 8 A 3 (nI 0) h).bind fun h => bd (nwO 5 h) fun a_213 h => bd (fX5_init a_213 h) fun _ h => (pP 8 A 4 a_213 h).bind fun h => bd (nwO 0 h) fun a_214 h => bd (fX0_init a_214 h) fun _ h => (pP 8 A 5 a_214 h).bind fun h => bd (nwP 1 (nI 2) h) fun a_215 h => (pP 8 A 6 a_215 h).bind fun h => bd (nwP 3 (nI 2) h) fun a_216 h => (pP 8 A 7 a_216 h).bind fun h => K h) = K (mm g' I' J' (some (A + 409))) ∧ (∀ a, a < A → Sm3 g g' a ∧ I' a = I a) ∧ JC g' A ∧ JM I' A ∧ I' A 2 = nI 0 ∧ I' A 3 = nI 0 ∧ I' (A + 404) 0 = -1 ∧ I' (A + 404) 1 = nI 0 ∧ I' (A + 404) 2 = -2 ∧ I' (A + 404) 3 = -2 := by
  have hA := h.1
  have k5 : (gN g (A + 404) (5 + 1) 0).1 (A + 404) = 5 + 1 := gN_k
  have kA : (gN g (A + 404) (5 + 1) 0).1 A = 8 + 1 := (gN_s (by omega)).1.trans hA.1
  let g6 := gR (gN g (A + 404) (5 + 1) 0) A 4 (A + 404)
  let I4 := up2 (up2 (up2 (up2 (up1 (up2 (up2 I A 2 (nI 0)) A 3 (nI 0)) (A + 404) (fun _ => 0)) (A + 404) 0 (-1)) (A + 404) 1 (nI 0)) (A + 404) 2 (-2)) (A + 404) 3 (-2)
  have t6 : ∀ a, a < A + 404 → a ≠ A → Sm3 g g6 a := fun a q1 q2 => (gN_s (by omega)).trans (gR_s q2)
  obtain ⟨g7, I7, J7, e7, s7, c7⟩ := N_cli (g := gN g6 (A + 405) (0 + 1) 0) (r := A + 405) (I := up1 I4 (A + 405) (fun _ => 0)) (J := up1 (up1 J (A + 404) (fun _ => 0)) (A + 405) (fun _ => 0)) gN_k
  have t7 : ∀ a, a < A + 405 → Sm3 g6 g7 a := fun a q1 => (gN_s (by omega)).trans (s7 a q1).1
  have k7 : g7.1 A = 8 + 1 := (t7 A (by omega)).1.trans kA
  let g8 := gR g7 A 5 (A + 405)
  have k8 : g8.1 A = 8 + 1 := k7
  let g9 := gR (gN g8 (A + 407) (30 + 1) 2) A 6 (A + 407)
  have k9 : g9.1 A = 8 + 1 := (gN_s (g := g8) (n := A + 407) (k := 30 + 1) (z := 2) (a := A) (by omega)).1.trans k8
  let g10 := gR (gN g9 (A + 408) (30 + 3) 2) A 7 (A + 408)
  have k10 : g10.1 A = 8 + 1 := (gN_s (g := g9) (n := A + 408) (k := 30 + 3) (z := 2) (a := A) (by omega)).1.trans k9
  have t10 : ∀ a, a < A + 407 → a ≠ A → Sm3 g7 g10 a := fun a q1 q2 => ((((gR_s q2).trans (gN_s (by omega))).trans (gR_s q2)).trans (gN_s (by omega))).trans (gR_s q2)
  have r9 : ∀ j, j ≠ 6 → g9.2.2 A j = g8.2.2 A j := fun j hj => (gR_ne hj).trans (congrFun (gN_s (g := g8) (n := A + 407) (k := 30 + 1) (z := 2) (a := A) (by omega)).2.2 j)
  have r10 : ∀ j, j ≠ 7 → g10.2.2 A j = g9.2.2 A j := fun j hj => (gR_ne hj).trans (congrFun (gN_s (g := g9) (n := A + 408) (k := 30 + 3) (z := 2) (a := A) (by omega)).2.2 j)
  have r6 : ∀ j, j ≠ 4 → g6.2.2 A j = g.2.2 A j := fun j hj => (gR_ne hj).trans (congrFun (gN_s (g := g) (n := A + 404) (k := 5 + 1) (z := 0) (a := A) (by omega)).2.2 j)
  have r7 : ∀ j, g7.2.2 A j = g6.2.2 A j := fun j => congrFun (t7 A (by omega)).2.2 j
  have r8 : ∀ j, j ≠ 5 → g8.2.2 A j = g7.2.2 A j := fun j hj => gR_ne hj
  have iA : ∀ a, a < A + 405 → up1 (up1 I7 (A + 407) (fun _ => 0)) (A + 408) (fun _ => 0) a = I4 a := fun a q => by rw [up1_ne (by omega), up1_ne (by omega), (s7 a q).2, up1_ne (by omega)]
  have iB : ∀ a, a < A + 404 → I4 a = up2 (up2 I A 2 (nI 0)) A 3 (nI 0) a := fun a q => by
    show up2 (up2 (up2 (up2 (up1 (up2 (up2 I A 2 (nI 0)) A 3 (nI 0)) (A + 404) (fun _ => 0)) (A + 404) 0 (-1)) (A + 404) 1 (nI 0)) (A + 404) 2 (-2)) (A + 404) 3 (-2) a = _
    rw [up2_ne (by omega), up2_ne (by omega), up2_ne (by omega), up2_ne (by omega), up1_ne (by omega)]
  refine ⟨g10, up1 (up1 I7 (A + 407) (fun _ => 0)) (A + 408) (fun _ => 0), up1 (up1 J7 (A + 407) (fun _ => 0)) (A + 408) (fun _ => 0), ?_, fun a ha => ⟨((t6 a (by omega) (by omega)).trans (t7 a (by omega))).trans (t10 a (by omega) (by omega)), by rw [iA a (by omega), iB a (by omega), up2_ne (by omega), up2_ne (by omega)]⟩, ⟨h.sm k10 ?_ ?_ (fun a q1 q2 => ((t6 a (by omega) (by omega)).trans (t7 a (by omega))).trans (t10 a (by omega) (by omega))), ⟨?_, ?_⟩, ?_, c7.sm (fun a q1 q2 => t10 a (by omega) (by omega)), ⟨?_, ?_, ?_⟩, gR_at, gN_k (g := g9) (n := A + 408) (k := 30 + 3) (z := 2), gN_l (g := g9) (n := A + 408) (k := 30 + 3) (z := 2)⟩, hm.fr (fun a q1 q2 => by rw [iA a (by omega), iB a (by omega), up2_ne (by omega), up2_ne (by omega)]), ?_, ?_, ?_, ?_, ?_, ?_⟩
  · rw [pI_m hA.1, Option.bind_some, pI_m hA.1, Option.bind_some, nwO_m, bd_some]
    unfold fX5_init
    rw [pI_m k5, Option.bind_some, pI_m k5, Option.bind_some, pI_m k5, Option.bind_some, pI_m k5, Option.bind_some, bd_some, pP_m kA, Option.bind_some, nwO_m, bd_some]
    show bd (fX0_init (A + 405) (mm (gN g6 (A + 405) (0 + 1) 0) (up1 I4 (A + 405) (fun _ => 0)) (up1 (up1 J (A + 404) (fun _ => 0)) (A + 405) (fun _ => 0)) (some (A + 405 + 1)))) _ = _
    rw [e7, bd_some, pP_m k7, Option.bind_some, show A + 405 + 2 = A + 407 from rfl, N_stP (by omega) k8 (by omega), show A + 407 + 1 = A + 408 from rfl, N_stP (by omega) k9 (by omega)]
  · rw [r10 0 (by decide), r9 0 (by decide), r8 0 (by decide), r7 0, r6 0 (by decide)]
  · rw [r10 1 (by decide), r9 1 (by decide), r8 1 (by decide), r7 1, r6 1 (by decide)]
  · rw [r10 4 (by decide), r9 4 (by decide), r8 4 (by decide), r7 4]; exact gR_at
  · exact (t10 _ (by omega) (by omega)).1.trans ((t7 _ (by omega)).1.trans k5)
  · rw [r10 5 (by decide), r9 5 (by decide)]; exact gR_at
  · rw [r10 6 (by decide)]; exact gR_at
  · exact (gN_s (g := g9) (n := A + 408) (k := 30 + 3) (z := 2) (a := A + 407) (by omega)).1.trans (gN_k (g := g8) (n := A + 407) (k := 30 + 1) (z := 2))
  · exact (gN_s (g := g9) (n := A + 408) (k := 30 + 3) (z := 2) (a := A + 407) (by omega)).2.1.trans (gN_l (g := g8) (n := A + 407) (k := 30 + 1) (z := 2))
  · rw [iA _ (by omega), iB _ (by omega), up2_at, if_neg (by decide), up2_at, if_pos rfl]
  · rw [iA _ (by omega), iB _ (by omega), up2_at, if_pos rfl]
  · rw [iA _ (by omega)]; simp [I4, up2]
  · rw [iA _ (by omega)]; simp [I4, up2]
  · rw [iA _ (by omega)]; simp [I4, up2]
  · rw [iA _ (by omega)]; simp [I4, up2]
/-- the judge before its first classes -/
theorem N_j0 (hr : g.1 A = 8 + 1) : ∃ (g' : Gr) (I' : Mem) (J' : Nat → Nat → Int64), fX8_init A (mm g I J (some (A + 1))) = lX8_init_99 1 A (nI 2) (mm g' I' J' (some (A + 417))) ∧ (∀ a, a < A → Sm3 g g' a ∧ I' a = I a) ∧ JG g' A ∧ JM I' A ∧ I' A 2 = nI 0 ∧ I' A 3 = nI 0 ∧ I' (A + 404) 0 = -1 ∧ I' (A + 404) 1 = nI 0 ∧ I' (A + 404) 2 = -2 ∧ I' (A + 404) 3 = -2 := by
  obtain ⟨g1, I1, J1, e1, s1, A1, M1⟩ := N_jA (K := lX8_init_25 6 A (nI 0)) (I := I) (J := J) hr
  obtain ⟨f2, g2, I2, J2, e2, s2, i2, B2⟩ := N_j25 5 0 6 g1 I1 J1 (by omega) (by omega) A1 (fun j hj => absurd hj (by omega))
  obtain ⟨g3, I3, J3, e3, s3, C3, M3, z1, z2, z3, z4, z5, z6⟩ := N_jC (K := lX8_init_99 3 A (nI 0)) (J := J2) B2 (M1.fr (fun a q1 q2 => i2 a (by omega)))
  obtain ⟨g4, I4, J4, e4, s4, i4, C4, n4, v4, w4, c4, l4⟩ := N_j99 (K := lX8_init_99 2) (I := I3) (J := J3) (n := A + 409) (v := 0) (by omega) (by omega) C3
  obtain ⟨g5, I5, J5, e5, s5, i5, C5, n5, v5, w5, c5, l5⟩ := N_j99 (K := lX8_init_99 1) (I := I4) (J := J4) (n := A + 413) (v := 1) (by omega) (by omega) C4
  have ii : ∀ a, a < A + 409 → I5 a = I3 a := fun a q => by rw [i5 a (by omega), i4 a (by omega)]
  obtain ⟨p1, ⟨p2, p3⟩, p4, p5, ⟨p6, p7, p8⟩, p9, p10, p11⟩ := C5
  refine ⟨g5, I5, J5, ?_, fun a ha => ⟨((((s1 a ha).1.trans (s2 a (by omega) (by omega))).trans (s3 a ha).1).trans (s4 a (by omega) (by omega) (by omega))).trans (s5 a (by omega) (by omega) (by omega)), by rw [ii a (by omega), (s3 a ha).2, i2 a (by omega), (s1 a ha).2]⟩, ⟨⟨p1.1.1, ⟨p6, p7, p8, (n5 0 (by decide)).1.trans v4, v5⟩, ⟨p9, p10, p11, (n5 0 (by decide)).2.trans w4, w5⟩, c4.sm (fun a q1 q2 => s5 a (by omega) (by omega) (by omega)), l4.sm (s5 _ (by omega) (by omega) (by omega)), c5, l5⟩, p1.1.2.1, p1.1.2.2.1, p1.1.2.2.2.1, ⟨p1.1.2.2.2.2.1, p1.1.2.2.2.2.2, fun k hk => (p1.2 k hk).1⟩, fun k hk => (p1.2 k hk).2, ⟨p2, p3⟩, p4, p5⟩, M3.fr (fun a q1 q2 => ii a (by omega)), by rw [ii _ (by omega)]; exact z1, by rw [ii _ (by omega)]; exact z2, by rw [ii _ (by omega)]; exact z3, by rw [ii _ (by omega)]; exact z4, by rw [ii _ (by omega)]; exact z5, by rw [ii _ (by omega)]; exact z6⟩
  unfold fX8_init
  refine e1.trans (e2.trans ?_)
  show bX8_init_25 (lX8_init_25 f2) A (nI 5) (mm g2 I2 J2 (some (A + 404))) = _
  unfold bX8_init_25
  rw [if_pos (nI_le (by omega) (by omega))]
  exact e3.trans (e4.trans e5)
end Nj

/-! ===== new cells: a client, a state ===== -/
/-- a library that is new -/
def LZ (I : Mem) (a : Nat) : Prop := (∀ i, i < 5 → I a i = nI 0) ∧ (∀ j, 1 ≤ j → j ≤ 5 → ∀ i, I (a + j) i = 0) ∧ I (a + 6) 0 = nI 0
section Ns
variable {g g' : Gr} {r b n c e k z s : Nat} {I I' : Mem} {J : Nat → Nat → Int64} {F : List (Nat × Nat × Nat × Nat)} {γ : Type}
theorem LZ.fr (h : LZ I b) (hf : ∀ a, b ≤ a → a < b + 20 → I' a = I a) : LZ I' b :=
  ⟨fun i hi => by rw [hf b (by omega) (by omega)]; exact h.1 i hi, fun j h1 h2 i => by rw [hf _ (by omega) (by omega)]; exact h.2.1 j h1 h2 i, by rw [hf _ (by omega) (by omega)]; exact h.2.2⟩
theorem ClG.sm (h : ClG g b) (hs : ∀ a, b ≤ a → a < b + 2 → Sm3 g g' a) : ClG g' b :=
  ⟨(hs b (by omega) (by omega)).1.trans h.1, (congrFun (hs b (by omega) (by omega)).2.2 8).trans h.2.1, (hs (b + 1) (by omega) (by omega)).1.trans h.2.2⟩
theorem LibG.sm (h : LibG g b) (hs : ∀ a, b ≤ a → a < b + 20 → Sm3 g g' a) : LibG g' b := by
  obtain ⟨h1, h2, h3, h4, h5, h6, h7⟩ := h
  have s0 := hs b (by omega) (by omega)
  have s19 := hs (b + 19) (by omega) (by omega)
  refine ⟨s0.1.trans h1, fun k hk => ?_, (congrFun s0.2.2 10).trans h3, h4.sm (fun a q1 q2 => hs a (by omega) (by omega)), (congrFun s0.2.2 11).trans h5, s19.1.trans h6, s19.2.1.trans h7⟩
  obtain ⟨q1, q2, q3⟩ := h2 k hk
  have s1 := hs (b + (k + 1)) (by omega) (by omega)
  exact ⟨(congrFun s0.2.2 _).trans q1, s1.1.trans q2, s1.2.1.trans q3⟩
theorem StG.sm (h : StG g s) (hs : ∀ a, s ≤ a → a < s + 67 → Sm3 g g' a) : StG g' s := by
  obtain ⟨h1, h2, h3, ⟨h4, h5, h6⟩, ⟨h7, h8, h9⟩, h10, h11⟩ := h
  have s0 := hs s (by omega) (by omega)
  have s1 := hs (s + 1) (by omega) (by omega)
  have s2 := hs (s + 2) (by omega) (by omega)
  exact ⟨s0.1.trans h1, (congrFun s0.2.2 0).trans h2, (congrFun s0.2.2 1).trans h3, ⟨s1.1.trans h4, s1.2.1.trans h5, fun v hv => (congrFun s1.2.2 v).trans (h6 v hv)⟩, ⟨s2.1.trans h7, s2.2.1.trans h8, fun v hv => (congrFun s2.2.2 v).trans (h9 v hv)⟩, fun v hv => (h10 v hv).sm (fun a q1 q2 => hs a (by omega) (by omega)), fun v hv => (h11 v hv).sm (fun a q1 q2 => hs a (by omega) (by omega))⟩
theorem N_stP {K : AH → Option γ} (hz : z < 2 ^ 31) (hr : g.1 r = c + 1) (hrn : r < n) : (bd (nwP e (nI z) (mm g I J (some n))) fun a h => (pP c r k a h).bind fun h => K h) = K (mm (gR (gN g n (30 + e) z) r k n) (up1 I n (fun _ => 0)) (up1 J n (fun _ => 0)) (some (n + 1))) := by
  rw [nwP_m hz, bd_some, pP_m ((gN_s (g := g) (n := n) (k := 30 + e) (z := z) (by omega)).1.trans hr), Option.bind_some]
theorem N_cli (hr : g.1 r = 0 + 1) : ∃ (g' : Gr) (I' : Mem) (J' : Nat → Nat → Int64), fX0_init r (mm g I J (some (r + 1))) = some ((), mm g' I' J' (some (r + 2))) ∧ (∀ a, a < r → Sm3 g g' a ∧ I' a = I a) ∧ ClG g' r := by
  unfold fX0_init
  rw [pI_m hr, Option.bind_some, pI_m hr, Option.bind_some, pI_m hr, Option.bind_some, pI_m hr, Option.bind_some, pI_m hr, Option.bind_some, pI_m hr, Option.bind_some, pI_m hr, Option.bind_some, pI_m hr, Option.bind_some]
  obtain ⟨I1, J1, e1, f1, -⟩ := N_sym (g := g) (n := r + 1) (I := up2 (up2 (up2 (up2 (up2 (up2 (up2 (up2 I r 0 (nI 0)) r 1 (nI 0)) r 2 (-2)) r 3 (nI 0)) r 4 (nI 0)) r 5 (-2)) r 6 (-2)) r 7 (-2)) (J := J) (K := fun a_2 h => (pP 0 r 8 a_2 h).bind fun h => some ((), h))
  have hk : (gN g (r + 1) 8 0).1 r = 0 + 1 := (gN_s (by omega)).1.trans hr
  refine ⟨gR (gN g (r + 1) 8 0) r 8 (r + 1), I1, J1, e1.trans ?_, fun a ha => ⟨(gN_s (by omega)).trans (gR_s (by omega)), ?_⟩, hk, gR_at, gN_k (g := g) (n := r + 1) (k := 8) (z := 0)⟩
  · show (pP 0 r 8 (r + 1) (mm (gN g (r + 1) 8 0) I1 J1 (some (r + 1 + 1)))).bind (fun h => some ((), h)) = _
    rw [pP_m hk, Option.bind_some]
  · rw [f1 a (by omega), up2_ne (by omega), up2_ne (by omega), up2_ne (by omega), up2_ne (by omega), up2_ne (by omega), up2_ne (by omega), up2_ne (by omega), up2_ne (by omega)]
theorem N_st54 : ∀ (d k f : Nat) (g : Gr) (I : Mem) (J : Nat → Nat → Int64), k + d = 12 → d < f → g.1 r = 7 → g.2.2 r 1 = some (r + 2) → g.1 (r + 2) = 30 → g.2.1 (r + 2) = 12 → (∀ j, j < k → g.2.2 (r + 2) j = some (r + 43 + 2 * j) ∧ ClG g (r + 43 + 2 * j)) →
    ∃ (g' : Gr) (I' : Mem) (J' : Nat → Nat → Int64), lX6_init_54 f r (nI k) (mm g I J (some (r + 43 + 2 * k))) = some ((), mm g' I' J' (some (r + 67))) ∧ (∀ a, a < r + 43 → a ≠ r + 2 → Sm3 g g' a) ∧ (∀ a, a < r + 43 → I' a = I a) ∧ g'.1 (r + 2) = 30 ∧ g'.2.1 (r + 2) = 12 ∧ ∀ j, j < 12 → g'.2.2 (r + 2) j = some (r + 43 + 2 * j) ∧ ClG g' (r + 43 + 2 * j) := by
  intro d
  induction d with
  | zero =>
    intro k f g I J hi hf h1 h2 h3 h4 h5
    obtain ⟨f, rfl⟩ : ∃ z, f = z + 1 := ⟨f - 1, by omega⟩
    have e : k = 12 := by omega
    subst e
    refine ⟨g, I, J, ?_, fun _ _ _ => Sm3.refl, fun _ _ => rfl, h3, h4, h5⟩
    show bX6_init_54 (lX6_init_54 f) r _ _ = _
    unfold bX6_init_54
    rw [if_pos (nI_le (by omega) (by omega))]
  | succ d ih =>
    intro k f g I J hi hf h1 h2 h3 h4 h5
    obtain ⟨f, rfl⟩ : ∃ z, f = z + 1 := ⟨f - 1, by omega⟩
    obtain ⟨g2, I2, J2, e2, s2, c2⟩ := N_cli (g := gN g (r + 43 + 2 * k) (0 + 1) 0) (r := r + 43 + 2 * k) (I := up1 I (r + 43 + 2 * k) (fun _ => 0)) (J := up1 J (r + 43 + 2 * k) (fun _ => 0)) gN_k
    have t2 : ∀ a, a < r + 43 + 2 * k → Sm3 g g2 a := fun a ha => (gN_s (by omega)).trans (s2 a ha).1
    have t3 : ∀ a, a < r + 43 + 2 * k → a ≠ r + 2 → Sm3 g (gR g2 (r + 2) k (r + 43 + 2 * k)) a := fun a ha hn => (t2 a ha).trans (gR_s hn)
    have u2 := t2 (r + 2) (by omega)
    obtain ⟨g', I', J', a1, a2, a3, a4, a5, a6⟩ := ih (k + 1) f (gR g2 (r + 2) k (r + 43 + 2 * k)) I2 J2 (by omega) (by omega) ((t3 r (by omega) (by omega)).1.trans h1) ((congrFun (t3 r (by omega) (by omega)).2.2 1).trans h2) (u2.1.trans h3) (u2.2.1.trans h4) (fun j hj => by
      by_cases q : j = k
      · subst q
        exact ⟨gR_at, c2.sm (fun a q1 q2 => gR_s (by omega))⟩
      · obtain ⟨p1, p2⟩ := h5 j (by omega)
        exact ⟨(gR_ne q).trans ((congrFun u2.2.2 j).trans p1), p2.sm (fun a q1 q2 => t3 a (by omega) (by omega))⟩)
    refine ⟨g', I', J', ?_, fun a q1 q2 => (t3 a (by omega) q2).trans (a2 a q1 q2), fun a q1 => by rw [a3 a q1, (s2 a (by omega)).2, up1_ne (by omega)], a4, a5, a6⟩
    show bX6_init_54 (lX6_init_54 f) r _ _ = _
    unfold bX6_init_54
    rw [if_neg (nI_ge (by omega) (by omega)), gP_m h1 h2, Option.bind_some, nwO_m, bd_some, e2, bd_some, stP_m (u2.1.trans h3) (by rw [u2.2.1, h4]; omega) (by omega) c2.1, Option.bind_some, nI_add, show r + 43 + 2 * k + 2 = r + 43 + 2 * (k + 1) from by omega]
    exact a1
/-- a library into a state -/
theorem N_st28 {K : Nat → Int32 → AH → Option (Unit × AH)} {v : Nat} (hv : v < 2) (hn : r + 2 < n) (h1 : g.1 r = 7) (h2 : g.2.2 r 0 = some (r + 1)) (h3 : g.1 (r + 1) = 32) (h4 : g.2.1 (r + 1) = 2) : ∃ (g' : Gr) (I' : Mem) (J' : Nat → Nat → Int64), bX6_init_28 K r (nI v) (mm g I J (some n)) = K r (nI (v + 1)) (mm g' I' J' (some (n + 20))) ∧ (∀ a, a < n → a ≠ r + 1 → Sm3 g g' a) ∧ (∀ a, a < n → I' a = I a) ∧ g'.1 (r + 1) = 32 ∧ g'.2.1 (r + 1) = 2 ∧ (∀ j, j ≠ v → g'.2.2 (r + 1) j = g.2.2 (r + 1) j) ∧ g'.2.2 (r + 1) v = some n ∧ LibG g' n ∧ LZ I' n := by
  obtain ⟨g2, I2, J2, e2, s2, c2, z1, z2, z3, -⟩ := N_lib (g := gN g n (2 + 1) 0) (r := n) (I := up1 I n (fun _ => 0)) (J := up1 J n (fun _ => 0)) gN_k
  have t2 : ∀ a, a < n → Sm3 g g2 a := fun a ha => (gN_s (by omega)).trans (s2 a ha).1
  have u2 := t2 (r + 1) (by omega)
  refine ⟨gR g2 (r + 1) v n, I2, J2, ?_, fun a q1 q2 => (t2 a q1).trans (gR_s q2), fun a q1 => by rw [(s2 a q1).2, up1_ne (by omega)], u2.1.trans h3, u2.2.1.trans h4, fun j hj => (gR_ne hj).trans (congrFun u2.2.2 j), gR_at, c2.sm (fun a q1 q2 => gR_s (by omega)), z1, z2, z3⟩
  unfold bX6_init_28
  rw [if_neg (nI_ge hv (by omega)), gP_m h1 h2, Option.bind_some, nwO_m, bd_some, e2, bd_some, stP_m (u2.1.trans h3) (by rw [u2.2.1, h4]; exact hv) (by omega) c2.1, Option.bind_some, nI_add]
theorem N_state (hr : g.1 r = 6 + 1) : ∃ (g' : Gr) (I' : Mem) (J' : Nat → Nat → Int64), fX6_init r (mm g I J (some (r + 1))) = some ((), mm g' I' J' (some (r + 67))) ∧ (∀ a, a < r → Sm3 g g' a ∧ I' a = I a) ∧ StG g' r ∧ I' r 2 = nI 0 ∧ LZ I' (r + 3) := by
  unfold fX6_init
  obtain ⟨s1, r1, f1⟩ := FlN.put (kd := 30 + 2) (z := 2) (k := 0) (n := r + 1) hr (by omega) FlN.nil (by simp)
  obtain ⟨s2, r2, f2⟩ := FlN.put (kd := 30 + 0) (z := 12) (k := 1) (n := r + 2) r1 (by omega) f1 (by simp)
  rw [N_stP (by omega) hr (by omega), N_stP (n := r + 2) (by omega) r1 (by omega), pI_m r2, Option.bind_some]
  obtain ⟨p0, k1, l1⟩ := f2 (0, r + 1, 30 + 2, 2) (by simp)
  obtain ⟨p1, k2, l2⟩ := f2 (1, r + 2, 30 + 0, 12) (by simp)
  have sm : ∀ a, a < r → Sm3 g _ a := fun a ha => (s1 a (by omega) (by omega)).trans (s2 a (by omega) (by omega))
  have im : ∀ a, a < r → up2 (up1 (up1 I (r + 1) fun _ => 0) (r + 2) fun _ => 0) r 2 (nI 0) a = I a := fun a ha => by rw [up2_ne (by omega), up1_ne (by omega), up1_ne (by omega)]
  have i2 : up2 (up1 (up1 I (r + 1) fun _ => 0) (r + 2) fun _ => 0) r 2 (nI 0) r 2 = nI 0 := by rw [up2_at, if_pos rfl]
  generalize gR (gN (gR (gN g (r + 1) (30 + 2) 2) r 0 (r + 1)) (r + 2) (30 + 0) 12) r 1 (r + 2) = g3 at *
  generalize up2 (up1 (up1 I (r + 1) fun _ => 0) (r + 2) fun _ => 0) r 2 (nI 0) = I3 at *
  generalize up1 (up1 J (r + 1) fun _ => 0) (r + 2) (fun _ => 0) = J3 at *
  obtain ⟨g4, I4, J4, e4, s4, i4, k4, l4, n4, v4, L4, z4⟩ := N_st28 (K := lX6_init_28 2) (r := r) (n := r + 3) (g := g3) (I := I3) (J := J3) (v := 0) (by omega) (by omega) r2 p0 k1 l1
  have sr4 := s4 r (by omega) (by omega)
  obtain ⟨g5, I5, J5, e5, s5, i5, k5, l5, n5, v5, L5, z5⟩ := N_st28 (K := lX6_init_28 1) (r := r) (n := r + 23) (g := g4) (I := I4) (J := J4) (v := 1) (by omega) (by omega) (sr4.1.trans r2) ((congrFun sr4.2.2 0).trans p0) k4 l4
  have sr5 := s5 r (by omega) (by omega)
  have st4 := s4 (r + 2) (by omega) (by omega)
  have st5 := s5 (r + 2) (by omega) (by omega)
  obtain ⟨g6, I6, J6, e6, s6, i6, k6, l6, c6⟩ := N_st54 (r := r) 12 0 13 g5 I5 J5 (by omega) (by omega) (sr5.1.trans (sr4.1.trans r2)) ((congrFun sr5.2.2 1).trans ((congrFun sr4.2.2 1).trans p1)) (st5.1.trans (st4.1.trans k2)) (st5.2.1.trans (st4.2.1.trans l2)) (fun j hj => absurd hj (by omega))
  have sr6 := s6 r (by omega) (by omega)
  have sl6 := s6 (r + 1) (by omega) (by omega)
  refine ⟨g6, I6, J6, ?_, fun a ha => ⟨(((sm a ha).trans (s4 a (by omega) (by omega))).trans (s5 a (by omega) (by omega))).trans (s6 a (by omega) (by omega)), by rw [i6 a (by omega), i5 a (by omega), i4 a (by omega), im a ha]⟩, ⟨sr6.1.trans (sr5.1.trans (sr4.1.trans r2)), (congrFun sr6.2.2 0).trans ((congrFun sr5.2.2 0).trans ((congrFun sr4.2.2 0).trans p0)), (congrFun sr6.2.2 1).trans ((congrFun sr5.2.2 1).trans ((congrFun sr4.2.2 1).trans p1)), ⟨sl6.1.trans k5, sl6.2.1.trans l5, fun v hv => ?_⟩, ⟨k6, l6, fun k hk => (c6 k hk).1⟩, fun v hv => ?_, fun k hk => (c6 k hk).2⟩, by rw [i6 r (by omega), i5 r (by omega), i4 r (by omega), i2], (z4.fr (fun a q1 q2 => i5 a (by omega))).fr (fun a q1 q2 => i6 a (by omega))⟩
  · exact e4.trans (e5.trans (by
      show bX6_init_28 (lX6_init_28 0) r (nI 2) (mm g5 I5 J5 (some (r + 23 + 20))) = _
      unfold bX6_init_28
      rw [if_pos (nI_le (by omega) (by omega))]
      exact e6))
  · rcases (by omega : v = 0 ∨ v = 1) with rfl | rfl
    · exact (congrFun sl6.2.2 0).trans ((n5 0 (by omega)).trans v4)
    · exact (congrFun sl6.2.2 1).trans v5
  · rcases (by omega : v = 0 ∨ v = 1) with rfl | rfl
    · exact (L4.sm (fun a q1 q2 => s5 a (by omega) (by omega))).sm (fun a q1 q2 => s6 a (by omega) (by omega))
    · exact L5.sm (fun a q1 q2 => s6 a (by omega) (by omega))
end Ns

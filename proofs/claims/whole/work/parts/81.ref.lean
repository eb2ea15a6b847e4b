/-! ===== the reference, new ===== -/
section Nr
variable {g g' : Gr} {A R r v c n k z : Nat} {I I' : Mem} {J : Nat → Nat → Int64} {Z : Option Nat} {w : Nat → Int32} {B : Bool} {x s f its pub abs : Int32} {x0 x1 x2 x3 x4 x5 x6 x7 : Int32} {γ : Type}
theorem N_stZ {K : AH → Option γ} (hz : z < 2 ^ 31) (hr : g.1 r = c + 1) (hrn : r < n) : (bd (nwZ (nI z) (mm g I J (some n))) fun a h => (pP c r k a h).bind fun h => K h) = K (mm (gR (gN g n 21 z) r k n) (up1 I n (fun _ => 0)) (up1 J n (fun _ => 0)) (some (n + 1))) := by
  rw [nwZ_m hz, bd_some, pP_m ((gN_s (g := g) (n := n) (k := 21) (z := z) (by omega)).1.trans hr), Option.bind_some]
theorem M_pu1 (hG : ModG g R) (hv : v < 2) (hc : c < 10) (hx : x = bI B) (hr : I (R + 1) = w) : ∃ I', fX9_puts R (nI v) (nI c) x s f its pub abs (mm g I J Z) = some ((), mm g I' J Z) ∧ (∀ y, y ≠ R + 1 → I' y = I y) ∧ I' (R + 1) = puW w v c (puR B s f its pub abs) := by
  rw [hx]
  exact ⟨_, M_puts hG hv hc hr, fun y hy => up1_ne hy, up1_at⟩
theorem M_ad1 (hG : ModG g R) (hv : v < 2) (hn : n < 40) (hmn : mn w v = nI n) (hr : I (R + 1) = w) : ∃ I', fX9_adds R (nI v) x0 x1 x2 x3 x4 x5 x6 x7 (mm g I J Z) = some (nI n, mm g I' J Z) ∧ (∀ y, y ≠ R + 1 → I' y = I y) ∧ I' (R + 1) = addW w v n (adQ x0 x1 x2 x3 x4 x5 x6 x7) (-2) ∧ mn (addW w v n (adQ x0 x1 x2 x3 x4 x5 x6 x7) (-2)) v = nI (n + 1) :=
  ⟨_, M_adds hG hv hn hr hmn, fun y hy => up1_ne hy, up1_at, addW_mn⟩
theorem mn_w0c : mn (w0c v w) v = mn w v := by
  unfold w0c
  rw [puW_mn (by decide), puW_mn (by decide), puW_mn (by decide), puW_mn (by decide), puW_mn (by decide)]
theorem M_i70 {K : Nat → Int32 → AH → Option (Unit × AH)} (hG : ModG g R) (hv : v < 2) (hmn : mn w v = nI 0) (hr : I (R + 1) = w) : ∃ I', bX9_init_70 K R (nI v) (mm g I J Z) = K R (nI (v + 1)) (mm g I' J Z) ∧ (∀ y, y ≠ R + 1 → I' y = I y) ∧ I' (R + 1) = w0m v (w0c v w) := by
  obtain ⟨Ia, ea, fa, ra⟩ := M_pu1 (c := 0) (x := nI 0) (B := false) (s := -2) (f := nI 0) (its := nI 0) (pub := nI 1) (abs := nI 0) (J := J) (Z := Z) hG hv (by decide) (by decide) hr
  obtain ⟨Ib, eb, fb, rb⟩ := M_pu1 (c := 1) (x := nI 0) (B := false) (s := nI 0) (f := nI 0) (its := nI 0) (pub := nI 1) (abs := nI 0) (J := J) (Z := Z) hG hv (by decide) (by decide) ra
  obtain ⟨Ic, ec, fc, rc⟩ := M_pu1 (c := 2) (x := nI 1) (B := true) (s := nI 0) (f := nI 0) (its := nI 0) (pub := nI 1) (abs := nI 1) (J := J) (Z := Z) hG hv (by decide) (by decide) rb
  obtain ⟨Ie, ed, fd, rd⟩ := M_pu1 (c := 3) (x := nI 0) (B := false) (s := nI 1) (f := nI 4) (its := nI 0) (pub := nI 1) (abs := nI 0) (J := J) (Z := Z) hG hv (by decide) (by decide) rc
  obtain ⟨If, ee, fe, re⟩ := M_pu1 (c := 4) (x := nI 0) (B := false) (s := nI 1) (f := nI 0) (its := nI 1) (pub := nI 1) (abs := nI 1) (J := J) (Z := Z) hG hv (by decide) (by decide) rd
  have re' : If (R + 1) = w0c v w := re
  have m0 : mn (w0c v w) v = nI 0 := mn_w0c.trans hmn
  obtain ⟨I1, e1, f1, r1, m1⟩ := M_ad1 (x0 := nI 0) (x1 := nI 1) (x2 := nI 0) (x3 := nI 3) (x4 := nI 0) (x5 := -1) (x6 := nI 0) (x7 := nI 0) (J := J) (Z := Z) hG hv (by decide) m0 re'
  obtain ⟨I2, e2, f2, r2, m2⟩ := M_ad1 (x0 := nI 0) (x1 := nI 1) (x2 := nI 1) (x3 := nI 3) (x4 := nI 3) (x5 := -1) (x6 := nI 0) (x7 := nI 0) (J := J) (Z := Z) hG hv (by decide) m1 r1
  have r3 : up2 I2 (R + 1) (481 * v + 81 + 10 * 1 + 9) (nI 7) (R + 1) = sW (addW (addW (w0c v w) v 0 (adQ (nI 0) (nI 1) (nI 0) (nI 3) (nI 0) (-1) (nI 0) (nI 0)) (-2)) v (0 + 1) (adQ (nI 0) (nI 1) (nI 1) (nI 3) (nI 3) (-1) (nI 0) (nI 0)) (-2)) (481 * v + 81 + 10 * 1 + 9) (nI 7) := by rw [up2_1, up1_at, r2]
  have m3 : mn (sW (addW (addW (w0c v w) v 0 (adQ (nI 0) (nI 1) (nI 0) (nI 3) (nI 0) (-1) (nI 0) (nI 0)) (-2)) v (0 + 1) (adQ (nI 0) (nI 1) (nI 1) (nI 3) (nI 3) (-1) (nI 0) (nI 0)) (-2)) (481 * v + 81 + 10 * 1 + 9) (nI 7)) v = nI 2 := (sW_ne (by omega)).trans m2
  have f3 : ∀ y, y ≠ R + 1 → up2 I2 (R + 1) (481 * v + 81 + 10 * 1 + 9) (nI 7) y = I2 y := fun y hy => up2_ne hy
  obtain ⟨I4, e4, f4, r4, m4⟩ := M_ad1 (x0 := nI 1) (x1 := nI 1) (x2 := nI 0) (x3 := nI 3) (x4 := nI 0) (x5 := -1) (x6 := nI 0) (x7 := nI 0) (J := J) (Z := Z) hG hv (by decide) m3 r3
  obtain ⟨I5, e5, f5, r5, m5⟩ := M_ad1 (x0 := nI 1) (x1 := nI 1) (x2 := nI 1) (x3 := nI 2) (x4 := nI 0) (x5 := -1) (x6 := nI 1) (x7 := nI 1) (J := J) (Z := Z) hG hv (by decide) m4 r4
  obtain ⟨I6, e6, f6, r6, m6⟩ := M_ad1 (x0 := nI 1) (x1 := nI 2) (x2 := nI 2) (x3 := nI 3) (x4 := nI 4) (x5 := nI 1) (x6 := nI 0) (x7 := nI 0) (J := J) (Z := Z) hG hv (by decide) m5 r5
  obtain ⟨I7, e7, f7, r7, m7⟩ := M_ad1 (x0 := nI 1) (x1 := nI 3) (x2 := nI 2) (x3 := nI 3) (x4 := nI 0) (x5 := nI 1) (x6 := nI 0) (x7 := nI 0) (J := J) (Z := Z) hG hv (by decide) m6 r6
  obtain ⟨I8, e8, f8, r8, m8⟩ := M_ad1 (x0 := nI 1) (x1 := nI 3) (x2 := nI 0) (x3 := nI 3) (x4 := nI 0) (x5 := -1) (x6 := nI 0) (x7 := nI 0) (J := J) (Z := Z) hG hv (by decide) m7 r7
  obtain ⟨I9, e9, f9, r9, m9⟩ := M_ad1 (x0 := nI 1) (x1 := nI 4) (x2 := nI 1) (x3 := nI 3) (x4 := nI 0) (x5 := -1) (x6 := nI 1) (x7 := nI 3) (J := J) (Z := Z) hG hv (by decide) m8 r8
  have ix : nI 481 * nI v + nI 81 + nI 10 * nI 1 + nI 9 = nI (481 * v + 81 + 10 * 1 + 9) := by rw [pk_mul, pk_mul, nI_add, nI_add, nI_add]
  refine ⟨I9, ?_, fun y hy => by rw [f9 y hy, f8 y hy, f7 y hy, f6 y hy, f5 y hy, f4 y hy, f3 y hy, f2 y hy, f1 y hy, fe y hy, fd y hy, fc y hy, fb y hy, fa y hy], r9⟩
  unfold bX9_init_70 fX9_member
  rw [if_neg (nI_ge hv (by omega)), M_cv hG, ea, bd_some, M_cv hG, eb, bd_some, M_cv hG, ec, bd_some, M_cv hG, ed, bd_some, M_cv hG, ee, bd_some, M_cv hG, e1, bd_some, M_cv hG, e2, bd_some, hG.p0, Option.bind_some, bd_some, ix, hG.st1 (by omega), Option.bind_some, M_cv hG, e4, bd_some, M_cv hG, e5, bd_some, M_cv hG, e6, bd_some, M_cv hG, e7, bd_some, M_cv hG, e8, bd_some, M_cv hG, e9, bd_some, nI_add]
/-- the reference's cells -/
theorem N_r0 {K : AH → Option (Unit × AH)} (hr : g.1 R = 9 + 1) (hz : I R = fun _ => 0) : ∃ (g' : Gr) (I' : Mem) (J' : Nat → Nat → Int64), (bd (nwI (nI 1155) (mm g I J (some (R + 1)))) fun a_47 h => (pP 9 R 0 a_47 h).bind fun h => bd (nwI (nI 5775) h) fun a_48 h => (pP 9 R 1 a_48 h).bind fun h => bd (nwI (nI 4) h) fun a_49 h => (pP 9 R 4 a_49 h).bind fun h => bd (nwI (nI 10) h) fun a_50 h => (pP 9 R 5 a_50 h).bind fun h => bd (nwI (nI 16) h) fun a_51 h => (pP 9 R 15 a_51 h).bind fun h => bd (nwI (nI 8) h) fun a_52 h => (pP 9 R 16 a_52 h).bind fun h => bd (nwZ (nI 40) h) fun a_53 h => (pP 9 R 17 a_53 h).bind fun h => (gP 9 R 4 h).bind fun a_54 => (stI a_54 (nI 0) (-1) h).bind fun h => K h) = K (mm g' I' J' (some (R + 8))) ∧ (∀ a, a < R → Sm3 g g' a ∧ I' a = I a) ∧ ModG g' R ∧ I' R = (fun _ => 0) ∧ I' (R + 1) = (fun _ => 0) ∧ I' (R + 3) = sW (fun _ => 0) 0 (-1) := by
  obtain ⟨s1, r1, f1⟩ := FlN.put (kd := 20) (z := 1155) (k := 0) (n := R + 1) hr (by omega) FlN.nil (by simp)
  obtain ⟨s2, r2, f2⟩ := FlN.put (kd := 20) (z := 5775) (k := 1) (n := R + 2) r1 (by omega) f1 (by simp)
  obtain ⟨s3, r3, f3⟩ := FlN.put (kd := 20) (z := 4) (k := 4) (n := R + 3) r2 (by omega) f2 (by simp)
  obtain ⟨s4, r4, f4⟩ := FlN.put (kd := 20) (z := 10) (k := 5) (n := R + 4) r3 (by omega) f3 (by simp)
  obtain ⟨s5, r5, f5⟩ := FlN.put (kd := 20) (z := 16) (k := 15) (n := R + 5) r4 (by omega) f4 (by simp)
  obtain ⟨s6, r6, f6⟩ := FlN.put (kd := 20) (z := 8) (k := 16) (n := R + 6) r5 (by omega) f5 (by simp)
  obtain ⟨s7, r7, f7⟩ := FlN.put (kd := 21) (z := 40) (k := 17) (n := R + 7) r6 (by omega) f6 (by simp)
  rw [N_st (n := R + 1) (by omega) hr (by omega), N_st (n := R + 2) (by omega) r1 (by omega), N_st (n := R + 3) (by omega) r2 (by omega), N_st (n := R + 4) (by omega) r3 (by omega), N_st (n := R + 5) (by omega) r4 (by omega), N_st (n := R + 6) (by omega) r5 (by omega), N_stZ (n := R + 7) (by omega) r6 (by omega)]
  have sm : ∀ a, a < R → Sm3 g _ a := fun a ha => ((((((s1 a (by omega) (by omega)).trans (s2 a (by omega) (by omega))).trans (s3 a (by omega) (by omega))).trans (s4 a (by omega) (by omega))).trans (s5 a (by omega) (by omega))).trans (s6 a (by omega) (by omega))).trans (s7 a (by omega) (by omega))
  have im : ∀ a, a < R + 1 → up1 (up1 (up1 (up1 (up1 (up1 (up1 I (R + 1) fun _ => 0) (R + 2) fun _ => 0) (R + 3) fun _ => 0) (R + 4) fun _ => 0) (R + 5) fun _ => 0) (R + 6) fun _ => 0) (R + 7) (fun _ => 0) a = I a := fun a ha => by rw [up1_ne (by omega), up1_ne (by omega), up1_ne (by omega), up1_ne (by omega), up1_ne (by omega), up1_ne (by omega), up1_ne (by omega)]
  have i1 : up1 (up1 (up1 (up1 (up1 (up1 (up1 I (R + 1) fun _ => 0) (R + 2) fun _ => 0) (R + 3) fun _ => 0) (R + 4) fun _ => 0) (R + 5) fun _ => 0) (R + 6) fun _ => 0) (R + 7) (fun _ => 0) (R + 1) = fun _ => 0 := by rw [up1_ne (by omega), up1_ne (by omega), up1_ne (by omega), up1_ne (by omega), up1_ne (by omega), up1_ne (by omega), up1_at]
  have i3 : up1 (up1 (up1 (up1 (up1 (up1 (up1 I (R + 1) fun _ => 0) (R + 2) fun _ => 0) (R + 3) fun _ => 0) (R + 4) fun _ => 0) (R + 5) fun _ => 0) (R + 6) fun _ => 0) (R + 7) (fun _ => 0) (R + 3) = fun _ => 0 := by rw [up1_ne (by omega), up1_ne (by omega), up1_ne (by omega), up1_ne (by omega), up1_at]
  generalize up1 (up1 (up1 (up1 (up1 (up1 (up1 I (R + 1) fun _ => 0) (R + 2) fun _ => 0) (R + 3) fun _ => 0) (R + 4) fun _ => 0) (R + 5) fun _ => 0) (R + 6) fun _ => 0) (R + 7) (fun _ => 0) = I7 at *
  generalize up1 (up1 (up1 (up1 (up1 (up1 (up1 J (R + 1) fun _ => 0) (R + 2) fun _ => 0) (R + 3) fun _ => 0) (R + 4) fun _ => 0) (R + 5) fun _ => 0) (R + 6) fun _ => 0) (R + 7) (fun _ => 0) = J7
  have hG := fun (G : Gr) (r7 : G.1 R = 9 + 1) (f7 : FlN G R [(17, R + 7, 21, 40), (16, R + 6, 20, 8), (15, R + 5, 20, 16), (5, R + 4, 20, 10), (4, R + 3, 20, 4), (1, R + 2, 20, 5775), (0, R + 1, 20, 1155)]) => (show ModG G R from
    ⟨r7, (f7 (0, R + 1, 20, 1155) (by simp)).1, (f7 (1, R + 2, 20, 5775) (by simp)).1, (f7 (4, R + 3, 20, 4) (by simp)).1, (f7 (5, R + 4, 20, 10) (by simp)).1, (f7 (15, R + 5, 20, 16) (by simp)).1, (f7 (16, R + 6, 20, 8) (by simp)).1, (f7 (17, R + 7, 21, 40) (by simp)).1, (f7 (0, R + 1, 20, 1155) (by simp)).2, (f7 (1, R + 2, 20, 5775) (by simp)).2, (f7 (4, R + 3, 20, 4) (by simp)).2, (f7 (5, R + 4, 20, 10) (by simp)).2, (f7 (15, R + 5, 20, 16) (by simp)).2, (f7 (16, R + 6, 20, 8) (by simp)).2, (f7 (17, R + 7, 21, 40) (by simp)).2⟩)
  have hM := hG _ r7 f7
  refine ⟨_, up2 I7 (R + 3) 0 (-1), J7, ?_, fun a ha => ⟨sm a ha, by rw [up2_ne (by omega), im a (by omega)]⟩, hM, by rw [up2_ne (by omega), im R (by omega), hz], by rw [up2_ne (by omega), i1], ?_⟩
  · rw [hM.p4, Option.bind_some, stI_m (k := 0) hM.2.2.2.2.2.2.2.2.2.2.1.1 (by rw [hM.2.2.2.2.2.2.2.2.2.2.1.2]; omega) (by omega), Option.bind_some]
  · rw [up2_1, up1_at, i3]
theorem ro_z : ∀ i, 1155 ≤ i → ro1 i = 0 := by
  intro i hi
  unfold ro1 w0m w0c
  rw [addW_out (by decide) (Or.inr (by omega)), addW_out (by decide) (Or.inr (by omega)), addW_out (by decide) (Or.inr (by omega)), addW_out (by decide) (Or.inr (by omega)), addW_out (by decide) (Or.inr (by omega)), addW_out (by decide) (Or.inr (by omega)), sW_ne (by omega), addW_out (by decide) (Or.inr (by omega)), addW_out (by decide) (Or.inr (by omega)), puW_out (by decide) (Or.inr (by omega)), puW_out (by decide) (Or.inr (by omega)), puW_out (by decide) (Or.inr (by omega)), puW_out (by decide) (Or.inr (by omega)), puW_out (by decide) (Or.inr (by omega))]
  rw [addW_out (by decide) (Or.inr (by omega)), addW_out (by decide) (Or.inr (by omega)), addW_out (by decide) (Or.inr (by omega)), addW_out (by decide) (Or.inr (by omega)), addW_out (by decide) (Or.inr (by omega)), addW_out (by decide) (Or.inr (by omega)), sW_ne (by omega), addW_out (by decide) (Or.inr (by omega)), addW_out (by decide) (Or.inr (by omega)), puW_out (by decide) (Or.inr (by omega)), puW_out (by decide) (Or.inr (by omega)), puW_out (by decide) (Or.inr (by omega)), puW_out (by decide) (Or.inr (by omega)), puW_out (by decide) (Or.inr (by omega))]
theorem Wf0 (h : WS w) : Wf w 0 P0 d0 := ⟨h, fun j hj => absurd hj (by omega), ⟨1, by decide, by decide, by decide⟩, Or.inl ⟨rfl, rfl, rfl⟩⟩
theorem M_cm1 {u : Nat} {nm pk : Int32} (h : MRel g A I w 0 P0 d0) (hu : u < 6) (hc : c < 10) (hn : u ≤ 2 → ∃ q, q < 8 ∧ nm = nI q) (hl : ncl w < 12) (hW : WS (adcW w (kF w u c nm pk))) : ∃ I', fX9_comes (A + 418) (nI u) (nI c) nm pk (mm g I J Z) = some ((), mm g I' J Z) ∧ (∀ y, y < A + 418 → I' y = I y) ∧ MRel g A I' (adcW w (kF w u c nm pk)) 0 P0 d0 := by
  obtain ⟨I1, e1, f1, z1, -, r1⟩ := M_comes (J := J) (Z := Z) (pk := pk) h hu hc hn hl
  exact ⟨I1, e1, fun y hy => f1 y (by omega) (by omega) (by omega) (by omega) (by omega) (by omega), h.1, h.2.1.cli (w' := adcW w (kF w u c nm pk)) r1 (adc_z hl h.2.1.2.1) f1 z1, Wf0 hW⟩
theorem N_ref (hr : g.1 (A + 418) = 9 + 1) (hz : I (A + 418) = fun _ => 0) : ∃ (g' : Gr) (I' : Mem) (J' : Nat → Nat → Int64), fX9_init (A + 418) (mm g I J (some (A + 418 + 1))) = some ((), mm g' I' J' (some (A + 426))) ∧ (∀ a, a < A + 418 → Sm3 g g' a ∧ I' a = I a) ∧ ModG g' (A + 418) ∧ RelM I' (A + 418) ro4 0 P0 d0 := by
  obtain ⟨g1, I1, J1, e1, s1, G1, z0, z1, z3⟩ := N_r0 (K := lX9_init_70 fuel (A + 418) (nI 0)) (J := J) hr hz
  obtain ⟨I2, e2, f2, r2⟩ := M_i70 (K := lX9_init_70 (fuel - 1)) (J := J1) (Z := some (A + 418 + 8)) G1 (v := 0) (by omega) (by decide) z1
  obtain ⟨I3, e3, f3, r3⟩ := M_i70 (K := lX9_init_70 (fuel - 2)) (J := J1) (Z := some (A + 418 + 8)) G1 (v := 1) (by omega) (by decide +kernel) r2
  have i3 : ∀ y, y ≠ A + 418 + 1 → I3 y = I1 y := fun y hy => by rw [f3 y hy, f2 y hy]
  have h3 : MRel g1 A I3 ro1 0 P0 d0 := by
    refine ⟨G1, ⟨r3, ro_z, by omega, by rw [i3 _ (by omega), z0]; decide, fun j hj => absurd hj (by omega), ?_⟩, Wf0 ro1_WS⟩
    rw [i3 _ (by omega), z3]
    exact ⟨by decide, by decide, Or.inr (by decide), Or.inr (by decide)⟩
  obtain ⟨I4, e4, f4, h4⟩ := M_cm1 (J := J1) (Z := some (A + 418 + 8)) (u := 0) (c := 3) (nm := nI 1) (pk := nI 2) h3 (by decide) (by decide) (nq (by decide)) (by rw [ncl1]; decide) ro2_WS
  obtain ⟨I5, e5, f5, h5⟩ := M_cm1 (J := J1) (Z := some (A + 418 + 8)) (u := 2) (c := 3) (nm := nI 2) (pk := nI 2) (w := ro2) h4 (by decide) (by decide) (nq (by decide)) (by rw [ncl2]; decide) ro3_WS
  obtain ⟨I6, e6, f6, h6⟩ := M_cm1 (J := J1) (Z := some (A + 418 + 8)) (u := 2) (c := 4) (nm := nI 0) (pk := nI 2) (w := ro3) h5 (by decide) (by decide) (nq (by decide)) (by rw [ncl3]; decide) ro4_WS
  refine ⟨g1, I6, J1, ?_, fun a ha => ⟨(s1 a ha).1, by rw [f6 a ha, f5 a ha, f4 a ha, i3 a (by omega), (s1 a ha).2]⟩, G1, h6.2.1⟩
  have t0 : ∀ z, z + 1 ≤ fuel → ∀ x h, lX9_init_70 (fuel - z) (A + 418) x h = bX9_init_70 (lX9_init_70 (fuel - (z + 1))) (A + 418) x h := fun z hz x h => by
    rw [show fuel - z = (fuel - (z + 1)) + 1 from by omega]
    rfl
  have hf : 10 ≤ fuel := by unfold fuel; omega
  unfold fX9_init
  refine e1.trans ?_
  refine (t0 0 (by omega) _ _).trans (e2.trans ?_)
  refine (t0 1 (by omega) _ _).trans (e3.trans ?_)
  refine (t0 2 (by omega) _ _).trans ?_
  unfold bX9_init_70
  rw [if_pos (nI_le (by omega) (by omega)), M_cv G1, e4, bd_some, M_cv G1, e5, bd_some, M_cv G1, e6, bd_some]
end Nr
/-! ===== the law ===== -/
theorem ModG.sm {g g' : Gr} {R : Nat} (h : ModG g R) (hs : ∀ a, R ≤ a → a < R + 8 → Sm3 g g' a) : ModG g' R := by
  obtain ⟨h1, a0, a1, a4, a5, a15, a16, a17, b1, b2, b3, b4, b5, b6, b7⟩ := h
  have s0 := hs R (by omega) (by omega)
  have t := fun k (hk : k < 8) => hs (R + k) (by omega) (by omega)
  exact ⟨s0.1.trans h1, (congrFun s0.2.2 0).trans a0, (congrFun s0.2.2 1).trans a1, (congrFun s0.2.2 4).trans a4, (congrFun s0.2.2 5).trans a5, (congrFun s0.2.2 15).trans a15, (congrFun s0.2.2 16).trans a16, (congrFun s0.2.2 17).trans a17, ⟨(t 1 (by omega)).1.trans b1.1, (t 1 (by omega)).2.1.trans b1.2⟩, ⟨(t 2 (by omega)).1.trans b2.1, (t 2 (by omega)).2.1.trans b2.2⟩, ⟨(t 3 (by omega)).1.trans b3.1, (t 3 (by omega)).2.1.trans b3.2⟩, ⟨(t 4 (by omega)).1.trans b4.1, (t 4 (by omega)).2.1.trans b4.2⟩, ⟨(t 5 (by omega)).1.trans b5.1, (t 5 (by omega)).2.1.trans b5.2⟩, ⟨(t 6 (by omega)).1.trans b6.1, (t 6 (by omega)).2.1.trans b6.2⟩, ⟨(t 7 (by omega)).1.trans b7.1, (t 7 (by omega)).2.1.trans b7.2⟩⟩
theorem law_pure : LawPure := by
  intro b L xs A hL hb
  obtain ⟨g0, I0, J0, e0, k0, l0, x0⟩ : ∃ (g0 : Gr) (I0 : Mem) (J0 : Nat → Nat → Int64), h0 b L xs A = mm g0 I0 J0 (some A) ∧ g0.1 b = 23 ∧ g0.2.1 b = L ∧ I0 b = xs :=
    ⟨(fun a => if a = b then 23 else 0, fun a => if a = b then L else 0, fun _ _ => none), fun a k => if a = b then xs k else 0, fun _ _ => 0, rfl, if_pos rfl, if_pos rfl, by funext k; exact if_pos rfl⟩
  rw [e0]
  obtain ⟨g1, I1, J1, e1, s1, G1, R1⟩ := N_judge (g := gN g0 A (8 + 1) 0) (A := A) (I := up1 I0 A (fun _ => 0)) (J := up1 J0 A (fun _ => 0)) gN_k
  obtain ⟨g2, I2, J2, e2, s2, G2, R2⟩ := N_ref (g := gN g1 (A + 418) (9 + 1) 0) (A := A) (I := up1 I1 (A + 418) (fun _ => 0)) (J := up1 J1 (A + 418) (fun _ => 0)) gN_k up1_at
  have t2 : ∀ a, a < A + 418 → Sm3 g1 g2 a := fun a ha => (gN_s (by omega)).trans (s2 a ha).1
  have i2 : ∀ a, a < A + 418 → I2 a = I1 a := fun a ha => by rw [(s2 a ha).2, up1_ne (by omega)]
  have sb : Sm3 g0 (gN g2 (A + 426) 22 1) b := (((gN_s (by omega)).trans (s1 b hb).1).trans (t2 b (by omega))).trans (gN_s (by omega))
  have ib : up1 I2 (A + 426) (fun _ => 0) b = xs := by rw [up1_ne (by omega), i2 b (by omega), (s1 b hb).2, up1_ne (by omega), x0]
  have hW := Wf0 ro4_WS
  have rel : Rel (gN g2 (A + 426) 22 1) A (up1 I2 (A + 426) (fun _ => 0)) ro4 0 P0 d0 :=
    ⟨G1.sm (fun a q1 q2 => (t2 a (by omega)).trans (gN_s (by omega))), G2.sm (fun a q1 q2 => gN_s (by omega)), R1.fr hW (fun x q1 q2 _ _ => by rw [up1_ne (by omega), i2 x (by omega)]), R2.fr (by rw [up1_ne (by omega)]) (up1_ne (by omega)) (up1_ne (by omega)) (up1_ne (by omega)), hW⟩
  obtain ⟨h', e⟩ := law_loop (g := gN g2 (A + 426) 22 1) (A := A) (b := b) (xs := xs) hL 513 0 (up1 I2 (A + 426) (fun _ => 0)) (up1 J2 (A + 426) (fun _ => 0)) (some (A + 426 + 1)) ⟨sb.1.trans k0, sb.2.1.trans l0, hb, ib, ⟨ro4, 0, P0, d0, rel⟩, gN_k, gN_l⟩ (by omega) (by omega)
  refine ⟨h', ?_⟩
  unfold fL_law
  rw [nwO_m, bd_some, e1, bd_some, nwO_m, bd_some, e2, bd_some, nwJ_m (by omega), bd_some]
  exact e

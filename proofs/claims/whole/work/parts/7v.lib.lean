/-! ===== new cells: a library ===== -/
section Nl
variable {g g' : Gr} {r b k v : Nat} {I : Mem} {J : Nat → Nat → Int64} {F : List (Nat × Nat × Nat × Nat)}
theorem MemG.sm (h : MemG g b) (hs : ∀ a, b ≤ a → a < b + 13 → Sm3 g g' a) : MemG g' b := by
  refine ⟨(hs b (by omega) (by omega)).1.trans h.1, fun k h1 h2 => ?_⟩
  obtain ⟨q1, q2, q3⟩ := h.2 k h1 h2
  have s0 := hs b (by omega) (by omega)
  have s1 := hs (b + k) (by omega) (by omega)
  exact ⟨(congrFun s0.2.2 k).trans q1, s1.1.trans q2, s1.2.1.trans q3⟩
theorem FlN.sm (h : FlN g r F) (hr : Sm3 g g' r) (hs : ∀ e ∈ F, Sm3 g g' e.2.1) : FlN g' r F := fun e he => by
  obtain ⟨q1, q2, q3⟩ := h e he
  exact ⟨(congrFun hr.2.2 _).trans q1, (hs e he).1.trans q2, (hs e he).2.1.trans q3⟩
theorem FlN.ref (h : FlN g r F) (hn : ∀ e ∈ F, e.1 ≠ k) : FlN (gR g r k v) r ((k, v, g.1 v, g.2.1 v) :: F) := fun e he => by
  rcases List.mem_cons.mp he with rfl | he
  · exact ⟨gR_at, rfl, rfl⟩
  · obtain ⟨q1, q2, q3⟩ := h e he
    exact ⟨(gR_ne (hn e he)).trans q1, q2, q3⟩
theorem N_lib (hr : g.1 r = 2 + 1) : ∃ (g' : Gr) (I' : Mem) (J' : Nat → Nat → Int64), fX2_init r (mm g I J (some (r + 1))) = some ((), mm g' I' J' (some (r + 20))) ∧ (∀ a, a < r → Sm3 g g' a ∧ I' a = I a) ∧ LibG g' r ∧ (∀ i, i < 5 → I' r i = nI 0) ∧ (∀ j, 1 ≤ j → j ≤ 5 → ∀ i, I' (r + j) i = 0) ∧ I' (r + 6) 0 = nI 0 ∧ (∀ j, 1 ≤ j → j ≤ 13 → ∀ i, I' (r + 6 + j) i = 0) := by
  unfold fX2_init
  rw [pI_m hr, Option.bind_some, pI_m hr, Option.bind_some, pI_m hr, Option.bind_some, pI_m hr, Option.bind_some, pI_m hr, Option.bind_some]
  obtain ⟨s1, r1, f1⟩ := FlN.put (kd := 20) (z := 10) (k := 5) (n := r + 1) hr (by omega) FlN.nil (by simp)
  obtain ⟨s2, r2, f2⟩ := FlN.put (kd := 20) (z := 10) (k := 6) (n := r + 2) r1 (by omega) f1 (by simp)
  obtain ⟨s3, r3, f3⟩ := FlN.put (kd := 20) (z := 10) (k := 7) (n := r + 3) r2 (by omega) f2 (by simp)
  obtain ⟨s4, r4, f4⟩ := FlN.put (kd := 20) (z := 10) (k := 8) (n := r + 4) r3 (by omega) f3 (by simp)
  obtain ⟨s5, r5, f5⟩ := FlN.put (kd := 20) (z := 10) (k := 9) (n := r + 5) r4 (by omega) f4 (by simp)
  rw [N_st (n := r + 1) (by omega) hr (by omega), N_st (n := r + 2) (by omega) r1 (by omega), N_st (n := r + 3) (by omega) r2 (by omega), N_st (n := r + 4) (by omega) r3 (by omega), N_st (n := r + 5) (by omega) r4 (by omega), nwO_m, bd_some]
  obtain ⟨g7, I7, J7, e7, s7, m7, z7, y7⟩ := N_mem (r := r + 6) (I := (up1 (up1 (up1 (up1 (up1 (up1 (up2 (up2 (up2 (up2 (up2 I r 0 (nI 0)) r 1 (nI 0)) r 2 (nI 0)) r 3 (nI 0)) r 4 (nI 0)) (r + 1) (fun _ => 0)) (r + 2) (fun _ => 0)) (r + 3) (fun _ => 0)) (r + 4) (fun _ => 0)) (r + 5) (fun _ => 0)) (r + 6) (fun _ => 0))) (J := _) (gN_k (n := r + 6) (k := 4 + 1) (z := 0))
  rw [e7, bd_some]
  have t6 : ∀ a, a < r + 6 → Sm3 _ g7 a := fun a ha => (gN_s (by omega)).trans (s7 a ha).1
  have f7 := (f5.sm (t6 r (by omega)) (fun e he => t6 _ (by simp only [List.mem_cons, List.not_mem_nil, or_false] at he; rcases he with rfl | rfl | rfl | rfl | rfl <;> simp))).ref (k := 10) (v := r + 6) (by simp)
  have r7 : g7.1 r = 2 + 1 := (t6 r (by omega)).1.trans r5
  rw [pP_m r7, Option.bind_some]
  obtain ⟨s8, r8, f8⟩ := FlN.put (kd := 20) (z := 10) (k := 11) (n := r + 19) (show (gR g7 r 10 (r + 6)).1 r = 2 + 1 from r7) (by omega) f7 (by simp)
  show ∃ g' I' J', (bd (nwI (nI 10) (mm (gR g7 r 10 (r + 6)) I7 J7 (some (r + 19)))) fun a_14 h => (pP 2 r 11 a_14 h).bind fun h => some ((), h)) = some ((), mm g' I' J' (some (r + 20))) ∧ _
  rw [N_st (n := r + 19) (by omega) (show (gR g7 r 10 (r + 6)).1 r = 2 + 1 from r7) (by omega)]
  refine ⟨_, _, _, rfl, fun a ha => ⟨((((((((s1 a (by omega) (by omega)).trans (s2 a (by omega) (by omega))).trans (s3 a (by omega) (by omega))).trans (s4 a (by omega) (by omega))).trans (s5 a (by omega) (by omega))).trans (t6 a (by omega))).trans (gR_s (by omega))).trans (s8 a (by omega) (by omega))), ?_⟩, ⟨r8, fun k hk => ?_, ?_, ?_, ?_⟩, fun i hi => ?_, fun j h1 h2 i => ?_, ?_, fun j h1 h2 i => ?_⟩
  · rw [up1_ne (by omega), (s7 a (by omega)).2, up1_ne (by omega), up1_ne (by omega), up1_ne (by omega), up1_ne (by omega), up1_ne (by omega), up1_ne (by omega), up2_ne (by omega), up2_ne (by omega), up2_ne (by omega), up2_ne (by omega), up2_ne (by omega)]
  · rcases (by omega : k = 0 ∨ k = 1 ∨ k = 2 ∨ k = 3 ∨ k = 4) with rfl | rfl | rfl | rfl | rfl
    · exact f8 (5, r + 1, 20, 10) (by simp)
    · exact f8 (6, r + 2, 20, 10) (by simp)
    · exact f8 (7, r + 3, 20, 10) (by simp)
    · exact f8 (8, r + 4, 20, 10) (by simp)
    · exact f8 (9, r + 5, 20, 10) (by simp)
  · exact (f8 (10, r + 6, g7.1 (r + 6), g7.2.1 (r + 6)) (by simp)).1
  · exact m7.sm (fun a h1 h2 => (gR_s (by omega)).trans (s8 a (by omega) (by omega)))
  · exact f8 (11, r + 19, 20, 10) (by simp)
  · rw [up1_ne (by omega), (s7 r (by omega)).2, up1_ne (by omega), up1_ne (by omega), up1_ne (by omega), up1_ne (by omega), up1_ne (by omega), up1_ne (by omega), up2_at, up2_at, up2_at, up2_at, up2_at]
    rcases (by omega : i = 0 ∨ i = 1 ∨ i = 2 ∨ i = 3 ∨ i = 4) with rfl | rfl | rfl | rfl | rfl <;> rfl
  · rw [up1_ne (by omega), (s7 (r + j) (by omega)).2, up1_ne (by omega)]
    unfold up1
    rcases (by omega : j = 1 ∨ j = 2 ∨ j = 3 ∨ j = 4 ∨ j = 5) with rfl | rfl | rfl | rfl | rfl <;> simp
  · rw [up1_ne (by omega)]; exact z7
  · by_cases q : j = 13
    · subst q; rw [show r + 6 + 13 = r + 19 from by omega, up1_at]
    · rw [up1_ne (by omega)]; exact y7 j h1 (by omega) i
end Nl

/-! ===== new cells: members ===== -/
section Nm
variable {g : Gr} {r : Nat} {I : Mem} {J : Nat → Nat → Int64}
theorem FlN.nil : FlN g r [] := fun _ he => nomatch he
theorem N_mem (hr : g.1 r = 4 + 1) : ∃ (g' : Gr) (I' : Mem) (J' : Nat → Nat → Int64), fX4_init r (mm g I J (some (r + 1))) = some ((), mm g' I' J' (some (r + 13))) ∧ (∀ a, a < r → Sm3 g g' a ∧ I' a = I a) ∧ MemG g' r ∧ I' r 0 = nI 0 ∧ ∀ j, 1 ≤ j → j ≤ 12 → ∀ i, I' (r + j) i = 0 := by
  unfold fX4_init
  rw [pI_m hr, Option.bind_some]
  obtain ⟨s1, r1, f1⟩ := FlN.put (kd := 20) (z := 40) (k := 1) (n := r + 1) hr (by omega) FlN.nil (by simp)
  obtain ⟨s2, r2, f2⟩ := FlN.put (kd := 20) (z := 40) (k := 2) (n := r + 2) r1 (by omega) f1 (by simp)
  obtain ⟨s3, r3, f3⟩ := FlN.put (kd := 20) (z := 40) (k := 3) (n := r + 3) r2 (by omega) f2 (by simp)
  obtain ⟨s4, r4, f4⟩ := FlN.put (kd := 20) (z := 40) (k := 4) (n := r + 4) r3 (by omega) f3 (by simp)
  obtain ⟨s5, r5, f5⟩ := FlN.put (kd := 20) (z := 40) (k := 5) (n := r + 5) r4 (by omega) f4 (by simp)
  obtain ⟨s6, r6, f6⟩ := FlN.put (kd := 20) (z := 40) (k := 6) (n := r + 6) r5 (by omega) f5 (by simp)
  obtain ⟨s7, r7, f7⟩ := FlN.put (kd := 20) (z := 40) (k := 7) (n := r + 7) r6 (by omega) f6 (by simp)
  obtain ⟨s8, r8, f8⟩ := FlN.put (kd := 20) (z := 40) (k := 8) (n := r + 8) r7 (by omega) f7 (by simp)
  obtain ⟨s9, r9, f9⟩ := FlN.put (kd := 20) (z := 40) (k := 9) (n := r + 9) r8 (by omega) f8 (by simp)
  obtain ⟨s10, r10, f10⟩ := FlN.put (kd := 20) (z := 40) (k := 10) (n := r + 10) r9 (by omega) f9 (by simp)
  obtain ⟨s11, r11, f11⟩ := FlN.put (kd := 20) (z := 40) (k := 11) (n := r + 11) r10 (by omega) f10 (by simp)
  obtain ⟨s12, r12, f12⟩ := FlN.put (kd := 20) (z := 40) (k := 12) (n := r + 12) r11 (by omega) f11 (by simp)
  refine ⟨_, (up1 (up1 (up1 (up1 (up1 (up1 (up1 (up1 (up1 (up1 (up1 (up1 (up2 I r 0 (nI 0)) (r + 1) (fun _ => 0)) (r + 2) (fun _ => 0)) (r + 3) (fun _ => 0)) (r + 4) (fun _ => 0)) (r + 5) (fun _ => 0)) (r + 6) (fun _ => 0)) (r + 7) (fun _ => 0)) (r + 8) (fun _ => 0)) (r + 9) (fun _ => 0)) (r + 10) (fun _ => 0)) (r + 11) (fun _ => 0)) (r + 12) (fun _ => 0)), (up1 (up1 (up1 (up1 (up1 (up1 (up1 (up1 (up1 (up1 (up1 (up1 J (r + 1) (fun _ => 0)) (r + 2) (fun _ => 0)) (r + 3) (fun _ => 0)) (r + 4) (fun _ => 0)) (r + 5) (fun _ => 0)) (r + 6) (fun _ => 0)) (r + 7) (fun _ => 0)) (r + 8) (fun _ => 0)) (r + 9) (fun _ => 0)) (r + 10) (fun _ => 0)) (r + 11) (fun _ => 0)) (r + 12) (fun _ => 0)), ?_, fun a ha => ⟨((((((((((((s1 a (by omega) (by omega)).trans (s2 a (by omega) (by omega))).trans (s3 a (by omega) (by omega))).trans (s4 a (by omega) (by omega))).trans (s5 a (by omega) (by omega))).trans (s6 a (by omega) (by omega))).trans (s7 a (by omega) (by omega))).trans (s8 a (by omega) (by omega))).trans (s9 a (by omega) (by omega))).trans (s10 a (by omega) (by omega))).trans (s11 a (by omega) (by omega))).trans (s12 a (by omega) (by omega))), ?_⟩, ⟨r12, fun k h1 h2 => ?_⟩, ?_, fun j h1 h2 i => ?_⟩
  · rw [N_st (n := r + 1) (by omega) hr (by omega), N_st (n := r + 2) (by omega) r1 (by omega), N_st (n := r + 3) (by omega) r2 (by omega), N_st (n := r + 4) (by omega) r3 (by omega), N_st (n := r + 5) (by omega) r4 (by omega), N_st (n := r + 6) (by omega) r5 (by omega), N_st (n := r + 7) (by omega) r6 (by omega), N_st (n := r + 8) (by omega) r7 (by omega), N_st (n := r + 9) (by omega) r8 (by omega), N_st (n := r + 10) (by omega) r9 (by omega), N_st (n := r + 11) (by omega) r10 (by omega), N_st (n := r + 12) (by omega) r11 (by omega)]
  · rw [up1_ne (by omega), up1_ne (by omega), up1_ne (by omega), up1_ne (by omega), up1_ne (by omega), up1_ne (by omega), up1_ne (by omega), up1_ne (by omega), up1_ne (by omega), up1_ne (by omega), up1_ne (by omega), up1_ne (by omega), up2_ne (by omega)]
  · rcases (by omega : k = 1 ∨ k = 2 ∨ k = 3 ∨ k = 4 ∨ k = 5 ∨ k = 6 ∨ k = 7 ∨ k = 8 ∨ k = 9 ∨ k = 10 ∨ k = 11 ∨ k = 12) with rfl | rfl | rfl | rfl | rfl | rfl | rfl | rfl | rfl | rfl | rfl | rfl
    · exact f12 (1, r + 1, 20, 40) (by simp)
    · exact f12 (2, r + 2, 20, 40) (by simp)
    · exact f12 (3, r + 3, 20, 40) (by simp)
    · exact f12 (4, r + 4, 20, 40) (by simp)
    · exact f12 (5, r + 5, 20, 40) (by simp)
    · exact f12 (6, r + 6, 20, 40) (by simp)
    · exact f12 (7, r + 7, 20, 40) (by simp)
    · exact f12 (8, r + 8, 20, 40) (by simp)
    · exact f12 (9, r + 9, 20, 40) (by simp)
    · exact f12 (10, r + 10, 20, 40) (by simp)
    · exact f12 (11, r + 11, 20, 40) (by simp)
    · exact f12 (12, r + 12, 20, 40) (by simp)
  · rw [up1_ne (by omega), up1_ne (by omega), up1_ne (by omega), up1_ne (by omega), up1_ne (by omega), up1_ne (by omega), up1_ne (by omega), up1_ne (by omega), up1_ne (by omega), up1_ne (by omega), up1_ne (by omega), up1_ne (by omega), up2_at, if_pos rfl]
  · rcases (by omega : j = 1 ∨ j = 2 ∨ j = 3 ∨ j = 4 ∨ j = 5 ∨ j = 6 ∨ j = 7 ∨ j = 8 ∨ j = 9 ∨ j = 10 ∨ j = 11 ∨ j = 12) with rfl | rfl | rfl | rfl | rfl | rfl | rfl | rfl | rfl | rfl | rfl | rfl
    · rw [up1_ne (by omega), up1_ne (by omega), up1_ne (by omega), up1_ne (by omega), up1_ne (by omega), up1_ne (by omega), up1_ne (by omega), up1_ne (by omega), up1_ne (by omega), up1_ne (by omega), up1_ne (by omega), up1_at]
    · rw [up1_ne (by omega), up1_ne (by omega), up1_ne (by omega), up1_ne (by omega), up1_ne (by omega), up1_ne (by omega), up1_ne (by omega), up1_ne (by omega), up1_ne (by omega), up1_ne (by omega), up1_at]
    · rw [up1_ne (by omega), up1_ne (by omega), up1_ne (by omega), up1_ne (by omega), up1_ne (by omega), up1_ne (by omega), up1_ne (by omega), up1_ne (by omega), up1_ne (by omega), up1_at]
    · rw [up1_ne (by omega), up1_ne (by omega), up1_ne (by omega), up1_ne (by omega), up1_ne (by omega), up1_ne (by omega), up1_ne (by omega), up1_ne (by omega), up1_at]
    · rw [up1_ne (by omega), up1_ne (by omega), up1_ne (by omega), up1_ne (by omega), up1_ne (by omega), up1_ne (by omega), up1_ne (by omega), up1_at]
    · rw [up1_ne (by omega), up1_ne (by omega), up1_ne (by omega), up1_ne (by omega), up1_ne (by omega), up1_ne (by omega), up1_at]
    · rw [up1_ne (by omega), up1_ne (by omega), up1_ne (by omega), up1_ne (by omega), up1_ne (by omega), up1_at]
    · rw [up1_ne (by omega), up1_ne (by omega), up1_ne (by omega), up1_ne (by omega), up1_at]
    · rw [up1_ne (by omega), up1_ne (by omega), up1_ne (by omega), up1_at]
    · rw [up1_ne (by omega), up1_ne (by omega), up1_at]
    · rw [up1_ne (by omega), up1_at]
    · rw [up1_at]
end Nm

/-! ===== clients: rows, put, makes, compileProbe ===== -/
def mkR (u c : Nat) (nm pk m f s : Int32) : Nat → Int32
  | 0 => nI u
  | 1 => nI c
  | 2 => if u < 3 then nm else -2
  | 3 => pk
  | 4 => nI 0
  | 5 => if u = 2 then m else -2
  | 6 => if u = 2 then f else -2
  | _ => if u = 2 then s else -2
/-- a client's row with its symbol -/
def kkR (k f : Nat → Int32) : Nat → Int32 := fun j => if j < 8 then k j else f (j - 8)
section Ck
variable {g : Gr} {A R p : Nat} {I I' : Mem} {J : Nat → Nat → Int64} {Z : Option Nat} {w w' : Nat → Int32} {n v u c b : Nat} {P : Nat → Nat → Int32} {d : Nat → Int32} {x y z nm pk mm0 f s : Int32} {k k' : Nat → Int32}
theorem com_0 : (comS w v k u c b).2 0 = nI 0 ∨ (comS w v k u c b).2 0 = nI 1 := by
  unfold comS
  split
  · exact Or.inl rfl
  · split
    · exact Or.inl rfl
    · split
      · unfold cfE
        cases fdS w v (k 2) true (nI 0) c with
        | none => exact Or.inl rfl
        | some m =>
          show (cfM w v k u b m).2 0 = nI 0 ∨ (cfM w v k u b m).2 0 = nI 1
          unfold cfM
          split
          · split
            · exact Or.inl rfl
            · split
              · exact Or.inr rfl
              · exact Or.inl rfl
          · exact Or.inl rfl
      · split
        · unfold caE
          split
          · exact Or.inl rfl
          · cases caS w v (apB w v k c b) with
            | none => exact Or.inl rfl
            | some m => exact Or.inl rfl
        · split
          · exact Or.inl rfl
          · split
            · exact Or.inl rfl
            · exact Or.inl rfl
theorem com_2 (hM : WM w v) (hW : WC w v) : (comS w v k u c b).2 2 = -2 ∨ ∃ m, m < nmb w v ∧ (comS w v k u c b).2 2 = mb w v m 5 := by
  unfold comS
  split
  · exact Or.inl rfl
  · split
    · exact Or.inl rfl
    · split
      · unfold cfE
        cases hf : fdS w v (k 2) true (nI 0) c with
        | none => exact Or.inl rfl
        | some m =>
          have hm := fdS_lt hW c m hf
          show (cfM w v k u b m).2 2 = -2 ∨ ∃ m', m' < nmb w v ∧ (cfM w v k u b m).2 2 = mb w v m' 5
          unfold cfM
          split
          · split
            · exact Or.inl rfl
            · split
              · exact Or.inl rfl
              · exact Or.inr ⟨m, hm, rfl⟩
          · exact Or.inl rfl
      · split
        · unfold caE
          split
          · exact Or.inl rfl
          · cases hs : caS w v (apB w v k c b) with
            | none => exact Or.inl rfl
            | some m => exact Or.inr ⟨m, (caS_A hs).1, rfl⟩
        · split
          · exact Or.inl rfl
          · split
            · exact Or.inl rfl
            · exact Or.inl rfl
theorem com_SK (hM : WM w v) (hW : WC w v) (h : (comS w v k u c b).1 = nI 0) : SK (kkR k (comS w v k u c b).2) u := by
  have e : ∀ j, kkR k (comS w v k u c b).2 (8 + j) = (comS w v k u c b).2 j := fun j => by
    unfold kkR
    rw [if_neg (by omega), show 8 + j - 8 = j from by omega]
  refine ⟨by rw [show (8 : Nat) = 8 + 0 from rfl, e]; exact com_0, ?_, fun hu => ?_, fun hu => by rw [show (12 : Nat) = 8 + 4 from rfl, e]; exact com_4 hu⟩
  · rw [show (10 : Nat) = 8 + 2 from rfl, e]
    rcases com_2 (k := k) (u := u) (c := c) (b := b) hM hW with q | ⟨m, hm, q⟩
    · rw [q]; decide
    · rw [q]; exact (hM.typ m hm).n3
  · subst hu
    obtain ⟨m, hm, q⟩ := com_ca h
    rw [show (12 : Nat) = 8 + 4 from rfl, e, show (13 : Nat) = 8 + 5 from rfl, e, show (14 : Nat) = 8 + 6 from rfl, e, show (10 : Nat) = 8 + 2 from rfl, e, q]
    exact ⟨hM.par m hm, (hM.typ m hm).ty⟩

theorem M_makes (hG : ModG g R) (hu : u < 6) : ∃ I', fX9_makes R (nI u) (nI c) nm pk mm0 f s (mm g I J Z) = some ((), mm g I' J Z) ∧ (∀ y, y ≠ R + 5 → I' y = I y) ∧ ∀ j, I' (R + 5) j = if j < 8 then mkR u c nm pk mm0 (if mm0 ≤ 0 then -2 else f) (if mm0 ≤ nI 1 then -2 else s) j else I (R + 5) j := by
  unfold fX9_makes fX9_makes_30 fX9_makes_63 fX9_makes_85 fX9_makes_87 fX9_makes_110 fX9_makes_112
  rcases (by omega : u = 0 ∨ u = 1 ∨ u = 2 ∨ u = 3 ∨ u = 4 ∨ u = 5) with rfl | rfl | rfl | rfl | rfl | rfl
  · refine ⟨up1 I (R + 5) (sW (sW (sW (sW (sW (sW (sW (sW (I (R + 5)) 0 (nI 0)) 1 (nI c)) 2 nm) 3 pk) 4 (nI 0)) 5 (-2)) 6 (-2)) 7 (-2)), ?_, fun y hy => up1_ne hy, fun j => ?_⟩
    · rw [hG.p15, Option.bind_some, hG.st5 (by decide), Option.bind_some, up2_1, hG.p15, Option.bind_some, hG.st5 (by decide), Option.bind_some, up2_11, hG.p15, Option.bind_some, if_neg (by decide), hG.st5 (by decide), Option.bind_some, up2_11, hG.p15, Option.bind_some, hG.st5 (by decide), Option.bind_some, up2_11, hG.p15, Option.bind_some, hG.st5 (by decide), Option.bind_some, up2_11, hG.p15, Option.bind_some, if_neg (by decide), hG.st5 (by decide), Option.bind_some, up2_11, hG.p15, Option.bind_some, if_neg (by decide), hG.st5 (by decide), Option.bind_some, up2_11, hG.p15, Option.bind_some, if_neg (by decide), hG.st5 (by decide), Option.bind_some, up2_11]
    · rw [up1_at]
      by_cases hj : j < 8
      · rw [if_pos hj]
        rcases (by omega : j = 0 ∨ j = 1 ∨ j = 2 ∨ j = 3 ∨ j = 4 ∨ j = 5 ∨ j = 6 ∨ j = 7) with rfl | rfl | rfl | rfl | rfl | rfl | rfl | rfl <;> simp [sW, mkR]
      · rw [if_neg hj, sW_ne (by omega), sW_ne (by omega), sW_ne (by omega), sW_ne (by omega), sW_ne (by omega), sW_ne (by omega), sW_ne (by omega), sW_ne (by omega)]
  · refine ⟨up1 I (R + 5) (sW (sW (sW (sW (sW (sW (sW (sW (I (R + 5)) 0 (nI 1)) 1 (nI c)) 2 nm) 3 pk) 4 (nI 0)) 5 (-2)) 6 (-2)) 7 (-2)), ?_, fun y hy => up1_ne hy, fun j => ?_⟩
    · rw [hG.p15, Option.bind_some, hG.st5 (by decide), Option.bind_some, up2_1, hG.p15, Option.bind_some, hG.st5 (by decide), Option.bind_some, up2_11, hG.p15, Option.bind_some, if_neg (by decide), hG.st5 (by decide), Option.bind_some, up2_11, hG.p15, Option.bind_some, hG.st5 (by decide), Option.bind_some, up2_11, hG.p15, Option.bind_some, hG.st5 (by decide), Option.bind_some, up2_11, hG.p15, Option.bind_some, if_neg (by decide), hG.st5 (by decide), Option.bind_some, up2_11, hG.p15, Option.bind_some, if_neg (by decide), hG.st5 (by decide), Option.bind_some, up2_11, hG.p15, Option.bind_some, if_neg (by decide), hG.st5 (by decide), Option.bind_some, up2_11]
    · rw [up1_at]
      by_cases hj : j < 8
      · rw [if_pos hj]
        rcases (by omega : j = 0 ∨ j = 1 ∨ j = 2 ∨ j = 3 ∨ j = 4 ∨ j = 5 ∨ j = 6 ∨ j = 7) with rfl | rfl | rfl | rfl | rfl | rfl | rfl | rfl <;> simp [sW, mkR]
      · rw [if_neg hj, sW_ne (by omega), sW_ne (by omega), sW_ne (by omega), sW_ne (by omega), sW_ne (by omega), sW_ne (by omega), sW_ne (by omega), sW_ne (by omega)]
  · refine ⟨up1 I (R + 5) (sW (sW (sW (sW (sW (sW (sW (sW (I (R + 5)) 0 (nI 2)) 1 (nI c)) 2 nm) 3 pk) 4 (nI 0)) 5 mm0) 6 (if mm0 ≤ 0 then -2 else f)) 7 (if mm0 ≤ nI 1 then -2 else s)), ?_, fun y hy => up1_ne hy, fun j => ?_⟩
    · rw [hG.p15, Option.bind_some, hG.st5 (by decide), Option.bind_some, up2_1, hG.p15, Option.bind_some, hG.st5 (by decide), Option.bind_some, up2_11, hG.p15, Option.bind_some, if_neg (by decide), hG.st5 (by decide), Option.bind_some, up2_11, hG.p15, Option.bind_some, hG.st5 (by decide), Option.bind_some, up2_11, hG.p15, Option.bind_some, hG.st5 (by decide), Option.bind_some, up2_11, hG.p15, Option.bind_some, if_pos rfl, hG.st5 (by decide), Option.bind_some, up2_11, hG.p15, Option.bind_some, if_pos rfl]
      by_cases m1 : mm0 ≤ 0
      · have m2 : mm0 ≤ nI 1 := Int32.le_trans m1 (by decide)
        rw [if_pos m1, if_pos m1, if_pos m2, hG.st5 (by decide), Option.bind_some, up2_11, hG.p15, Option.bind_some, if_pos rfl, if_pos m2, hG.st5 (by decide), Option.bind_some, up2_11]
      · rw [if_neg m1, if_neg m1, hG.st5 (by decide), Option.bind_some, up2_11, hG.p15, Option.bind_some, if_pos rfl]
        by_cases m2 : mm0 ≤ nI 1
        · rw [if_pos m2, if_pos m2, hG.st5 (by decide), Option.bind_some, up2_11]
        · rw [if_neg m2, if_neg m2, hG.st5 (by decide), Option.bind_some, up2_11]
    · rw [up1_at]
      by_cases hj : j < 8
      · rw [if_pos hj]
        rcases (by omega : j = 0 ∨ j = 1 ∨ j = 2 ∨ j = 3 ∨ j = 4 ∨ j = 5 ∨ j = 6 ∨ j = 7) with rfl | rfl | rfl | rfl | rfl | rfl | rfl | rfl <;> simp [sW, mkR]
      · rw [if_neg hj, sW_ne (by omega), sW_ne (by omega), sW_ne (by omega), sW_ne (by omega), sW_ne (by omega), sW_ne (by omega), sW_ne (by omega), sW_ne (by omega)]
  · refine ⟨up1 I (R + 5) (sW (sW (sW (sW (sW (sW (sW (sW (I (R + 5)) 0 (nI 3)) 1 (nI c)) 2 (-2)) 3 pk) 4 (nI 0)) 5 (-2)) 6 (-2)) 7 (-2)), ?_, fun y hy => up1_ne hy, fun j => ?_⟩
    · rw [hG.p15, Option.bind_some, hG.st5 (by decide), Option.bind_some, up2_1, hG.p15, Option.bind_some, hG.st5 (by decide), Option.bind_some, up2_11, hG.p15, Option.bind_some, if_pos (by decide), hG.st5 (by decide), Option.bind_some, up2_11, hG.p15, Option.bind_some, hG.st5 (by decide), Option.bind_some, up2_11, hG.p15, Option.bind_some, hG.st5 (by decide), Option.bind_some, up2_11, hG.p15, Option.bind_some, if_neg (by decide), hG.st5 (by decide), Option.bind_some, up2_11, hG.p15, Option.bind_some, if_neg (by decide), hG.st5 (by decide), Option.bind_some, up2_11, hG.p15, Option.bind_some, if_neg (by decide), hG.st5 (by decide), Option.bind_some, up2_11]
    · rw [up1_at]
      by_cases hj : j < 8
      · rw [if_pos hj]
        rcases (by omega : j = 0 ∨ j = 1 ∨ j = 2 ∨ j = 3 ∨ j = 4 ∨ j = 5 ∨ j = 6 ∨ j = 7) with rfl | rfl | rfl | rfl | rfl | rfl | rfl | rfl <;> simp [sW, mkR]
      · rw [if_neg hj, sW_ne (by omega), sW_ne (by omega), sW_ne (by omega), sW_ne (by omega), sW_ne (by omega), sW_ne (by omega), sW_ne (by omega), sW_ne (by omega)]
  · refine ⟨up1 I (R + 5) (sW (sW (sW (sW (sW (sW (sW (sW (I (R + 5)) 0 (nI 4)) 1 (nI c)) 2 (-2)) 3 pk) 4 (nI 0)) 5 (-2)) 6 (-2)) 7 (-2)), ?_, fun y hy => up1_ne hy, fun j => ?_⟩
    · rw [hG.p15, Option.bind_some, hG.st5 (by decide), Option.bind_some, up2_1, hG.p15, Option.bind_some, hG.st5 (by decide), Option.bind_some, up2_11, hG.p15, Option.bind_some, if_pos (by decide), hG.st5 (by decide), Option.bind_some, up2_11, hG.p15, Option.bind_some, hG.st5 (by decide), Option.bind_some, up2_11, hG.p15, Option.bind_some, hG.st5 (by decide), Option.bind_some, up2_11, hG.p15, Option.bind_some, if_neg (by decide), hG.st5 (by decide), Option.bind_some, up2_11, hG.p15, Option.bind_some, if_neg (by decide), hG.st5 (by decide), Option.bind_some, up2_11, hG.p15, Option.bind_some, if_neg (by decide), hG.st5 (by decide), Option.bind_some, up2_11]
    · rw [up1_at]
      by_cases hj : j < 8
      · rw [if_pos hj]
        rcases (by omega : j = 0 ∨ j = 1 ∨ j = 2 ∨ j = 3 ∨ j = 4 ∨ j = 5 ∨ j = 6 ∨ j = 7) with rfl | rfl | rfl | rfl | rfl | rfl | rfl | rfl <;> simp [sW, mkR]
      · rw [if_neg hj, sW_ne (by omega), sW_ne (by omega), sW_ne (by omega), sW_ne (by omega), sW_ne (by omega), sW_ne (by omega), sW_ne (by omega), sW_ne (by omega)]
  · refine ⟨up1 I (R + 5) (sW (sW (sW (sW (sW (sW (sW (sW (I (R + 5)) 0 (nI 5)) 1 (nI c)) 2 (-2)) 3 pk) 4 (nI 0)) 5 (-2)) 6 (-2)) 7 (-2)), ?_, fun y hy => up1_ne hy, fun j => ?_⟩
    · rw [hG.p15, Option.bind_some, hG.st5 (by decide), Option.bind_some, up2_1, hG.p15, Option.bind_some, hG.st5 (by decide), Option.bind_some, up2_11, hG.p15, Option.bind_some, if_pos (by decide), hG.st5 (by decide), Option.bind_some, up2_11, hG.p15, Option.bind_some, hG.st5 (by decide), Option.bind_some, up2_11, hG.p15, Option.bind_some, hG.st5 (by decide), Option.bind_some, up2_11, hG.p15, Option.bind_some, if_neg (by decide), hG.st5 (by decide), Option.bind_some, up2_11, hG.p15, Option.bind_some, if_neg (by decide), hG.st5 (by decide), Option.bind_some, up2_11, hG.p15, Option.bind_some, if_neg (by decide), hG.st5 (by decide), Option.bind_some, up2_11]
    · rw [up1_at]
      by_cases hj : j < 8
      · rw [if_pos hj]
        rcases (by omega : j = 0 ∨ j = 1 ∨ j = 2 ∨ j = 3 ∨ j = 4 ∨ j = 5 ∨ j = 6 ∨ j = 7) with rfl | rfl | rfl | rfl | rfl | rfl | rfl | rfl <;> simp [sW, mkR]
      · rw [if_neg hj, sW_ne (by omega), sW_ne (by omega), sW_ne (by omega), sW_ne (by omega), sW_ne (by omega), sW_ne (by omega), sW_ne (by omega), sW_ne (by omega)]

theorem C_put (hp : ClG g p) (hu : u < 6) : ∃ I', fX0_put p (nI u) (nI c) nm pk (mm g I J Z) = some ((), mm g I' J Z) ∧ (∀ y, y ≠ p → y ≠ p + 1 → I' y = I y) ∧ (∀ j, j < 8 → I' p j = mkR u c nm pk (nI 0) (-2) (-2) j) ∧ SymR I' (p + 1) nr := by
  unfold fX0_put fX0_put_22 fX0_put_48
  rcases (by omega : u = 0 ∨ u = 1 ∨ u = 2 ∨ u = 3 ∨ u = 4 ∨ u = 5) with rfl | rfl | rfl | rfl | rfl | rfl
  · obtain ⟨I1, e1, e2, e3⟩ := C_clear (I := up1 I p (sW (sW (sW (sW (sW (sW (sW (sW (I p) 0 (nI 0)) 1 (nI c)) 2 nm) 3 pk) 4 (nI 0)) 5 (-2)) 6 (-2)) 7 (-2))) (J := J) (Z := Z) hp.2.2
    refine ⟨I1, ?_, fun y h1 h2 => by rw [e2 y h2, up1_ne h1], fun j hj => ?_, e3⟩
    · rw [pI_m hp.1, Option.bind_some, up2_1, pI_m hp.1, Option.bind_some, up2_11, if_neg (by decide), pI_m hp.1, Option.bind_some, up2_11, pI_m hp.1, Option.bind_some, up2_11, pI_m hp.1, Option.bind_some, up2_11, if_neg (by decide), pI_m hp.1, Option.bind_some, up2_11, pI_m hp.1, Option.bind_some, up2_11, pI_m hp.1, Option.bind_some, up2_11, gP_m hp.1 hp.2.1, Option.bind_some, sym_cv hp.2.2, e1, bd_some]
    · rw [e2 p (by omega), up1_at]
      rcases (by omega : j = 0 ∨ j = 1 ∨ j = 2 ∨ j = 3 ∨ j = 4 ∨ j = 5 ∨ j = 6 ∨ j = 7) with rfl | rfl | rfl | rfl | rfl | rfl | rfl | rfl <;> simp [sW, mkR]
  · obtain ⟨I1, e1, e2, e3⟩ := C_clear (I := up1 I p (sW (sW (sW (sW (sW (sW (sW (sW (I p) 0 (nI 1)) 1 (nI c)) 2 nm) 3 pk) 4 (nI 0)) 5 (-2)) 6 (-2)) 7 (-2))) (J := J) (Z := Z) hp.2.2
    refine ⟨I1, ?_, fun y h1 h2 => by rw [e2 y h2, up1_ne h1], fun j hj => ?_, e3⟩
    · rw [pI_m hp.1, Option.bind_some, up2_1, pI_m hp.1, Option.bind_some, up2_11, if_neg (by decide), pI_m hp.1, Option.bind_some, up2_11, pI_m hp.1, Option.bind_some, up2_11, pI_m hp.1, Option.bind_some, up2_11, if_neg (by decide), pI_m hp.1, Option.bind_some, up2_11, pI_m hp.1, Option.bind_some, up2_11, pI_m hp.1, Option.bind_some, up2_11, gP_m hp.1 hp.2.1, Option.bind_some, sym_cv hp.2.2, e1, bd_some]
    · rw [e2 p (by omega), up1_at]
      rcases (by omega : j = 0 ∨ j = 1 ∨ j = 2 ∨ j = 3 ∨ j = 4 ∨ j = 5 ∨ j = 6 ∨ j = 7) with rfl | rfl | rfl | rfl | rfl | rfl | rfl | rfl <;> simp [sW, mkR]
  · obtain ⟨I1, e1, e2, e3⟩ := C_clear (I := up1 I p (sW (sW (sW (sW (sW (sW (sW (sW (I p) 0 (nI 2)) 1 (nI c)) 2 nm) 3 pk) 4 (nI 0)) 5 (nI 0)) 6 (-2)) 7 (-2))) (J := J) (Z := Z) hp.2.2
    refine ⟨I1, ?_, fun y h1 h2 => by rw [e2 y h2, up1_ne h1], fun j hj => ?_, e3⟩
    · rw [pI_m hp.1, Option.bind_some, up2_1, pI_m hp.1, Option.bind_some, up2_11, if_neg (by decide), pI_m hp.1, Option.bind_some, up2_11, pI_m hp.1, Option.bind_some, up2_11, pI_m hp.1, Option.bind_some, up2_11, if_pos rfl, pI_m hp.1, Option.bind_some, up2_11, pI_m hp.1, Option.bind_some, up2_11, pI_m hp.1, Option.bind_some, up2_11, gP_m hp.1 hp.2.1, Option.bind_some, sym_cv hp.2.2, e1, bd_some]
    · rw [e2 p (by omega), up1_at]
      rcases (by omega : j = 0 ∨ j = 1 ∨ j = 2 ∨ j = 3 ∨ j = 4 ∨ j = 5 ∨ j = 6 ∨ j = 7) with rfl | rfl | rfl | rfl | rfl | rfl | rfl | rfl <;> simp [sW, mkR]
  · obtain ⟨I1, e1, e2, e3⟩ := C_clear (I := up1 I p (sW (sW (sW (sW (sW (sW (sW (sW (I p) 0 (nI 3)) 1 (nI c)) 2 (-2)) 3 pk) 4 (nI 0)) 5 (-2)) 6 (-2)) 7 (-2))) (J := J) (Z := Z) hp.2.2
    refine ⟨I1, ?_, fun y h1 h2 => by rw [e2 y h2, up1_ne h1], fun j hj => ?_, e3⟩
    · rw [pI_m hp.1, Option.bind_some, up2_1, pI_m hp.1, Option.bind_some, up2_11, if_pos (by decide), pI_m hp.1, Option.bind_some, up2_11, pI_m hp.1, Option.bind_some, up2_11, pI_m hp.1, Option.bind_some, up2_11, if_neg (by decide), pI_m hp.1, Option.bind_some, up2_11, pI_m hp.1, Option.bind_some, up2_11, pI_m hp.1, Option.bind_some, up2_11, gP_m hp.1 hp.2.1, Option.bind_some, sym_cv hp.2.2, e1, bd_some]
    · rw [e2 p (by omega), up1_at]
      rcases (by omega : j = 0 ∨ j = 1 ∨ j = 2 ∨ j = 3 ∨ j = 4 ∨ j = 5 ∨ j = 6 ∨ j = 7) with rfl | rfl | rfl | rfl | rfl | rfl | rfl | rfl <;> simp [sW, mkR]
  · obtain ⟨I1, e1, e2, e3⟩ := C_clear (I := up1 I p (sW (sW (sW (sW (sW (sW (sW (sW (I p) 0 (nI 4)) 1 (nI c)) 2 (-2)) 3 pk) 4 (nI 0)) 5 (-2)) 6 (-2)) 7 (-2))) (J := J) (Z := Z) hp.2.2
    refine ⟨I1, ?_, fun y h1 h2 => by rw [e2 y h2, up1_ne h1], fun j hj => ?_, e3⟩
    · rw [pI_m hp.1, Option.bind_some, up2_1, pI_m hp.1, Option.bind_some, up2_11, if_pos (by decide), pI_m hp.1, Option.bind_some, up2_11, pI_m hp.1, Option.bind_some, up2_11, pI_m hp.1, Option.bind_some, up2_11, if_neg (by decide), pI_m hp.1, Option.bind_some, up2_11, pI_m hp.1, Option.bind_some, up2_11, pI_m hp.1, Option.bind_some, up2_11, gP_m hp.1 hp.2.1, Option.bind_some, sym_cv hp.2.2, e1, bd_some]
    · rw [e2 p (by omega), up1_at]
      rcases (by omega : j = 0 ∨ j = 1 ∨ j = 2 ∨ j = 3 ∨ j = 4 ∨ j = 5 ∨ j = 6 ∨ j = 7) with rfl | rfl | rfl | rfl | rfl | rfl | rfl | rfl <;> simp [sW, mkR]
  · obtain ⟨I1, e1, e2, e3⟩ := C_clear (I := up1 I p (sW (sW (sW (sW (sW (sW (sW (sW (I p) 0 (nI 5)) 1 (nI c)) 2 (-2)) 3 pk) 4 (nI 0)) 5 (-2)) 6 (-2)) 7 (-2))) (J := J) (Z := Z) hp.2.2
    refine ⟨I1, ?_, fun y h1 h2 => by rw [e2 y h2, up1_ne h1], fun j hj => ?_, e3⟩
    · rw [pI_m hp.1, Option.bind_some, up2_1, pI_m hp.1, Option.bind_some, up2_11, if_pos (by decide), pI_m hp.1, Option.bind_some, up2_11, pI_m hp.1, Option.bind_some, up2_11, pI_m hp.1, Option.bind_some, up2_11, if_neg (by decide), pI_m hp.1, Option.bind_some, up2_11, pI_m hp.1, Option.bind_some, up2_11, pI_m hp.1, Option.bind_some, up2_11, gP_m hp.1 hp.2.1, Option.bind_some, sym_cv hp.2.2, e1, bd_some]
    · rw [e2 p (by omega), up1_at]
      rcases (by omega : j = 0 ∨ j = 1 ∨ j = 2 ∨ j = 3 ∨ j = 4 ∨ j = 5 ∨ j = 6 ∨ j = 7) with rfl | rfl | rfl | rfl | rfl | rfl | rfl | rfl <;> simp [sW, mkR]

theorem C_putA (hp : ClG g p) (h : ∀ j, j < 8 → I p j = mkR 2 c nm pk (nI 0) (-2) (-2) j) : ∃ I', fX0_putArguments p mm0 f s (mm g I J Z) = some ((), mm g I' J Z) ∧ (∀ y, y ≠ p → I' y = I y) ∧ ∀ j, j < 8 → I' p j = mkR 2 c nm pk mm0 f s j := by
  refine ⟨up2 (up2 (up2 I p 5 mm0) p 6 f) p 7 s, ?_, fun y hy => by rw [up2_ne hy, up2_ne hy, up2_ne hy], fun j hj => ?_⟩
  · unfold fX0_putArguments
    rw [pI_m hp.1, Option.bind_some, pI_m hp.1, Option.bind_some, pI_m hp.1, Option.bind_some]
  · rcases (by omega : j = 0 ∨ j = 1 ∨ j = 2 ∨ j = 3 ∨ j = 4 ∨ j = 5 ∨ j = 6 ∨ j = 7) with rfl | rfl | rfl | rfl | rfl | rfl | rfl | rfl
    · rw [up2_at, if_neg (by decide), up2_at, if_neg (by decide), up2_at, if_neg (by decide), h 0 (by decide)]; rfl
    · rw [up2_at, if_neg (by decide), up2_at, if_neg (by decide), up2_at, if_neg (by decide), h 1 (by decide)]; rfl
    · rw [up2_at, if_neg (by decide), up2_at, if_neg (by decide), up2_at, if_neg (by decide), h 2 (by decide)]; rfl
    · rw [up2_at, if_neg (by decide), up2_at, if_neg (by decide), up2_at, if_neg (by decide), h 3 (by decide)]; rfl
    · rw [up2_at, if_neg (by decide), up2_at, if_neg (by decide), up2_at, if_neg (by decide), h 4 (by decide)]; rfl
    · simp [up2, mkR]
    · simp [up2, mkR]
    · simp [up2, mkR]
theorem mk_CK (hu : u < 6) (hc : c < 10) (hn : u ≤ 2 → ∃ q, q < 8 ∧ nm = nI q) (hP : Pt mm0 f s) : CK (mkR u c nm pk mm0 f s) u c 0 := by
  refine ⟨hu, hc, by decide, rfl, rfl, rfl, fun h => ?_, fun h => ?_⟩
  · show ∃ q, q < 8 ∧ (if u < 3 then nm else -2) = nI q
    rw [if_pos (by omega)]; exact hn h
  · show Pt (if u = 2 then mm0 else -2) (if u = 2 then f else -2) (if u = 2 then s else -2)
    rw [if_pos h, if_pos h, if_pos h]; exact hP
theorem err_if {e : Int32} {α : Type} {X Y : α} : (if e = 0 then X else Y) = if decide (e = nI 0) = true then X else Y := by
  by_cases q : e = 0
  · rw [if_pos q, if_pos (decide_eq_true (show e = nI 0 from q))]
  · rw [if_neg q, if_neg (show ¬ (decide (e = nI 0) = true) from fun z => q (of_decide_eq_true z))]
theorem C_cprobe (h : Rel g A I w n P d) (hkI : ∀ j, j < 8 → I (A + 405) j = k j) (hK : CK k u c b) : ∃ I', fX8_compileProbe A (mm g I J Z) = some (bI (decide ((comS w 0 k u c b).1 = nI 0)), mm g I' J Z) ∧ FvC A I I' ∧ (∀ j, j < 8 → I' (A + 405) j = k j) ∧ ((comS w 0 k u c b).1 = nI 0 → SymR I' (A + 405 + 1) (comS w 0 k u c b).2) ∧ I' (A + 409) 4 = bI (nkS w 0 k u c) := by
  have hQ := CQ.of0 h.jg.V h.jg.pb
  obtain ⟨I1, t1, t2, t3, t4⟩ := C_comp (J := J) (Z := Z) hQ h.cb0 hkI hK
  have fp : I1 (A + 405) = I (A + 405) := t2 _ (by omega) (by omega) (by omega) (by omega)
  have hf1 : FvC A I I1 := t2.v0.fvc
  unfold fX8_compileProbe
  rw [h.jg.V.p6, Option.bind_some, h.jg.V.c0, Option.bind_some, h.jg.p5, Option.bind_some, cv_m hQ.1.1, t1, bd_some, err_if]
  by_cases e : (comS w 0 k u c b).1 = nI 0
  · have hp := h.jg.pb.1
    obtain ⟨I2, s1, s2, s3⟩ := C_symCopy (I := I1) (J := J) (Z := Z) (s := A + 405 + 1) (t := A + 409 + 1) hp.2.2 hQ.1.2.2.2.1 (by omega) (by rw [t3.1]; exact com_0)
    refine ⟨I2, ?_, fun y h1 h2 h3 => by rw [s2 y (by omega)]; exact hf1 y h1 h2 h3, fun j hj => by rw [s2 _ (by omega), fp]; exact hkI j hj, fun _ => ?_, by rw [s2 _ (by omega)]; exact t4⟩
    · rw [decide_eq_true e, if_tt, h.jg.p5, Option.bind_some, gP_m hp.1 hp.2.1, Option.bind_some, h.jg.V.p6, Option.bind_some, h.jg.V.c0, Option.bind_some, gP_m hQ.1.1 hQ.1.2.2.1, Option.bind_some, sym_cv hp.2.2, s1, bd_some]
      exact rz_n1 _
    · obtain ⟨q0, q1, q2, q3, q4, q5, q6⟩ := t3
      exact ⟨(s3 0 (by decide)).trans q0, (s3 1 (by decide)).trans q1, (s3 2 (by decide)).trans q2, (s3 3 (by decide)).trans q3, (s3 4 (by decide)).trans q4, (s3 5 (by decide)).trans q5, (s3 6 (by decide)).trans q6⟩
  · refine ⟨I1, ?_, hf1, fun j hj => by rw [fp]; exact hkI j hj, fun q => absurd q e, t4⟩
    rw [decide_eq_false e, if_ff]
    exact rz_n0 _
end Ck

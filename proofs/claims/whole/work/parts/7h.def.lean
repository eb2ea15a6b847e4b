/-! ===== define ===== -/
def tkI (I : Mem) (a : Nat) (nb : Int32) (j : Nat) : Mem := fun x k => if x = a ∧ k < j then I a k &&& nb else I x k
def puW (w : Nat → Int32) (v c : Nat) (r : Nat → Int32) : Nat → Int32 := sW (sW (sW (sW (sW (sW (sW (sW w (481 * v + 8 * c + 0) (r 0)) (481 * v + 8 * c + 1) (r 1)) (481 * v + 8 * c + 2) (r 2)) (481 * v + 8 * c + 3) (r 3)) (481 * v + 8 * c + 4) (r 4)) (481 * v + 8 * c + 5) (r 5)) (481 * v + 8 * c + 6) (r 6)) (481 * v + 8 * c + 7) (r 7)
def supI (w : Nat → Int32) (v c : Nat) (x : Int32) : Bool := !decide (x < 0) && decide (x < nI 10) && supN w v c x.toNatClampNeg
section Df
variable {g : Gr} {A R a b : Nat} {I I' : Mem} {J : Nat → Nat → Int64} {Z : Option Nat} {w w' : Nat → Int32} {n k v c m q p : Nat} {P : Nat → Nat → Int32} {d : Nat → Int32} {x y z u s f : Int32} {r : Nat → Int32} {B : Bool}
theorem tk_step {nb : Int32} {j : Nat} : up2 (tkI I a nb j) a j (tkI I a nb j a j &&& nb) = tkI I a nb (j + 1) := by
  funext y i
  by_cases e : y = a
  · subst e
    rw [up2_at]
    unfold tkI
    by_cases q : i = j
    · rw [if_pos q, if_neg (by omega), if_pos (by omega), q]
    · rw [if_neg q]
      by_cases q2 : i < j
      · rw [if_pos ⟨rfl, q2⟩, if_pos ⟨rfl, by omega⟩]
      · rw [if_neg (by omega), if_neg (by omega)]
  · rw [up2_ne e]
    unfold tkI
    rw [if_neg (by omega), if_neg (by omega)]
theorem tk_0 {nb : Int32} : tkI I a nb 0 = I := by
  funext y i
  unfold tkI
  rw [if_neg (by omega)]
theorem L_take (hL : LibG g a) (hc : c < 10) : ∃ I', fX2_takeClass a (nI c) (mm g I J Z) = some ((), mm g I' J Z) ∧ (∀ y, y ≠ a → y ≠ a + 4 → y ≠ a + 5 → I' y = I y) ∧ (∀ k, k < 5 → ∀ i, i < 32 → bt (I' a k) i = (bt (I a k) i && !decide (i = c))) ∧ ∀ w v, RLc I' a w v → WC w v → RLs I' a w v := by
  obtain ⟨I3, t1, t2, t3⟩ := L_derive (I := tkI I a ((nI 1 <<< (nI c &&& 31)) ^^^ (-1)) 5) (J := J) (Z := Z) hL
  refine ⟨I3, ?_, fun y h1 h2 h3 => ?_, fun k hk i hi => ?_, fun w v hr hW => ?_⟩
  · conv => lhs; rw [show mm g I J Z = mm g (tkI I a ((nI 1 <<< (nI c &&& 31)) ^^^ (-1)) 0) J Z from by rw [tk_0]]
    unfold fX2_takeClass
    rw [lib_g0 hL, Option.bind_some, lib_s0 hL, Option.bind_some, tk_step, lib_g1 hL, Option.bind_some, lib_s1 hL, Option.bind_some, tk_step, lib_g2 hL, Option.bind_some, lib_s2 hL, Option.bind_some, tk_step, lib_g3 hL, Option.bind_some, lib_s3 hL, Option.bind_some, tk_step, lib_g4 hL, Option.bind_some, lib_s4 hL, Option.bind_some, tk_step, lib_cv hL, t1, bd_some]
  · rw [t2 y h2 h3]
    funext i
    unfold tkI
    rw [if_neg (fun q => h1 q.1)]
  · rw [t2 a (by omega) (by omega)]
    unfold tkI
    rw [if_pos ⟨rfl, hk⟩, and_not hi, show bt (nI 1 <<< (nI c &&& 31)) i = decide (i = c) from bt_one c (by omega) hi]
  · exact t3 w v (hr.fr (t2 _ (by omega) (by omega)).symm (t2 _ (by omega) (by omega)).symm (t2 _ (by omega) (by omega)).symm (t2 _ (by omega) (by omega)).symm) hW
theorem L_putC (hL : LibG g a) (hc : c < 10) : ∃ I', fX2_putClass a (nI c) (bI B) s f (mm g I J Z) = some ((), mm g I' J Z) ∧ (∀ y, y < a ∨ a + 6 ≤ y → I' y = I y) ∧
    (∀ i, i < 32 → bt (I' a 0) i = ((bt (I a 0) i && !decide (i = c)) || decide (i = c)) ∧ bt (I' a 1) i = ((bt (I a 1) i && !decide (i = c)) || (B && decide (i = c))) ∧ bt (I' a 2) i = (bt (I a 2) i && !decide (i = c)) ∧ bt (I' a 3) i = (bt (I a 3) i && !decide (i = c)) ∧ bt (I' a 4) i = ((bt (I a 4) i && !decide (i = c)) || (B && decide (i = c)))) ∧
    (∀ i, I' (a + 1) i = if i = c then nI 0 else I (a + 1) i) ∧ (∀ i, I' (a + 2) i = if i = c then s else I (a + 2) i) ∧ (∀ i, I' (a + 3) i = if i = c then f else I (a + 3) i) ∧ ∀ w v, RLc I' a w v → WC w v → RLs I' a w v := by
  obtain ⟨I1, t1, t2, t3, -⟩ := L_take (I := I) (J := J) (Z := Z) hL hc
  have b2 : ∀ t, t < 32 → bt (nI 1 <<< (nI c &&& 31)) t = decide (t = c) := fun t ht => bt_one c (by omega) ht
  -- the sets
  obtain ⟨I2, e2, f2, g0, g1, g2, g3, g4⟩ : ∃ I2 : Mem, fX2_putClass a (nI c) (bI B) s f (mm g I J Z) = fX2_putClass_47 a (nI c) s f (mm g I2 J Z) ∧ (∀ y, y ≠ a → I2 y = I1 y) ∧ (∀ i, i < 32 → bt (I2 a 0) i = ((bt (I a 0) i && !decide (i = c)) || decide (i = c))) ∧ (∀ i, i < 32 → bt (I2 a 1) i = ((bt (I a 1) i && !decide (i = c)) || (B && decide (i = c)))) ∧ (∀ i, i < 32 → bt (I2 a 2) i = (bt (I a 2) i && !decide (i = c))) ∧ (∀ i, i < 32 → bt (I2 a 3) i = (bt (I a 3) i && !decide (i = c))) ∧ (∀ i, i < 32 → bt (I2 a 4) i = ((bt (I a 4) i && !decide (i = c)) || (B && decide (i = c)))) := by
    unfold fX2_putClass
    rw [lib_cv hL, t1, bd_some, lib_g0 hL, Option.bind_some, lib_s0 hL, Option.bind_some, bIf]
    have o0 : ∀ i, i < 32 → bt (I1 a 0 ||| (nI 1 <<< (nI c &&& 31))) i = ((bt (I a 0) i && !decide (i = c)) || decide (i = c)) := fun i hi => by rw [b_or, t3 0 (by decide) i hi, b2 i hi]
    cases B
    · rw [if_ff]
      refine ⟨_, rfl, fun y hy => up2_ne hy, fun i hi => ?_, fun i hi => ?_, fun i hi => ?_, fun i hi => ?_, fun i hi => ?_⟩
      · rw [up2_at, if_pos rfl]; exact o0 i hi
      · rw [up2_at, if_neg (by decide), t3 1 (by decide) i hi, Bool.false_and, Bool.or_false]
      · rw [up2_at, if_neg (by decide), t3 2 (by decide) i hi]
      · rw [up2_at, if_neg (by decide), t3 3 (by decide) i hi]
      · rw [up2_at, if_neg (by decide), t3 4 (by decide) i hi, Bool.false_and, Bool.or_false]
    · rw [if_tt, lib_g1 hL, Option.bind_some, lib_s1 hL, Option.bind_some, lib_g4 hL, Option.bind_some, lib_s4 hL, Option.bind_some]
      refine ⟨_, rfl, fun y hy => by rw [up2_ne hy, up2_ne hy, up2_ne hy], fun i hi => ?_, fun i hi => ?_, fun i hi => ?_, fun i hi => ?_, fun i hi => ?_⟩
      · rw [up2_at, if_neg (by decide), up2_at, if_neg (by decide), up2_at, if_pos rfl]; exact o0 i hi
      · rw [up2_at, if_neg (by decide), up2_at, if_pos rfl, up2_at, if_neg (by decide), b_or, t3 1 (by decide) i hi, b2 i hi, Bool.true_and]
      · rw [up2_at, if_neg (by decide), up2_at, if_neg (by decide), up2_at, if_neg (by decide), t3 2 (by decide) i hi]
      · rw [up2_at, if_neg (by decide), up2_at, if_neg (by decide), up2_at, if_neg (by decide), t3 3 (by decide) i hi]
      · rw [up2_at, if_pos rfl, up2_at, if_neg (by decide), up2_at, if_neg (by decide), b_or, t3 4 (by decide) i hi, b2 i hi, Bool.true_and]
  obtain ⟨I4, d1, d2, d3⟩ := L_derive (I := up2 (up2 (up2 I2 (a + 1) c (nI 0)) (a + 2) c s) (a + 3) c f) (J := J) (Z := Z) hL
  have fa : up2 (up2 (up2 I2 (a + 1) c (nI 0)) (a + 2) c s) (a + 3) c f a = I2 a := by rw [up2_ne (by omega), up2_ne (by omega), up2_ne (by omega)]
  have q1 : ∀ y, y ≠ a → y ≠ a + 4 → y ≠ a + 5 → I2 y = I y := fun y h1 h2 h3 => (f2 y h1).trans (t2 y h1 h2 h3)
  refine ⟨I4, ?_, fun y hy => ?_, fun i hi => ?_, fun i => ?_, fun i => ?_, fun i => ?_, fun w v hr hW => ?_⟩
  · rw [e2]
    unfold fX2_putClass_47
    rw [lib_p5 hL, Option.bind_some, lib_t1 hL hc, Option.bind_some, lib_p6 hL, Option.bind_some, lib_t2 hL hc, Option.bind_some, lib_p7 hL, Option.bind_some, lib_t3 hL hc, Option.bind_some, lib_cv hL, d1, bd_some]
  · rw [d2 y (by omega) (by omega), up2_ne (by omega), up2_ne (by omega), up2_ne (by omega), q1 y (by omega) (by omega) (by omega)]
  · rw [d2 a (by omega) (by omega), fa]
    exact ⟨g0 i hi, g1 i hi, g2 i hi, g3 i hi, g4 i hi⟩
  · rw [d2 _ (by omega) (by omega), up2_ne (by omega), up2_ne (by omega), up2_at, q1 _ (by omega) (by omega) (by omega)]
  · rw [d2 _ (by omega) (by omega), up2_ne (by omega), up2_at, up2_ne (by omega), q1 _ (by omega) (by omega) (by omega)]
  · rw [d2 _ (by omega) (by omega), up2_at, up2_ne (by omega), up2_ne (by omega), q1 _ (by omega) (by omega) (by omega)]
  · exact d3 w v (hr.fr (d2 _ (by omega) (by omega)).symm (d2 _ (by omega) (by omega)).symm (d2 _ (by omega) (by omega)).symm (d2 _ (by omega) (by omega)).symm) hW
theorem exC_at (hc : c < 10) (h0 : cl w' v c 0 = nI 1) (hcl : ∀ k p, k < 10 → k ≠ c → p < 8 → cl w' v k p = cl w v k p) (i : Nat) : exC w' v i = (exC w v i || decide (i = c)) := by
  by_cases e : i = c
  · rw [e, exC_of hc h0, decide_eq_true rfl, Bool.or_true]
  · rw [decide_eq_false e, Bool.or_false]
    by_cases q : i < 10
    · rw [exC_in q, exC_in q, hcl i 0 q e (by decide)]
    · rw [exC_ge q, exC_ge q]
/-- the sets and rows of a class that is put -/
theorem RLc.put (hr : RLc I a w v) (hc : c < 10) (hcl : ∀ k p, k < 10 → k ≠ c → p < 8 → cl w' v k p = cl w v k p) (h0 : cl w' v c 0 = nI 1) (h1 : cl w' v c 1 = bI B) (h2 : cl w' v c 2 = s) (h3 : cl w' v c 3 = f) (h4 : cl w' v c 4 = nI 0) (h5 : cl w' v c 5 = nI 0) (h6 : cl w' v c 6 = nI 0) (h7 : cl w' v c 7 = bI B)
    (hb : ∀ i, i < 32 → bt (I' a 0) i = ((bt (I a 0) i && !decide (i = c)) || decide (i = c)) ∧ bt (I' a 1) i = ((bt (I a 1) i && !decide (i = c)) || (B && decide (i = c))) ∧ bt (I' a 2) i = (bt (I a 2) i && !decide (i = c)) ∧ bt (I' a 3) i = (bt (I a 3) i && !decide (i = c)) ∧ bt (I' a 4) i = ((bt (I a 4) i && !decide (i = c)) || (B && decide (i = c)))) (ha1 : ∀ i, I' (a + 1) i = if i = c then nI 0 else I (a + 1) i) (ha2 : ∀ i, I' (a + 2) i = if i = c then s else I (a + 2) i) (ha3 : ∀ i, I' (a + 3) i = if i = c then f else I (a + 3) i) : RLc I' a w' v := by
  have ex := exC_at hc h0 hcl
  have off : ∀ i, i ≠ c → exC w' v i = exC w v i := fun i e => by rw [ex i, decide_eq_false e, Bool.or_false]
  have on : exC w' v c = true := exC_of hc h0
  have bB : ∀ b : Bool, decide (bI b = nI 1) = b := fun b => by cases b <;> decide
  have gen : ∀ (i : Nat) (k : Nat) (p : Nat) (z : Bool), p < 8 → bt (I' a k) i = ((bt (I a k) i && !decide (i = c)) || (z && decide (i = c))) → bt (I a k) i = (exC w v i && decide (cl w v i p = nI 1)) → decide (cl w' v c p = nI 1) = z → bt (I' a k) i = (exC w' v i && decide (cl w' v i p = nI 1)) := by
    intro i k p z hp q1 q2 q3
    rw [q1]
    by_cases e : i = c
    · rw [e, on, q3, decide_eq_true rfl, Bool.not_true, Bool.and_false, Bool.false_or, Bool.and_true, Bool.true_and]
    · rw [decide_eq_false e, Bool.not_false, Bool.and_true, Bool.and_false, Bool.or_false, q2, off i e]
      cases he : exC w v i
      · rfl
      · rw [hcl i p (exC_lt he) e hp]
  refine ⟨fun i hi => ?_, fun i hi => ?_, fun i hi => ?_, fun i hi => ?_, fun i hi => ?_, fun i he => ?_, fun i he => ?_, fun i he => ?_⟩
  · rw [(hb i hi).1, ex i, hr.1 i hi]
    cases exC w v i <;> cases decide (i = c) <;> rfl
  · exact gen i 1 1 B (by decide) (hb i hi).2.1 (hr.2.1 i hi) (by rw [h1]; exact bB B)
  · exact gen i 2 5 false (by decide) (by rw [(hb i hi).2.2.1, Bool.false_and, Bool.or_false]) (hr.2.2.1 i hi) (by rw [h5]; decide)
  · exact gen i 3 6 false (by decide) (by rw [(hb i hi).2.2.2.1, Bool.false_and, Bool.or_false]) (hr.2.2.2.1 i hi) (by rw [h6]; decide)
  · exact gen i 4 7 B (by decide) (hb i hi).2.2.2.2 (hr.2.2.2.2.1 i hi) (by rw [h7]; exact bB B)
  · by_cases e : i = c
    · rw [ha1, if_pos e, e, h4]
    · rw [off i e] at he
      rw [ha1, if_neg e, hcl i 4 (exC_lt he) e (by decide)]; exact hr.2.2.2.2.2.1 i he
  · by_cases e : i = c
    · rw [ha2, if_pos e, e, h2]
    · rw [off i e] at he
      rw [ha2, if_neg e, hcl i 2 (exC_lt he) e (by decide)]; exact hr.2.2.2.2.2.2.1 i he
  · by_cases e : i = c
    · rw [ha3, if_pos e, e, h3]
    · rw [off i e] at he
      rw [ha3, if_neg e, hcl i 3 (exC_lt he) e (by decide)]; exact hr.2.2.2.2.2.2.2 i he

/-! the row -/
theorem puW_o {i : Nat} (h : i < 481 * v + 8 * c ∨ 481 * v + 8 * c + 8 ≤ i) : puW w v c r i = w i := by
  unfold puW
  rw [sW_ne (by omega), sW_ne (by omega), sW_ne (by omega), sW_ne (by omega), sW_ne (by omega), sW_ne (by omega), sW_ne (by omega), sW_ne (by omega)]
theorem puW_in (hp : p < 8) : cl (puW w v c r) v c p = r p := by
  unfold cl puW
  rcases (by omega : p = 0 ∨ p = 1 ∨ p = 2 ∨ p = 3 ∨ p = 4 ∨ p = 5 ∨ p = 6 ∨ p = 7) with rfl | rfl | rfl | rfl | rfl | rfl | rfl | rfl
  · rw [sW_ne (by omega), sW_ne (by omega), sW_ne (by omega), sW_ne (by omega), sW_ne (by omega), sW_ne (by omega), sW_ne (by omega), sW_at]
  · rw [sW_ne (by omega), sW_ne (by omega), sW_ne (by omega), sW_ne (by omega), sW_ne (by omega), sW_ne (by omega), sW_at]
  · rw [sW_ne (by omega), sW_ne (by omega), sW_ne (by omega), sW_ne (by omega), sW_ne (by omega), sW_at]
  · rw [sW_ne (by omega), sW_ne (by omega), sW_ne (by omega), sW_ne (by omega), sW_at]
  · rw [sW_ne (by omega), sW_ne (by omega), sW_ne (by omega), sW_at]
  · rw [sW_ne (by omega), sW_ne (by omega), sW_at]
  · rw [sW_ne (by omega), sW_at]
  · rw [sW_at]
theorem puW_cl {k p : Nat} (hk : k ≠ c) (hp : p < 8) : cl (puW w v c r) v k p = cl w v k p := puW_o (by omega)
theorem puW_mn (hc : c < 10) : mn (puW w v c r) v = mn w v := puW_o (by omega)
theorem puW_mb (hc : c < 10) {m p : Nat} : mb (puW w v c r) v m p = mb w v m p := puW_o (by omega)
theorem puW_out (hc : c < 10) {i : Nat} (h : i < 481 * v ∨ 481 * v + 481 ≤ i) : puW w v c r i = w i := puW_o (by omega)
/-- what puts writes *)  -/
def puR (B : Bool) (s f its pub abs : Int32) : Nat → Int32
  | 0 => nI 1
  | 1 => bI B
  | 2 => s
  | 3 => f
  | 4 => its
  | 5 => pub
  | 6 => nI 0
  | _ => abs
theorem M_puts (hG : ModG g R) (hv : v < 2) (hc : c < 10) (hr : I (R + 1) = w) {its pub abs : Int32} : fX9_puts R (nI v) (nI c) (bI B) s f its pub abs (mm g I J Z) = some ((), mm g (up1 I (R + 1) (puW w v c (puR B s f its pub abs))) J Z) := by
  have ix : nI 481 * nI v + nI 8 * nI c = nI (481 * v + 8 * c) := by rw [pk_mul, pk_mul, nI_add]
  unfold fX9_puts fX9_puts_34 fX9_at
  rw [ix, bd_some, hG.p0, Option.bind_some, nI_add (481 * v + 8 * c) 0, hG.st1 (by omega), Option.bind_some, up2_1, hr, hG.p0, Option.bind_some, bIf, nI_add (481 * v + 8 * c) 1]
  cases B
  · rw [if_ff, hG.st1 (by omega), Option.bind_some, up2_11, hG.p0, Option.bind_some, nI_add (481 * v + 8 * c) 2, hG.st1 (by omega), Option.bind_some, up2_11, hG.p0, Option.bind_some, nI_add (481 * v + 8 * c) 3, hG.st1 (by omega), Option.bind_some, up2_11, hG.p0, Option.bind_some, nI_add (481 * v + 8 * c) 4, hG.st1 (by omega), Option.bind_some, up2_11, hG.p0, Option.bind_some, nI_add (481 * v + 8 * c) 5, hG.st1 (by omega), Option.bind_some, up2_11, hG.p0, Option.bind_some, nI_add (481 * v + 8 * c) 6, hG.st1 (by omega), Option.bind_some, up2_11, hG.p0, Option.bind_some, nI_add (481 * v + 8 * c) 7, hG.st1 (by omega), Option.bind_some, up2_11]
    rfl
  · rw [if_tt, hG.st1 (by omega), Option.bind_some, up2_11, hG.p0, Option.bind_some, nI_add (481 * v + 8 * c) 2, hG.st1 (by omega), Option.bind_some, up2_11, hG.p0, Option.bind_some, nI_add (481 * v + 8 * c) 3, hG.st1 (by omega), Option.bind_some, up2_11, hG.p0, Option.bind_some, nI_add (481 * v + 8 * c) 4, hG.st1 (by omega), Option.bind_some, up2_11, hG.p0, Option.bind_some, nI_add (481 * v + 8 * c) 5, hG.st1 (by omega), Option.bind_some, up2_11, hG.p0, Option.bind_some, nI_add (481 * v + 8 * c) 6, hG.st1 (by omega), Option.bind_some, up2_11, hG.p0, Option.bind_some, nI_add (481 * v + 8 * c) 7, hG.st1 (by omega), Option.bind_some, up2_11]
    rfl

theorem supN_c (h : supN w v c q = true) : q < c ∧ exC w v q = true ∧ itB w v q = false := by
  unfold supN at h
  simp only [Bool.and_eq_true, Bool.not_eq_true', decide_eq_true_eq] at h
  exact ⟨h.1.1.1, h.1.1.2, h.1.2⟩
theorem supI_n (h : supI w v c x = true) : ∃ q, q < 10 ∧ x = nI q ∧ supN w v c q = true := by
  unfold supI at h
  simp only [Bool.and_eq_true, Bool.not_eq_true', decide_eq_true_eq, decide_eq_false_iff_not] at h
  obtain ⟨⟨h1, h2⟩, h3⟩ := h
  obtain ⟨q, hq, rfl⟩ := nI_mem (by omega) h1 h2
  rw [nI_clamp (by omega)] at h3
  exact ⟨q, hq, rfl, h3⟩
theorem supI_in (hq : q < 10) : supI w v c (nI q) = supN w v c q := by
  unfold supI
  rw [decide_eq_false (nI_pos (by omega)), decide_eq_true (nI_lt hq (by omega)), nI_clamp (by omega)]
  rfl
theorem supI_X (h : x < 0 ∨ nI 10 ≤ x) : supI w v c x = false := by
  unfold supI
  rcases h with h | h
  · rw [decide_eq_true h]; rfl
  · rw [decide_eq_false (Int32.not_lt.mpr h), Bool.and_false]; rfl
theorem C_supI (h : CB g I a w v) (hc : c < 10) : fX2_canHaveSuperclass a (nI c) x (mm g I J Z) = some (bI (supI w v c x), mm g I J Z) := by
  rcases int_x x 10 (by omega) with hx | ⟨q, hq, rfl⟩
  · rw [C_supX h hx, supI_X hx]
  · rw [C_sup h hc hq, supI_in hq]
theorem M_supI (h : Mb g R I w v) (hc : c < 10) : fX9_mayBeAbove R (nI v) (nI c) x (mm g I J Z) = some (bI (supI w v c x), mm g I J Z) := by
  rcases int_x x 10 (by omega) with hx | ⟨q, hq, rfl⟩
  · rw [M_mayX h hx, supI_X hx]
  · rw [M_may h hc hq, supI_in hq]
/-- a class that is defined: the row stays well-formed -/
theorem dfW_WC (hW : WC w v) (hc1 : 1 ≤ c) (hc : c < 10) (hne : exC w v c = false) (hs : (B = true ∧ s = nI 0) ∨ (B = false ∧ supI w v c s = true)) (hf : ifsB w v c f = true) : WC (puW w v c (puR B s f (nI 0) (nI 0) (bI B))) v := by
  have r0 : cl (puW w v c (puR B s f (nI 0) (nI 0) (bI B))) v c 0 = nI 1 := puW_in (by decide)
  have r1 : cl (puW w v c (puR B s f (nI 0) (nI 0) (bI B))) v c 1 = bI B := puW_in (by decide)
  have r2 : cl (puW w v c (puR B s f (nI 0) (nI 0) (bI B))) v c 2 = s := puW_in (by decide)
  have r3 : cl (puW w v c (puR B s f (nI 0) (nI 0) (bI B))) v c 3 = f := puW_in (by decide)
  have r4 : cl (puW w v c (puR B s f (nI 0) (nI 0) (bI B))) v c 4 = nI 0 := puW_in (by decide)
  have r5 : cl (puW w v c (puR B s f (nI 0) (nI 0) (bI B))) v c 5 = nI 0 := puW_in (by decide)
  have r6 : cl (puW w v c (puR B s f (nI 0) (nI 0) (bI B))) v c 6 = nI 0 := puW_in (by decide)
  have r7 : cl (puW w v c (puR B s f (nI 0) (nI 0) (bI B))) v c 7 = bI B := puW_in (by decide)
  have o : ∀ k p, k ≠ c → p < 8 → cl (puW w v c (puR B s f (nI 0) (nI 0) (bI B))) v k p = cl w v k p := fun k p hk hp => puW_cl hk hp
  have cne : ∀ k, exC w v k = true → k ≠ c := fun k hk e => by rw [e, hne] at hk; cases hk
  have bB : bI B = nI 0 ∨ bI B = nI 1 := by cases B; exact Or.inl rfl; exact Or.inr rfl
  have h0 := hW.1
  refine ⟨⟨by rw [o 0 0 (by omega) (by decide)]; exact h0.1, by rw [o 0 1 (by omega) (by decide)]; exact h0.2.1, by rw [o 0 2 (by omega) (by decide)]; exact h0.2.2.1, by rw [o 0 3 (by omega) (by decide)]; exact h0.2.2.2.1, by rw [o 0 4 (by omega) (by decide)]; exact h0.2.2.2.2.1, by rw [o 0 5 (by omega) (by decide)]; exact h0.2.2.2.2.2.1, by rw [o 0 6 (by omega) (by decide)]; exact h0.2.2.2.2.2.2.1, by rw [o 0 7 (by omega) (by decide)]; exact h0.2.2.2.2.2.2.2⟩, fun k hk => ?_, fun k hk1 hk he => ?_⟩
  · by_cases e : k = c
    · rw [e, r0]; exact Or.inr rfl
    · rw [o k 0 e (by decide)]; exact hW.2.1 k hk
  · by_cases e : k = c
    · subst e
      rw [r1, r4, r5, r6, r7]
      have hs' : ∃ t, t < k ∧ s = nI t ∧ exC w v t = true ∧ itB w v t = false ∧ (bI B = nI 1 → t = 0) := by
        rcases hs with ⟨hB, e⟩ | ⟨hB, e⟩
        · exact ⟨0, by omega, e, hW.ex0, hW.is0, fun _ => rfl⟩
        · obtain ⟨t, ht, e1, e2⟩ := supI_n e
          obtain ⟨a1, a2, a3⟩ := supN_c e2
          exact ⟨t, a1, e1, a2, a3, fun q => by rw [hB] at q; exact absurd q (by decide)⟩
      obtain ⟨t, t1, t2, t3, t4, t5⟩ := hs'
      refine ⟨bB, ⟨t, t1, by rw [r2]; exact t2, by rw [o t 0 (by omega) (by decide)]; exact exC_ex t3, by rw [o t 1 (by omega) (by decide)]; exact itB_F hW t3 t4, t5⟩, fun i hi hb => ?_, ⟨0, by decide, rfl⟩, Or.inl rfl, Or.inl rfl, bB, fun q => ⟨rfl, q⟩⟩
      rw [r3] at hb
      obtain ⟨i1, i2, i3⟩ := ifsB_iff.mp hf i hi hb
      exact ⟨i1, by rw [o i 0 (by omega) (by decide)]; exact exC_ex i2, by rw [o i 1 (by omega) (by decide)]; exact of_decide_eq_true i3⟩
    · rw [o k 0 e (by decide)] at he
      obtain ⟨a1, ⟨t, s1, s2, s3, s4, s5⟩, a3, a4, a5, a6, a7, a8⟩ := hW.2.2 k hk1 hk he
      have tc : t ≠ c := cne t (exC_of (by omega) s3)
      rw [o k 1 e (by decide), o k 4 e (by decide), o k 5 e (by decide), o k 6 e (by decide), o k 7 e (by decide)]
      refine ⟨a1, ⟨t, s1, by rw [o k 2 e (by decide)]; exact s2, by rw [o t 0 tc (by decide)]; exact s3, by rw [o t 1 tc (by decide)]; exact s4, s5⟩, fun i hi hb => ?_, a4, a5, a6, a7, a8⟩
      rw [o k 3 e (by decide)] at hb
      obtain ⟨i1, i2, i3⟩ := a3 i hi hb
      have ic : i ≠ c := cne i (exC_of (by omega) i2)
      exact ⟨i1, by rw [o i 0 ic (by decide)]; exact i2, by rw [o i 1 ic (by decide)]; exact i3⟩
theorem dfW_WM (hM : WM w v) (hc : c < 10) (hne : exC w v c = false) (h0 : r 0 = nI 1) : WM (puW w v c r) v := by
  have cne : ∀ m, m < nmb w v → ow w v m ≠ c := fun m hm e => by have := (hM.own m hm).2.2.2; rw [e, hne] at this; cases this
  refine hM.map hM.n40 ((puW_mn hc).trans hM.n) (fun k => k) (fun _ h => h) (fun _ _ _ _ e => e) (fun k p hk hp => puW_mb hc) (fun k hk => ?_) (fun k hk => ?_) (fun k hk e _ => ?_)
  · have he := (hM.own k hk).2.2.2
    exact exC_of (exC_lt he) (by rw [puW_cl (cne k hk) (by decide)]; exact exC_ex he)
  · show itB _ v (ow w v k) = true → itB w v (ow w v k) = true
    unfold itB
    rw [puW_cl (cne k hk) (by decide)]
    exact id
  · show cl _ v (ow w v k) 7 = nI 1
    rw [puW_cl (cne k hk) (by decide)]
    exact e
theorem C_opDef (hb : CB g I a w v) (hc1 : 1 ≤ c) (hc : c < 10) (hne : exC w v c = false) (hs : (B = true ∧ s = nI 0) ∨ (B = false ∧ supI w v c s = true)) (hf : ifsB w v c f = true) : ∃ I2, fX2_putClass a (nI c) (bI B) s f (mm g I J Z) = some ((), mm g I2 J Z) ∧ (∀ y, y < a ∨ a + 20 ≤ y → I2 y = I y) ∧ RLib I2 a (puW w v c (puR B s f (nI 0) (nI 0) (bI B))) v := by
  obtain ⟨I2, t1, t2, t3, t4, t5, t6, t7⟩ := L_putC (J := J) (Z := Z) (B := B) (s := s) (f := f) (I := I) hb.L hc
  have hW := dfW_WC hb.C hc1 hc hne hs hf
  have hcr : RLc I2 a (puW w v c (puR B s f (nI 0) (nI 0) (bI B))) v := hb.R.c.put hc (fun k p _ hk hp => puW_cl hk hp) (puW_in (by decide)) (puW_in (by decide)) (puW_in (by decide)) (puW_in (by decide)) (puW_in (by decide)) (puW_in (by decide)) (puW_in (by decide)) (puW_in (by decide)) t3 t4 t5 t6
  refine ⟨I2, t1, fun y hy => t2 y (by omega), RLib.of hcr (t7 _ _ hcr hW) ((hb.R.m.cg (puW_mn hc) (fun m p _ _ => puW_mb hc)).fr (fun y h1 h2 => t2 y (by omega)))⟩
theorem C_cnt (hb : RLib I a w v) {h : AH} : fJ6_bitCount_0f7a4 (I a 0) h = some (nI (ct (exC w v) 10), h) := by
  obtain ⟨n, hn, e⟩ := bits_lt (x := I a 0) (fun i h1 h2 => by rw [hb.ex i h2]; exact exC_ge (by omega))
  rw [pc_run, e, pc_tab n hn, ← e]
  have : ∀ n, n ≤ 10 → ct (bt (I a 0)) n = ct (exC w v) n := by
    intro n
    induction n with
    | zero => exact fun _ => rfl
    | succ n ih =>
      intro hn
      rw [ct, ct, ih (by omega), hb.ex n (by omega)]
  rw [this 10 (by omega)]
theorem Q_define (h : Rel g A I w n P d) : Agr g A I (fX8_define A x y (bI B) s f) (fX9_define (A + 418) x y (bI B) s f) [1, 2, 3] := by
  have ref : ∀ {i : Nat}, i < 3 → ∀ I1 J Z, MRel g A I1 w n P d → fX9_define_97 (A + 418) x y (bI B) s f (A + 418) (nI (i + 1)) (mm g I1 J Z) = some (nI 0, mm g (up2 I1 (A + 418) 3 (nI (i + 1))) J Z) := by
    intro i hi I1 J Z h1
    unfold fX9_define_97
    rw [M_cv h1.G, M_refS h1.G hi, bd_some, bIf, if_tt]
  have e21 : ∀ I1 J Z, MRel g A I1 w n P d → fX9_define_21 (A + 418) x y (bI B) s f (mm g I1 J Z) = some (nI 0, mm g (up2 I1 (A + 418) 3 (nI 1)) J Z) := by
    intro I1 J Z h1
    unfold fX9_define_21 fX9_define_22 fX9_define_59 fX9_define_60
    rw [if_pos (by decide), if_pos (by decide)]
    exact ref (i := 0) (by decide) I1 J Z h1
  have e59 : ∀ I1 J Z, MRel g A I1 w n P d → fX9_define_59 (A + 418) x y (bI B) s f (nI 1) (mm g I1 J Z) = some (nI 0, mm g (up2 I1 (A + 418) 3 (nI 2)) J Z) := by
    intro I1 J Z h1
    unfold fX9_define_59 fX9_define_60
    rw [if_neg (by decide), if_pos (by decide)]
    exact ref (i := 1) (by decide) I1 J Z h1
  rcases ver_cases h.jg x with ⟨v, hv, rfl⟩ | ⟨q1, q2, q3⟩
  · have hb := h.cb hv
    have hL := h.jg.lib hv
    have badc : (y < nI 1 ∨ nI 10 ≤ y) → Agr g A I (fX8_define A (nI v) y (bI B) s f) (fX9_define (A + 418) (nI v) y (bI B) s f) [1, 2, 3] := by
      intro hy
      refine Agr.rfs h (i := 0) (e := 1) ⟨by decide, rfl⟩ (fun J Z => ⟨I, none, ?_, FvC.refl⟩) (fun I1 J Z h1 => ⟨nI 0, up2 I1 (A + 418) 3 (nI 1), ?_, fvm_3, up3⟩)
      · unfold fX8_define
        rw [h.jg.cv, C_libOf h.jg hv, bd_some, xp_r]
        by_cases h0 : y < nI 1
        · rw [if_pos h0, thr_m]
        · rw [if_neg h0, if_neg (Int32.not_lt.mpr (hy.resolve_left h0)), thr_m]
      · unfold fX9_define
        rw [M_isV hv, bd_some, bIf, if_tt, M_within, bd_some, bIf, decide_eq_false, if_ff]
        · exact e21 I1 J Z h1
        · rintro ⟨a1, a2⟩
          rcases hy with hy | hy
          · exact (Int32.not_lt.mpr a1) hy
          · exact absurd (Int32.le_trans hy a2) (by decide)
    rcases int_x y 10 (by omega) with hy | ⟨c, hc, rfl⟩
    · exact badc (hy.imp (fun q => Int32.lt_trans q (by decide)) id)
    · by_cases c0 : c = 0
      · exact badc (Or.inl (by rw [c0]; decide))
      · have c1 : 1 ≤ c := by omega
        have y1 : ¬ nI c < nI 1 := nI_nlt c1 (by omega)
        have y2 : nI c < nI 10 := nI_lt hc (by omega)
        have w19 : ∀ hh, fX9_within (nI c) (nI 1) (nI 9) hh = some (bI true, hh) := fun hh => by rw [M_win (by omega) (by omega) (by omega), decide_eq_true (by omega)]
        -- what comes behind the superclass
        have bad2 : (∀ J Z, fX8_define A (nI v) (nI c) (bI B) s f (mm g I J Z) = some (.inl 2, mm g I J none)) → (∀ I1 J Z, MRel g A I1 w n P d → fX9_define (A + 418) (nI v) (nI c) (bI B) s f (mm g I1 J Z) = fX9_define_59 (A + 418) (nI v) (nI c) (bI B) s f (nI 1) (mm g I1 J Z)) → Agr g A I (fX8_define A (nI v) (nI c) (bI B) s f) (fX9_define (A + 418) (nI v) (nI c) (bI B) s f) [1, 2, 3] := by
          intro b1 b2
          exact Agr.rfs h (i := 1) (e := 2) ⟨by decide, rfl⟩ (fun J Z => ⟨I, none, b1 J Z, FvC.refl⟩) (fun I1 J Z h1 => ⟨nI 0, up2 I1 (A + 418) 3 (nI 2), by rw [b2 I1 J Z h1]; exact e59 I1 J Z h1, fvm_3, up3⟩)
        have sup : B = true ∨ supI w v c s = true ∨ (B = false ∧ supI w v c s = false) := by
          cases B
          · cases e : supI w v c s
            · exact Or.inr (Or.inr ⟨rfl, rfl⟩)
            · exact Or.inr (Or.inl rfl)
          · exact Or.inl rfl
        have good : (B = true ∨ supI w v c s = true) → (∀ J Z, fX8_define A (nI v) (nI c) (bI B) s f (mm g I J Z) = fX8_define_53 A (nI c) (bI B) s f (A + 1 + 3 + 20 * v) (mm g I J Z)) ∧ ∀ I1 J Z, MRel g A I1 w n P d → fX9_define (A + 418) (nI v) (nI c) (bI B) s f (mm g I1 J Z) = fX9_define_44 (A + 418) (nI v) (nI c) (bI B) s f (nI 1) (mm g I1 J Z) := by
          intro hB
          constructor
          · intro J Z
            unfold fX8_define
            rw [h.jg.cv, C_libOf h.jg hv, bd_some, xp_r, if_neg y1, if_pos y2, bIf]
            cases B
            · rw [if_ff, lib_cv hL, C_supI hb hc, bd_some, hB.resolve_left (by decide), bIf, if_tt]
            · rw [if_tt]
          · intro I1 J Z h1
            unfold fX9_define fX9_define_22
            rw [M_isV hv, bd_some, bIf, if_tt, w19, bd_some, bIf, if_tt, if_neg (by decide), bIf]
            cases B
            · rw [if_ff, M_cv h1.G, M_supI (h1.mb hv) hc, bd_some, hB.resolve_left (by decide), bIf, if_tt]
            · rw [if_tt]
        have go : (B = true ∨ supI w v c s = true) → Agr g A I (fX8_define A (nI v) (nI c) (bI B) s f) (fX9_define (A + 418) (nI v) (nI c) (bI B) s f) [1, 2, 3] := by
          intro hB
          obtain ⟨gC, gM⟩ := good hB
          cases hf : ifsB w v c f
          · refine bad2 (fun J Z => ?_) (fun I1 J Z h1 => ?_)
            · rw [gC]
              unfold fX8_define_53
              rw [lib_cv hL, C_ifs hb hc, bd_some, hf, bIf, if_ff, thr_m]
            · rw [gM I1 J Z h1]
              unfold fX9_define_44
              rw [M_cv h1.G, M_ifs (h1.mb hv) hc, bd_some, hf, bIf, if_ff]
          · have m60 : ∀ I1 J Z, MRel g A I1 w n P d → fX9_define (A + 418) (nI v) (nI c) (bI B) s f (mm g I1 J Z) = fX9_define_97 (A + 418) (nI v) (nI c) (bI B) s f (A + 418) (nI (if exC w v c = true then 3 else 0)) (mm g I1 J Z) := by
              intro I1 J Z h1
              rw [gM I1 J Z h1]
              unfold fX9_define_44 fX9_define_60
              rw [M_cv h1.G, M_ifs (h1.mb hv) hc, bd_some, hf, bIf, if_tt, if_neg (by decide), if_neg (by decide), M_cv h1.G, (h1.mb hv).of hc (by decide), bd_some, ex1 hc]
              cases exC w v c
              · rw [if_ff, if_ff]
              · rw [if_tt, if_tt]
            cases he : exC w v c
            · let s' : Int32 := if B = true then nI 0 else s
              have hs' : (B = true ∧ s' = nI 0) ∨ (B = false ∧ supI w v c s' = true) := by
                cases B
                · exact Or.inr ⟨rfl, hB.resolve_left (by decide)⟩
                · exact Or.inl ⟨rfl, rfl⟩
              refine Agr.lib h (v := v) (w' := puW w v c (puR B s' f (nI 0) (nI 0) (bI B))) (b := nI (ct (exC (puW w v c (puR B s' f (nI 0) (nI 0) (bI B))) v) 10)) hv (fun i hi => puW_out hc hi) (dfW_WC hb.C c1 hc he hs' hf) (dfW_WM hb.M hc he rfl)
                (fun h => cv 2 (A + 1 + 3 + 20 * v) (fX2_putClass (A + 1 + 3 + 20 * v) (nI c) (bI B) s' f) h fun _ h => (gI 2 (A + 1 + 3 + 20 * v) 0 h).bind fun x_13 => bd (fJ6_bitCount_0f7a4 x_13 h) fun x_14 h => some (.inr x_14, h))
                (fun h => cv 9 (A + 418) (fX9_puts (A + 418) (nI v) (nI c) (bI B) s' f (nI 0) (nI 0) (bI B)) h fun _ h => cv 9 (A + 418) (fX9_classMany (A + 418) (nI v)) h fun x_15 h => some (x_15, h)) (fun J Z => ?_) (fun I1 J Z hb1 hd => ?_) (fun I1 J Z h1 => ?_) (fun I1 J Z h1 => ?_)
              · rw [gC]
                unfold fX8_define_53 fX8_define_111
                rw [lib_cv hL, C_ifs hb hc, bd_some, hf, bIf, if_tt, lib_cv hL, C_isThere hL hb.R hc, bd_some, he, bIf, if_ff, h.jg.cv]
                obtain ⟨I1, s1, s2, s3⟩ := C_save (J := J) (Z := Z) h.jg h.2.2.1 h.2.2.2.2
                rw [s1, bd_some, bd_some, bIf]
                show _ = cv 2 (A + 1 + 3 + 20 * v) (fX2_putClass (A + 1 + 3 + 20 * v) (nI c) (bI B) (if B = true then nI 0 else s) f) (mm g I1 J Z) _
                cases B
                · rw [if_ff, if_ff]
                · rw [if_tt, if_tt]
              · obtain ⟨I2, t1, t2, t3⟩ := C_opDef (J := J) (Z := Z) (hb1 v hv) c1 hc he hs' hf
                refine ⟨I2, ?_, t2, t3⟩
                rw [lib_cv hL, t1, bd_some, lib_g0 hL, Option.bind_some, C_cnt t3, bd_some]
              · rw [m60 I1 J Z h1, he, if_ff]
                unfold fX9_define_97 fX9_define_123 fX9_define_136
                rw [M_cv h1.G, M_ref0 h1.G, bd_some, bIf, if_ff, M_cv h1.G]
                obtain ⟨I2, s1, s2, s3, s4⟩ := M_save (J := J) (Z := Z) (h1.up3 (x := nI 0)).G (h1.up3 (x := nI 0)).2.1
                rw [s1, bd_some, bd_some, bIf]
                show _ = cv 9 (A + 418) (fX9_puts (A + 418) (nI v) (nI c) (bI B) (if B = true then nI 0 else s) f (nI 0) (nI 0) (bI B)) (mm g I2 J Z) _
                cases B
                · rw [if_ff, if_ff, bIf, if_ff, bf0]
                · rw [if_tt, if_tt, bIf, if_tt, bt1]
              · have hW' := dfW_WC hb.C c1 hc he hs' hf
                have hM' := dfW_WM (r := puR B s' f (nI 0) (nI 0) (bI B)) hb.M hc he rfl
                refine ⟨up1 I1 (A + 418 + 1) (puW w v c (puR B s' f (nI 0) (nI 0) (bI B))), ?_, fun y hy => up1_ne hy, up1_at⟩
                rw [M_cv h1.G, M_puts h1.G hv hc h1.row, bd_some, M_cv h1.G, M_cMany ⟨h1.G, hv, up1_at, hW', hM'⟩, bd_some]
            · refine Agr.rfs h (i := 2) (e := 3) ⟨by decide, rfl⟩ (fun J Z => ⟨I, none, ?_, FvC.refl⟩) (fun I1 J Z h1 => ⟨nI 0, up2 I1 (A + 418) 3 (nI 3), ?_, fvm_3, up3⟩)
              · rw [gC]
                unfold fX8_define_53
                rw [lib_cv hL, C_ifs hb hc, bd_some, hf, bIf, if_tt, lib_cv hL, C_isThere hL hb.R hc, bd_some, he, bIf, if_tt, thr_m]
              · rw [m60 I1 J Z h1, he, if_tt]
                exact ref (i := 2) (by decide) I1 J Z h1
        rcases sup with hB | hB | ⟨hB, hs⟩
        · exact go (Or.inl hB)
        · exact go (Or.inr hB)
        · refine bad2 (fun J Z => ?_) (fun I1 J Z h1 => ?_)
          · unfold fX8_define
            rw [h.jg.cv, C_libOf h.jg hv, bd_some, xp_r, if_neg y1, if_pos y2, hB, bIf, if_ff, lib_cv hL, C_supI hb hc, bd_some, hs, bIf, if_ff, thr_m]
          · unfold fX9_define fX9_define_22
            rw [M_isV hv, bd_some, bIf, if_tt, w19, bd_some, bIf, if_tt, if_neg (by decide), hB, bIf, if_ff, M_cv h1.G, M_supI (h1.mb hv) hc, bd_some, hs, bIf, if_ff]
  · refine Agr.rfs h (i := 0) (e := 1) ⟨by decide, rfl⟩ (fun J Z => ⟨I, none, ?_, FvC.refl⟩) (fun I1 J Z h1 => ⟨nI 0, up2 I1 (A + 418) 3 (nI 1), ?_, fvm_3, up3⟩)
    · unfold fX8_define
      rw [h.jg.cv, q2, bd_some, xp_l]
    · unfold fX9_define
      rw [q3, bd_some, bIf, if_ff]
      exact e21 I1 J Z h1
end Df

/-! ===== members come: append, adds, addField, addMethod ===== -/
def sW (f : Nat → Int32) (k : Nat) (x : Int32) : Nat → Int32 := fun j => if j = k then x else f j
theorem sW_ne {f : Nat → Int32} {k j : Nat} {x : Int32} (h : j ≠ k) : sW f k x j = f j := if_neg h
theorem sW_at {f : Nat → Int32} {k : Nat} {x : Int32} : sW f k x k = x := if_pos rfl
theorem sW_id {f : Nat → Int32} {k : Nat} {x : Int32} (h : f k = x) : sW f k x = f := by
  funext j
  by_cases e : j = k
  · rw [e, sW_at, h]
  · rw [sW_ne e]
theorem up2_1 {I : Mem} {a k : Nat} {x : Int32} : up2 I a k x = up1 I a (sW (I a) k x) := by
  funext b
  by_cases e : b = a
  · subst e; rw [up1_at]; funext j; rw [up2_at]; rfl
  · rw [up1_ne e, up2_ne e]
theorem up2_11 {I : Mem} {f : Nat → Int32} {a k : Nat} {x : Int32} : up2 (up1 I a f) a k x = up1 I a (sW f k x) := by
  rw [up2_1, up1_at]
  funext b
  by_cases e : b = a
  · subst e; rw [up1_at, up1_at]
  · rw [up1_ne e, up1_ne e, up1_ne e]
def addW (w : Nat → Int32) (v n : Nat) (r : Nat → Int32) (s : Int32) : Nat → Int32 :=
  sW (sW (sW (sW (sW (sW (sW (sW (sW (sW (sW (sW w (481 * v + 81 + 10 * n + 0) (r 0)) (481 * v + 81 + 10 * n + 1) (r 1)) (481 * v + 81 + 10 * n + 2) (r 2)) (481 * v + 81 + 10 * n + 3) (r 3)) (481 * v + 81 + 10 * n + 4) (r 4)) (481 * v + 81 + 10 * n + 5) (r 5)) (481 * v + 81 + 10 * n + 6) (r 6)) (481 * v + 81 + 10 * n + 7) (r 7)) (481 * v + 81 + 10 * n + 8) (-2)) (481 * v + 81 + 10 * n + 9) (-2)) (481 * v + 80) (nI (n + 1))) (481 * v + 81 + 10 * n + 8) s
section Ap2
variable {g : Gr} {A R a b : Nat} {I I' : Mem} {J : Nat → Nat → Int64} {Z : Option Nat} {w w' : Nat → Int32} {n k v c m q : Nat} {P : Nat → Nat → Int32} {d : Nat → Int32} {x y z : Int32} {r : Nat → Int32} {s : Int32}

theorem addW_o {i : Nat} (h1 : i < 481 * v + 81 + 10 * n ∨ 481 * v + 81 + 10 * n + 10 ≤ i) (h2 : i ≠ 481 * v + 80) : addW w v n r s i = w i := by
  unfold addW
  rw [sW_ne (by omega), sW_ne (by omega), sW_ne (by omega), sW_ne (by omega), sW_ne (by omega), sW_ne (by omega), sW_ne (by omega), sW_ne (by omega), sW_ne (by omega), sW_ne (by omega), sW_ne (by omega), sW_ne (by omega)]
theorem addW_out (hn : n < 40) {i : Nat} (h : i < 481 * v ∨ 481 * v + 481 ≤ i) : addW w v n r s i = w i := addW_o (by omega) (by omega)
theorem addW_cl {c p : Nat} (hc : c < 10) (hp : p < 8) : cl (addW w v n r s) v c p = cl w v c p := addW_o (by omega) (by omega)
theorem addW_old {k p : Nat} (hk : k < n) (hp : p < 10) : mb (addW w v n r s) v k p = mb w v k p := addW_o (by omega) (by omega)
theorem addW_mn : mn (addW w v n r s) v = nI (n + 1) := by
  unfold mn addW
  rw [sW_ne (by omega), sW_at]
theorem addW_new : (∀ p, p < 8 → mb (addW w v n r s) v n p = r p) ∧ mb (addW w v n r s) v n 8 = s ∧ mb (addW w v n r s) v n 9 = -2 := by
  refine ⟨fun p hp => ?_, ?_, ?_⟩
  · unfold mb addW
    rcases (by omega : p = 0 ∨ p = 1 ∨ p = 2 ∨ p = 3 ∨ p = 4 ∨ p = 5 ∨ p = 6 ∨ p = 7) with rfl | rfl | rfl | rfl | rfl | rfl | rfl | rfl
    · rw [sW_ne (by omega), sW_ne (by omega), sW_ne (by omega), sW_ne (by omega), sW_ne (by omega), sW_ne (by omega), sW_ne (by omega), sW_ne (by omega), sW_ne (by omega), sW_ne (by omega), sW_ne (by omega), sW_at]
    · rw [sW_ne (by omega), sW_ne (by omega), sW_ne (by omega), sW_ne (by omega), sW_ne (by omega), sW_ne (by omega), sW_ne (by omega), sW_ne (by omega), sW_ne (by omega), sW_ne (by omega), sW_at]
    · rw [sW_ne (by omega), sW_ne (by omega), sW_ne (by omega), sW_ne (by omega), sW_ne (by omega), sW_ne (by omega), sW_ne (by omega), sW_ne (by omega), sW_ne (by omega), sW_at]
    · rw [sW_ne (by omega), sW_ne (by omega), sW_ne (by omega), sW_ne (by omega), sW_ne (by omega), sW_ne (by omega), sW_ne (by omega), sW_ne (by omega), sW_at]
    · rw [sW_ne (by omega), sW_ne (by omega), sW_ne (by omega), sW_ne (by omega), sW_ne (by omega), sW_ne (by omega), sW_ne (by omega), sW_at]
    · rw [sW_ne (by omega), sW_ne (by omega), sW_ne (by omega), sW_ne (by omega), sW_ne (by omega), sW_ne (by omega), sW_at]
    · rw [sW_ne (by omega), sW_ne (by omega), sW_ne (by omega), sW_ne (by omega), sW_ne (by omega), sW_at]
    · rw [sW_ne (by omega), sW_ne (by omega), sW_ne (by omega), sW_ne (by omega), sW_at]
  · unfold mb addW
    rw [sW_at]
  · unfold mb addW
    rw [sW_ne (by omega), sW_ne (by omega), sW_at]

/-! who is there already -/
def exF (w : Nat → Int32) (v c : Nat) (nm : Int32) : Bool := anyF (fun m => decide (ow w v m = c) && decide (mb w v m 0 = nI 0) && decide (mb w v m 2 = nm)) 0 (nmb w v)
def exM (w : Nat → Int32) (v c : Nat) (nm y z : Int32) : Bool := anyF (fun m => decide (ow w v m = c) && isG w v nm y z m) 0 (nmb w v)
theorem C_hasFL (h : CB g I a w v) (hc : c < 10) : ∀ (e m f : Nat), m + e = nmb w v → e < f → lX4_hasField_2 f (a + 6) (nI c) x (nI m) (mm g I J Z) = some (bI (anyF (fun m => decide (ow w v m = c) && decide (mb w v m 0 = nI 0) && decide (mb w v m 2 = x)) m e), mm g I J Z) := by
  have hn := h.M.n40
  intro e
  induction e with
  | zero =>
    intro m f hi hf
    obtain ⟨f, rfl⟩ : ∃ z, f = z + 1 := ⟨f - 1, by omega⟩
    show bX4_hasField_2 (lX4_hasField_2 f) _ _ _ _ _ = _
    unfold bX4_hasField_2
    rw [C_size h.L h.R h.M, Option.bind_some, if_pos (nI_le (by omega) (by omega)), anyF]
    exact rz_n0 _
  | succ e ih =>
    intro m f hi hf
    obtain ⟨f, rfl⟩ : ∃ z, f = z + 1 := ⟨f - 1, by omega⟩
    have hm : m < nmb w v := by omega
    have m4 := h.M.m40 hm
    obtain ⟨o1, o2, o3, o4⟩ := h.M.own m hm
    have nx := ih (m + 1) f (by omega) (by omega)
    show bX4_hasField_2 (lX4_hasField_2 f) _ _ _ _ _ = _
    unfold bX4_hasField_2 fX4_hasField_41
    rw [C_size h.L h.R h.M, Option.bind_some, if_neg (nI_ge (by omega) (by omega)), mem_p5 h.L.mem, Option.bind_some, mem_l5 h.L.mem m4, Option.bind_some, h.R.own m hm, o3, nI_add, anyF]
    by_cases q1 : ow w v m = c
    · rw [if_pos (by rw [q1]), decide_eq_true q1, Bool.true_and, mem_p4 h.L.mem, Option.bind_some, mem_l4 h.L.mem m4, Option.bind_some, h.R.knd m hm]
      by_cases q2 : mb w v m 0 = nI 0
      · rw [if_pos (show mb w v m 0 = 0 from q2), decide_eq_true q2, Bool.true_and, mem_p6 h.L.mem, Option.bind_some, mem_l6 h.L.mem m4, Option.bind_some, h.R.nam m hm]
        by_cases q3 : mb w v m 2 = x
        · rw [if_pos q3, decide_eq_true q3, Bool.true_or]; exact rz_n1 _
        · rw [if_neg q3, decide_eq_false q3, Bool.false_or]; exact nx
      · rw [if_neg (show ¬ mb w v m 0 = 0 from q2), decide_eq_false q2, Bool.false_and, Bool.false_or]; exact nx
    · rw [if_neg (fun q => q1 (nI_inj (by omega) (by omega) q)), decide_eq_false q1, Bool.false_and, Bool.false_and, Bool.false_or]; exact nx
theorem C_hasF (h : CB g I a w v) (hc : c < 10) : fX4_hasField (a + 6) (nI c) x (mm g I J Z) = some (bI (exF w v c x), mm g I J Z) := by
  have := h.M.n40
  unfold fX4_hasField
  exact C_hasFL h hc (nmb w v) 0 fuel (by omega) (by unfold fuel; omega)
theorem C_hasML (h : CB g I a w v) (hc : c < 10) (hq : q < 8) (hy : Ty y) (hz : Ty z) : ∀ (e m f : Nat), m + e = nmb w v → e < f → lX4_hasMethod_2 f (a + 6) (nI c) (sgI (nI q) y z) (nI m) (mm g I J Z) = some (bI (anyF (fun m => decide (ow w v m = c) && isG w v (nI q) y z m) m e), mm g I J Z) := by
  have hn := h.M.n40
  intro e
  induction e with
  | zero =>
    intro m f hi hf
    obtain ⟨f, rfl⟩ : ∃ z, f = z + 1 := ⟨f - 1, by omega⟩
    show bX4_hasMethod_2 (lX4_hasMethod_2 f) _ _ _ _ _ = _
    unfold bX4_hasMethod_2
    rw [C_size h.L h.R h.M, Option.bind_some, if_pos (nI_le (by omega) (by omega)), anyF]
    exact rz_n0 _
  | succ e ih =>
    intro m f hi hf
    obtain ⟨f, rfl⟩ : ∃ z, f = z + 1 := ⟨f - 1, by omega⟩
    have hm : m < nmb w v := by omega
    have m4 := h.M.m40 hm
    obtain ⟨o1, o2, o3, o4⟩ := h.M.own m hm
    have nx := ih (m + 1) f (by omega) (by omega)
    have hs := C_sign h.R h.M hm hq hy hz
    show bX4_hasMethod_2 (lX4_hasMethod_2 f) _ _ _ _ _ = _
    unfold bX4_hasMethod_2 fX4_hasMethod_32
    rw [C_size h.L h.R h.M, Option.bind_some, if_neg (nI_ge (by omega) (by omega)), mem_p5 h.L.mem, Option.bind_some, mem_l5 h.L.mem m4, Option.bind_some, h.R.own m hm, o3, nI_add, anyF]
    by_cases q1 : ow w v m = c
    · rw [if_pos (by rw [q1]), decide_eq_true q1, Bool.true_and, mem_p11 h.L.mem, Option.bind_some, mem_l11 h.L.mem m4, Option.bind_some]
      by_cases q2 : I (a + 6 + 11) m = sgI (nI q) y z
      · rw [if_pos q2, hs.mp q2, Bool.true_or]; exact rz_n1 _
      · rw [if_neg q2, show isG w v (nI q) y z m = false from by cases e : isG w v (nI q) y z m; rfl; exact absurd (hs.mpr e) q2, Bool.false_or]; exact nx
    · rw [if_neg (fun q => q1 (nI_inj (by omega) (by omega) q)), decide_eq_false q1, Bool.false_and, Bool.false_or]; exact nx
theorem C_hasM (h : CB g I a w v) (hc : c < 10) (hq : q < 8) (hy : Ty y) (hz : Ty z) : fX4_hasMethod (a + 6) (nI c) (sgI (nI q) y z) (mm g I J Z) = some (bI (exM w v c (nI q) y z), mm g I J Z) := by
  have := h.M.n40
  unfold fX4_hasMethod
  exact C_hasML h hc hq hy hz (nmb w v) 0 fuel (by omega) (by unfold fuel; omega)
theorem C_full (h : CB g I a w v) : fX4_isFull (a + 6) (mm g I J Z) = some (bI (decide (40 ≤ nmb w v)), mm g I J Z) := by
  have hn := h.M.n40
  unfold fX4_isFull
  rw [C_size h.L h.R h.M, Option.bind_some]
  by_cases e : nmb w v < 40
  · rw [if_pos (nI_lt e (by omega)), decide_eq_false (by omega)]; exact rz_n0 _
  · rw [if_neg (nI_nlt (by omega) (by omega)), decide_eq_true (by omega)]; exact rz_n1 _
theorem fst_any {p : Nat → Bool} {n : Nat} : fst p 0 n = none ↔ anyF p 0 n = false := by
  constructor
  · intro e
    cases q : anyF p 0 n
    · rfl
    · obtain ⟨k, _, k2, k3⟩ := anyF_iff.mp q
      rw [fst_none e k (by omega) k2] at k3
      cases k3
  · intro e
    refine fst_none_of (fun j h1 h2 => ?_)
    cases q : p j
    · rfl
    · rw [anyF_iff.mpr ⟨j, h1, h2, q⟩] at e
      cases e
theorem fnF (hM : WM w v) (hc : c < 10) {aa bb cc : Int32} : anyF (isF w v (nI c) (nI 0) x aa bb cc) 0 (nmb w v) = exF w v c x := by
  refine anyF_congr (fun m _ hm => ?_)
  obtain ⟨o1, o2, o3, o4⟩ := hM.own m (by omega)
  unfold isF
  rw [o3, show decide (nI 0 = 0) = true from by decide, Bool.true_or, Bool.and_true, show decide (nI (ow w v m) = nI c) = decide (ow w v m = c) from decide_eq_decide.mpr (nI_eq (by omega) (by omega))]
theorem fnM (hM : WM w v) (hc : c < 10) {d1 y0 z0 : Int32} (hP : Pt d1 y z) (hy : y0 = y ∨ d1 = nI 0) (hz : z0 = z ∨ d1 = nI 0) : anyF (isF w v (nI c) (nI 1) x d1 y0 z0) 0 (nmb w v) = exM w v c x y z := by
  refine anyF_congr (fun m _ hm => ?_)
  obtain ⟨o1, o2, o3, o4⟩ := hM.own m (by omega)
  have e : hp w v m d1 y0 z0 = hp w v m d1 y z := by
    rcases hy with e | e
    · rcases hz with e2 | e2
      · rw [e, e2]
      · rw [e2]; exact hp_zero
    · rw [e]; exact hp_zero
  unfold isF
  rw [o3, show decide (nI 1 = 0) = false from by decide, Bool.false_or, show decide (nI (ow w v m) = nI c) = decide (ow w v m = c) from decide_eq_decide.mpr (nI_eq (by omega) (by omega)), e]
  refine Bool.eq_iff_iff.mpr ?_
  simp only [Bool.and_eq_true, decide_eq_true_eq, and_assoc]
  rw [hp_iff (hM.par m (by omega)) hP, isG_iff]

/-! append -/
def apI (I : Mem) (b n : Nat) (f : Nat → Int32) (l : List Nat) : Mem := fun x k => if k = n ∧ b + 1 ≤ x ∧ x - b ∈ l then f (x - b) else I x k
theorem ap_step {f : Nat → Int32} {l : List Nat} (j : Nat) (h1 : 1 ≤ j) : up2 (apI I b n f l) (b + j) n (f j) = apI I b n f (j :: l) := by
  funext x k
  by_cases e : x = b + j
  · subst e
    rw [up2_at]
    unfold apI
    by_cases q : k = n
    · rw [if_pos q, if_pos ⟨q, by omega, by rw [show b + j - b = j from by omega]; exact List.mem_cons_self⟩, show b + j - b = j from by omega]
    · rw [if_neg q, if_neg (fun q2 => q q2.1), if_neg (fun q2 => q q2.1)]
  · rw [up2_ne e]
    unfold apI
    by_cases q : k = n ∧ b + 1 ≤ x ∧ x - b ∈ l
    · rw [if_pos q, if_pos ⟨q.1, q.2.1, List.mem_cons_of_mem _ q.2.2⟩]
    · rw [if_neg q, if_neg]
      rintro ⟨q1, q2, q3⟩
      rcases List.mem_cons.mp q3 with q4 | q4
      · omega
      · exact q ⟨q1, q2, q4⟩
theorem ap_out {f : Nat → Int32} {l : List Nat} {x : Nat} (hl : ∀ i ∈ l, i ≤ 12) (h : x < b + 1 ∨ b + 12 < x) : apI I b n f l x = I x := by
  funext k
  unfold apI
  rw [if_neg]
  rintro ⟨q1, q2, q3⟩
  have := hl _ q3
  omega
theorem ap_in {f : Nat → Int32} {l : List Nat} {j i : Nat} (h1 : 1 ≤ j) (hl : j ∈ l) : apI I b n f l (b + j) i = if i = n then f j else I (b + j) i := by
  unfold apI
  rw [show b + j - b = j from by omega]
  by_cases e : i = n
  · rw [if_pos ⟨e, by omega, hl⟩, if_pos e]
  · rw [if_neg (fun q => e q.1), if_neg e]
theorem ap_nil {f : Nat → Int32} : apI I b n f [] = I := by
  funext x k
  unfold apI
  rw [if_neg]
  rintro ⟨q1, q2, q3⟩
  cases q3
/-- what the class's arrays get of a member -/
def apV (K : Nat) (cc nm ac fl : Int32) (d : Nat → Int32) : Nat → Int32
  | 1 => ac
  | 2 => fl
  | 3 => -2
  | 4 => nI K
  | 5 => cc
  | 6 => nm
  | 7 => d 0
  | 8 => if K = 1 then d 1 else -2
  | 9 => if K = 1 then d 2 else -2
  | 10 => if K = 1 then d 3 else -2
  | 11 => if K = 1 then sgI nm (d 2) (d 3) else -1
  | 12 => if K = 1 then dsI (sgI nm (d 2) (d 3)) (d 0) else -1
  | _ => 0

theorem C_app0 (hM : MemG g b) (hn : n < 40) (h0 : I b 0 = nI n) {p : Nat} (hp : g.1 p = 6) (hpb : p < b ∨ b + 12 < p) (hd : ∀ i, i < 4 → I p i = d i) {cc nm ac fl : Int32} : fX4_append b (nI 0) cc nm ac fl p (mm g I J Z) = some ((), mm g (up2 (apI I b n (apV 0 cc nm ac fl d) [12, 11, 10, 9, 8, 7, 3, 2, 1, 6, 5, 4]) b 0 (nI (n + 1))) J Z) := by
  have sz : ∀ l, (∀ i ∈ l, i ≤ 12) → apI I b n (apV 0 cc nm ac fl d) l b 0 = nI n := fun l hl => by rw [ap_out hl (by omega)]; exact h0
  have dd : ∀ l, (∀ i ∈ l, i ≤ 12) → ∀ i, i < 4 → apI I b n (apV 0 cc nm ac fl d) l p i = d i := fun l hl i hi => by rw [ap_out hl (by omega)]; exact hd i hi
  have i11 : ∀ l, 11 ∈ l → apI I b n (apV 0 cc nm ac fl d) l (b + 11) n = (-1) := fun l hl => by rw [ap_in (by decide) hl, if_pos rfl]; rfl
  have st1 : ∀ l, up2 (apI I b n (apV 0 cc nm ac fl d) l) (b + 1) n ac = apI I b n (apV 0 cc nm ac fl d) (1 :: l) := fun l => ap_step 1 (by decide)
  have st2 : ∀ l, up2 (apI I b n (apV 0 cc nm ac fl d) l) (b + 2) n fl = apI I b n (apV 0 cc nm ac fl d) (2 :: l) := fun l => ap_step 2 (by decide)
  have st3 : ∀ l, up2 (apI I b n (apV 0 cc nm ac fl d) l) (b + 3) n (-2) = apI I b n (apV 0 cc nm ac fl d) (3 :: l) := fun l => ap_step 3 (by decide)
  have st4 : ∀ l, up2 (apI I b n (apV 0 cc nm ac fl d) l) (b + 4) n (nI 0) = apI I b n (apV 0 cc nm ac fl d) (4 :: l) := fun l => ap_step 4 (by decide)
  have st5 : ∀ l, up2 (apI I b n (apV 0 cc nm ac fl d) l) (b + 5) n cc = apI I b n (apV 0 cc nm ac fl d) (5 :: l) := fun l => ap_step 5 (by decide)
  have st6 : ∀ l, up2 (apI I b n (apV 0 cc nm ac fl d) l) (b + 6) n nm = apI I b n (apV 0 cc nm ac fl d) (6 :: l) := fun l => ap_step 6 (by decide)
  have st7 : ∀ l, up2 (apI I b n (apV 0 cc nm ac fl d) l) (b + 7) n (d 0) = apI I b n (apV 0 cc nm ac fl d) (7 :: l) := fun l => ap_step 7 (by decide)
  have st8 : ∀ l, up2 (apI I b n (apV 0 cc nm ac fl d) l) (b + 8) n (-2) = apI I b n (apV 0 cc nm ac fl d) (8 :: l) := fun l => ap_step 8 (by decide)
  have st9 : ∀ l, up2 (apI I b n (apV 0 cc nm ac fl d) l) (b + 9) n (-2) = apI I b n (apV 0 cc nm ac fl d) (9 :: l) := fun l => ap_step 9 (by decide)
  have st10 : ∀ l, up2 (apI I b n (apV 0 cc nm ac fl d) l) (b + 10) n (-2) = apI I b n (apV 0 cc nm ac fl d) (10 :: l) := fun l => ap_step 10 (by decide)
  have st11 : ∀ l, up2 (apI I b n (apV 0 cc nm ac fl d) l) (b + 11) n (-1) = apI I b n (apV 0 cc nm ac fl d) (11 :: l) := fun l => ap_step 11 (by decide)
  have st12 : ∀ l, up2 (apI I b n (apV 0 cc nm ac fl d) l) (b + 12) n (-1) = apI I b n (apV 0 cc nm ac fl d) (12 :: l) := fun l => ap_step 12 (by decide)
  conv => lhs; rw [show mm g I J Z = mm g (apI I b n (apV 0 cc nm ac fl d) []) J Z from by rw [ap_nil]]
  unfold fX4_append fX4_append_10 fX4_append_112 fX4_append_136 fX4_append_160 fX4_append_192 fX4_append_227
  rw [if_neg (by decide), mem_p4 hM, Option.bind_some, mem_gI hM, Option.bind_some, sz [] (by decide), mem_s4 hM hn, Option.bind_some, st4 [], mem_p5 hM, Option.bind_some, mem_gI hM, Option.bind_some, sz [4] (by decide), mem_s5 hM hn, Option.bind_some, st5 [4], mem_p6 hM, Option.bind_some, mem_gI hM, Option.bind_some, sz [5, 4] (by decide), mem_s6 hM hn, Option.bind_some, st6 [5, 4], mem_p1 hM, Option.bind_some, mem_gI hM, Option.bind_some, sz [6, 5, 4] (by decide), mem_s1 hM hn, Option.bind_some, st1 [6, 5, 4], mem_p2 hM, Option.bind_some, mem_gI hM, Option.bind_some, sz [1, 6, 5, 4] (by decide), mem_s2 hM hn, Option.bind_some, st2 [1, 6, 5, 4], mem_p3 hM, Option.bind_some, mem_gI hM, Option.bind_some, sz [2, 1, 6, 5, 4] (by decide), mem_s3 hM hn, Option.bind_some, st3 [2, 1, 6, 5, 4], mem_p7 hM, Option.bind_some, mem_gI hM, Option.bind_some, sz [3, 2, 1, 6, 5, 4] (by decide), gI_m hp, Option.bind_some, dd [3, 2, 1, 6, 5, 4] (by decide) 0 (by decide), mem_s7 hM hn, Option.bind_some, st7 [3, 2, 1, 6, 5, 4], mem_p8 hM, Option.bind_some, mem_gI hM, Option.bind_some, sz [7, 3, 2, 1, 6, 5, 4] (by decide), if_pos (by decide), mem_s8 hM hn, Option.bind_some, st8 [7, 3, 2, 1, 6, 5, 4], mem_p9 hM, Option.bind_some, mem_gI hM, Option.bind_some, sz [8, 7, 3, 2, 1, 6, 5, 4] (by decide), if_pos (by decide), mem_s9 hM hn, Option.bind_some, st9 [8, 7, 3, 2, 1, 6, 5, 4], mem_p10 hM, Option.bind_some, mem_gI hM, Option.bind_some, sz [9, 8, 7, 3, 2, 1, 6, 5, 4] (by decide), if_pos (by decide), mem_s10 hM hn, Option.bind_some, st10 [9, 8, 7, 3, 2, 1, 6, 5, 4], mem_p11 hM, Option.bind_some, mem_gI hM, Option.bind_some, sz [10, 9, 8, 7, 3, 2, 1, 6, 5, 4] (by decide), if_pos (by decide), mem_s11 hM hn, Option.bind_some, st11 [10, 9, 8, 7, 3, 2, 1, 6, 5, 4], mem_p12 hM, Option.bind_some, mem_gI hM, Option.bind_some, sz [11, 10, 9, 8, 7, 3, 2, 1, 6, 5, 4] (by decide), if_pos (by decide), mem_s12 hM hn, Option.bind_some, st12 [11, 10, 9, 8, 7, 3, 2, 1, 6, 5, 4], mem_gI hM, Option.bind_some, sz [12, 11, 10, 9, 8, 7, 3, 2, 1, 6, 5, 4] (by decide), nI_add, mem_pI hM, Option.bind_some]

theorem C_app1 (hM : MemG g b) (hn : n < 40) (h0 : I b 0 = nI n) {p : Nat} (hp : g.1 p = 6) (hpb : p < b ∨ b + 12 < p) (hd : ∀ i, i < 4 → I p i = d i) {cc nm ac fl : Int32} : fX4_append b (nI 1) cc nm ac fl p (mm g I J Z) = some ((), mm g (up2 (apI I b n (apV 1 cc nm ac fl d) [12, 11, 10, 9, 8, 7, 3, 2, 1, 6, 5, 4]) b 0 (nI (n + 1))) J Z) := by
  have sz : ∀ l, (∀ i ∈ l, i ≤ 12) → apI I b n (apV 1 cc nm ac fl d) l b 0 = nI n := fun l hl => by rw [ap_out hl (by omega)]; exact h0
  have dd : ∀ l, (∀ i ∈ l, i ≤ 12) → ∀ i, i < 4 → apI I b n (apV 1 cc nm ac fl d) l p i = d i := fun l hl i hi => by rw [ap_out hl (by omega)]; exact hd i hi
  have i11 : ∀ l, 11 ∈ l → apI I b n (apV 1 cc nm ac fl d) l (b + 11) n = (sgI nm (d 2) (d 3)) := fun l hl => by rw [ap_in (by decide) hl, if_pos rfl]; rfl
  have st1 : ∀ l, up2 (apI I b n (apV 1 cc nm ac fl d) l) (b + 1) n ac = apI I b n (apV 1 cc nm ac fl d) (1 :: l) := fun l => ap_step 1 (by decide)
  have st2 : ∀ l, up2 (apI I b n (apV 1 cc nm ac fl d) l) (b + 2) n fl = apI I b n (apV 1 cc nm ac fl d) (2 :: l) := fun l => ap_step 2 (by decide)
  have st3 : ∀ l, up2 (apI I b n (apV 1 cc nm ac fl d) l) (b + 3) n (-2) = apI I b n (apV 1 cc nm ac fl d) (3 :: l) := fun l => ap_step 3 (by decide)
  have st4 : ∀ l, up2 (apI I b n (apV 1 cc nm ac fl d) l) (b + 4) n (nI 1) = apI I b n (apV 1 cc nm ac fl d) (4 :: l) := fun l => ap_step 4 (by decide)
  have st5 : ∀ l, up2 (apI I b n (apV 1 cc nm ac fl d) l) (b + 5) n cc = apI I b n (apV 1 cc nm ac fl d) (5 :: l) := fun l => ap_step 5 (by decide)
  have st6 : ∀ l, up2 (apI I b n (apV 1 cc nm ac fl d) l) (b + 6) n nm = apI I b n (apV 1 cc nm ac fl d) (6 :: l) := fun l => ap_step 6 (by decide)
  have st7 : ∀ l, up2 (apI I b n (apV 1 cc nm ac fl d) l) (b + 7) n (d 0) = apI I b n (apV 1 cc nm ac fl d) (7 :: l) := fun l => ap_step 7 (by decide)
  have st8 : ∀ l, up2 (apI I b n (apV 1 cc nm ac fl d) l) (b + 8) n (d 1) = apI I b n (apV 1 cc nm ac fl d) (8 :: l) := fun l => ap_step 8 (by decide)
  have st9 : ∀ l, up2 (apI I b n (apV 1 cc nm ac fl d) l) (b + 9) n (d 2) = apI I b n (apV 1 cc nm ac fl d) (9 :: l) := fun l => ap_step 9 (by decide)
  have st10 : ∀ l, up2 (apI I b n (apV 1 cc nm ac fl d) l) (b + 10) n (d 3) = apI I b n (apV 1 cc nm ac fl d) (10 :: l) := fun l => ap_step 10 (by decide)
  have st11 : ∀ l, up2 (apI I b n (apV 1 cc nm ac fl d) l) (b + 11) n (sgI nm (d 2) (d 3)) = apI I b n (apV 1 cc nm ac fl d) (11 :: l) := fun l => ap_step 11 (by decide)
  have st12 : ∀ l, up2 (apI I b n (apV 1 cc nm ac fl d) l) (b + 12) n (dsI (sgI nm (d 2) (d 3)) (d 0)) = apI I b n (apV 1 cc nm ac fl d) (12 :: l) := fun l => ap_step 12 (by decide)
  conv => lhs; rw [show mm g I J Z = mm g (apI I b n (apV 1 cc nm ac fl d) []) J Z from by rw [ap_nil]]
  unfold fX4_append fX4_append_10 fX4_append_112 fX4_append_136 fX4_append_160 fX4_append_192 fX4_append_227
  rw [if_pos rfl, mem_p4 hM, Option.bind_some, mem_gI hM, Option.bind_some, sz [] (by decide), mem_s4 hM hn, Option.bind_some, st4 [], mem_p5 hM, Option.bind_some, mem_gI hM, Option.bind_some, sz [4] (by decide), mem_s5 hM hn, Option.bind_some, st5 [4], mem_p6 hM, Option.bind_some, mem_gI hM, Option.bind_some, sz [5, 4] (by decide), mem_s6 hM hn, Option.bind_some, st6 [5, 4], mem_p1 hM, Option.bind_some, mem_gI hM, Option.bind_some, sz [6, 5, 4] (by decide), mem_s1 hM hn, Option.bind_some, st1 [6, 5, 4], mem_p2 hM, Option.bind_some, mem_gI hM, Option.bind_some, sz [1, 6, 5, 4] (by decide), mem_s2 hM hn, Option.bind_some, st2 [1, 6, 5, 4], mem_p3 hM, Option.bind_some, mem_gI hM, Option.bind_some, sz [2, 1, 6, 5, 4] (by decide), mem_s3 hM hn, Option.bind_some, st3 [2, 1, 6, 5, 4], mem_p7 hM, Option.bind_some, mem_gI hM, Option.bind_some, sz [3, 2, 1, 6, 5, 4] (by decide), gI_m hp, Option.bind_some, dd [3, 2, 1, 6, 5, 4] (by decide) 0 (by decide), mem_s7 hM hn, Option.bind_some, st7 [3, 2, 1, 6, 5, 4], mem_p8 hM, Option.bind_some, mem_gI hM, Option.bind_some, sz [7, 3, 2, 1, 6, 5, 4] (by decide), if_neg (by decide), gI_m hp, Option.bind_some, dd [7, 3, 2, 1, 6, 5, 4] (by decide) 1 (by decide), mem_s8 hM hn, Option.bind_some, st8 [7, 3, 2, 1, 6, 5, 4], mem_p9 hM, Option.bind_some, mem_gI hM, Option.bind_some, sz [8, 7, 3, 2, 1, 6, 5, 4] (by decide), if_neg (by decide), gI_m hp, Option.bind_some, dd [8, 7, 3, 2, 1, 6, 5, 4] (by decide) 2 (by decide), mem_s9 hM hn, Option.bind_some, st9 [8, 7, 3, 2, 1, 6, 5, 4], mem_p10 hM, Option.bind_some, mem_gI hM, Option.bind_some, sz [9, 8, 7, 3, 2, 1, 6, 5, 4] (by decide), if_neg (by decide), gI_m hp, Option.bind_some, dd [9, 8, 7, 3, 2, 1, 6, 5, 4] (by decide) 3 (by decide), mem_s10 hM hn, Option.bind_some, st10 [9, 8, 7, 3, 2, 1, 6, 5, 4], mem_p11 hM, Option.bind_some, mem_gI hM, Option.bind_some, sz [10, 9, 8, 7, 3, 2, 1, 6, 5, 4] (by decide), if_neg (by decide), gI_m hp, Option.bind_some, dd [10, 9, 8, 7, 3, 2, 1, 6, 5, 4] (by decide) 2 (by decide), gI_m hp, Option.bind_some, dd [10, 9, 8, 7, 3, 2, 1, 6, 5, 4] (by decide) 3 (by decide), show ∀ h, fX4_signatureOf nm (d 2) (d 3) h = some (sgI nm (d 2) (d 3), h) from fun _ => rfl, bd_some, mem_s11 hM hn, Option.bind_some, st11 [10, 9, 8, 7, 3, 2, 1, 6, 5, 4], mem_p12 hM, Option.bind_some, mem_gI hM, Option.bind_some, sz [11, 10, 9, 8, 7, 3, 2, 1, 6, 5, 4] (by decide), if_neg (by decide), mem_p11 hM, Option.bind_some, Option.bind_some, mem_l11 hM hn, Option.bind_some, i11 [11, 10, 9, 8, 7, 3, 2, 1, 6, 5, 4] (by decide), gI_m hp, Option.bind_some, dd [11, 10, 9, 8, 7, 3, 2, 1, 6, 5, 4] (by decide) 0 (by decide), show ∀ h, fX4_descriptorOf (sgI nm (d 2) (d 3)) (d 0) h = some (dsI (sgI nm (d 2) (d 3)) (d 0), h) from fun _ => rfl, bd_some, mem_s12 hM hn, Option.bind_some, st12 [11, 10, 9, 8, 7, 3, 2, 1, 6, 5, 4], mem_gI hM, Option.bind_some, sz [12, 11, 10, 9, 8, 7, 3, 2, 1, 6, 5, 4] (by decide), nI_add, mem_pI hM, Option.bind_some]

end Ap2

/-! ===== sample: the clients in their order ===== -/
def tlM (t : Nat) : Int32 := if t = 0 then nI 0 else if t < 12 then nI 1 else nI 2
def tlF (t : Nat) : Int32 := if t = 0 then -2 else if t < 12 then nI (t - 1) - nI 1 else nI ((t - 12) / 11) - nI 1
def tlS (t : Nat) : Int32 := if t < 12 then -2 else nI ((t - 12) % 11) - nI 1
def sR (pk : Int32) (u c nm t : Nat) : Nat → Int32 := mkR u c (nI nm) pk (tlM t) (tlF t) (tlS t)
def sq (u c nm t : Nat) : Nat := ((u * 10 + c) * 8 + nm) * 133 + t
/-- a client in order -/
def Cd (u c nm t : Nat) : Prop := u < 6 ∧ c < 10 ∧ nm < 8 ∧ t < 133 ∧ (u ≤ 2 ∨ nm = 0) ∧ (u = 2 ∨ t = 0)
def gdB (w : Nat → Int32) (pk x : Int32) (u c nm t : Nat) : Bool := decide ((comS w 0 (sR pk u c nm t) u c 0).1 = nI 0) && decide (juS w (kkR (sR pk u c nm t) (comS w 0 (sR pk u c nm t) u c 0).2) u c 0 = x)
def sqG (w : Nat → Int32) (pk x : Int32) (i : Nat) : Bool := decide (i / 10640 < 6) && (decide (i / 10640 ≤ 2) || decide (i / 133 % 8 = 0)) && (decide (i / 10640 = 2) || decide (i % 133 = 0)) && gdB w pk x (i / 10640) (i / 1064 % 10) (i / 133 % 8) (i % 133)
def fst1 (G : Nat → Bool) : Nat → Nat → Option Nat
  | 0, _ => none
  | e + 1, i => if G i = true then some i else fst1 G e (i + 1)
section Sk
variable {g : Gr} {A R p q : Nat} {I I' : Mem} {J : Nat → Nat → Int64} {Z : Option Nat} {w w' : Nat → Int32} {n v u c b nm t i e : Nat} {P : Nat → Nat → Int32} {d : Nat → Int32} {x y z pk : Int32} {k kk : Nat → Int32} {G : Nat → Bool}
theorem sq_dec (h : Cd u c nm t) : sq u c nm t / 10640 = u ∧ sq u c nm t / 1064 % 10 = c ∧ sq u c nm t / 133 % 8 = nm ∧ sq u c nm t % 133 = t := by
  obtain ⟨h1, h2, h3, h4, -, -⟩ := h
  unfold sq
  refine ⟨by omega, by omega, by omega, by omega⟩
theorem sqG_at (h : Cd u c nm t) : sqG w pk x (sq u c nm t) = gdB w pk x u c nm t := by
  obtain ⟨e1, e2, e3, e4⟩ := sq_dec h
  unfold sqG
  rw [e1, e2, e3, e4, decide_eq_true h.1]
  have q1 : (decide (u ≤ 2) || decide (nm = 0)) = true := by
    rcases h.2.2.2.2.1 with q | q
    · rw [decide_eq_true q]; rfl
    · rw [decide_eq_true q, Bool.or_true]
  have q2 : (decide (u = 2) || decide (t = 0)) = true := by
    rcases h.2.2.2.2.2 with q | q
    · rw [decide_eq_true q]; rfl
    · rw [decide_eq_true q, Bool.or_true]
  rw [q1, q2]
  simp only [Bool.true_and]
theorem sqG_cd (h : sqG w pk x i = true) : ∃ u c nm t, Cd u c nm t ∧ i = sq u c nm t := by
  unfold sqG at h
  simp only [Bool.and_eq_true, Bool.or_eq_true, decide_eq_true_eq] at h
  obtain ⟨⟨⟨h1, h2⟩, h3⟩, -⟩ := h
  refine ⟨i / 10640, i / 1064 % 10, i / 133 % 8, i % 133, ⟨h1, by omega, by omega, by omega, h2, h3⟩, ?_⟩
  unfold sq
  omega
theorem fst1_yes (h : G i = true) : fst1 G (e + 1) i = some i := if_pos h
theorem fst1_skip : ∀ (m e i : Nat), (∀ j, i ≤ j → j < i + m → G j = false) → fst1 G (e + m) i = fst1 G e (i + m) := by
  intro m
  induction m with
  | zero => intro e i _; rfl
  | succ m ih =>
    intro e i h
    have h0 := h i (by omega) (by omega)
    show (if G i = true then some i else fst1 G (e + m) (i + 1)) = _
    rw [if_neg (by rw [h0]; decide), ih e (i + 1) (fun j a b => h j (by omega) (by omega)), show i + 1 + m = i + (m + 1) from by omega]
theorem fst1_to {z : Nat} (hi : i ≤ z) (hz : z ≤ 63840) (h : ∀ j, i ≤ j → j < z → G j = false) : fst1 G (63840 - i) i = fst1 G (63840 - z) z := by
  have := fst1_skip (G := G) (z - i) (63840 - z) i (fun j a b => h j a (by omega))
  rw [show 63840 - z + (z - i) = 63840 - i from by omega, show i + (z - i) = z from by omega] at this
  exact this
/-! types -/
theorem nI_pr (a : Nat) : nI (a + 1) - nI 1 = nI a := nI_pred a
theorem tI_add (a : Nat) : nI a - nI 1 + nI 1 = nI (a + 1) - nI 1 := by rw [Int32.sub_add_cancel, nI_pr]
theorem ty1 {a : Nat} (h : a < 11) : tlM (1 + a) = nI 1 ∧ tlF (1 + a) = nI a - nI 1 ∧ tlS (1 + a) = -2 := by
  unfold tlM tlF tlS
  rw [if_neg (by omega), if_pos (by omega), if_neg (by omega), if_pos (by omega), if_pos (by omega), show 1 + a - 1 = a from by omega]
  exact ⟨rfl, rfl, rfl⟩
theorem ty2 {a b : Nat} (h : b < 11) : tlM (12 + 11 * a + b) = nI 2 ∧ tlF (12 + 11 * a + b) = nI a - nI 1 ∧ tlS (12 + 11 * a + b) = nI b - nI 1 := by
  unfold tlM tlF tlS
  rw [if_neg (by omega), if_neg (by omega), if_neg (by omega), if_neg (by omega), if_neg (by omega), show (12 + 11 * a + b - 12) / 11 = a from by omega, show (12 + 11 * a + b - 12) % 11 = b from by omega]
  exact ⟨rfl, rfl, rfl⟩
theorem ty_c (h : t < 133) : t = 0 ∨ (∃ a, a < 11 ∧ t = 1 + a) ∨ ∃ a b, a < 11 ∧ b < 11 ∧ t = 12 + 11 * a + b := by
  by_cases h0 : t = 0
  · exact Or.inl h0
  · by_cases h1 : t < 12
    · exact Or.inr (Or.inl ⟨t - 1, by omega, by omega⟩)
    · exact Or.inr (Or.inr ⟨(t - 12) / 11, (t - 12) % 11, by omega, by omega, by omega⟩)
theorem tI_11 : ∀ a, a < 11 → nI a - nI 1 = tI (a + 1) := by decide +kernel
theorem ty_Ty {a : Nat} (h : a < 11) : Ty1 (nI a - nI 1) := ⟨a + 1, by omega, by omega, tI_11 a h⟩
theorem ty_Pt (h : t < 133) : Pt (tlM t) (tlF t) (tlS t) := by
  rcases ty_c h with rfl | ⟨a, ha, rfl⟩ | ⟨a, b, ha, hb, rfl⟩
  · exact Or.inl ⟨rfl, rfl, rfl⟩
  · obtain ⟨e1, e2, e3⟩ := ty1 ha
    rw [e1, e2, e3]
    exact Or.inr (Or.inl ⟨rfl, ty_Ty ha, rfl⟩)
  · obtain ⟨e1, e2, e3⟩ := ty2 (a := a) hb
    rw [e1, e2, e3]
    exact Or.inr (Or.inr ⟨rfl, ty_Ty ha, ty_Ty hb⟩)
theorem sR_CK (h : Cd u c nm t) : CK (sR pk u c nm t) u c 0 := mk_CK h.1 h.2.1 (fun _ => ⟨nm, h.2.2.1, rfl⟩) (ty_Pt h.2.2.2.1)
/-! the class's steps -/
theorem row8 {I : Mem} {p : Nat} {k : Nat → Int32} (h0 : I p 0 = k 0) (h1 : I p 1 = k 1) (h2 : I p 2 = k 2) (h3 : I p 3 = k 3) (h4 : I p 4 = k 4) (h5 : I p 5 = k 5) (h6 : I p 6 = k 6) (h7 : I p 7 = k 7) : ∀ j, j < 8 → I p j = k j := fun j hj => by
  rcases (by omega : j = 0 ∨ j = 1 ∨ j = 2 ∨ j = 3 ∨ j = 4 ∨ j = 5 ∨ j = 6 ∨ j = 7) with rfl | rfl | rfl | rfl | rfl | rfl | rfl | rfl <;> assumption
theorem row_ty {p t' : Nat} (hk : ∀ j, j < 8 → I p j = sR pk 2 c nm t j) (h5 : I' p 5 = tlM t') (h6 : I' p 6 = tlF t') (h7 : I' p 7 = tlS t') (ho : ∀ j, j < 5 → I' p j = I p j) : ∀ j, j < 8 → I' p j = sR pk 2 c nm t' j :=
  row8 ((ho 0 (by decide)).trans (hk 0 (by decide))) ((ho 1 (by decide)).trans (hk 1 (by decide))) ((ho 2 (by decide)).trans (hk 2 (by decide))) ((ho 3 (by decide)).trans (hk 3 (by decide))) ((ho 4 (by decide)).trans (hk 4 (by decide))) h5 h6 h7
theorem C_nT (hp : ClG g p) (ht : t < 133) (hk : ∀ j, j < 8 → I p j = sR pk 2 c nm t j) : (∃ I', fX0_nextTypes p (mm g I J Z) = some (bI true, mm g I' J Z) ∧ (∀ y, y ≠ p → I' y = I y) ∧ (∀ j, j < 8 → I' p j = sR pk 2 c nm (t + 1) j) ∧ t + 1 < 133) ∨ (fX0_nextTypes p (mm g I J Z) = some (bI false, mm g I J Z) ∧ (t = 0 ∨ t = 11 ∨ t = 132)) := by
  have k5 : I p 5 = tlM t := hk 5 (by decide)
  have k6 : I p 6 = tlF t := hk 6 (by decide)
  have k7 : I p 7 = tlS t := hk 7 (by decide)
  unfold fX0_nextTypes fX0_nextTypes_31 fX0_nextTypes_75
  rcases ty_c ht with rfl | ⟨a, ha, rfl⟩ | ⟨a, b, ha, hb, rfl⟩
  · refine Or.inr ⟨?_, Or.inl rfl⟩
    rw [gI_m hp.1, Option.bind_some, k5, show tlM 0 = nI 0 from rfl, if_pos (by decide), Option.bind_some, if_pos (by decide), rz_n0]
  · obtain ⟨e1, e2, e3⟩ := ty1 ha
    rw [e1] at k5; rw [e2] at k6; rw [e3] at k7
    by_cases h10 : a = 10
    · refine Or.inr ⟨?_, Or.inr (Or.inl (by omega))⟩
      rw [gI_m hp.1, Option.bind_some, k5, if_pos (by decide), Option.bind_some, if_neg (by decide), gI_m hp.1, Option.bind_some, k6, Int32.sub_add_cancel, if_pos (nI_le (by omega) (by omega)), rz_n0]
    · obtain ⟨f1, f2, f3⟩ := ty1 (a := a + 1) (by omega)
      refine Or.inl ⟨up2 (up2 I p 6 (nI (a + 1) - nI 1)) p 7 (-2), ?_, fun y hy => by rw [up2_ne hy, up2_ne hy], row_ty hk (by rw [up2_at, if_neg (by decide), up2_at, if_neg (by decide), k5]; exact f1.symm) (by rw [up2_at, if_neg (by decide), up2_at, if_pos rfl]; exact f2.symm) (by rw [up2_at, if_pos rfl]; exact f3.symm) (fun j hj => by rw [up2_at, if_neg (by omega), up2_at, if_neg (by omega)]), by omega⟩
      rw [gI_m hp.1, Option.bind_some, k5, if_pos (by decide), Option.bind_some, if_neg (by decide), gI_m hp.1, Option.bind_some, k6, Int32.sub_add_cancel, if_neg (nI_ge (by omega) (by omega)), Option.bind_some, tI_add, pI_m hp.1, Option.bind_some, gI_m hp.1, Option.bind_some, show up2 I p 6 (nI (a + 1) - nI 1) p 5 = nI 1 from by rw [up2_at, if_neg (by decide), k5], if_pos (by decide), pI_m hp.1, Option.bind_some, rz_n1]
  · obtain ⟨e1, e2, e3⟩ := ty2 (a := a) hb
    rw [e1] at k5; rw [e2] at k6; rw [e3] at k7
    by_cases b10 : b = 10
    · by_cases a10 : a = 10
      · refine Or.inr ⟨?_, Or.inr (Or.inr (by omega))⟩
        rw [gI_m hp.1, Option.bind_some, k5, if_neg (by decide), gI_m hp.1, Option.bind_some, k7, Int32.sub_add_cancel, if_pos (nI_le (by omega) (by omega)), Option.bind_some, if_neg (by decide), gI_m hp.1, Option.bind_some, k6, Int32.sub_add_cancel, if_pos (nI_le (by omega) (by omega)), rz_n0]
      · obtain ⟨f1, f2, f3⟩ := ty2 (a := a + 1) (b := 0) (by omega)
        rw [show 12 + 11 * (a + 1) + 0 = 12 + 11 * a + b + 1 from by omega] at f1 f2 f3
        refine Or.inl ⟨up2 (up2 I p 6 (nI (a + 1) - nI 1)) p 7 (-1), ?_, fun y hy => by rw [up2_ne hy, up2_ne hy], row_ty hk (by rw [up2_at, if_neg (by decide), up2_at, if_neg (by decide), k5]; exact f1.symm) (by rw [up2_at, if_neg (by decide), up2_at, if_pos rfl]; exact f2.symm) (by rw [up2_at, if_pos rfl]; exact f3.symm) (fun j hj => by rw [up2_at, if_neg (by omega), up2_at, if_neg (by omega)]), by omega⟩
        rw [gI_m hp.1, Option.bind_some, k5, if_neg (by decide), gI_m hp.1, Option.bind_some, k7, Int32.sub_add_cancel, if_pos (nI_le (by omega) (by omega)), Option.bind_some, if_neg (by decide), gI_m hp.1, Option.bind_some, k6, Int32.sub_add_cancel, if_neg (nI_ge (by omega) (by omega)), Option.bind_some, tI_add, pI_m hp.1, Option.bind_some, gI_m hp.1, Option.bind_some, show up2 I p 6 (nI (a + 1) - nI 1) p 5 = nI 2 from by rw [up2_at, if_neg (by decide), k5], if_neg (by decide), pI_m hp.1, Option.bind_some, rz_n1]
    · obtain ⟨f1, f2, f3⟩ := ty2 (a := a) (b := b + 1) (by omega)
      rw [show 12 + 11 * a + (b + 1) = 12 + 11 * a + b + 1 from by omega] at f1 f2 f3
      refine Or.inl ⟨up2 I p 7 (nI (b + 1) - nI 1), ?_, fun y hy => by rw [up2_ne hy], row_ty hk (by rw [up2_at, if_neg (by decide), k5]; exact f1.symm) (by rw [up2_at, if_neg (by decide), k6]; exact f2.symm) (by rw [up2_at, if_pos rfl]; exact f3.symm) (fun j hj => by rw [up2_at, if_neg (by omega)]), by omega⟩
      rw [gI_m hp.1, Option.bind_some, k5, if_neg (by decide), gI_m hp.1, Option.bind_some, k7, Int32.sub_add_cancel, if_neg (nI_ge (by omega) (by omega)), Option.bind_some, tI_add, pI_m hp.1, Option.bind_some, rz_n1]
theorem C_nM (hp : ClG g p) (ht : t < 133) (hk : ∀ j, j < 8 → I p j = sR pk 2 c nm t j) : (∃ I' t', fX0_nextMany p (mm g I J Z) = some (bI true, mm g I' J Z) ∧ (∀ y, y ≠ p → I' y = I y) ∧ (∀ j, j < 8 → I' p j = sR pk 2 c nm t' j) ∧ ((t = 0 ∧ t' = 1) ∨ (0 < t ∧ t < 12 ∧ t' = 12))) ∨ (fX0_nextMany p (mm g I J Z) = some (bI false, mm g I J Z) ∧ 12 ≤ t) := by
  have k5 : I p 5 = tlM t := hk 5 (by decide)
  unfold fX0_nextMany fX0_nextMany_40
  rcases ty_c ht with rfl | ⟨a, ha, rfl⟩ | ⟨a, b, ha, hb, rfl⟩
  · rw [show tlM 0 = nI 0 from rfl] at k5
    obtain ⟨f1, f2, f3⟩ := ty1 (a := 0) (by omega)
    refine Or.inl ⟨up2 (up2 (up2 I p 5 (nI 1)) p 6 (-1)) p 7 (-2), 1, ?_, fun y hy => by rw [up2_ne hy, up2_ne hy, up2_ne hy], row_ty hk (by rw [up2_at, if_neg (by decide), up2_at, if_neg (by decide), up2_at, if_pos rfl]; exact f1.symm) (by rw [up2_at, if_neg (by decide), up2_at, if_pos rfl]; exact f2.symm) (by rw [up2_at, if_pos rfl]; exact f3.symm) (fun j hj => by rw [up2_at, if_neg (by omega), up2_at, if_neg (by omega), up2_at, if_neg (by omega)]), Or.inl ⟨rfl, rfl⟩⟩
    rw [gI_m hp.1, Option.bind_some, k5, if_pos (by decide), Option.bind_some, nI_add, pI_m hp.1, Option.bind_some, pI_m hp.1, Option.bind_some, gI_m hp.1, Option.bind_some, show up2 (up2 I p 5 (nI (0 + 1))) p 6 (-1) p 5 = nI 1 from by rw [up2_at, if_neg (by decide), up2_at, if_pos rfl], if_pos (by decide), pI_m hp.1, Option.bind_some, rz_n1]
  · obtain ⟨e1, e2, e3⟩ := ty1 ha
    rw [e1] at k5
    obtain ⟨f1, f2, f3⟩ := ty2 (a := 0) (b := 0) (by omega)
    refine Or.inl ⟨up2 (up2 (up2 I p 5 (nI 2)) p 6 (-1)) p 7 (-1), 12, ?_, fun y hy => by rw [up2_ne hy, up2_ne hy, up2_ne hy], row_ty hk (by rw [up2_at, if_neg (by decide), up2_at, if_neg (by decide), up2_at, if_pos rfl]; exact f1.symm) (by rw [up2_at, if_neg (by decide), up2_at, if_pos rfl]; exact f2.symm) (by rw [up2_at, if_pos rfl]; exact f3.symm) (fun j hj => by rw [up2_at, if_neg (by omega), up2_at, if_neg (by omega), up2_at, if_neg (by omega)]), Or.inr ⟨by omega, by omega, rfl⟩⟩
    rw [gI_m hp.1, Option.bind_some, k5, if_pos (by decide), Option.bind_some, nI_add, pI_m hp.1, Option.bind_some, pI_m hp.1, Option.bind_some, gI_m hp.1, Option.bind_some, show up2 (up2 I p 5 (nI (1 + 1))) p 6 (-1) p 5 = nI 2 from by rw [up2_at, if_neg (by decide), up2_at, if_pos rfl], if_neg (by decide), pI_m hp.1, Option.bind_some, rz_n1]
  · obtain ⟨e1, e2, e3⟩ := ty2 (a := a) hb
    rw [e1] at k5
    refine Or.inr ⟨?_, by omega⟩
    rw [gI_m hp.1, Option.bind_some, k5, if_neg (by decide), rz_n0]
/-- what an advance does: the next place, with nothing in order between, skipped lists aside -/
def Adv (g : Gr) (p : Nat) (I : Mem) (J : Nat → Nat → Int64) (Z : Option Nat) (pk : Int32) (u c nm : Nat) (B : Nat → Nat → Nat → Nat → Prop) (i : Nat) (X : Option (Int32 × AH)) : Prop :=
  (∃ I' u' c' n' t', X = some (bI true, mm g I' J Z) ∧ (∀ y, y ≠ p → y ≠ p + 1 → I' y = I y) ∧ (∀ j, j < 8 → I' p j = sR pk u' c' n' t' j) ∧ Cd u' c' n' t' ∧ i < sq u' c' n' t' ∧ ∀ u1 c1 n1 t1, Cd u1 c1 n1 t1 → i < sq u1 c1 n1 t1 → sq u1 c1 n1 t1 < sq u' c' n' t' → B u1 c1 n1 t1) ∨ (X = some (bI false, mm g I J Z) ∧ ∀ u1 c1 n1 t1, Cd u1 c1 n1 t1 → i < sq u1 c1 n1 t1 → B u1 c1 n1 t1)
theorem C_ad28 (hp : ClG g p) (h : Cd u c nm t) (hk : ∀ j, j < 8 → I p j = sR pk u c nm t j) {B : Nat → Nat → Nat → Nat → Prop} (hB : ∀ t1, Cd u c nm t1 → t < t1 → B u c nm t1) : Adv g p I J Z pk u c nm B (sq u c nm t) (fX0_advance_28 p (mm g I J Z)) := by
  have h' := h
  obtain ⟨h1, h2, h3, h4, h5, h6⟩ := h
  have k0 : I p 0 = nI u := hk 0 (by decide)
  have k1 : I p 1 = nI c := hk 1 (by decide)
  have k3 : I p 3 = pk := hk 3 (by decide)
  have a72 : (u ≤ 2 → nm = 7) → Adv g p I J Z pk u c nm B (sq u c nm t) (fX0_advance_72 p (mm g I J Z)) := by
    intro h7
    unfold fX0_advance_72
    rw [gI_m hp.1, Option.bind_some, k1, nI_add]
    by_cases c9 : c = 9
    · rw [if_pos (nI_le (by omega) (by omega)), gI_m hp.1, Option.bind_some, k0]
      by_cases u5 : u = 5
      · rw [if_pos (nI_le (by omega) (by omega)), rz_n0]
        refine Or.inr ⟨rfl, fun u1 c1 n1 t1 hc hl => ?_⟩
        obtain ⟨g1, g2, g3, g4, g5, g6⟩ := hc
        unfold sq at hl
        omega
      · obtain ⟨I1, a1, a2, a3, a4⟩ := C_put (I := I) (J := J) (Z := Z) (u := u + 1) (c := 0) (nm := nI 0) (pk := pk) hp (by omega)
        rw [if_neg (nI_ge (by omega) (by omega)), Option.bind_some, gI_m hp.1, Option.bind_some, k3, nI_add, cln_cv hp, a1, bd_some, rz_n1]
        refine Or.inl ⟨I1, u + 1, 0, 0, 0, rfl, a2, a3, ⟨by omega, by omega, by omega, by omega, by omega, by omega⟩, by unfold sq; omega, fun u1 c1 n1 t1 hc hl hr => ?_⟩
        have hc' := hc
        obtain ⟨g1, g2, g3, g4, g5, g6⟩ := hc
        unfold sq at hl hr
        have z1 : u1 = u := by omega
        subst z1
        have z2 : c1 = c := by omega
        subst z2
        have z3 : n1 = nm := by omega
        subst z3
        exact hB t1 hc' (by omega)
    · obtain ⟨I1, a1, a2, a3, a4⟩ := C_put (I := I) (J := J) (Z := Z) (u := u) (c := c + 1) (nm := nI 0) (pk := pk) hp (by omega)
      rw [if_neg (nI_ge (by omega) (by omega)), gI_m hp.1, Option.bind_some, k0, Option.bind_some, gI_m hp.1, Option.bind_some, k3, nI_add, cln_cv hp, a1, bd_some, rz_n1]
      refine Or.inl ⟨I1, u, c + 1, 0, 0, rfl, a2, a3, ⟨by omega, by omega, by omega, by omega, by omega, by omega⟩, by unfold sq; omega, fun u1 c1 n1 t1 hc hl hr => ?_⟩
      have hc' := hc
      obtain ⟨g1, g2, g3, g4, g5, g6⟩ := hc
      unfold sq at hl hr
      have z1 : u1 = u := by omega
      subst z1
      have z2 : c1 = c := by omega
      subst z2
      have z3 : n1 = nm := by omega
      subst z3
      exact hB t1 hc' (by omega)
  unfold fX0_advance_28
  rw [gI_m hp.1, Option.bind_some, k0]
  by_cases u2 : 2 < u
  · rw [if_pos (nI_lt u2 (by omega))]
    exact a72 (fun q => absurd q (by omega))
  · have k2 : I p 2 = nI nm := by
      rw [hk 2 (by decide)]
      show (if u < 3 then nI nm else -2) = nI nm
      rw [if_pos (by omega)]
    rw [if_neg (nI_nlt (by omega) (by omega)), gI_m hp.1, Option.bind_some, k2, nI_add]
    by_cases n7 : nm = 7
    · rw [if_pos (nI_le (by omega) (by omega))]
      exact a72 (fun _ => n7)
    · obtain ⟨I1, a1, a2, a3, a4⟩ := C_put (I := I) (J := J) (Z := Z) (u := u) (c := c) (nm := nI (nm + 1)) (pk := pk) hp (by omega)
      rw [if_neg (nI_ge (by omega) (by omega)), Option.bind_some, gI_m hp.1, Option.bind_some, k1, Option.bind_some, gI_m hp.1, Option.bind_some, k3, nI_add, cln_cv hp, a1, bd_some, rz_n1]
      refine Or.inl ⟨I1, u, c, nm + 1, 0, rfl, a2, a3, ⟨by omega, by omega, by omega, by omega, by omega, by omega⟩, by unfold sq; omega, fun u1 c1 n1 t1 hc hl hr => ?_⟩
      have hc' := hc
      obtain ⟨g1, g2, g3, g4, g5, g6⟩ := hc
      unfold sq at hl hr
      have z1 : u1 = u := by omega
      subst z1
      have z2 : c1 = c := by omega
      subst z2
      have z3 : n1 = nm := by omega
      subst z3
      exact hB t1 hc' (by omega)
end Sk

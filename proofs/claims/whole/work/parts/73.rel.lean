/-! ===== the judge and the reference: what they hold together ===== -/
def JG (g : Gr) (A : Nat) : Prop := JV g A ∧ StG g (A + 1) ∧ g.2.2 A 0 = some (A + 1) ∧ g.2.2 A 1 = some (A + 68) ∧ (g.1 (A + 68) = 36 ∧ g.2.1 (A + 68) = 5 ∧ ∀ k, k < 5 → g.2.2 (A + 68) k = some (A + 69 + 67 * k)) ∧ (∀ k, k < 5 → StG g (A + 69 + 67 * k)) ∧ (g.2.2 A 4 = some (A + 404) ∧ g.1 (A + 404) = 6) ∧ g.2.2 A 5 = some (A + 405) ∧ ClG g (A + 405)
def RelC (I : Mem) (A : Nat) (w : Nat → Int32) (n : Nat) (P : Nat → Nat → Int32) (d : Nat → Int32) : Prop :=
  RSt I (A + 1) w ∧ n ≤ 5 ∧ I A 3 = nI n ∧ (∃ o, o < 5 ∧ I A 2 = nI o ∧ ∀ j, j < n → RSt I (A + 69 + 67 * ((o + j) % 5)) (P j)) ∧ ∀ i, i < 4 → I (A + 404) i = d i
def RelM (I : Mem) (R : Nat) (w : Nat → Int32) (n : Nat) (P : Nat → Nat → Int32) (d : Nat → Int32) : Prop :=
  I (R + 1) = w ∧ (∀ i, 1155 ≤ i → w i = 0) ∧ n ≤ 5 ∧ I R 2 = nI n ∧ (∀ j, j < n → (∀ i, i < 1155 → I (R + 2) (1155 * j + i) = P j i) ∧ ∀ i, 1155 ≤ i → P j i = 0) ∧ (I (R + 3) 0 = d 0 ∧ I (R + 3) 1 = d 1 ∧ (I (R + 3) 2 = d 2 ∨ d 1 = nI 0) ∧ (I (R + 3) 3 = d 3 ∨ d 1 = nI 0))
def Wf (w : Nat → Int32) (n : Nat) (P : Nat → Nat → Int32) (d : Nat → Int32) : Prop := WS w ∧ (∀ j, j < n → WS (P j)) ∧ Ty1 (d 0) ∧ Pt (d 1) (d 2) (d 3)
def Rel (g : Gr) (A : Nat) (I : Mem) (w : Nat → Int32) (n : Nat) (P : Nat → Nat → Int32) (d : Nat → Int32) : Prop := JG g A ∧ ModG g (A + 418) ∧ RelC I A w n P d ∧ RelM I (A + 418) w n P d ∧ Wf w n P d
def FvC (A : Nat) (I I' : Mem) : Prop := ∀ x, (x < A + 405 ∨ A + 417 ≤ x) → x ≠ A + 23 → x ≠ A + 43 → I' x = I x
def FvM (R : Nat) (I I' : Mem) : Prop := (∀ x, x ≠ R → x ≠ R + 4 → x ≠ R + 5 → x ≠ R + 6 → x ≠ R + 7 → I' x = I x) ∧ I' R 2 = I R 2
def pushN (n : Nat) : Nat := if n = 5 then 5 else n + 1
def pushP (P : Nat → Nat → Int32) (n : Nat) (w : Nat → Int32) : Nat → Nat → Int32 := fun j => if n = 5 then (if j = 4 then w else P (j + 1)) else if j = n then w else P j
theorem md5 : ∀ a, a < 11 → nI a - nI a / nI 5 * nI 5 = nI (a % 5) := by decide +kernel
section Re
variable {g : Gr} {A R : Nat} {I I' I'' : Mem} {J : Nat → Nat → Int64} {Z : Option Nat} {w w' : Nat → Int32} {n k v : Nat} {P : Nat → Nat → Int32} {d : Nat → Int32} {x : Int32}
theorem JG.V (h : JG g A) : JV g A := h.1
theorem JG.K (h : JG g A) : g.1 A = 9 := h.1.1
theorem JG.cv (h : JG g A) {ρ γ : Type} {f : AH → Option (ρ × AH)} {K : ρ → AH → Option γ} : cv 8 A f (mm g I J Z) K = bd (f (mm g I J Z)) K := cv_m h.K
theorem JG.S (h : JG g A) : StG g (A + 1) := h.2.1
theorem JG.p0 (h : JG g A) : gP 8 A 0 (mm g I J Z) = some (A + 1) := gP_m h.K h.2.2.1
theorem JG.p1 (h : JG g A) : gP 8 A 1 (mm g I J Z) = some (A + 68) := gP_m h.K h.2.2.2.1
theorem JG.p4 (h : JG g A) : gP 8 A 4 (mm g I J Z) = some (A + 404) := gP_m h.K h.2.2.2.2.2.2.1.1
theorem JG.p5 (h : JG g A) : gP 8 A 5 (mm g I J Z) = some (A + 405) := gP_m h.K h.2.2.2.2.2.2.2.1
theorem JG.sv (h : JG g A) (hk : k < 5) : ldP 6 (A + 68) (nI k) (mm g I J Z) = some (A + 69 + 67 * k) := ldP_m h.2.2.2.2.1.1 (by rw [h.2.2.2.2.1.2.1]; exact hk) (by omega) (h.2.2.2.2.1.2.2 k hk)
theorem JG.SS (h : JG g A) (hk : k < 5) : StG g (A + 69 + 67 * k) := h.2.2.2.2.2.1 k hk
theorem JG.D (h : JG g A) : g.1 (A + 404) = 6 := h.2.2.2.2.2.2.1.2
theorem JG.pb (h : JG g A) : PC g A (A + 405) := ⟨h.2.2.2.2.2.2.2.2, by omega, by omega⟩
theorem JG.pc (h : JG g A) (hk : k < 12) : PC g A (A + 1 + 43 + 2 * k) := ⟨h.S.cli hk, by omega, by omega⟩
theorem JG.lib (h : JG g A) (hv : v < 2) : LibG g (A + 1 + 3 + 20 * v) := h.S.lib hv
theorem FvC.refl : FvC A I I := fun _ _ _ _ => rfl
theorem FvC.trans (h : FvC A I I') (h' : FvC A I' I'') : FvC A I I'' := fun x a b c => (h' x a b c).trans (h x a b c)
theorem Fvd.fvc (h : Fvd A I I') : FvC A I I' := fun x a b c => h x (a.imp (fun q => by omega) id) b c
theorem FvM.refl : FvM R I I := ⟨fun _ _ _ _ _ _ => rfl, rfl⟩
theorem FvM.trans (h : FvM R I I') (h' : FvM R I' I'') : FvM R I I'' := ⟨fun x a b c d e => (h'.1 x a b c d e).trans (h.1 x a b c d e), h'.2.trans h.2⟩
theorem Fj.fvm (h : Fj R I I') : FvM R I I' := ⟨fun x a b _ d e => h.1 x a b d e, h.2 2 (by omega) (by omega)⟩
theorem Fm.fvm (h : Fm R I I') : FvM R I I' := h.fj.fvm
theorem Fl.fvm (h : Fl R I I') : FvM R I I' := h.fj.fvm
theorem Fw.fvm (h : Fw R I I') : FvM R I I' := h.fm.fvm
theorem Ff.fvm (h : Ff R I I') : FvM R I I' := h.fm.fvm
theorem fvm_3 : FvM R I (up2 I R 3 x) := ⟨fun y a _ _ _ _ => up2_ne a, by rw [up2_at, if_neg (by decide)]⟩
theorem fvm_5 (h : ∀ y, y ≠ R + 5 → I' y = I y) : FvM R I I' := ⟨fun y _ _ c _ _ => h y c, by rw [h R (by omega)]⟩
theorem RelC.fr (h : RelC I A w n P d) (hW : Wf w n P d) (hf : ∀ x, A ≤ x → x < A + 405 → x ≠ A + 23 → x ≠ A + 43 → I' x = I x) : RelC I' A w n P d := by
  obtain ⟨h1, h2, h3, ⟨o, o1, o2, o3⟩, h5⟩ := h
  refine ⟨h1.fr (fun x a b c e => hf x (by omega) (by omega) (by omega) (by omega)) hW.1.2.1, h2, by rw [hf A (by omega) (by omega) (by omega) (by omega)]; exact h3, ⟨o, o1, by rw [hf A (by omega) (by omega) (by omega) (by omega)]; exact o2, fun j hj => (o3 j hj).fr (fun x a b c e => hf x (by omega) (by omega) (by omega) (by omega)) (hW.2.1 j hj).2.1⟩, fun i hi => by rw [hf _ (by omega) (by omega) (by omega) (by omega)]; exact h5 i hi⟩
theorem RelM.fr (h : RelM I R w n P d) (h0 : I' R 2 = I R 2) (h1 : I' (R + 1) = I (R + 1)) (h2 : I' (R + 2) = I (R + 2)) (h3 : I' (R + 3) = I (R + 3)) : RelM I' R w n P d := by
  unfold RelM
  rw [h0, h1, h2, h3]
  exact h
theorem Rel.fvc (h : Rel g A I w n P d) (hf : FvC A I I') : Rel g A I' w n P d := ⟨h.1, h.2.1, h.2.2.1.fr h.2.2.2.2 (fun x a b c e => hf x (Or.inl b) c e), h.2.2.2.1.fr (by rw [hf (A + 418) (by omega) (by omega) (by omega)]) (hf _ (by omega) (by omega) (by omega)) (hf _ (by omega) (by omega) (by omega)) (hf _ (by omega) (by omega) (by omega)), h.2.2.2.2⟩
theorem Rel.fvm (h : Rel g A I w n P d) (hf : FvM (A + 418) I I') : Rel g A I' w n P d := ⟨h.1, h.2.1, h.2.2.1.fr h.2.2.2.2 (fun x a b c e => hf.1 x (by omega) (by omega) (by omega) (by omega) (by omega)), h.2.2.2.1.fr hf.2 (hf.1 _ (by omega) (by omega) (by omega) (by omega) (by omega)) (hf.1 _ (by omega) (by omega) (by omega) (by omega) (by omega)) (hf.1 _ (by omega) (by omega) (by omega) (by omega) (by omega)), h.2.2.2.2⟩
theorem Rel.jg (h : Rel g A I w n P d) : JG g A := h.1
theorem Rel.G (h : Rel g A I w n P d) : ModG g (A + 418) := h.2.1
theorem Rel.W (h : Rel g A I w n P d) : WS w := h.2.2.2.2.1
theorem Rel.S (h : Rel g A I w n P d) : RSt I (A + 1) w := h.2.2.1.1
theorem Rel.row (h : Rel g A I w n P d) : I (A + 418 + 1) = w := h.2.2.2.1.1
theorem Rel.cb (h : Rel g A I w n P d) (hv : v < 2) : CB g I (A + 1 + 3 + 20 * v) w v := ⟨h.jg.lib hv, h.S.1 v hv, (h.W.1 v hv).1, (h.W.1 v hv).2⟩
theorem Rel.mb (h : Rel g A I w n P d) (hv : v < 2) : Mb g (A + 418) I w v := ⟨h.G, hv, h.row, (h.W.1 v hv).1, (h.W.1 v hv).2⟩
theorem Rel.cb0 (h : Rel g A I w n P d) : CB g I (A + 4) w 0 := h.cb (v := 0) (by omega)
theorem Rel.cb1 (h : Rel g A I w n P d) : CB g I (A + 24) w 1 := h.cb (v := 1) (by omega)
theorem Rel.nc (h : Rel g A I w n P d) : ncl w ≤ 12 := h.W.2.1
theorem Rel.D (h : Rel g A I w n P d) {i : Nat} (hi : i < 4) : gI 5 (A + 404) i (mm g I J Z) = some (d i) := by rw [gI_m h.jg.D, h.2.2.1.2.2.2.2 i hi]
/-- what the reference holds, by itself -/
def MRel (g : Gr) (A : Nat) (I : Mem) (w : Nat → Int32) (n : Nat) (P : Nat → Nat → Int32) (d : Nat → Int32) : Prop := ModG g (A + 418) ∧ RelM I (A + 418) w n P d ∧ Wf w n P d
theorem Rel.m (h : Rel g A I w n P d) : MRel g A I w n P d := ⟨h.2.1, h.2.2.2.1, h.2.2.2.2⟩
theorem MRel.G (h : MRel g A I w n P d) : ModG g (A + 418) := h.1
theorem MRel.W (h : MRel g A I w n P d) : WS w := h.2.2.1
theorem MRel.row (h : MRel g A I w n P d) : I (A + 418 + 1) = w := h.2.1.1
theorem MRel.nc (h : MRel g A I w n P d) : ncl w ≤ 12 := h.W.2.1
theorem MRel.mb (h : MRel g A I w n P d) (hv : v < 2) : Mb g (A + 418) I w v := ⟨h.G, hv, h.row, (h.W.1 v hv).1, (h.W.1 v hv).2⟩
theorem MRel.fvm (h : MRel g A I w n P d) (hf : FvM (A + 418) I I') : MRel g A I' w n P d := ⟨h.1, h.2.1.fr hf.2 (hf.1 _ (by omega) (by omega) (by omega) (by omega) (by omega)) (hf.1 _ (by omega) (by omega) (by omega) (by omega) (by omega)) (hf.1 _ (by omega) (by omega) (by omega) (by omega) (by omega)), h.2.2⟩
theorem MRel.up3 (h : MRel g A I w n P d) : MRel g A (up2 I (A + 418) 3 x) w n P d := h.fvm fvm_3
/-! saved states -/
theorem C_save (hJ : JG g A) (h : RelC I A w n P d) (hW : Wf w n P d) : ∃ I', fX8_saveState A (mm g I J Z) = some ((), mm g I' J Z) ∧ RelC I' A w (pushN n) (pushP P n w) d ∧ ∀ x, x ≠ A → (x < A + 69 ∨ A + 404 ≤ x) → I' x = I x := by
  obtain ⟨h1, h2, h3, ⟨o, o1, o2, o3⟩, h5⟩ := h
  have hm : (nI o + nI n) - (nI o + nI n) / nI 5 * nI 5 = nI ((o + n) % 5) := by rw [nI_add]; exact md5 _ (by omega)
  have sl : (o + n) % 5 < 5 := by omega
  unfold fX8_saveState fX8_saveState_45
  by_cases e5 : n = 5
  · have hm1 : (nI o + nI 1) - (nI o + nI 1) / nI 5 * nI 5 = nI ((o + 1) % 5) := by rw [nI_add]; exact md5 _ (by omega)
    have f1 : ∀ x, x ≠ A → up2 I A 2 (nI ((o + 1) % 5)) x = I x := fun x hx => up2_ne hx
    have g3 : up2 I A 2 (nI ((o + 1) % 5)) A 3 = I A 3 := by rw [up2_at, if_neg (by decide)]
    have g2 : up2 I A 2 (nI ((o + 1) % 5)) A 2 = nI ((o + 1) % 5) := by rw [up2_at, if_pos rfl]
    obtain ⟨I3, t1, t2, t3⟩ := C_stCopy (I := up2 I A 2 (nI ((o + 1) % 5))) (J := J) (Z := Z) (hJ.SS sl) hJ.S (by omega) hW.1 (h1.fr (fun x a b _ _ => f1 x (by omega)) hW.1.2.1)
    refine ⟨I3, ?_, ⟨?_, ?_, ?_, ⟨(o + 1) % 5, by omega, ?_, fun j hj => ?_⟩, fun i hi => ?_⟩, fun x a b => by rw [t2 x (by omega), f1 x a]⟩
    · rw [gI_m hJ.K, Option.bind_some, gI_m hJ.K, Option.bind_some, Option.bind_some, o2, h3, if_pos (by rw [e5]), Option.bind_some, hm1, hm, pI_m hJ.K, Option.bind_some, hJ.p1, Option.bind_some, hJ.sv sl, Option.bind_some, hJ.p0, Option.bind_some, cv_m (hJ.SS sl).1, t1, bd_some]
    · exact h1.fr (fun x a b _ _ => by rw [t2 x (by omega), f1 x (by omega)]) hW.1.2.1
    · unfold pushN; rw [if_pos e5]; omega
    · rw [t2 A (by omega), g3, h3]; unfold pushN; rw [if_pos e5, e5]
    · rw [t2 A (by omega), g2]
    · unfold pushN at hj
      rw [if_pos e5] at hj
      unfold pushP
      rw [if_pos e5]
      by_cases j4 : j = 4
      · rw [if_pos j4, show ((o + 1) % 5 + j) % 5 = (o + n) % 5 from by omega]; exact t3
      · rw [if_neg j4, show ((o + 1) % 5 + j) % 5 = (o + (j + 1)) % 5 from by omega]
        exact (o3 (j + 1) (by omega)).fr (fun x a b _ _ => by rw [t2 x (by omega), f1 x (by omega)]) (hW.2.1 (j + 1) (by omega)).2.1
    · rw [t2 _ (by omega), f1 _ (by omega)]; exact h5 i hi
  · have f1 : ∀ x, x ≠ A → up2 I A 3 (nI (n + 1)) x = I x := fun x hx => up2_ne hx
    have g2 : up2 I A 3 (nI (n + 1)) A 2 = I A 2 := by rw [up2_at, if_neg (by decide)]
    have g3 : up2 I A 3 (nI (n + 1)) A 3 = nI (n + 1) := by rw [up2_at, if_pos rfl]
    obtain ⟨I3, t1, t2, t3⟩ := C_stCopy (I := up2 I A 3 (nI (n + 1))) (J := J) (Z := Z) (hJ.SS sl) hJ.S (by omega) hW.1 (h1.fr (fun x a b _ _ => f1 x (by omega)) hW.1.2.1)
    refine ⟨I3, ?_, ⟨?_, ?_, ?_, ⟨o, o1, ?_, fun j hj => ?_⟩, fun i hi => ?_⟩, fun x a b => by rw [t2 x (by omega), f1 x a]⟩
    · rw [gI_m hJ.K, Option.bind_some, gI_m hJ.K, Option.bind_some, Option.bind_some, o2, h3, if_neg (fun q => e5 (nI_inj (by omega) (by omega) q)), Option.bind_some, hm, nI_add, pI_m hJ.K, Option.bind_some, hJ.p1, Option.bind_some, hJ.sv sl, Option.bind_some, hJ.p0, Option.bind_some, cv_m (hJ.SS sl).1, t1, bd_some]
    · exact h1.fr (fun x a b _ _ => by rw [t2 x (by omega), f1 x (by omega)]) hW.1.2.1
    · unfold pushN; rw [if_neg e5]; omega
    · rw [t2 A (by omega), g3]; unfold pushN; rw [if_neg e5]
    · rw [t2 A (by omega), g2]; exact o2
    · unfold pushN at hj
      rw [if_neg e5] at hj
      unfold pushP
      rw [if_neg e5]
      by_cases jn : j = n
      · rw [if_pos jn, jn]; exact t3
      · rw [if_neg jn]
        exact (o3 j (by omega)).fr (fun x a b _ _ => by rw [t2 x (by omega), f1 x (by omega)]) (hW.2.1 j (by omega)).2.1
    · rw [t2 _ (by omega), f1 _ (by omega)]; exact h5 i hi
theorem Wf.push (h : Wf w n P d) : Wf w (pushN n) (pushP P n w) d := by
  refine ⟨h.1, fun j hj => ?_, h.2.2⟩
  unfold pushN at hj
  unfold pushP
  by_cases e : n = 5
  · rw [if_pos e] at hj ⊢
    by_cases j4 : j = 4
    · rw [if_pos j4]; exact h.1
    · rw [if_neg j4]; exact h.2.1 _ (by omega)
  · rw [if_neg e] at hj ⊢
    by_cases jn : j = n
    · rw [if_pos jn]; exact h.1
    · rw [if_neg jn]; exact h.2.1 _ (by omega)
theorem M_save (hG : ModG g R) (h : RelM I R w n P d) : ∃ I', fX9_saves R (mm g I J Z) = some ((), mm g I' J Z) ∧ RelM I' R w (pushN n) (pushP P n w) d ∧ (∀ x, x ≠ R → x ≠ R + 2 → I' x = I x) ∧ ∀ k, k ≠ 2 → I' R k = I R k := by
  obtain ⟨h1, h2, h3, h4, h5, h6⟩ := h
  obtain ⟨I', t1, t2, t3, t4, t5, t6⟩ := M_saves (J := J) (Z := Z) hG h3 h4
  refine ⟨I', t1, ⟨(t2 _ (by omega) (by omega)).trans h1, h2, ?_, ?_, fun j hj => ?_, by rw [t2 _ (by omega) (by omega)]; exact h6⟩, t2, t3⟩
  · unfold pushN; by_cases e : n = 5
    · rw [if_pos e]; omega
    · rw [if_neg e]; omega
  · rw [t4]; rfl
  · unfold pushN at hj
    unfold pushP
    by_cases e : n = 5
    · rw [if_pos e] at hj t5 t6 ⊢
      by_cases j4 : j = 4
      · rw [if_pos j4, j4]
        exact ⟨fun i hi => by rw [t5 i hi, h1], h2⟩
      · rw [if_neg j4]
        refine ⟨fun i hi => ?_, (h5 (j + 1) (by omega)).2⟩
        have := t6 j i (by omega) hi
        rw [if_pos e] at this
        rw [this]
        exact (h5 (j + 1) (by omega)).1 i hi
    · rw [if_neg e] at hj t5 t6 ⊢
      by_cases jn : j = n
      · rw [if_pos jn, jn]
        exact ⟨fun i hi => by rw [t5 i hi, h1], h2⟩
      · rw [if_neg jn]
        refine ⟨fun i hi => ?_, (h5 j (by omega)).2⟩
        have := t6 j i (by omega) hi
        rw [if_neg e] at this
        rw [this]
        exact (h5 j (by omega)).1 i hi
end Re

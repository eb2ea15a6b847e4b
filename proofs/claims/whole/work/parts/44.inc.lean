/-! ===== wants, selectedFor, isIncomplete ===== -/
/-- only the wanted method's and looksAt's places may change -/
def Fw (R : Nat) (I I' : Mem) : Prop := (∀ a, a ≠ R → I' a = I a) ∧ ∀ k, k < 6 ∨ 14 < k → I' R k = I R k
theorem Fw.refl {R : Nat} {I : Mem} : Fw R I I := ⟨fun _ _ => rfl, fun _ _ => rfl⟩
theorem Fw.trans {R : Nat} {I I' I'' : Mem} (h : Fw R I I') (h' : Fw R I' I'') : Fw R I I'' := ⟨fun a ha => (h'.1 a ha).trans (h.1 a ha), fun k hk => (h'.2 k hk).trans (h.2 k hk)⟩
theorem Fk.fw {R : Nat} {I I' : Mem} (h : Fk R I I') : Fw R I I' := ⟨h.1, fun k hk => h.2 k (by omega)⟩
/-- the reference at a row -/
def Mb (g : Gr) (R : Nat) (I : Mem) (w : Nat → Int32) (v : Nat) : Prop := ModG g R ∧ v < 2 ∧ I (R + 1) = w ∧ WC w v ∧ WM w v
section Wa
variable {g : Gr} {R : Nat} {I I' : Mem} {J : Nat → Nat → Int64} {Z : Option Nat} {w : Nat → Int32} {v m : Nat} {nm r x y z : Int32}
theorem Mb.G (h : Mb g R I w v) : ModG g R := h.1
theorem Mb.v2 (h : Mb g R I w v) : v < 2 := h.2.1
theorem Mb.row (h : Mb g R I w v) : I (R + 1) = w := h.2.2.1
theorem Mb.C (h : Mb g R I w v) : WC w v := h.2.2.2.1
theorem Mb.M (h : Mb g R I w v) : WM w v := h.2.2.2.2
theorem Mb.fr (h : Mb g R I w v) (hf : I' (R + 1) = I (R + 1)) : Mb g R I' w v := ⟨h.1, h.2.1, hf.trans h.2.2.1, h.2.2.2.1, h.2.2.2.2⟩
theorem Mb.fw (h : Mb g R I w v) (hf : Fw R I I') : Mb g R I' w v := h.fr (hf.1 _ (by omega))
theorem Mb.its (h : Mb g R I w v) (hm : m < nmb w v) {p : Nat} (hp : p < 10) : fX9_its R (nI v) (nI m) (nI p) (mm g I J Z) = some (mb w v m p, mm g I J Z) := by
  obtain ⟨a, b, rfl, c, d⟩ := h
  exact M_its' a b d hm hp
theorem Mb.of (h : Mb g R I w v) {c p : Nat} (hc : c < 10) (hp : p < 8) : fX9_of R (nI v) (nI c) (nI p) (mm g I J Z) = some (cl w v c p, mm g I J Z) := by
  obtain ⟨a, b, rfl, _, d⟩ := h
  exact M_of a b hc hp
theorem Mb.sup (h : Mb g R I w v) {c : Nat} (hc : c < 10) : fX9_supertypes R (nI v) (nI c) (mm g I J Z) = some (spm w v c, mm g I J Z) := by
  obtain ⟨a, b, rfl, _, d⟩ := h
  exact M_sup a b hc
theorem Mb.many (h : Mb g R I w v) : fX9_memberMany R (nI v) (mm g I J Z) = some (nI (nmb w v), mm g I J Z) := by
  obtain ⟨a, b, rfl, _, d⟩ := h
  rw [M_many a b, d.n]
theorem Mb.isC (h : Mb g R I w v) {c : Nat} (hc : c < 10) : fX9_isClass R (nI v) (nI c) (mm g I J Z) = some (bI (exC w v c), mm g I J Z) := by
  obtain ⟨a, b, rfl, _, d⟩ := h
  exact M_isC a b hc
theorem Mb.itf (h : Mb g R I w v) {c : Nat} (hc : c < 10) : fX9_isInterface R (nI v) (nI c) (mm g I J Z) = some (bI (itB w v c), mm g I J Z) := by
  obtain ⟨a, b, rfl, _, d⟩ := h
  exact M_isI a b hc
theorem Mb.met (h : Mb g R I w v) (hm : m < nmb w v) : fX9_isMethod R (nI v) (nI m) (mm g I J Z) = some (bI (decide (mb w v m 0 = nI 1)), mm g I J Z) := by
  obtain ⟨a, b, rfl, _, d⟩ := h
  exact M_isMethod a b (d.m40 hm)
theorem Mb.sta (h : Mb g R I w v) (hm : m < nmb w v) : fX9_isStatic R (nI v) (nI m) (mm g I J Z) = some (bI (bt (mb w v m 4) 0), mm g I J Z) := by
  obtain ⟨a, b, rfl, _, d⟩ := h
  exact M_isStatic a b (d.m40 hm)
theorem Mb.fin (h : Mb g R I w v) (hm : m < nmb w v) : fX9_isFinal R (nI v) (nI m) (mm g I J Z) = some (bI (bt (mb w v m 4) 1), mm g I J Z) := by
  obtain ⟨a, b, rfl, _, d⟩ := h
  exact M_isFinal a b (d.m40 hm)
theorem Mb.abs (h : Mb g R I w v) (hm : m < nmb w v) : fX9_isAbstract R (nI v) (nI m) (mm g I J Z) = some (bI (abB w v m), mm g I J Z) := by
  obtain ⟨a, b, rfl, _, d⟩ := h
  exact M_isAbstract a b (d.m40 hm)
theorem Mb.fit (h : Mb g R I w v) (hx : Ty x) (hy : Ty y) : fX9_isFit R (nI v) x y (mm g I J Z) = some (bI (fitB w v x y), mm g I J Z) := by
  obtain ⟨a, b, rfl, c, d⟩ := h
  exact M_fit a b c hx hy
theorem Mb.opc (h : Mb g R I w v) {c : Nat} (hc : c < 10) : fX9_isOpenClass R (nI v) (nI c) (mm g I J Z) = some (bI (decide (cl w v c 5 = nI 1) || decide (cl w v c 4 = I (R + 5) 3)), mm g I J Z) := by
  obtain ⟨a, b, rfl, _, d⟩ := h
  exact M_opc a b hc
theorem Mb.opm (h : Mb g R I w v) (hm : m < nmb w v) {b : Nat} (hb : b < 10) (hpb : I (R + 5) 4 = nI b) : fX9_isOpen R (nI v) (nI m) (mm g I J Z) = some (bI (opB w v m (I (R + 5) 3) b), mm g I J Z) := by
  obtain ⟨a, b, rfl, c, d⟩ := h
  exact M_opm a b c d hm hb hpb
theorem Mb.cv (h : Mb g R I w v) {ρ γ : Type} {f : AH → Option (ρ × AH)} {K : ρ → AH → Option γ} : cv 9 R f (mm g I J Z) K = bd (f (mm g I J Z)) K := M_cv h.1
theorem M_wants0 (h : Mb g R I w v) (hP : Pt x y z) {y0 z0 : Int32} (hy : y0 = y ∨ x = nI 0) (hz : z0 = z ∨ x = nI 0) : ∃ I', fX9_wants R nm r x y0 z0 (mm g I J Z) = some ((), mm g I' J Z) ∧ Fw R I I' ∧ Wnt g R I' w v nm r x y z := by
  have f1 : Fw R I (up2 (up2 (up2 (up2 (up2 I R 6 nm) R 7 r) R 8 x) R 9 y0) R 10 z0) := by
    refine ⟨fun a ha => ?_, fun k hk => ?_⟩
    · rw [up2_ne ha, up2_ne ha, up2_ne ha, up2_ne ha, up2_ne ha]
    · rw [up2_at, if_neg (by omega), up2_at, if_neg (by omega), up2_at, if_neg (by omega), up2_at, if_neg (by omega), up2_at, if_neg (by omega)]
  refine ⟨_, ?_, f1, h.G, h.v2, (h.fw f1).row, h.C, h.M, by simp [up2], by simp [up2], by simp [up2], by rw [up2_at, if_neg (by decide), up2_at, if_pos rfl]; exact hy, by rw [up2_at, if_pos rfl]; exact hz, hP⟩
  unfold fX9_wants
  rw [pI_m h.G.1, Option.bind_some, pI_m h.G.1, Option.bind_some, pI_m h.G.1, Option.bind_some, pI_m h.G.1, Option.bind_some, pI_m h.G.1, Option.bind_some]
theorem M_wants (h : Mb g R I w v) (hP : Pt x y z) : ∃ I', fX9_wants R nm r x y z (mm g I J Z) = some ((), mm g I' J Z) ∧ Fw R I I' ∧ Wnt g R I' w v nm r x y z := M_wants0 h hP (Or.inl rfl) (Or.inl rfl)
theorem M_like (h : Mb g R I w v) (hm : m < nmb w v) : ∃ I', fX9_wantsLike R (nI v) (nI m) (mm g I J Z) = some ((), mm g I' J Z) ∧ Fw R I I' ∧ Wnt g R I' w v (mb w v m 2) (mb w v m 5) (mb w v m 6) (mb w v m 7) (mb w v m 8) := by
  obtain ⟨I', e1, e2, e3⟩ := M_wants (J := J) (Z := Z) (nm := mb w v m 2) (r := mb w v m 5) h (h.M.par m hm)
  refine ⟨I', ?_, e2, e3⟩
  unfold fX9_wantsLike
  rw [h.cv, h.its hm (by decide), bd_some, h.cv, h.its hm (by decide), bd_some, h.cv, h.its hm (by decide), bd_some, h.cv, h.its hm (by decide), bd_some, h.cv, h.its hm (by decide), bd_some, h.cv, e1, bd_some]
/-- what is selected like the member m -/
def selM (w : Nat → Int32) (v m : Nat) (L S : Nat → Bool) : Option Nat := selS w v (mb w v m 2) (mb w v m 5) (mb w v m 7) (mb w v m 8) L S
theorem selS_lt {nm : Int32} {L S : Nat → Bool} {k : Nat} (h : selS w v nm r y z L S = some k) : k < nmb w v := by
  unfold selS lnW orS at h
  split at h
  · cases h; rename_i e; exact (mx_some e).1
  · exact imW_lt h
theorem spb (h : WC w v) {c : Nat} (he : exC w v c = true) {k : Nat} (hk : k < 32) : bt (spm w v c) k = stB w v c k := spm_bits h (exC_lt he) (exC_ex he) k hk
theorem up_bits (h : WC w v) {c : Nat} (he : exC w v c = true) : (∀ i, i < 10 → seB w v (spm w v c &&& ((nI 1 <<< (nI c &&& 31)) ^^^ (-1))) i = upS w v c i) ∧ ∀ k, k < 10 → bt (spm w v c &&& ((nI 1 <<< (nI c &&& 31)) ^^^ (-1))) k = true → exC w v k = true := by
  have hc := exC_lt he
  constructor
  · intro i hi
    unfold seB upS
    rw [bt_not1 (by omega) (by omega), spb h he (by omega)]
  · intro k hk e
    rw [bt_not1 (by omega) (by omega), spb h he (by omega), Bool.and_eq_true] at e
    exact exC_of hk (stB_le h c hc (exC_ex he) k e.1).2
theorem M_selFor (h : Mb g R I w v) (hm : m < nmb w v) (ha : mb w v m 3 ≠ 0) {c : Nat} (he : exC w v c = true) : ∃ I', fX9_selectedFor R (nI v) (nI m) (nI c) (mm g I J Z) = some (oI (selM w v m (lnB w v c) (upS w v c)), mm g I' J Z) ∧ Fw R I I' := by
  have hc := exC_lt he
  obtain ⟨I1, e1, e2, e3⟩ := M_like (J := J) (Z := Z) h hm
  obtain ⟨b1, b2⟩ := up_bits h.C he
  obtain ⟨I2, s1, s2⟩ := M_selC (J := J) (Z := Z) e3 b2 he
  refine ⟨I2, ?_, e2.trans s2.fw⟩
  have h37 : fX9_selectedFor_37 R (nI v) (nI c) R (nI v) (nI c) (if c = 0 then -2 else cl w v c 2) (mm g I1 J Z) = some (oI (selM w v m (lnB w v c) (upS w v c)), mm g I2 J Z) := by
    unfold fX9_selectedFor_37 selM
    rw [M_cv h.G, (h.fw e2).sup hc, bd_some, M_cv h.G, s1, bd_some, selS_congr h.M (fun _ _ => rfl) b1]
  unfold fX9_selectedFor
  rw [h.cv, h.its hm (by decide), bd_some, if_neg ha, h.cv, e1, bd_some]
  by_cases h0 : c = 0
  · rw [if_pos h0] at h37
    rw [if_pos (by rw [h0]; rfl), h37]
  · rw [if_neg h0] at h37
    rw [if_neg (nI_ne0 (by omega) (by omega)), M_cv h.G, (h.fw e2).of hc (by decide), bd_some, h37]
theorem M_selFor0 (h : Mb g R I w v) (hm : m < nmb w v) (ha : mb w v m 3 = 0) : fX9_selectedFor R (nI v) (nI m) x (mm g I J Z) = some (nI m, mm g I J Z) := by
  unfold fX9_selectedFor
  rw [h.cv, h.its hm (by decide), bd_some, if_pos ha]
/-- a class (told by its supertypes T, its line L, the interfaces S beside it) is incomplete because of m -/
def abO (w : Nat → Int32) (v : Nat) : Option Nat → Bool
  | none => true
  | some k => abB w v k
def inM (w : Nat → Int32) (v : Nat) (T L S : Nat → Bool) (m : Nat) : Bool := T (ow w v m) && abB w v m && abO w v (selM w v m L S)
def incS (w : Nat → Int32) (v : Nat) (T L S : Nat → Bool) : Bool := anyF (inM w v T L S) 0 (nmb w v)
theorem anyF_congr {p q : Nat → Bool} : ∀ {d j : Nat}, (∀ k, j ≤ k → k < j + d → p k = q k) → anyF p j d = anyF q j d
  | 0, _, _ => rfl
  | d + 1, j, h => by
    unfold anyF
    rw [h j (by omega) (by omega), anyF_congr (fun k h1 h2 => h k (by omega) (by omega))]
theorem incS_congr (hM : WM w v) {T T' L L' S S' : Nat → Bool} (h1 : ∀ i, i < 10 → T i = T' i) (h2 : ∀ i, i < 10 → L i = L' i) (h3 : ∀ i, i < 10 → S i = S' i) : incS w v T L S = incS w v T' L' S' := by
  unfold incS
  refine anyF_congr (fun k _ hk => ?_)
  unfold inM selM
  rw [h1 _ (hM.own k (by omega)).2.1, selS_congr hM h2 h3]
theorem M_incL {c b : Nat} {mk : Bool} {s0 : Int32} {L S : Nat → Bool} (hM : WM w v)
    (hst : ∀ (I : Mem) (m : Nat) (K : Nat → Int32 → Int32 → Int32 → Int32 → Int32 → Int32 → Int32 → AH → Option (Int32 × AH)), m < nmb w v → Wnt g R I w v (mb w v m 2) (mb w v m 5) (mb w v m 6) (mb w v m 7) (mb w v m 8) → ∃ I', (if bI mk = 0 then (if nI c = 0 then fX9_isIncomplete_138 K R (nI v) (nI c) x (bI mk) s0 (nI m) R (nI v) (nI c) (-2) (mm g I J Z) else cv 9 R (fX9_of R (nI v) (nI c) (nI 2)) (mm g I J Z) fun x_30 h => fX9_isIncomplete_138 K R (nI v) (nI c) x (bI mk) s0 (nI m) R (nI v) (nI c) x_30 h) else cv 9 R (fX9_selectedBy R (nI v) (-2) x s0) (mm g I J Z) fun x_31 h => fX9_isIncomplete_149 K R (nI v) (nI c) x (bI mk) s0 (nI m) x_31 h) = fX9_isIncomplete_149 K R (nI v) (nI c) x (bI mk) s0 (nI m) (oI (selM w v m L S)) (mm g I' J Z) ∧ Fk R I I') :
    ∀ (d i f : Nat) (s : Bool) (I : Mem), Mb g R I w v → i + d = nmb w v → d < f → ∃ I', lX9_isIncomplete_43 f R (nI v) (nI c) x (bI mk) s0 (bI s) (nI i) (mm g I J Z) = some (bI (s || anyF (inM w v (bt s0) L S) i d), mm g I' J Z) ∧ Fw R I I' := by
  have hn := hM.n40
  intro d
  induction d with
  | zero =>
    intro i f s I h hi hf
    obtain ⟨f, rfl⟩ : ∃ z, f = z + 1 := ⟨f - 1, by omega⟩
    refine ⟨I, ?_, Fw.refl⟩
    show bX9_isIncomplete_43 (lX9_isIncomplete_43 f) R _ _ _ _ _ _ _ _ = _
    unfold bX9_isIncomplete_43
    rw [h.cv, h.many, bd_some, if_pos (nI_le (by omega) (by omega)), rz_bI]
    simp [anyF]
  | succ d ih =>
    intro i f s I h hi hf
    obtain ⟨f, rfl⟩ : ∃ z, f = z + 1 := ⟨f - 1, by omega⟩
    have hm : i < nmb w v := by omega
    obtain ⟨o1, o2, o3, o4⟩ := hM.own i hm
    show ∃ I', bX9_isIncomplete_43 (lX9_isIncomplete_43 f) R _ _ _ _ _ _ _ _ = _ ∧ _
    unfold bX9_isIncomplete_43
    rw [h.cv, h.many, bd_some, if_neg (nI_ge hm (by omega)), bIf]
    cases s
    · rw [if_ff, h.cv, h.its hm (by decide), bd_some, o3, M_has (by omega), bd_some, bIf]
      have h175 : ∀ (s : Bool) (I : Mem), Mb g R I w v → ∃ I', fX9_isIncomplete_175 (lX9_isIncomplete_43 f) R (nI v) (nI c) x (bI mk) s0 (bI s) (nI i) (mm g I J Z) = some (bI (s || anyF (inM w v (bt s0) L S) (i + 1) d), mm g I' J Z) ∧ Fw R I I' := by
        intro s I h
        unfold fX9_isIncomplete_175
        rw [nI_add]
        exact ih (i + 1) f s I h (by omega) (by omega)
      have hno : inM w v (bt s0) L S i = false → ∃ I', fX9_isIncomplete_175 (lX9_isIncomplete_43 f) R (nI v) (nI c) x (bI mk) s0 (bI false) (nI i) (mm g I J Z) = some (bI (false || anyF (inM w v (bt s0) L S) i (d + 1)), mm g I' J Z) ∧ Fw R I I' := by
        intro e
        rw [anyF, e]
        exact h175 false I h
      cases hT : bt s0 (ow w v i)
      · rw [if_ff]
        exact hno (by unfold inM; rw [hT]; rfl)
      · rw [if_tt, h.cv, h.met hm, bd_some, bIf]
        by_cases hk : mb w v i 0 = nI 1
        · rw [decide_eq_true hk, if_tt, h.cv, h.abs hm, bd_some, bIf]
          cases hab : abB w v i
          · rw [if_ff]
            exact hno (by unfold inM; rw [hab, Bool.and_false]; rfl)
          · obtain ⟨I1, e1, e2, e3⟩ := M_like (J := J) (Z := Z) h hm
            rw [if_tt, h.cv, e1, bd_some]
            obtain ⟨I2, s1, s2⟩ := hst I1 i (lX9_isIncomplete_43 f) hm e3
            rw [s1]
            have h2 := (h.fw e2).fw s2.fw
            have hin : inM w v (bt s0) L S i = abO w v (selM w v i L S) := by unfold inM; rw [hT, hab]; rfl
            have h173 : ∀ s : Bool, s = inM w v (bt s0) L S i → ∃ I', fX9_isIncomplete_173 (lX9_isIncomplete_43 f) R (nI v) (nI c) x (bI mk) s0 (nI i) (bI s) (mm g I2 J Z) = some (bI (false || anyF (inM w v (bt s0) L S) i (d + 1)), mm g I' J Z) ∧ Fw R I I' := by
              intro s es
              unfold fX9_isIncomplete_173
              obtain ⟨I3, t1, t2⟩ := h175 s I2 h2
              refine ⟨I3, ?_, (e2.trans s2.fw).trans t2⟩
              rw [t1, anyF, es, Bool.false_or]
            unfold fX9_isIncomplete_149
            cases hse : selM w v i L S with
            | none =>
              show ∃ I', (if (-2 : Int32) = -2 then _ else _) = _ ∧ _
              rw [if_pos rfl]
              exact h173 true (by rw [hin, hse]; rfl)
            | some k =>
              have hkn : k < nmb w v := selS_lt hse
              rw [if_neg (oI_ne (by omega))]
              show ∃ I', cv 9 R (fX9_isAbstract R (nI v) (nI k)) (mm g I2 J Z) _ = _ ∧ _
              rw [h2.cv, h2.abs hkn, bd_some, bIf]
              cases hak : abB w v k
              · rw [if_ff]
                exact h173 false (by rw [hin, hse]; exact hak.symm)
              · rw [if_tt]
                exact h173 true (by rw [hin, hse]; exact hak.symm)
        · rw [decide_eq_false hk, if_ff]
          refine hno ?_
          have : abB w v i = false := by
            rcases hM.knd i hm with e | e
            · exact (hM.fld i hm e).1
            · exact absurd e hk
          unfold inM
          rw [this, Bool.and_false]
          rfl
    · refine ⟨I, ?_, Fw.refl⟩
      rw [if_tt, rz_bI, Bool.true_or]
/-- the reference: a class that exists -/
theorem M_inc (h : Mb g R I w v) {c : Nat} (he : exC w v c = true) : ∃ I', fX9_isIncomplete R (nI v) (nI c) (-2) (mm g I J Z) = some (bI (incS w v (stB w v c) (lnB w v c) (upS w v c)), mm g I' J Z) ∧ Fw R I I' := by
  have hc := exC_lt he
  have hn := h.M.n40
  obtain ⟨b1, b2⟩ := up_bits h.C he
  unfold fX9_isIncomplete fX9_isIncomplete_11
  rw [if_pos rfl, h.cv, h.sup hc, bd_some, if_pos (by decide)]
  unfold fX9_isIncomplete_34
  have hor : spm w v c ||| nI 0 = spm w v c := by
    apply b_ext
    intro i hi
    rw [b_or, show (nI 0) = 0 from rfl, b_0, Bool.or_false]
  rw [hor, show (nI 0) = bI false from rfl]
  refine Exists.elim (M_incL (g := g) (R := R) (J := J) (Z := Z) (x := -2) (c := c) (b := 0) (mk := false) (s0 := spm w v c) (L := lnB w v c) (S := upS w v c) h.M (fun I m K hm hW => ?_) (nmb w v) 0 fuel false I h (by omega) (by unfold fuel; omega)) (fun I' e => ?_)
  · obtain ⟨I2, s1, s2⟩ := M_selC (J := J) (Z := Z) hW b2 he
    refine ⟨I2, ?_, s2⟩
    have h138 : fX9_isIncomplete_138 K R (nI v) (nI c) (-2) (bI false) (spm w v c) (nI m) R (nI v) (nI c) (if c = 0 then -2 else cl w v c 2) (mm g I J Z) = fX9_isIncomplete_149 K R (nI v) (nI c) (-2) (bI false) (spm w v c) (nI m) (oI (selM w v m (lnB w v c) (upS w v c))) (mm g I2 J Z) := by
      unfold fX9_isIncomplete_138 selM
      rw [M_cv h.G, s1, bd_some, selS_congr h.M (fun _ _ => rfl) b1]
    rw [bIf, if_ff]
    by_cases h0 : c = 0
    · rw [if_pos h0] at h138
      rw [if_pos (by rw [h0]; rfl), h138]
    · rw [if_neg h0] at h138
      rw [if_neg (nI_ne0 (by omega) (by omega)), M_cv h.G, hW.of hc (by decide), bd_some, h138]
  · obtain ⟨e1, e2⟩ := e
    refine ⟨I', e1.trans ?_, e2⟩
    rw [Bool.false_or]
    show some (bI (incS w v (bt (spm w v c)) (lnB w v c) (upS w v c)), mm g I' J Z) = _
    rw [incS_congr h.M (T' := stB w v c) (fun i hi => spb h.C he (by omega)) (fun _ _ => rfl) (fun _ _ => rfl)]
/-- the reference: a class that is made of the base b and the interface c -/
theorem M_incB (h : Mb g R I w v) {c b : Nat} (he : exC w v c = true) (hb : exC w v b = true) (hib : itB w v b = false) : ∃ I', fX9_isIncomplete R (nI v) (nI c) (nI b) (mm g I J Z) = some (bI (incS w v (fun i => stB w v c i || stB w v b i) (lnB w v b) (fun i => (stB w v c i || stB w v b i) && itB w v i)), mm g I' J Z) ∧ Fw R I I' := by
  have hc := exC_lt he
  have hbl := exC_lt hb
  have hn := h.M.n40
  have hbit : ∀ i, i < 32 → bt (spm w v c ||| spm w v b) i = (stB w v c i || stB w v b i) := fun i hi => by rw [b_or, spb h.C he hi, spb h.C hb hi]
  have b2 : ∀ k, k < 10 → bt (spm w v c ||| spm w v b) k = true → exC w v k = true := by
    intro k hk e
    rw [hbit k (by omega), Bool.or_eq_true] at e
    rcases e with e | e
    · exact exC_of hk (stB_le h.C c hc (exC_ex he) k e).2
    · exact exC_of hk (stB_le h.C b hbl (exC_ex hb) k e).2
  unfold fX9_isIncomplete fX9_isIncomplete_11
  rw [if_neg (nI_nem (by omega) (by decide)), h.cv, h.sup hc, bd_some, if_neg (by decide), h.cv, h.sup hbl, bd_some]
  unfold fX9_isIncomplete_34
  rw [show (nI 1) = bI true from rfl, show (nI 0) = bI false from rfl]
  refine Exists.elim (M_incL (g := g) (R := R) (J := J) (Z := Z) (x := nI b) (c := c) (b := b) (mk := true) (s0 := spm w v c ||| spm w v b) (L := lnB w v b) (S := fun i => (stB w v c i || stB w v b i) && itB w v i) h.M (fun I m K hm hW => ?_) (nmb w v) 0 fuel false I h (by omega) (by unfold fuel; omega)) (fun I' e => ?_)
  · obtain ⟨I2, s1, s2⟩ := M_selB (J := J) (Z := Z) hW b2 hb hib
    refine ⟨I2, ?_, s2⟩
    rw [bIf, if_tt, M_cv h.G, s1, bd_some]
    unfold selM
    rw [selS_congr h.M (S' := fun i => (stB w v c i || stB w v b i) && itB w v i) (fun _ _ => rfl) (fun i hi => by unfold seB; rw [hbit i (by omega)])]
  · obtain ⟨e1, e2⟩ := e
    refine ⟨I', e1.trans ?_, e2⟩
    rw [Bool.false_or]
    show some (bI (incS w v (bt (spm w v c ||| spm w v b)) (lnB w v b) (fun i => (stB w v c i || stB w v b i) && itB w v i)), mm g I' J Z) = _
    rw [incS_congr h.M (T' := fun i => stB w v c i || stB w v b i) (fun i hi => hbit i (by omega)) (fun _ _ => rfl) (fun _ _ => rfl)]
end Wa

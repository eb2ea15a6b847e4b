/-! ===== the class: isIncomplete; its library unchanged ===== -/
section Cc
variable {g : Gr} {a : Nat} {I I' : Mem} {J : Nat → Nat → Int64} {Z : Option Nat} {w : Nat → Int32} {v : Nat}
theorem C_incL (h : CB g I a w v) {li ty : Int32} : ∀ (d m f : Nat), m + d = nmb w v → d < f → lX2_isIncomplete_2 f a li ty (nI m) (mm g I J Z) = some (bI (anyF (inM w v (bt ty) (bt li) (bt ((ty &&& I a 1) &&& (li ^^^ (-1))))) m d), mm g I J Z) := by
  have hn := h.M.n40
  intro d
  induction d with
  | zero =>
    intro m f hm hf
    obtain ⟨f, rfl⟩ : ∃ z, f = z + 1 := ⟨f - 1, by omega⟩
    show bX2_isIncomplete_2 (lX2_isIncomplete_2 f) a _ _ _ _ = _
    unfold bX2_isIncomplete_2
    rw [c_size h, if_pos (nI_le (by omega) (by omega)), rz_n0]
    rfl
  | succ d ih =>
    intro m f hm hf
    obtain ⟨f, rfl⟩ : ∃ z, f = z + 1 := ⟨f - 1, by omega⟩
    have hm' : m < nmb w v := by omega
    obtain ⟨o1, o2, o3, o4⟩ := h.M.own m hm'
    show bX2_isIncomplete_2 (lX2_isIncomplete_2 f) a _ _ _ _ = _
    unfold bX2_isIncomplete_2
    have h78 : inM w v (bt ty) (bt li) (bt ((ty &&& I a 1) &&& (li ^^^ (-1)))) m = false → fX2_isIncomplete_78 (lX2_isIncomplete_2 f) a li ty (nI m) (mm g I J Z) = some (bI (anyF (inM w v (bt ty) (bt li) (bt ((ty &&& I a 1) &&& (li ^^^ (-1))))) m (d + 1)), mm g I J Z) := by
      intro e
      unfold fX2_isIncomplete_78
      rw [nI_add, anyF, e, Bool.false_or]
      exact ih (m + 1) f (by omega) (by omega)
    have hyes : inM w v (bt ty) (bt li) (bt ((ty &&& I a 1) &&& (li ^^^ (-1)))) m = true → rz (nI 1) (nI 1) (mm g I J Z) = some (bI (anyF (inM w v (bt ty) (bt li) (bt ((ty &&& I a 1) &&& (li ^^^ (-1))))) m (d + 1)), mm g I J Z) := by
      intro e
      rw [rz_n1, anyF, e, Bool.true_or]
    rw [c_size h, if_neg (nI_ge hm' (by omega)), c_own h hm', tst_if (by omega)]
    cases hT : bt ty (ow w v m)
    · rw [if_ff]
      exact h78 (by unfold inM; rw [hT]; rfl)
    · rw [if_tt, lib_p10 h.L, Option.bind_some, mem_cv h.L.mem, C_mabs h hm', bd_some, bIf]
      cases hab : abB w v m
      · rw [if_ff]
        exact h78 (by unfold inM; rw [hab, Bool.and_false]; rfl)
      · have hmet : mb w v m 0 = nI 1 := by
          rcases h.M.knd m hm' with e | e
          · have := (h.M.fld m hm' e).1
            unfold abB at hab
            rw [hab] at this; cases this
          · exact e
        obtain ⟨q, hq, eq⟩ := h.M.nam m hm'
        have hin : inM w v (bt ty) (bt li) (bt ((ty &&& I a 1) &&& (li ^^^ (-1)))) m = abO w v (selS w v (nI q) (mb w v m 5) (mb w v m 7) (mb w v m 8) (bt li) (bt ((ty &&& I a 1) &&& (li ^^^ (-1))))) := by
          unfold inM selM
          rw [hT, hab, eq]
          rfl
        rw [if_tt, c_dsc h hm', h.R.dsc m hm', if_pos hmet, eq, CB_cv h, C_selA h hq (h.M.par m hm').t1 (h.M.par m hm').t2 (h.M.typ m hm').ty, bd_some]
        cases hse : selS w v (nI q) (mb w v m 5) (mb w v m 7) (mb w v m 8) (bt li) (bt ((ty &&& I a 1) &&& (li ^^^ (-1)))) with
        | none =>
          show (if (-2 : Int32) = -2 then _ else _) = _
          rw [if_pos rfl]
          exact hyes (by rw [hin, hse]; rfl)
        | some k =>
          have hk := selS_lt hse
          rw [if_neg (oI_ne (by omega))]
          show (gP 2 a 10 (mm g I J Z)).bind (fun a_38 => cv 4 a_38 (fX4_isAbstract a_38 (nI k)) (mm g I J Z) _) = _
          rw [lib_p10 h.L, Option.bind_some, mem_cv h.L.mem, C_mabs h hk, bd_some, bIf]
          cases hak : abB w v k
          · rw [if_ff]
            exact h78 (by rw [hin, hse]; exact hak)
          · rw [if_tt]
            exact hyes (by rw [hin, hse]; exact hak)
theorem C_incA (h : CB g I a w v) {li ty : Int32} : fX2_isIncomplete a li ty (mm g I J Z) = some (bI (incS w v (bt ty) (bt li) (bt ((ty &&& I a 1) &&& (li ^^^ (-1))))), mm g I J Z) := by
  have hn := h.M.n40
  unfold fX2_isIncomplete
  exact C_incL h (nmb w v) 0 fuel (by omega) (by unfold fuel; omega)
theorem C_inc (h : CB g I a w v) {c : Nat} (he : exC w v c = true) : fX2_isIncomplete a (I (a + 5) c) (I (a + 4) c) (mm g I J Z) = some (bI (incS w v (stB w v c) (lnB w v c) (upS w v c)), mm g I J Z) := by
  have hc := exC_lt he
  have hl : ∀ i, i < 32 → bt (I (a + 5) c) i = lnB w v c i := fun i hi => by rw [h.R.lin c i hc hi, he, Bool.true_and]
  rw [C_incA h, incS_congr h.M (T' := stB w v c) (L' := lnB w v c) (S' := upS w v c) (fun i hi => by rw [h.R.sty c i hc (by omega), he, Bool.true_and]) (fun i hi => hl i (by omega)) (fun i hi => ?_)]
  rw [and_not (by omega), b_and, hl i (by omega), h.R.sty c i hc (by omega), h.R.ifc i (by omega), he, Bool.true_and]
  unfold upS
  cases hs : stB w v c i
  · rfl
  · have hei := exC_of hi (stB_le h.C c hc (exC_ex he) i hs).2
    rw [hei, Bool.true_and, Bool.true_and, Bool.true_and]
    cases hi2 : itB w v i
    · rw [Bool.false_and, Bool.and_false]
    · rw [Bool.true_and, Bool.and_true]
      congr 1
      rw [Bool.eq_iff_iff, decide_eq_true_eq]
      constructor
      · intro e
        rcases (lnB_step h.C he i).mp e with rfl | ⟨e1, e2, e3⟩
        · rfl
        · have := (lnB_le h.C c he i e).2.2.2 e2
          rw [hi2] at this; cases this
      · intro e
        exact (lnB_step h.C he i).mpr (Or.inl e.symm)
/-- selectedAlong for a class that exists -/
theorem C_selC (h : CB g I a w v) {q : Nat} {r y z : Int32} (hq : q < 8) (hy : Ty y) (hz : Ty z) (hr : Ty r) {c : Nat} (he : exC w v c = true) : fX2_selectedAlong a (dsI (sgI (nI q) y z) r) (I (a + 5) c) (I (a + 4) c) (mm g I J Z) = some (oI (selS w v (nI q) r y z (lnB w v c) (upS w v c)), mm g I J Z) := by
  have hc := exC_lt he
  have hl : ∀ i, i < 32 → bt (I (a + 5) c) i = lnB w v c i := fun i hi => by rw [h.R.lin c i hc hi, he, Bool.true_and]
  rw [C_selA h hq hy hz hr, selS_congr h.M (L' := lnB w v c) (S' := upS w v c) (fun i hi => hl i (by omega)) (fun i hi => ?_)]
  rw [and_not (by omega), b_and, hl i (by omega), h.R.sty c i hc (by omega), h.R.ifc i (by omega), he, Bool.true_and]
  unfold upS
  cases hs : stB w v c i
  · rfl
  · have hei := exC_of hi (stB_le h.C c hc (exC_ex he) i hs).2
    rw [hei, Bool.true_and, Bool.true_and, Bool.true_and]
    cases hi2 : itB w v i
    · rw [Bool.false_and, Bool.and_false]
    · rw [Bool.true_and, Bool.and_true]
      congr 1
      rw [Bool.eq_iff_iff, decide_eq_true_eq]
      constructor
      · intro e
        rcases (lnB_step h.C he i).mp e with rfl | ⟨e1, e2, e3⟩
        · rfl
        · have := (lnB_le h.C c he i e).2.2.2 e2
          rw [hi2] at this; cases this
      · intro e
        exact (lnB_step h.C he i).mpr (Or.inl e.symm)
theorem C_incB (h : CB g I a w v) {c b : Nat} (he : exC w v c = true) (hb : exC w v b = true) (hib : itB w v b = false) : fX2_isIncomplete a (I (a + 5) b) (I (a + 4) b ||| I (a + 4) c) (mm g I J Z) = some (bI (incS w v (fun i => stB w v c i || stB w v b i) (lnB w v b) (fun i => (stB w v c i || stB w v b i) && itB w v i)), mm g I J Z) := by
  have hc := exC_lt he
  have hbl := exC_lt hb
  have hl : ∀ i, i < 32 → bt (I (a + 5) b) i = lnB w v b i := fun i hi => by rw [h.R.lin b i hbl hi, hb, Bool.true_and]
  have ht : ∀ i, i < 32 → bt (I (a + 4) b ||| I (a + 4) c) i = (stB w v c i || stB w v b i) := fun i hi => by rw [b_or, h.R.sty b i hbl hi, hb, Bool.true_and, h.R.sty c i hc hi, he, Bool.true_and, Bool.or_comm]
  rw [C_incA h, incS_congr h.M (T' := fun i => stB w v c i || stB w v b i) (L' := lnB w v b) (S' := fun i => (stB w v c i || stB w v b i) && itB w v i) (fun i hi => ht i (by omega)) (fun i hi => hl i (by omega)) (fun i hi => ?_)]
  rw [and_not (by omega), b_and, ht i (by omega), hl i (by omega), h.R.ifc i (by omega)]
  cases hs : (stB w v c i || stB w v b i)
  · rfl
  · have hei : exC w v i = true := by
      rw [Bool.or_eq_true] at hs
      rcases hs with e | e
      · exact exC_of hi (stB_le h.C c hc (exC_ex he) i e).2
      · exact exC_of hi (stB_le h.C b hbl (exC_ex hb) i e).2
    rw [hei, Bool.true_and, Bool.true_and]
    cases hi2 : itB w v i
    · rfl
    · rw [Bool.true_and]
      cases hln : lnB w v b i
      · rfl
      · have := (lnB_le h.C b hb i hln).2.2.2 hib
        rw [hi2] at this; cases this
theorem RLib.fr (h : RLib I a w v) (hf : ∀ b, a ≤ b → b < a + 19 → I' b = I b) : RLib I' a w v := by
  refine ⟨?_, ?_, ?_, ?_, ?_, ?_, ?_, ?_, ?_, ?_, ?_, ?_, ?_, ?_, ?_, ?_, ?_, ?_, ?_, ?_, ?_, ?_, ?_⟩
  · intro c h0; rw [hf (a) (by omega) (by omega)]; exact h.ex c h0
  · intro c h0; rw [hf (a) (by omega) (by omega)]; exact h.ifc c h0
  · intro c h0; rw [hf (a) (by omega) (by omega)]; exact h.pub c h0
  · intro c h0; rw [hf (a) (by omega) (by omega)]; exact h.fin c h0
  · intro c h0; rw [hf (a) (by omega) (by omega)]; exact h.abs c h0
  · intro c h0; rw [hf (a + 1) (by omega) (by omega)]; exact h.home c h0
  · intro c h0; rw [hf (a + 2) (by omega) (by omega)]; exact h.sup c h0
  · intro c h0; rw [hf (a + 3) (by omega) (by omega)]; exact h.itf c h0
  · intro c t h0 h1; rw [hf (a + 4) (by omega) (by omega)]; exact h.sty c t h0 h1
  · intro c t h0 h1; rw [hf (a + 5) (by omega) (by omega)]; exact h.lin c t h0 h1
  · rw [hf (a + 6) (by omega) (by omega)]; exact h.size
  · intro m h0; rw [hf (a + 6 + 1) (by omega) (by omega)]; exact h.acc m h0
  · intro m h0; rw [hf (a + 6 + 2) (by omega) (by omega)]; exact h.flg m h0
  · intro m h0; rw [hf (a + 6 + 3) (by omega) (by omega)]; exact h.con m h0
  · intro m h0; rw [hf (a + 6 + 4) (by omega) (by omega)]; exact h.knd m h0
  · intro m h0; rw [hf (a + 6 + 5) (by omega) (by omega)]; exact h.own m h0
  · intro m h0; rw [hf (a + 6 + 6) (by omega) (by omega)]; exact h.nam m h0
  · intro m h0; rw [hf (a + 6 + 7) (by omega) (by omega)]; exact h.typ m h0
  · intro m h0; rw [hf (a + 6 + 8) (by omega) (by omega)]; exact h.man m h0
  · intro m h0; rw [hf (a + 6 + 9) (by omega) (by omega)]; exact h.fst m h0
  · intro m h0; rw [hf (a + 6 + 10) (by omega) (by omega)]; exact h.snd m h0
  · intro m h0; rw [hf (a + 6 + 11) (by omega) (by omega)]; exact h.sig m h0
  · intro m h0; rw [hf (a + 6 + 12) (by omega) (by omega)]; exact h.dsc m h0
theorem CB.fr (h : CB g I a w v) (hf : ∀ b, a ≤ b → b < a + 19 → I' b = I b) : CB g I' a w v := ⟨h.1, h.2.1.fr hf, h.2.2.1, h.2.2.2⟩
end Cc

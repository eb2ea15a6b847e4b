/-! ===== linking a client: what it means; the reference ===== -/
def lfM (w : Nat → Int32) (v : Nat) (k : Nat → Int32) (u b m : Nat) : Int32 × Int32 := if opB w v m (k 3) b = true then (if bI (bt (mb w v m 4) 0) = k 11 then (if u = 1 ∧ bt (mb w v m 4) 1 = true then (nI 2, -2) else (nI 0, mb w v m 1)) else (nI 5, -2)) else (nI 2, -2)
def lfO (w : Nat → Int32) (v : Nat) (k : Nat → Int32) (u b : Nat) : Option Nat → Int32 × Int32
  | none => (nI 3, -2)
  | some m => lfM w v k u b m
def lcM (w : Nat → Int32) (v : Nat) (k : Nat → Int32) (c b m : Nat) : Int32 × Int32 := if opB w v m (k 3) b = true then (if bI (bt (mb w v m 4) 0) = k 11 then (if (!itB w v c && !decide (cl w v c 7 = nI 1) && !bt (mb w v m 4) 0 && abO w v (selM w v m (lnB w v c) (upS w v c))) = true then (nI 6, -2) else (nI 0, mb w v m 1)) else (nI 5, -2)) else (nI 2, -2)
def lcO (w : Nat → Int32) (v : Nat) (k : Nat → Int32) (c b : Nat) : Option Nat → Int32 × Int32
  | none => (nI 4, -2)
  | some m => lcM w v k c b m
def lcE (w : Nat → Int32) (v : Nat) (k : Nat → Int32) (c b : Nat) : Int32 × Int32 := if cl w v c 1 = k 15 then lcO w v k c b (metS w v (k 2) (k 10) (k 13) (k 14) c) else (nI 5, -2)
def lbE (w : Nat → Int32) (v : Nat) (k : Nat → Int32) (c b : Nat) : Int32 := if exC w v b = false then nI 1 else if opcB w v b (k 3) = false then nI 2 else if itB w v b = true ∨ cl w v b 6 = nI 1 then nI 5 else if icB w v c b = true then nI 6 else nI 0
def lkS (w : Nat → Int32) (v : Nat) (k : Nat → Int32) (u c b : Nat) : Int32 × Int32 :=
  if k 8 = nI 1 then (nI 0, -2) else if exC w v c = false then (nI 1, -2) else if opcB w v c (k 3) = false then (nI 2, -2) else
  if u ≤ 1 then lfO w v k u b (fdS w v (k 2) false (k 10) c) else if u = 2 then lcE w v k c b else if u = 3 then (if cl w v c 7 = nI 1 then nI 7 else nI 0, -2) else if u = 4 then (exE w v c (nI 5) (nI 6), -2)
  else (if itB w v c = false then nI 5 else lbE w v k c b, -2)
/-- the symbol that a client keeps -/
def SK (k : Nat → Int32) (u : Nat) : Prop := (k 8 = nI 0 ∨ k 8 = nI 1) ∧ k 10 ≠ -3 ∧ (u = 2 → Pt (k 12) (k 13) (k 14) ∧ Ty (k 10)) ∧ (u ≠ 2 → k 12 = -2)
def Fl (R : Nat) (I I' : Mem) : Prop := (∀ x, x ≠ R → x ≠ R + 4 → I' x = I x) ∧ ∀ k, (k < 6 ∨ 14 < k) → k ≠ 18 → I' R k = I R k
theorem Fl.trans {R : Nat} {I I' I'' : Mem} (h : Fl R I I') (h' : Fl R I' I'') : Fl R I I'' := ⟨fun x a b => (h'.1 x a b).trans (h.1 x a b), fun k a b => (h'.2 k a b).trans (h.2 k a b)⟩
theorem Fw.fl {R : Nat} {I I' : Mem} (h : Fw R I I') : Fl R I I' := ⟨fun x a _ => h.1 x a, fun k a _ => h.2 k a⟩
theorem Ff.fl {R : Nat} {I I' : Mem} (h : Ff R I I') : Fl R I I' := ⟨fun x _ b => h x b, fun k _ _ => by rw [h R (by omega)]⟩
theorem fl_18 {R : Nat} {I : Mem} {x : Int32} : Fl R I (up2 I R 18 x) := ⟨fun y a _ => up2_ne a, fun k _ b => by rw [up2_at, if_neg b]⟩
section Li
variable {g : Gr} {R : Nat} {I I' : Mem} {J : Nat → Nat → Int64} {Z : Option Nat} {w : Nat → Int32} {v m c b u : Nat} {k : Nat → Int32}
theorem Mb.fl (h : Mb g R I w v) (hf : Fl R I I') : Mb g R I' w v := h.fr (hf.1 _ (by omega) (by omega))
theorem Fl.r5 {I I' : Mem} (hf : Fl R I I') : I' (R + 5) = I (R + 5) := hf.1 _ (by omega) (by omega)
theorem opB_acc {pk : Int32} (h : opB w v m pk b = true) : mb w v m 3 ≠ 0 := by
  intro e
  unfold opB at h
  rw [e] at h
  simp only [show decide ((0 : Int32) = nI 3) = false from by decide, show decide ((0 : Int32) = 0) = true from by decide, show decide ((0 : Int32) = nI 2) = false from by decide] at h
  simp at h
theorem metS_D {nm r y z : Int32} (h : metS w v nm r y z c = some m) : m < nmb w v ∧ isD w v nm r y z m = true := by
  unfold metS orS at h
  split at h
  · cases h
    rename_i e
    obtain ⟨a1, a2, -⟩ := mx_some e
    rw [Bool.and_eq_true] at a2
    exact ⟨a1, a2.1⟩
  · unfold imW imS at h
    split at h
    · obtain ⟨a1, a2, -⟩ := ls_some h
      simp only [Bool.and_eq_true] at a2
      exact ⟨a1, a2.1.1⟩
    · rw [if_tt] at h
      obtain ⟨a1, a2, -⟩ := mi_some h
      simp only [Bool.and_eq_true] at a2
      exact ⟨a1, a2.1⟩
theorem M_tgt (h : Mb g R I w v) (hm : m < nmb w v) : (cv 9 R (fX9_its R (nI v) (nI m) (nI 1)) (mm g I J Z) fun x_27 h => (pI 9 R 18 x_27 h).bind fun h => some ((nI 0), h)) = some (nI 0, mm g (up2 I R 18 (mb w v m 1)) J Z) := by
  rw [h.cv, h.its hm (by decide), bd_some, pI_m h.G.1, Option.bind_some]
theorem M_lnkF (h : Mb g R I w v) (hK : CK (I (R + 5)) u c b) (hu : u ≤ 1) (hc : exC w v c = true) (h18 : I R 18 = -2) : ∃ I', fX9_linkedField R (nI v) (nI c) (mm g I J Z) = some ((lfO w v (I (R + 5)) u b (fdS w v (I (R + 5) 2) false (I (R + 5) 10) c)).1, mm g I' J Z) ∧ Fl R I I' ∧ I' R 18 = (lfO w v (I (R + 5)) u b (fdS w v (I (R + 5) 2) false (I (R + 5) 10) c)).2 := by
  obtain ⟨k1, k2, k3, k4, k5, k6, k7, k8⟩ := hK
  obtain ⟨I1, e1, e2⟩ := M_fieldOf (J := J) (Z := Z) (nm := I (R + 5) 2) (t := I (R + 5) 10) (an := false) h hc
  have hf1 := e2.fl
  have h1 := h.fl hf1
  have hk1 : I1 (R + 5) = I (R + 5) := hf1.r5
  have h181 : I1 R 18 = -2 := by rw [e2 R (by omega)]; exact h18
  unfold fX9_linkedField
  rw [h.G.p15, Option.bind_some, h.G.cl (by decide), Option.bind_some, Option.bind_some, h.G.cl (by decide), Option.bind_some, h.cv, show fX9_fieldOf R (nI v) (nI c) (I (R + 5) 2) (nI 0) (I (R + 5) 10) (mm g I J Z) = _ from e1, bd_some]
  cases hfd : fdS w v (I (R + 5) 2) false (I (R + 5) 10) c with
  | none =>
    refine ⟨I1, ?_, hf1, h181⟩
    show (if (-2 : Int32) = -2 then _ else _) = _
    rw [if_pos rfl]
    rfl
  | some m =>
    have hm := fdS_lt h.C c m hfd
    rw [if_neg (oI_ne (h.M.ne2 hm))]
    simp only [oI_s]
    rw [h1.cv, h1.opm hm k3 (by rw [hk1]; exact k6), bd_some, bIf, hk1]
    show ∃ I', _ = some ((lfM w v (I (R + 5)) u b m).1, _) ∧ _ ∧ _ = (lfM w v (I (R + 5)) u b m).2
    unfold lfM
    cases hop : opB w v m (I (R + 5) 3) b
    · exact ⟨I1, rfl, hf1, h181⟩
    · rw [if_tt, if_tt, h1.cv, h1.sta hm, bd_some, bIf]
      have h54 : ∀ s : Bool, s = bt (mb w v m 4) 0 → ∃ I', fX9_linkedField_54 R (nI v) (nI m) (bI s) (mm g I1 J Z) = some ((if bI (bt (mb w v m 4) 0) = I (R + 5) 11 then (if u = 1 ∧ bt (mb w v m 4) 1 = true then (nI 2, -2) else (nI 0, mb w v m 1)) else (nI 5, -2)).1, mm g I' J Z) ∧ Fl R I I' ∧ I' R 18 = (if bI (bt (mb w v m 4) 0) = I (R + 5) 11 then (if u = 1 ∧ bt (mb w v m 4) 1 = true then (nI 2, (-2 : Int32)) else (nI 0, mb w v m 1)) else (nI 5, -2)).2 := by
        intro s es
        unfold fX9_linkedField_54 fX9_linkedField_87
        rw [h1.G.p15, Option.bind_some, h1.G.cl (by decide), Option.bind_some, hk1, es]
        by_cases hst : bI (bt (mb w v m 4) 0) = I (R + 5) 11
        · rw [if_pos hst, if_pos hst, Option.bind_some, h1.G.cl (by decide), Option.bind_some, hk1, k4]
          by_cases hu1 : u = 1
          · rw [if_pos (by rw [hu1]), h1.cv, h1.fin hm, bd_some, bIf]
            cases hfi : bt (mb w v m 4) 1
            · rw [if_ff, M_tgt h1 hm, if_neg (fun z => absurd z.2 (by decide))]
              exact ⟨_, rfl, hf1.trans fl_18, by rw [up2_at, if_pos rfl]⟩
            · rw [if_tt, if_pos ⟨hu1, rfl⟩]
              exact ⟨I1, rfl, hf1, h181⟩
          · rw [if_neg (fun z => hu1 (nI_inj (by omega) (by omega) z)), M_tgt h1 hm, if_neg (fun z => hu1 z.1)]
            exact ⟨_, rfl, hf1.trans fl_18, by rw [up2_at, if_pos rfl]⟩
        · rw [if_neg hst, if_neg hst]
          exact ⟨I1, rfl, hf1, h181⟩
      cases hs : bt (mb w v m 4) 0
      · rw [if_ff]
        have := h54 false hs.symm
        rw [hs] at this
        exact this
      · rw [if_tt]
        have := h54 true hs.symm
        rw [hs] at this
        exact this
theorem M_lnkC (h : Mb g R I w v) (hK : CK (I (R + 5)) 2 c b) (hS : SK (I (R + 5)) 2) (hc : exC w v c = true) (h18 : I R 18 = -2) : ∃ I', fX9_linkedCall R (nI v) (nI c) (mm g I J Z) = some ((lcE w v (I (R + 5)) c b).1, mm g I' J Z) ∧ Fl R I I' ∧ I' R 18 = (lcE w v (I (R + 5)) c b).2 := by
  obtain ⟨k1, k2, k3, k4, k5, k6, k7, k8⟩ := hK
  unfold fX9_linkedCall lcE
  rw [h.cv, h.of k2 (by decide), bd_some, h.G.p15, Option.bind_some, h.G.cl (by decide), Option.bind_some]
  by_cases h15 : cl w v c 1 = I (R + 5) 15
  · rw [if_pos h15, if_pos h15, Option.bind_some, h.G.cl (by decide), Option.bind_some, Option.bind_some, h.G.cl (by decide), Option.bind_some, Option.bind_some, h.G.cl (by decide), Option.bind_some, Option.bind_some, h.G.cl (by decide), Option.bind_some, Option.bind_some, h.G.cl (by decide), Option.bind_some]
    obtain ⟨I1, e1, e2, e3⟩ := M_wants (J := J) (Z := Z) (nm := I (R + 5) 2) (r := I (R + 5) 10) h (hS.2.2.1 rfl).1
    obtain ⟨I2, t1, t2⟩ := M_methodOf (J := J) (Z := Z) e3 hc
    have hf2 : Fl R I I2 := (e2.trans t2.fw).fl
    have h2 := h.fl hf2
    have hk2 : I2 (R + 5) = I (R + 5) := hf2.r5
    have h182 : I2 R 18 = -2 := by rw [(e2.trans t2.fw).2 18 (by omega)]; exact h18
    rw [h.cv, e1, bd_some, M_cv h.G, t1, bd_some]
    cases hme : metS w v (I (R + 5) 2) (I (R + 5) 10) (I (R + 5) 13) (I (R + 5) 14) c with
    | none =>
      refine ⟨I2, ?_, hf2, h182⟩
      show (if (-2 : Int32) = -2 then _ else _) = _
      rw [if_pos rfl]
      rfl
    | some m =>
      have hm := (metS_D hme).1
      rw [if_neg (oI_ne (h.M.ne2 hm))]
      simp only [oI_s]
      rw [h2.cv, h2.opm hm k3 (by rw [hk2]; exact k6), bd_some, bIf, hk2]
      show ∃ I', _ = some ((lcM w v (I (R + 5)) c b m).1, _) ∧ _ ∧ _ = (lcM w v (I (R + 5)) c b m).2
      unfold lcM
      cases hop : opB w v m (I (R + 5) 3) b
      · exact ⟨I2, rfl, hf2, h182⟩
      · rw [if_tt, if_tt, h2.cv, h2.sta hm, bd_some, bIf]
        have h97 : ∀ s : Bool, s = bt (mb w v m 4) 0 → ∃ I', fX9_linkedCall_97 R (nI v) (nI c) (nI m) (bI s) (mm g I2 J Z) = some ((if bI s = I (R + 5) 11 then (if (!itB w v c && !decide (cl w v c 7 = nI 1) && !s && abO w v (selM w v m (lnB w v c) (upS w v c))) = true then (nI 6, -2) else (nI 0, mb w v m 1)) else (nI 5, -2)).1, mm g I' J Z) ∧ Fl R I I' ∧ I' R 18 = (if bI s = I (R + 5) 11 then (if (!itB w v c && !decide (cl w v c 7 = nI 1) && !s && abO w v (selM w v m (lnB w v c) (upS w v c))) = true then (nI 6, (-2 : Int32)) else (nI 0, mb w v m 1)) else (nI 5, -2)).2 := by
          intro s es
          have hno : (!itB w v c && !decide (cl w v c 7 = nI 1) && !s && abO w v (selM w v m (lnB w v c) (upS w v c))) = false → ∃ I', fX9_linkedCall_167 R (nI v) (nI m) (mm g I2 J Z) = some ((if (!itB w v c && !decide (cl w v c 7 = nI 1) && !s && abO w v (selM w v m (lnB w v c) (upS w v c))) = true then (nI 6, (-2 : Int32)) else (nI 0, mb w v m 1)).1, mm g I' J Z) ∧ Fl R I I' ∧ I' R 18 = (if (!itB w v c && !decide (cl w v c 7 = nI 1) && !s && abO w v (selM w v m (lnB w v c) (upS w v c))) = true then (nI 6, (-2 : Int32)) else (nI 0, mb w v m 1)).2 := by
            intro e
            unfold fX9_linkedCall_167
            rw [M_tgt h2 hm, e, if_ff]
            exact ⟨_, rfl, hf2.trans fl_18, by rw [up2_at, if_pos rfl]⟩
          unfold fX9_linkedCall_97
          rw [h2.G.p15, Option.bind_some, h2.G.cl (by decide), Option.bind_some, hk2]
          by_cases hst : bI s = I (R + 5) 11
          · rw [if_pos hst, if_pos hst, h2.cv, h2.itf k2, bd_some, bIf]
            cases hi : itB w v c
            · rw [if_ff, h2.cv, h2.of k2 (by decide), bd_some]
              rcases (h.C.f67 hc).2 with e7 | e7
              · rw [e7, if_pos nI_0, h2.cv, h2.sta hm, bd_some, bIf, ← es]
                cases s
                · obtain ⟨I3, s1, s2⟩ := M_selFor (J := J) (Z := Z) h2 hm (opB_acc hop) hc
                  have hf3 := hf2.trans s2.fl
                  have h3 := h.fl hf3
                  have h183 : I3 R 18 = -2 := by rw [s2.2 18 (by omega)]; exact h182
                  rw [if_ff, h2.cv, s1, bd_some]
                  cases hse : selM w v m (lnB w v c) (upS w v c) with
                  | none =>
                    refine ⟨I3, ?_, hf3, h183⟩
                    show (if (-2 : Int32) = -2 then _ else _) = _
                    rw [if_pos rfl]
                    rfl
                  | some j =>
                    have hj : j < nmb w v := selS_lt hse
                    rw [if_neg (oI_ne (h.M.ne2 hj))]
                    simp only [oI_s]
                    rw [h3.cv, h3.abs hj, bd_some, bIf]
                    simp only [show abO w v (some j) = abB w v j from rfl]
                    cases hab : abB w v j
                    · unfold fX9_linkedCall_167
                      rw [if_ff, M_tgt h3 hm]
                      exact ⟨_, rfl, hf3.trans fl_18, by rw [up2_at, if_pos rfl]; rfl⟩
                    · exact ⟨I3, rfl, hf3, h183⟩
                · rw [if_tt]
                  have := hno (by simp)
                  rw [hi, e7] at this
                  exact this
              · rw [e7, if_neg (by decide)]
                have := hno (by rw [e7]; simp)
                rw [hi, e7] at this
                exact this
            · rw [if_tt]
              have := hno (by rw [hi]; rfl)
              rw [hi] at this
              exact this
          · rw [if_neg hst, if_neg hst]
            exact ⟨I2, rfl, hf2, h182⟩
        cases hs : bt (mb w v m 4) 0
        · rw [if_ff]
          exact h97 false hs.symm
        · rw [if_tt]
          exact h97 true hs.symm
  · rw [if_neg h15, if_neg h15]
    exact ⟨I, rfl, ⟨fun _ _ _ => rfl, fun _ _ _ => rfl⟩, h18⟩
end Li

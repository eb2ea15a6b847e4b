/-! ===== sample: the search of the class ===== -/
section Sv
variable {g : Gr} {A p : Nat} {I I' I'' : Mem} {J : Nat → Nat → Int64} {Z : Option Nat} {w : Nat → Int32} {u c b v : Nat} {k : Nat → Int32}
theorem C_verd9 (hV : JV g A) (hp : PC g A p) (h0 : CB g I (A + 4) w 0) (h1 : CB g I (A + 24) w 1) (hk : RK I p k) (hK : CK k u c b) (hS : SK k u) : ∃ I', fX8_verdictOf A p (mm g I J Z) = some (juS w k u c b, mm g I' J Z) ∧ Fvd A I I' ∧ I' (A + 409) = I (A + 409) := by
  obtain ⟨I1, a1, a2, a3⟩ := C_link (J := J) (Z := Z) (CL.of1 hV hp) h1 hk hK hS
  have f1 := a2.v1
  have g1 : I1 (A + 409) = I (A + 409) := a2 _ (by omega) (by omega)
  unfold fX8_verdictOf juS
  rw [hV.p7, Option.bind_some, hV.l1, Option.bind_some, (CL.of1 hV hp).cv, a1, bd_some]
  by_cases q1 : (lkS w 1 k u c b).1 = nI 0
  · rw [if_pos (by rw [q1]; rfl), if_pos q1, hV.p6, Option.bind_some, hV.c1, Option.bind_some, (CQ.of1 hV hp).cv]
    have hk1 := hk.vd hp f1
    obtain ⟨I2, b1, b2, b3, b4⟩ := C_comp (J := J) (Z := Z) (CQ.of1 hV hp) (h1.v1 f1) hk1.1 hK
    have f2 := f1.trans b2.v1
    have g2 : I2 (A + 409) = I (A + 409) := (b2 _ (by omega) (by omega) (by omega) (by omega)).trans g1
    rw [b1, bd_some]
    by_cases q2 : (comS w 1 k u c b).1 = nI 0
    · rw [if_pos (by rw [q2]; rfl), if_pos q2, hV.p6, Option.bind_some, hV.c1, Option.bind_some, (CQ.of1 hV hp).g1, Option.bind_some, (CL.of1 hV hp).g8, Option.bind_some, sym_cv (CQ.of1 hV hp).k1, C_same (CQ.of1 hV hp).k1 hp.1.2.2, bd_some]
      have hk2 := hk.vd hp f2
      obtain ⟨s0, s1, s2, s3, s4, s5, s6⟩ := b3
      obtain ⟨t0, t1, t2, t3, t4, t5, t6⟩ := hk2.2
      rw [s0, s1, s2, s3, s4, s5, s6, t0, t1, t2, t3, t4, t5, t6]
      have hot := ot_eq (f := (comS w 1 k u c b).2) (k := k) (com_many h1.M hS q2)
      rw [show (decide ((comS w 1 k u c b).2 0 = k (8 + 0)) && decide ((comS w 1 k u c b).2 1 = k (8 + 1)) && decide ((comS w 1 k u c b).2 2 = k (8 + 2)) && decide ((comS w 1 k u c b).2 3 = k (8 + 3)) && decide ((comS w 1 k u c b).2 5 = k (8 + 5)) && decide ((comS w 1 k u c b).2 6 = k (8 + 6)) && decide ((comS w 1 k u c b).2 7 = k (8 + 7))) = !otB (comS w 1 k u c b).2 k from hot, bIf]
      cases otB (comS w 1 k u c b).2 k
      · obtain ⟨I3, c1, c2, c3⟩ := C_link (J := J) (Z := Z) (CL.of0 hV hp) (h0.v0 f2) hk2 hK hS
        rw [Bool.not_false, if_tt, if_ff, hV.p7, Option.bind_some, hV.l0, Option.bind_some, (CL.of0 hV hp).cv, c1, bd_some]
        refine ⟨I3, ?_, f2.trans c2.v0, (c2 _ (by omega) (by omega)).trans g2⟩
        by_cases q3 : (lkS w 0 k u c b).1 = nI 0
        · have hl1 : I3 (A + 416) 1 = (lkS w 1 k u c b).2 := by rw [c2 _ (by omega) (by omega), b2 _ (by omega) (by omega) (by omega) (by omega)]; exact a3
          rw [if_pos (by rw [q3]; rfl), if_pos q3, hV.p7, Option.bind_some, hV.l0, Option.bind_some, gI_m (CL.of0 hV hp).1.1, Option.bind_some, Option.bind_some, hV.l1, Option.bind_some, gI_m (CL.of1 hV hp).1.1, Option.bind_some, c3, hl1]
          by_cases q4 : (lkS w 0 k u c b).2 = (lkS w 1 k u c b).2
          · rw [if_pos q4, if_pos q4]
          · rw [if_neg q4, if_neg q4]
        · rw [if_neg (show ¬ (lkS w 0 k u c b).1 = 0 from q3), if_neg q3]
      · rw [Bool.not_true, if_ff, if_tt]
        exact ⟨I2, rfl, f2, g2⟩
    · rw [if_neg (show ¬ (comS w 1 k u c b).1 = 0 from q2), if_neg q2]
      exact ⟨I2, rfl, f2, g2⟩
  · rw [if_neg (show ¬ (lkS w 1 k u c b).1 = 0 from q1), if_neg q1]
    refine ⟨I1, ?_, f1, g1⟩
    by_cases q : (lkS w 1 k u c b).1 = nI 6
    · rw [if_pos q, if_pos q]
    · rw [if_neg q, if_neg q]
end Sv
def sRi (pk : Int32) (i : Nat) : Nat → Int32 := sR pk (i / 10640) (i / 1064 % 10) (i / 133 % 8) (i % 133)
def smV (pk : Int32) (y : Nat) : Option Nat → Int32
  | none => -2
  | some i => sRi pk i (if y < 3 then y else y + 2)
section Sp
variable {g : Gr} {A R p q : Nat} {I I' : Mem} {J : Nat → Nat → Int64} {Z : Option Nat} {w w' : Nat → Int32} {n v u c b nm t i e : Nat} {P : Nat → Nat → Int32} {d : Nat → Int32} {x y z pk : Int32} {k k' : Nat → Int32}
theorem sRi_at (h : Cd u c nm t) : sRi pk (sq u c nm t) = sR pk u c nm t := by
  obtain ⟨e1, e2, e3, e4⟩ := sq_dec h
  unfold sRi
  rw [e1, e2, e3, e4]
theorem nk_of (h : (comS w v k' 2 c b).1 = nI 0) (h2 : k' 2 = k 2) (h3 : k' 3 = k 3) (h5 : k' 5 = k 5) : nkS w v k 2 c = true := by
  unfold comS at h
  cases hc : exC w v c
  · rw [if_pos hc] at h; exact absurd h (by show ¬ nI 1 = nI 0; decide)
  · rw [if_neg (by rw [hc]; decide)] at h
    cases ho : opcB w v c (k' 3)
    · rw [if_pos ho] at h; exact absurd h (by show ¬ nI 2 = nI 0; decide)
    · rw [if_neg (by rw [ho]; decide), if_neg (by decide), if_pos rfl] at h
      unfold caE at h
      by_cases q : ct (apB w v k' c b) (nmb w v) = 0
      · rw [if_pos q] at h; exact absurd h (by show ¬ nI 3 = nI 0; decide)
      · have hm : ∃ m, m < nmb w v ∧ apB w v k' c b m = true := by
          refine Classical.byContradiction fun z => q (ct_zero.mpr fun m hm => ?_)
          cases za : apB w v k' c b m
          · rfl
          · exact absurd ⟨m, hm, za⟩ z
        obtain ⟨m, hm, ha⟩ := hm
        unfold apB at ha
        simp only [Bool.and_eq_true, decide_eq_true_eq] at ha
        have hn : nsB w v k c m = true := by
          unfold nsB
          simp only [Bool.and_eq_true, decide_eq_true_eq]
          exact ⟨⟨⟨ha.1.1.1.1.1, ha.1.1.1.2.trans h2⟩, ha.1.1.2.trans h5⟩, ha.1.1.1.1.2⟩
        unfold nkS
        rw [hc, ← h3, ho, anyF_iff.mpr ⟨m, by omega, by omega, hn⟩]
        rfl
theorem C_adv (hp : ClG g p) (h : Cd u c nm t) (hk : ∀ j, j < 8 → I p j = sR pk u c nm t j) (sk : Bool) : Adv g p I J Z pk u c nm (fun u1 c1 n1 t1 => sk = true ∧ u = 2 ∧ u1 = u ∧ c1 = c ∧ n1 = nm ∧ tlM t1 = tlM t) (sq u c nm t) (fX0_advance p (bI sk) (mm g I J Z)) := by
  have k0 : I p 0 = nI u := hk 0 (by decide)
  have h' := h
  obtain ⟨h1, h2, h3, h4, h5, h6⟩ := h
  unfold fX0_advance
  rw [gI_m hp.1, Option.bind_some, k0]
  by_cases u2 : u = 2
  · subst u2
    rw [if_pos rfl, bIf]
    have cd : ∀ t', t' < 133 → Cd 2 c nm t' := fun t' ht => ⟨by omega, h2, h3, ht, Or.inl (by omega), Or.inl rfl⟩
    have a19 : (∀ t1, t < t1 → t1 < 133 → (t < 12 → t1 < 12 ∧ 0 < t) → sk = true ∧ tlM t1 = tlM t) → Adv g p I J Z pk 2 c nm (fun u1 c1 n1 t1 => sk = true ∧ 2 = 2 ∧ u1 = 2 ∧ c1 = c ∧ n1 = nm ∧ tlM t1 = tlM t) (sq 2 c nm t) (fX0_advance_19 p (mm g I J Z)) := by
      intro hs
      unfold fX0_advance_19
      rcases C_nM (J := J) (Z := Z) hp h4 hk with ⟨I1, t', a1, a2, a3, a4⟩ | ⟨a1, a2⟩
      · rw [cln_cv hp, a1, bd_some, bIf, if_tt, rz_n1]
        refine Or.inl ⟨I1, 2, c, nm, t', rfl, fun y y1 _ => a2 y y1, a3, cd t' (by omega), by unfold sq; omega, fun u1 c1 n1 t1 hc hl hr => ?_⟩
        obtain ⟨g1, g2, g3, g4, g5, g6⟩ := hc
        unfold sq at hl hr
        have z1 : u1 = 2 := by omega
        have z2 : c1 = c := by omega
        have z3 : n1 = nm := by omega
        obtain ⟨s1, s2⟩ := hs t1 (by omega) g4 (fun _ => by omega)
        exact ⟨s1, rfl, z1, z2, z3, s2⟩
      · rw [cln_cv hp, a1, bd_some, bIf, if_ff]
        refine C_ad28 hp h' hk (fun t1 hc hl => ?_)
        obtain ⟨s1, s2⟩ := hs t1 hl hc.2.2.2.1 (fun q => absurd q (by omega))
        exact ⟨s1, rfl, rfl, rfl, rfl, s2⟩
    cases sk
    · rw [if_ff]
      rcases C_nT (J := J) (Z := Z) hp h4 hk with ⟨I1, a1, a2, a3, a4⟩ | ⟨a1, a2⟩
      · rw [cln_cv hp, a1, bd_some, bIf, if_tt, rz_n1]
        refine Or.inl ⟨I1, 2, c, nm, t + 1, rfl, fun y y1 _ => a2 y y1, a3, cd (t + 1) a4, by unfold sq; omega, fun u1 c1 n1 t1 hc hl hr => ?_⟩
        unfold sq at hl hr
        omega
      · rw [cln_cv hp, a1, bd_some, bIf, if_ff]
        refine a19 (fun t1 q1 q2 q3 => ?_)
        rcases a2 with e | e | e
        · have := q3 (by omega); omega
        · have := q3 (by omega); omega
        · omega
    · rw [if_tt]
      refine a19 (fun t1 q1 q2 q3 => ⟨rfl, ?_⟩)
      unfold tlM
      by_cases z : t < 12
      · have := q3 z
        rw [if_neg (by omega), if_pos (by omega), if_neg (by omega), if_pos z]
      · rw [if_neg (by omega), if_neg (by omega), if_neg (by omega), if_neg (by omega)]
  · rw [if_neg (fun q => u2 (nI_inj (by omega) (by omega) q))]
    refine C_ad28 hp h' hk (fun t1 hc hl => ?_)
    obtain ⟨g1, g2, g3, g4, g5, g6⟩ := hc
    omega
theorem C_smV {y : Nat} (hJ : JG g A) (hy : y < 6) (hk : ∀ j, j < 8 → I (A + 405) j = k j) : fX8_sampleValue A (nI y) (mm g I J Z) = some (k (if y < 3 then y else y + 2), mm g I J Z) := by
  have hp := hJ.pb.1
  unfold fX8_sampleValue
  rcases (by omega : y = 0 ∨ y = 1 ∨ y = 2 ∨ y = 3 ∨ y = 4 ∨ y = 5) with rfl | rfl | rfl | rfl | rfl | rfl
  · rw [if_pos rfl, hJ.p5, Option.bind_some, gI_m hp.1, Option.bind_some, hk 0 (by decide)]; rfl
  · rw [if_neg (by decide), if_pos rfl, hJ.p5, Option.bind_some, gI_m hp.1, Option.bind_some, hk 1 (by decide)]; rfl
  · rw [if_neg (by decide), if_neg (by decide), if_pos rfl, hJ.p5, Option.bind_some, gI_m hp.1, Option.bind_some, hk 2 (by decide)]; rfl
  · rw [if_neg (by decide), if_neg (by decide), if_neg (by decide), if_pos rfl, hJ.p5, Option.bind_some, gI_m hp.1, Option.bind_some, hk 5 (by decide)]; rfl
  · rw [if_neg (by decide), if_neg (by decide), if_neg (by decide), if_neg (by decide), if_pos rfl, hJ.p5, Option.bind_some, gI_m hp.1, Option.bind_some, hk 6 (by decide)]; rfl
  · rw [if_neg (by decide), if_neg (by decide), if_neg (by decide), if_neg (by decide), if_neg (by decide), hJ.p5, Option.bind_some, gI_m hp.1, Option.bind_some, hk 7 (by decide)]; rfl
theorem C_smpL {y : Nat} (hy : y < 6) : ∀ (e u c nm t cnt f : Nat) (I : Mem), Cd u c nm t → sq u c nm t + e = 63840 → cnt ≤ sq u c nm t → e < f → Rel g A I w n P d → (∀ j, j < 8 → I (A + 405) j = sR pk u c nm t j) → ∃ I', lX8_sample_62 f A x (nI y) (nI cnt) (mm g I J Z) = some (.inr (smV pk y (fst1 (sqG w pk x) e (sq u c nm t))), mm g I' J Z) ∧ FvC A I I' := by
  intro e
  induction e using Nat.strongRecOn with
  | ind e ih =>
    intro u c nm t cnt f I hC he hcnt hf h hk
    obtain ⟨f, rfl⟩ : ∃ z, f = z + 1 := ⟨f - 1, by omega⟩
    have hp := h.jg.pb.1
    have hK := sR_CK (pk := pk) hC
    have hlt : sq u c nm t < 63840 := by
      obtain ⟨g1, g2, g3, g4, g5, g6⟩ := hC
      unfold sq
      omega
    obtain ⟨e, rfl⟩ : ∃ z, e = z + 1 := ⟨e - 1, by omega⟩
    -- going on
    have on : ∀ I1, Rel g A I1 w n P d → FvC A I I1 → (∀ j, j < 8 → I1 (A + 405) j = sR pk u c nm t j) → I1 (A + 409) 4 = bI (nkS w 0 (sR pk u c nm t) u c) → gdB w pk x u c nm t = false → ∃ I', fX8_sample_95 (lX8_sample_62 f) A x (nI y) (nI cnt) (mm g I1 J Z) = some (.inr (smV pk y (fst1 (sqG w pk x) (e + 1) (sq u c nm t))), mm g I' J Z) ∧ FvC A I I' := by
      intro I1 h1 f1 k1 hn4 g0
      have sk : fX8_sample_95 (lX8_sample_62 f) A x (nI y) (nI cnt) (mm g I1 J Z) = fX8_sample_116 (lX8_sample_62 f) A x (nI y) (nI cnt) (A + 405) (bI (!nkS w 0 (sR pk u c nm t) u c)) (mm g I1 J Z) := by
        unfold fX8_sample_95
        rw [h1.jg.p5, Option.bind_some, h1.jg.V.p6, Option.bind_some, h1.jg.V.c0, Option.bind_some, gI_m (CQ.of0 h1.jg.V h1.jg.pb).1.1, Option.bind_some, hn4, bIf]
        cases nkS w 0 (sR pk u c nm t) u c
        · rw [if_ff, Bool.not_false, bt1]
        · rw [if_tt, Bool.not_true, bf0]
      rw [sk]
      unfold fX8_sample_116
      have nog : ∀ u1 c1 n1 t1, Cd u1 c1 n1 t1 → (!nkS w 0 (sR pk u c nm t) u c) = true ∧ u = 2 ∧ u1 = u ∧ c1 = c ∧ n1 = nm ∧ tlM t1 = tlM t → sqG w pk x (sq u1 c1 n1 t1) = false := by
        rintro u1 c1 n1 t1 hc ⟨s1, s2, rfl, rfl, rfl, s6⟩
        subst s2
        rw [sqG_at hc]
        cases hg : gdB w pk x 2 c1 n1 t1
        · rfl
        · unfold gdB at hg
          rw [Bool.and_eq_true, decide_eq_true_eq] at hg
          have := nk_of (k := sR pk 2 c1 n1 t) hg.1 rfl rfl s6
          rw [this] at s1
          exact absurd s1 (by decide)
      rcases C_adv (I := I1) (J := J) (Z := Z) hp hC k1 (!nkS w 0 (sR pk u c nm t) u c) with ⟨I2, u', c', n', t', a1, a2, a3, a4, a5, a6⟩ | ⟨a1, a2⟩
      · have f2 : FvC A I1 I2 := fun y y1 y2 y3 => a2 y (by omega) (by omega)
        have hlt' : sq u' c' n' t' < 63840 := by
          obtain ⟨g1, g2, g3, g4, g5, g6⟩ := a4
          unfold sq
          omega
        obtain ⟨I3, t1, t2⟩ := ih (63840 - sq u' c' n' t') (by omega) u' c' n' t' (cnt + 1) f I2 a4 (by omega) (by omega) (by omega) (h1.fvc f2) a3
        refine ⟨I3, ?_, f1.trans (f2.trans t2)⟩
        have hno : ∀ j, sq u c nm t ≤ j → j < sq u' c' n' t' → sqG w pk x j = false := by
          intro j j1 j2
          by_cases q : j = sq u c nm t
          · rw [q, sqG_at hC]; exact g0
          · cases hg : sqG w pk x j
            · rfl
            · obtain ⟨u1, c1, n1, t1, hc, rfl⟩ := sqG_cd hg
              exact absurd hg (by rw [nog u1 c1 n1 t1 hc (a6 u1 c1 n1 t1 hc (by omega) (by omega))]; decide)
        rw [cln_cv hp, a1, bd_some, bIf, if_tt, nI_add, t1, show e + 1 = 63840 - sq u c nm t from by omega, fst1_to (z := sq u' c' n' t') (by omega) (by omega) hno]
      · refine ⟨I1, ?_, f1⟩
        have hno : ∀ j, sq u c nm t ≤ j → j < 63840 → sqG w pk x j = false := by
          intro j j1 j2
          by_cases q : j = sq u c nm t
          · rw [q, sqG_at hC]; exact g0
          · cases hg : sqG w pk x j
            · rfl
            · obtain ⟨u1, c1, n1, t1, hc, rfl⟩ := sqG_cd hg
              exact absurd hg (by rw [nog u1 c1 n1 t1 hc (a2 u1 c1 n1 t1 hc (by omega))]; decide)
        rw [cln_cv hp, a1, bd_some, bIf, if_ff, show e + 1 = 63840 - sq u c nm t from by omega, fst1_to (z := 63840) (by omega) (by omega) hno]
        rfl
    show ∃ I', bX8_sample_62 (lX8_sample_62 f) A x (nI y) (nI cnt) (mm g I J Z) = _ ∧ _
    obtain ⟨I1, b1, b2, b3, b4, b5⟩ := C_cprobe (J := J) (Z := Z) h hk hK
    have h1 := h.fvc b2
    unfold bX8_sample_62
    rw [if_neg (nI_ge (by omega) (by omega)), h.jg.cv, b1, bd_some, bIf]
    by_cases ec : (comS w 0 (sR pk u c nm t) u c 0).1 = nI 0
    · have hW0 := h.W.1 0 (by omega)
      have hSK := com_SK hW0.2 hW0.1 ec
      have hCK := kk_CK (f := (comS w 0 (sR pk u c nm t) u c 0).2) hK
      obtain ⟨I2, v1, v2, v3⟩ := C_verd9 (J := J) (Z := Z) h.jg.V h.jg.pb h1.cb0 h1.cb1 (kk_RK b3 (b4 ec)) hCK hSK
      have k2 : ∀ j, j < 8 → I2 (A + 405) j = sR pk u c nm t j := fun j hj => by rw [v2 _ (by omega) (by omega) (by omega)]; exact b3 j hj
      rw [decide_eq_true ec, if_tt, h.jg.p5, Option.bind_some, h.jg.cv, v1, bd_some]
      by_cases ev : juS w (kkR (sR pk u c nm t) (comS w 0 (sR pk u c nm t) u c 0).2) u c 0 = x
      · refine ⟨I2, ?_, b2.trans v2.fvc⟩
        rw [if_pos ev, h.jg.cv, C_smV h.jg hy k2, bd_some, fst1_yes (by rw [sqG_at hC]; unfold gdB; rw [decide_eq_true ec, decide_eq_true ev]; rfl)]
        show _ = some (Sum.inr (sRi pk (sq u c nm t) (if y < 3 then y else y + 2)), _)
        rw [sRi_at hC]
      · rw [if_neg ev]
        exact on I2 (h1.fvc v2.fvc) (b2.trans v2.fvc) k2 (by rw [v3]; exact b5) (by unfold gdB; rw [decide_eq_false ev, Bool.and_false])
    · rw [decide_eq_false ec, if_ff]
      exact on I1 h1 b2 b3 b5 (by unfold gdB; rw [decide_eq_false ec, Bool.false_and])
end Sp

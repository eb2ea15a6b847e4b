/-! ===== the reference: looksAt, interfaceMethod, methodOf, selectedBy, isIncomplete ===== -/
/-- classes of a set that are interfaces -/
def seB (w : Nat → Int32) (v : Nat) (s : Int32) (i : Nat) : Bool := bt s i && itB w v i
abbrev mlW (w : Nat → Int32) (v : Nat) (nm r y z : Int32) (S : Nat → Bool) (i : Nat) : Bool := mlB (nmb w v) (ow w v) (fun m => isD w v nm r y z m && cnB w v m) S (stB w v) i
abbrev gvW (w : Nat → Int32) (v : Nat) (nm r y z : Int32) (S : Nat → Bool) (i : Nat) : Bool := gvS (nmb w v) (ow w v) (isD w v nm r y z) (fun m => isD w v nm r y z m && cnB w v m) S (abB w v) (stB w v) i
abbrev onW (w : Nat → Int32) (v : Nat) (nm r y z : Int32) (i : Nat) : Option Nat := onS (nmb w v) (ow w v) (isD w v nm r y z) i
/-- what looksAt leaves behind after i classes -/
def lkW (w : Nat → Int32) (v : Nat) (nm r y z : Int32) (S : Nat → Bool) (I : Mem) (R i : Nat) : Mem :=
  lkI I R (nI (ct (mlW w v nm r y z S) i)) (oI ((fst (mlW w v nm r y z S) 0 i).bind (onW w v nm r y z))) (nI (ct (gvW w v nm r y z S) i)) (oI ((fst (gvW w v nm r y z S) 0 i).bind (onW w v nm r y z)))
theorem ctf_yes {q : Nat → Bool} {i : Nat} (h : q i = true) : ct q (i + 1) = ct q i + 1 ∧ fst q 0 (i + 1) = if ct q i = 0 then some i else fst q 0 i := by
  refine ⟨by rw [ct, if_pos h], ?_⟩
  rw [fst_succ, Nat.zero_add, h]
  by_cases h0 : ct q i = 0
  · rw [if_pos h0, ct_fst.mp h0]
    rfl
  · rw [if_neg h0]
    cases h1 : fst q 0 i with
    | none => exact absurd (ct_fst.mpr h1) h0
    | some k => rfl
theorem ctf_no {q : Nat → Bool} {i : Nat} (h : q i = false) : ct q (i + 1) = ct q i ∧ fst q 0 (i + 1) = fst q 0 i := by
  refine ⟨by rw [ct, if_neg (by rw [h]; decide)], ?_⟩
  rw [fst_succ, Nat.zero_add, h]
  cases fst q 0 i <;> rfl
theorem ctf_o {q : Nat → Bool} {on : Nat → Option Nat} {i m : Nat} (hi : i < 100) (ho : on i = some m) : oI ((if ct q i = 0 then some i else fst q 0 i).bind on) = if nI (ct q i) = 0 then nI m else oI ((fst q 0 i).bind on) := by
  have := ct_le (P := q) i
  by_cases h0 : ct q i = 0
  · rw [if_pos h0, if_pos (by rw [h0]; rfl)]
    show oI (on i) = _
    rw [ho]
    rfl
  · rw [if_neg h0, if_neg (nI_ne0 (by omega) (by omega))]
section Ls
variable {g : Gr} {R : Nat} {I : Mem} {J : Nat → Nat → Int64} {Z : Option Nat} {w : Nat → Int32} {v : Nat} {nm r x y z : Int32}
theorem cB_cd (hM : WM w v) {S : Nat → Bool} {i : Nat} : cdB (nmb w v) (ow w v) (fun m => isD w v nm r y z m && cnB w v m) S i = (S i && cB w v nm r y z i) := by
  rw [Bool.eq_iff_iff, cdB_iff, Bool.and_eq_true, cB_iff hM]
theorem M_lkOut (h : Wnt g R I w v nm r x y z) {s0 : Int32} (hs : ∀ k, k < 10 → bt s0 k = true → exC w v k = true) :
    ∀ (d i f : Nat), i + d = 10 → d < f → lX9_looksAt_24 f R (nI v) s0 (nI i) (mm g (lkW w v nm r y z (seB w v s0) I R i) J Z) = some ((), mm g (lkW w v nm r y z (seB w v s0) I R 10) J Z) := by
  intro d
  induction d with
  | zero =>
    intro i f hi hf
    obtain ⟨f, rfl⟩ : ∃ z, f = z + 1 := ⟨f - 1, by omega⟩
    obtain rfl : i = 10 := by omega
    show bX9_looksAt_24 (lX9_looksAt_24 f) R (nI v) s0 (nI 10) _ = _
    unfold bX9_looksAt_24
    rw [if_pos (nI_le (by omega) (by omega))]
  | succ d ih =>
    intro i f hi hf
    obtain ⟨f, rfl⟩ : ∃ z, f = z + 1 := ⟨f - 1, by omega⟩
    have hi10 : i < 10 := by omega
    have ih' := ih (i + 1) f (by omega) (by omega)
    -- nothing new
    have hno : mlW w v nm r y z (seB w v s0) i = false → lkW w v nm r y z (seB w v s0) I R (i + 1) = lkW w v nm r y z (seB w v s0) I R i := by
      intro q
      have q2 : gvW w v nm r y z (seB w v s0) i = false := by
        show (mlW w v nm r y z (seB w v s0) i && _) = false
        rw [q, Bool.false_and]
      unfold lkW
      rw [(ctf_no q).1, (ctf_no q).2, (ctf_no q2).1, (ctf_no q2).2]
    have h163 : ∀ o : Int32, mlW w v nm r y z (seB w v s0) i = false → fX9_looksAt_163 (lX9_looksAt_24 f) R (nI v) s0 (nI i) o (bI false) (mm g (lkW w v nm r y z (seB w v s0) I R i) J Z) = some ((), mm g (lkW w v nm r y z (seB w v s0) I R 10) J Z) := by
      intro o q
      unfold fX9_looksAt_163 fX9_looksAt_238
      rw [if_pos (by decide), nI_add, ← hno q]
      exact ih'
    show bX9_looksAt_24 (lX9_looksAt_24 f) R (nI v) s0 (nI i) _ = _
    unfold bX9_looksAt_24
    have hMW : Wnt g R (lkW w v nm r y z (seB w v s0) I R i) w v nm r x y z := h.lkm
    have h56 : seB w v s0 i = false → fX9_looksAt_56 (lX9_looksAt_24 f) R (nI v) s0 (nI i) (mm g (lkW w v nm r y z (seB w v s0) I R i) J Z) = some ((), mm g (lkW w v nm r y z (seB w v s0) I R 10) J Z) := by
      intro q
      unfold fX9_looksAt_56 fX9_looksAt_58
      rw [M_cv h.G, show (-2 : Int32) = oI none from rfl, hMW.cand (o := none) (fun m e => by cases e), bd_some]
      show lX9_looksAt_72 (lX9_looksAt_24 f) fuel R (nI v) s0 (nI i) (oI none) (bI false) (nI 0) _ = _
      rw [M_lkIn hMW hs hi10 10 0 fuel false (by omega) (by unfold fuel; omega), Bool.false_and]
      apply h163
      show mlB _ _ _ _ _ _ = false
      unfold mlB
      rw [cB_cd h.M, q]
      rfl
    rw [if_neg (nI_ge hi10 (by omega)), M_has (by omega), bd_some, bIf]
    cases hb : bt s0 i
    · rw [if_neg (by decide)]
      exact h56 (by unfold seB; rw [hb]; rfl)
    · rw [if_pos rfl, M_cv h.G, hMW.itB hi10, bd_some, bIf]
      cases hI : itB w v i
      · rw [if_neg (by decide)]
        exact h56 (by unfold seB; rw [hI, Bool.and_false])
      · have hse : seB w v s0 i = true := by unfold seB; rw [hb, hI]; rfl
        rw [if_pos rfl, M_cv h.G, hMW.own hi10, bd_some]
        unfold fX9_looksAt_58
        rw [M_cv h.G, hMW.cand (fun m e => (onS_some e).1), bd_some]
        show lX9_looksAt_72 (lX9_looksAt_24 f) fuel R (nI v) s0 (nI i) _ (bI (cB w v nm r y z i)) (nI 0) _ = _
        rw [M_lkIn hMW hs hi10 10 0 fuel _ (by omega) (by unfold fuel; omega)]
        have hml : (cB w v nm r y z i && !anyF (fun k => decide (k ≠ i) && (bt s0 k && itB w v k) && stB w v k i && cB w v nm r y z k) 0 10) = mlW w v nm r y z (seB w v s0) i := by
          show _ = mlB _ _ _ _ _ _
          unfold mlB
          rw [cB_cd h.M, hse, Bool.true_and]
          congr 2
          rw [Bool.eq_iff_iff, anyF_iff, List.any_eq_true]
          simp only [List.mem_range, Bool.and_eq_true, cB_cd h.M, seB]
          constructor
          · rintro ⟨k, -, k1, ⟨⟨k2, k3⟩, k4⟩, k5⟩
            exact ⟨k, by omega, ⟨k2, k3, k5⟩, k4⟩
          · rintro ⟨k, k1, ⟨k2, k3, k5⟩, k4⟩
            exact ⟨k, by omega, by omega, ⟨⟨k2, k3⟩, k4⟩, k5⟩
        rw [hml]
        cases hq : mlW w v nm r y z (seB w v s0) i
        · exact h163 _ hq
        · -- a new maximal one
          obtain ⟨-, m, m1, m2, m3⟩ := cdB_iff.mp (mlB_iff.mp hq).1
          simp only [Bool.and_eq_true] at m2
          have hon : onS (nmb w v) (ow w v) (isD w v nm r y z) i = some m := onS_of h.M.uD m1 m3 m2.1
          have hnew : lkW w v nm r y z (seB w v s0) I R (i + 1) = lkI I R (nI (ct (mlW w v nm r y z (seB w v s0)) i) + nI 1)
              (if nI (ct (mlW w v nm r y z (seB w v s0)) i) = 0 then nI m else oI ((fst (mlW w v nm r y z (seB w v s0)) 0 i).bind (onW w v nm r y z)))
              (if abB w v m then nI (ct (gvW w v nm r y z (seB w v s0)) i) else nI (ct (gvW w v nm r y z (seB w v s0)) i) + nI 1)
              (if abB w v m then oI ((fst (gvW w v nm r y z (seB w v s0)) 0 i).bind (onW w v nm r y z)) else if nI (ct (gvW w v nm r y z (seB w v s0)) i) = 0 then nI m else oI ((fst (gvW w v nm r y z (seB w v s0)) 0 i).bind (onW w v nm r y z))) := by
            have hgv : gvW w v nm r y z (seB w v s0) i = !abB w v m := by
              show (mlW w v nm r y z (seB w v s0) i && _) = _
              rw [hq, hon, Bool.true_and]
            unfold lkW
            rw [(ctf_yes hq).1, (ctf_yes hq).2, ctf_o (by omega) hon, ← nI_add]
            cases hab : abB w v m
            · rw [hab] at hgv
              rw [(ctf_yes hgv).1, (ctf_yes hgv).2, ctf_o (by omega) hon, ← nI_add]
              rfl
            · rw [hab] at hgv
              rw [(ctf_no hgv).1, (ctf_no hgv).2]
              rfl
          rw [hon]
          show fX9_looksAt_163 (lX9_looksAt_24 f) R (nI v) s0 (nI i) (nI m) (bI true) (mm g (lkI I R _ _ _ _) J Z) = _
          rw [M_lk163 h m1, ← hnew]
          exact ih'
theorem M_looksAt (h : Wnt g R I w v nm r x y z) {s0 : Int32} (hs : ∀ k, k < 10 → bt s0 k = true → exC w v k = true) :
    fX9_looksAt R (nI v) s0 (mm g I J Z) = some ((), mm g (lkW w v nm r y z (seB w v s0) I R 10) J Z) := by
  unfold fX9_looksAt
  rw [pI_m h.G.1, Option.bind_some, pI_m h.G.1, Option.bind_some, pI_m h.G.1, Option.bind_some, pI_m h.G.1, Option.bind_some, lk_start]
  exact M_lkOut h hs 10 0 fuel (by omega) (by unfold fuel; omega)
/-- the wanted method of the interfaces of a set -/
abbrev imW (w : Nat → Int32) (v : Nat) (nm r y z : Int32) (S : Nat → Bool) (low : Bool) : Option Nat := imS (nmb w v) (ow w v) (isD w v nm r y z) (fun m => isD w v nm r y z m && cnB w v m) S (abB w v) (stB w v) low
theorem M_lkAns (hM : WM w v) {S : Nat → Bool} {low : Bool} : (ct (gvW w v nm r y z S) 10 = 1 → imW w v nm r y z S low = (fst (gvW w v nm r y z S) 0 10).bind (onW w v nm r y z)) ∧ (ct (gvW w v nm r y z S) 10 ≠ 1 → imW w v nm r y z S low = if low then (fst (mlW w v nm r y z S) 0 10).bind (onW w v nm r y z) else none) := by
  have hg := im_given (n := nmb w v) (o := ow w v) (D := isD w v nm r y z) (C := fun m => isD w v nm r y z m && cnB w v m) (S := S) (ab := abB w v) (st := stB w v) (fun m q => by simp only [Bool.and_eq_true] at q; exact q.1) hM.uD (fun m hm => (hM.own m hm).2.1)
  have hf := im_first (n := nmb w v) (o := ow w v) (D := isD w v nm r y z) (C := fun m => isD w v nm r y z m && cnB w v m) (S := S) (st := stB w v) (fun m q => by simp only [Bool.and_eq_true] at q; exact q.1) hM.uD (fun m hm => (hM.own m hm).2.1)
  constructor
  · intro q
    unfold imW imS
    rw [if_pos (hg.1.mp q)]
    exact (hg.2 q).symm
  · intro q
    unfold imW imS
    rw [if_neg (fun e => q (hg.1.mpr e)), ← hf]
theorem lkW_ne {S : Nat → Bool} {i a : Nat} (h : a ≠ R) : lkW w v nm r y z S I R i a = I a := lk_ne h
theorem lkW_o {S : Nat → Bool} {i k : Nat} (h : k < 11 ∨ 14 < k) : lkW w v nm r y z S I R i R k = I R k := lk_o h
theorem lkW_13 {S : Nat → Bool} : lkW w v nm r y z S I R 10 R 13 = nI (ct (gvW w v nm r y z S) 10) := lk_13
theorem lkW_14 {S : Nat → Bool} : lkW w v nm r y z S I R 10 R 14 = oI ((fst (gvW w v nm r y z S) 0 10).bind (onW w v nm r y z)) := lk_14
theorem lkW_12 {S : Nat → Bool} : lkW w v nm r y z S I R 10 R 12 = oI ((fst (mlW w v nm r y z S) 0 10).bind (onW w v nm r y z)) := lk_12
theorem ct10 {q : Nat → Bool} : (nI (ct q 10) = nI 1) ↔ ct q 10 = 1 := by
  have := ct_le (P := q) 10
  rw [nI_eq (by omega) (by omega)]
theorem bt_not1 {x : Int32} {c i : Nat} (hc : c < 32) (hi : i < 32) : bt (x &&& ((nI 1 <<< (nI c &&& 31)) ^^^ (-1))) i = (bt x i && !decide (i = c)) := by
  rw [b_and, b_xor, b_m1 i hi, Bool.xor_true]
  congr 2
  exact bt_one c hc hi
/-- the interfaces above c, c itself left out -/
def upS (w : Nat → Int32) (v c i : Nat) : Bool := stB w v c i && !decide (i = c) && itB w v i
theorem M_iface (h : Wnt g R I w v nm r x y z) {c : Nat} (he : exC w v c = true) :
    ∃ S, (∀ i, i < 10 → S i = upS w v c i) ∧ fX9_interfaceMethod R (nI v) (nI c) (mm g I J Z) = some (oI (imW w v nm r y z S true), mm g (lkW w v nm r y z S I R 10) J Z) := by
  have hc := exC_lt he
  have hb : ∀ k, k < 32 → bt (spm w v c &&& ((nI 1 <<< (nI c &&& 31)) ^^^ (-1))) k = (stB w v c k && !decide (k = c)) := by
    intro k hk
    rw [bt_not1 (by omega) hk, spm_bits h.C hc (exC_ex he) k hk]
  refine ⟨seB w v (spm w v c &&& ((nI 1 <<< (nI c &&& 31)) ^^^ (-1))), fun i hi => by unfold seB upS; rw [hb i (by omega)], ?_⟩
  unfold fX9_interfaceMethod
  rw [M_cv h.G, h.sup hc, bd_some, M_cv h.G, M_looksAt h (fun k hk q => ?_), bd_some, gI_m h.G.1, Option.bind_some, lkW_13]
  · by_cases q : ct (gvW w v nm r y z (seB w v (spm w v c &&& ((nI 1 <<< (nI c &&& 31)) ^^^ (-1))))) 10 = 1
    · rw [if_pos (ct10.mpr q), gI_m h.G.1, Option.bind_some, lkW_14, (M_lkAns h.M).1 q]
    · rw [if_neg (fun e => q (ct10.mp e)), gI_m h.G.1, Option.bind_some, lkW_12, (M_lkAns h.M).2 q, if_pos rfl]
  · rw [hb k (by omega), Bool.and_eq_true] at q
    exact exC_of hk (stB_le h.C c hc (exC_ex he) k q.1).2
end Ls

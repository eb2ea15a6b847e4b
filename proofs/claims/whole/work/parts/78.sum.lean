/-! ===== the checksum ===== -/
def itN (F : Nat → Int64 → Int64) : Nat → Nat → Int64 → Int64
  | _, 0, s => s
  | k, d + 1, s => itN F (k + 1) d (F k s)
def mxN (s : Int64) (x : Int32) : Int64 := 31 * s + x.toInt64
def clsF (w : Nat → Int32) (v c : Nat) (s : Int64) : Int64 := if exC w v c = true then itN (fun k s => mxN s (infS w v c k)) 0 10 s else mxN s (-3)
def memF (w : Nat → Int32) (v m : Nat) (s : Int64) : Int64 := itN (fun k s => mxN s (mV w v m (k + 1))) 0 10 s
def verF (w : Nat → Int32) (v : Nat) (s : Int64) : Int64 := itN (memF w v) 0 (nmb w v) (mxN (itN (clsF w v) 0 10 s) (nI (nmb w v)))
def clN (w : Nat → Int32) (k : Nat) (F : (Nat → Int32) → Nat → Nat → Nat → Int32) : Int32 := F (rowC w k) (rowC w k 0).toNatClampNeg (rowC w k 1).toNatClampNeg (rowC w k 4).toNatClampNeg
def cliT (w : Nat → Int32) (k : Nat) (s : Int64) : Int64 := mxN (mxN (mxN (mxN (mxN (mxN (mxN s (clN w k fun r u c b => (comS w 0 r u c b).1)) (clN w k fun r u c b => (comS w 1 r u c b).1)) (clN w k fun r u c b => (lkS w 0 r u c b).1)) (clN w k fun r u c b => (lkS w 1 r u c b).1)) (clN w k fun r u c b => (lkS w 0 r u c b).2)) (clN w k fun r u c b => (lkS w 1 r u c b).2)) (vdR w k)
def cliF (w : Nat → Int32) (k : Nat) (s : Int64) : Int64 := cliT w k (itN (fun j s => mxN s (tldS (rowC w k) j)) 0 10 s)
def sumS (w : Nat → Int32) (n : Nat) (d : Nat → Int32) : Int64 := mxN (mxN (mxN (itN (cliF w) 0 (ncl w) (mxN (verF w 1 (verF w 0 17317)) (nI (ncl w)))) (d 0)) (d 1)) (nI n)
section Su
variable {g : Gr} {A R a : Nat} {I I' : Mem} {J : Nat → Nat → Int64} {Z : Option Nat} {w : Nat → Int32} {n v c m : Nat} {P : Nat → Nat → Int32} {d : Nat → Int32}
theorem C_num (s : Int64) (x : Int32) (h : AH) : fX8_withNumber s x h = some (mxN s x, h) := rfl
theorem C_wc24 (h : CB g I a w v) (he : exC w v c = true) {K : Nat → Int64 → Int32 → AH → Option (Int64 × AH)} : ∀ (e k f : Nat) (s : Int64), k + e = 10 → e < f → lX8_withClasses_24 K f a s (nI c) (nI k) (mm g I J Z) = fX8_withClasses_60 K a (itN (fun k s => mxN s (infS w v c k)) k e s) (nI c) (mm g I J Z) := by
  intro e
  induction e with
  | zero =>
    intro k f s hi hf
    obtain ⟨f, rfl⟩ : ∃ z, f = z + 1 := ⟨f - 1, by omega⟩
    show bX8_withClasses_24 K (lX8_withClasses_24 K f) _ _ _ _ _ = _
    unfold bX8_withClasses_24
    rw [if_pos (nI_lt (by omega) (by omega))]
    rfl
  | succ e ih =>
    intro k f s hi hf
    obtain ⟨f, rfl⟩ : ∃ z, f = z + 1 := ⟨f - 1, by omega⟩
    show bX8_withClasses_24 K (lX8_withClasses_24 K f) _ _ _ _ _ = _
    unfold bX8_withClasses_24
    rw [if_neg (nI_nlt (by omega) (by omega)), lib_cv h.L, C_val2 h he (by omega), bd_some, C_num, bd_some, nI_add, ih (k + 1) f _ (by omega) (by omega)]
    rfl
theorem C_wc5 (h : CB g I a w v) : ∀ (e c f : Nat) (s : Int64), c + e = 10 → e < f → lX8_withClasses_5 f a s (nI c) (mm g I J Z) = some (itN (clsF w v) c e s, mm g I J Z) := by
  intro e
  induction e with
  | zero =>
    intro c f s hi hf
    obtain ⟨f, rfl⟩ : ∃ z, f = z + 1 := ⟨f - 1, by omega⟩
    show bX8_withClasses_5 (lX8_withClasses_5 f) _ _ _ _ = _
    unfold bX8_withClasses_5
    rw [if_pos (nI_le (by omega) (by omega))]
    rfl
  | succ e ih =>
    intro c f s hi hf
    obtain ⟨f, rfl⟩ : ∃ z, f = z + 1 := ⟨f - 1, by omega⟩
    show bX8_withClasses_5 (lX8_withClasses_5 f) _ _ _ _ = _
    unfold bX8_withClasses_5
    rw [if_neg (nI_ge (by omega) (by omega)), lib_cv h.L, C_isThere h.L h.R (by omega), bd_some, bIf, itN]
    cases he : exC w v c
    · rw [if_ff, C_num, bd_some]
      unfold fX8_withClasses_60
      rw [nI_add, ih (c + 1) f _ (by omega) (by omega), show clsF w v c s = mxN s (-3) from by unfold clsF; rw [he, if_ff]]
    · rw [if_tt, C_wc24 h he 10 0 fuel s (by omega) (by unfold fuel; omega)]
      unfold fX8_withClasses_60
      rw [nI_add, ih (c + 1) f _ (by omega) (by omega), show clsF w v c s = itN (fun k s => mxN s (infS w v c k)) 0 10 s from by unfold clsF; rw [he, if_tt]]
theorem C_wm24 (h : CB g I a w v) (hm : m < nmb w v) {K : Nat → Int64 → Int32 → AH → Option (Int64 × AH)} : ∀ (e k f : Nat) (s : Int64), k + e = 10 → e < f → lX8_withMembers_24 K f (a + 6) s (nI m) (nI k) (mm g I J Z) = K (a + 6) (itN (fun k s => mxN s (mV w v m (k + 1))) k e s) (nI (m + 1)) (mm g I J Z) := by
  intro e
  induction e with
  | zero =>
    intro k f s hi hf
    obtain ⟨f, rfl⟩ : ∃ z, f = z + 1 := ⟨f - 1, by omega⟩
    show bX8_withMembers_24 K (lX8_withMembers_24 K f) _ _ _ _ _ = _
    unfold bX8_withMembers_24
    rw [if_pos (nI_lt (by omega) (by omega)), nI_add]
    rfl
  | succ e ih =>
    intro k f s hi hf
    obtain ⟨f, rfl⟩ : ∃ z, f = z + 1 := ⟨f - 1, by omega⟩
    show bX8_withMembers_24 K (lX8_withMembers_24 K f) _ _ _ _ _ = _
    unfold bX8_withMembers_24
    rw [if_neg (nI_nlt (by omega) (by omega)), mem_cv h.L.mem, C_val4 h.L (h.M.m40 hm) (by omega), bd_some, C_num, bd_some, nI_add, ih (k + 1) f _ (by omega) (by omega), h.R.m.2 (k + 1) (by omega) (by omega) m hm]
    rfl
theorem C_wm12 (h : CB g I a w v) : ∀ (e m f : Nat) (s : Int64), m + e = nmb w v → e < f → lX8_withMembers_12 f (a + 6) s (nI m) (mm g I J Z) = some (itN (memF w v) m e s, mm g I J Z) := by
  have hn := h.M.n40
  intro e
  induction e with
  | zero =>
    intro m f s hi hf
    obtain ⟨f, rfl⟩ : ∃ z, f = z + 1 := ⟨f - 1, by omega⟩
    show bX8_withMembers_12 (lX8_withMembers_12 f) _ _ _ _ = _
    unfold bX8_withMembers_12
    rw [C_size h.L h.R h.M, Option.bind_some, if_pos (nI_le (by omega) (by omega))]
    rfl
  | succ e ih =>
    intro m f s hi hf
    obtain ⟨f, rfl⟩ : ∃ z, f = z + 1 := ⟨f - 1, by omega⟩
    show bX8_withMembers_12 (lX8_withMembers_12 f) _ _ _ _ = _
    unfold bX8_withMembers_12
    rw [C_size h.L h.R h.M, Option.bind_some, if_neg (nI_ge (by omega) (by omega)), C_wm24 h (by omega) 10 0 fuel s (by omega) (by unfold fuel; omega), ih (m + 1) f _ (by omega) (by omega), itN]
    rfl
theorem clN_eq {u b k : Nat} {F : (Nat → Int32) → Nat → Nat → Nat → Int32} (hK : CK (rowC w k) u c b) : clN w k F = F (rowC w k) u c b := by
  obtain ⟨e1, e2, e3⟩ := hK.nums
  unfold clN
  rw [e1, e2, e3]
theorem C_tgt {p u b : Nat} {kk : Nat → Int32} (h : Rel g A I w n P d) (hp : PC g A p) (hkI : RK I p kk) (hK : CK kk u c b) (hS : SK kk u) (hv : v < 2) : ∃ I', fX8_targetOf A p (nI v) (mm g I J Z) = some ((lkS w v kk u c b).2, mm g I' J Z) ∧ Fvd A I I' := by
  obtain ⟨q, I3, t1, t2, t3, t4, t5⟩ := C_lnkV (J := J) (Z := Z) h hp hkI hK hS hv
  refine ⟨I3, ?_, t4⟩
  unfold fX8_targetOf
  rw [h.jg.V.p7, Option.bind_some, t1, Option.bind_some, cv_m t2, t3, bd_some, h.jg.V.p7, Option.bind_some, t1, Option.bind_some, gI_m t2, Option.bind_some, t5]
theorem C_wcl {k : Nat} (h : Rel g A I w n P d) (hk : k < ncl w) : ∀ (e j f : Nat) (s : Int64), j + e = 10 → e < f → ∃ I', lX8_withClient_6 f A (A + 1 + 43 + 2 * k) s (nI j) (mm g I J Z) = some (cliT w k (itN (fun j s => mxN s (tldS (rowC w k) j)) j e s), mm g I' J Z) ∧ FvC A I I' := by
  have hn := h.nc
  obtain ⟨u, c, b, hK, hS⟩ := h.W.2.2.2 k hk
  have hp := h.jg.pc (k := k) (by omega)
  intro e
  induction e with
  | zero =>
    intro j f s hi hf
    obtain ⟨f, rfl⟩ : ∃ z, f = z + 1 := ⟨f - 1, by omega⟩
    have hr := h.S.2.2 k hk
    obtain ⟨q1, I1, a1, a2, a3, a4⟩ := C_cmpV (J := J) (Z := Z) h hp hr.1 hK (v := 0) (by omega)
    have h1 := h.fvc a4.fvc
    have hr1 := h1.S.2.2 k hk
    obtain ⟨q2, I2, b1, b2, b3, b4⟩ := C_cmpV (J := J) (Z := Z) h1 hp hr1.1 hK (v := 1) (by omega)
    have h2 := h1.fvc b4.fvc
    obtain ⟨q3, I3, c1, c2, c3, c4, c5⟩ := C_lnkV (J := J) (Z := Z) h2 hp (h2.S.2.2 k hk) hK hS (v := 0) (by omega)
    have h3 := h2.fvc c4.fvc
    obtain ⟨q4, I4, d1, d2, d3, d4, d5⟩ := C_lnkV (J := J) (Z := Z) h3 hp (h3.S.2.2 k hk) hK hS (v := 1) (by omega)
    have h4 := h3.fvc d4.fvc
    obtain ⟨I5, e1, e2⟩ := C_tgt (J := J) (Z := Z) h4 hp (h4.S.2.2 k hk) hK hS (v := 0) (by omega)
    have h5 := h4.fvc e2.fvc
    obtain ⟨I6, f1, f2⟩ := C_tgt (J := J) (Z := Z) h5 hp (h5.S.2.2 k hk) hK hS (v := 1) (by omega)
    have h6 := h5.fvc f2.fvc
    obtain ⟨I7, g1, g2⟩ := C_vdR (J := J) (Z := Z) h6 hk
    refine ⟨I7, ?_, a4.fvc.trans (b4.fvc.trans (c4.fvc.trans (d4.fvc.trans (e2.fvc.trans (f2.fvc.trans g2.fvc)))))⟩
    show bX8_withClient_6 (lX8_withClient_6 f) _ _ _ _ _ = _
    unfold bX8_withClient_6
    rw [if_pos (nI_lt (by omega) (by omega)), h.jg.V.p6, Option.bind_some, a1, Option.bind_some, cv_m a2, a3, bd_some, C_num, bd_some,
      h.jg.V.p6, Option.bind_some, b1, Option.bind_some, cv_m b2, b3, bd_some, C_num, bd_some,
      h.jg.V.p7, Option.bind_some, c1, Option.bind_some, cv_m c2, c3, bd_some, C_num, bd_some,
      h.jg.V.p7, Option.bind_some, d1, Option.bind_some, cv_m d2, d3, bd_some, C_num, bd_some,
      h.jg.cv, e1, bd_some, C_num, bd_some, h.jg.cv, f1, bd_some, C_num, bd_some, h.jg.cv, g1, bd_some, C_num, bd_some]
    unfold cliT
    rw [clN_eq hK, clN_eq hK, clN_eq hK, clN_eq hK, clN_eq hK, clN_eq hK]
    rfl
  | succ e ih =>
    intro j f s hi hf
    obtain ⟨f, rfl⟩ : ∃ z, f = z + 1 := ⟨f - 1, by omega⟩
    obtain ⟨I3, t1, t2⟩ := ih (j + 1) f (mxN s (tldS (rowC w k) j)) (by omega) (by omega)
    refine ⟨I3, ?_, t2⟩
    show bX8_withClient_6 (lX8_withClient_6 f) _ _ _ _ _ = _
    unfold bX8_withClient_6
    rw [if_neg (nI_nlt (by omega) (by omega)), cln_cv (h.jg.S.cli (by omega)), C_val0 (h.jg.S.cli (by omega)) (h.S.2.2 k hk) (h.W.2.2.2 k hk).b (by omega), bd_some, C_num, bd_some, nI_add, t1]
    rfl
theorem C_ck62 : ∀ (e k f : Nat) (s : Int64) (I : Mem), Rel g A I w n P d → k + e = ncl w → e < f → ∃ I', lX8_checksum_62 f A s (nI k) (mm g I J Z) = some (mxN (mxN (mxN (itN (cliF w) k e s) (d 0)) (d 1)) (nI n), mm g I' J Z) ∧ FvC A I I' := by
  intro e
  induction e with
  | zero =>
    intro k f s I h hi hf
    have hn := h.nc
    obtain ⟨f, rfl⟩ : ∃ z, f = z + 1 := ⟨f - 1, by omega⟩
    refine ⟨I, ?_, FvC.refl⟩
    show bX8_checksum_62 (lX8_checksum_62 f) _ _ _ _ = _
    unfold bX8_checksum_62
    rw [h.jg.p0, Option.bind_some, h.sz, Option.bind_some, if_pos (nI_le (by omega) (by omega)), h.jg.p4, Option.bind_some, h.D (by decide), Option.bind_some, C_num, bd_some, h.jg.p4, Option.bind_some, h.D (by decide), Option.bind_some, C_num, bd_some, gI_m h.jg.K, Option.bind_some, h.2.2.1.2.2.1, C_num, bd_some]
    rfl
  | succ e ih =>
    intro k f s I h hi hf
    have hn := h.nc
    obtain ⟨f, rfl⟩ : ∃ z, f = z + 1 := ⟨f - 1, by omega⟩
    obtain ⟨I1, a1, a2⟩ := C_wcl (J := J) (Z := Z) (k := k) h (by omega) 10 0 fuel s (by omega) (by unfold fuel; omega)
    obtain ⟨I3, t1, t2⟩ := ih (k + 1) f (cliF w k s) I1 (h.fvc a2) (by omega) (by omega)
    refine ⟨I3, ?_, a2.trans t2⟩
    show bX8_checksum_62 (lX8_checksum_62 f) _ _ _ _ = _
    unfold bX8_checksum_62 fX8_withClient
    rw [h.jg.p0, Option.bind_some, h.sz, Option.bind_some, if_neg (nI_ge (by omega) (by omega)), Option.bind_some, st_p1 h.jg.S, Option.bind_some, st_cli h.jg.S (by omega), Option.bind_some, h.jg.cv, a1, bd_some, nI_add]
    exact t1
theorem C_ck6 (h : Rel g A I w n P d) (hv : v < 2) {f : Nat} {s : Int64} : lX8_checksum_6 (f + 1) A s (nI v) (mm g I J Z) = lX8_checksum_6 f A (verF w v s) (nI (v + 1)) (mm g I J Z) := by
  have hn := (h.cb hv).M.n40
  show bX8_checksum_6 (lX8_checksum_6 f) _ _ _ _ = _
  unfold bX8_checksum_6 fX8_withClasses fX8_withMembers
  rw [if_neg (nI_ge (by omega) (by omega)), h.jg.p0, Option.bind_some, st_p0 h.jg.S, Option.bind_some, st_lib h.jg.S hv, Option.bind_some, C_wc5 (h.cb hv) 10 0 fuel s (by omega) (by unfold fuel; omega), bd_some, h.jg.p0, Option.bind_some, st_p0 h.jg.S, Option.bind_some, st_lib h.jg.S hv, Option.bind_some, lib_p10 (h.jg.lib hv), Option.bind_some, C_size (h.jg.lib hv) (h.cb hv).R (h.cb hv).M, Option.bind_some, C_num, bd_some, C_wm12 (h.cb hv) (nmb w v) 0 fuel _ (by omega) (by unfold fuel; omega), bd_some, nI_add]
  rfl
theorem C_sum (h : Rel g A I w n P d) : ∃ I', fX8_checksum A (mm g I J Z) = some (sumS w n d, mm g I' J Z) ∧ FvC A I I' := by
  have hn := h.nc
  obtain ⟨I3, t1, t2⟩ := C_ck62 (J := J) (Z := Z) (ncl w) 0 fuel (mxN (verF w 1 (verF w 0 17317)) (nI (ncl w))) I h (by omega) (by unfold fuel; omega)
  refine ⟨I3, ?_, t2⟩
  unfold fX8_checksum
  rw [show fuel = 99999 + 1 from rfl, C_ck6 h (v := 0) (by omega), show (99999 : Nat) = 99998 + 1 from rfl, C_ck6 h (v := 1) (by omega)]
  show bX8_checksum_6 (lX8_checksum_6 99997) _ _ _ _ = _
  unfold bX8_checksum_6
  rw [if_pos (by decide), h.jg.p0, Option.bind_some, h.sz, Option.bind_some, C_num, bd_some]
  exact t1
/-! the reference -/
theorem up2_2 {α : Type} {f : Nat → Nat → α} {a k : Nat} {x y : α} : up2 (up2 f a k x) a k y = up2 f a k y := by
  funext b j
  unfold up2
  by_cases h : b = a ∧ j = k
  · rw [if_pos h, if_pos h]
  · rw [if_neg h, if_neg h, if_neg h]
theorem M_mix (hG : ModG g R) {s u : Int64} : fX9_mix R u (mm g I (up2 J R 19 s) Z) = some ((), mm g I (up2 J R 19 (31 * s + u)) Z) := by
  unfold fX9_mix
  rw [gJ_m hG.1, Option.bind_some, up2_at, if_pos rfl, pJ_m hG.1, Option.bind_some, up2_2]
/-- the reference's scratch alone has changed, and no refusal -/
def FvR (R : Nat) (I I' : Mem) : Prop := FvM R I I' ∧ I' R 3 = I R 3
theorem FvR.refl : FvR R I I := ⟨FvM.refl, rfl⟩
theorem FvR.trans {I'' : Mem} (h : FvR R I I') (h' : FvR R I' I'') : FvR R I I'' := ⟨h.1.trans h'.1, h'.2.trans h.2⟩
theorem Fj.fvr (h : Fj R I I') : FvR R I I' := ⟨h.fvm, h.2 3 (by omega) (by omega)⟩
theorem Fm.fvr (h : Fm R I I') : FvR R I I' := h.fj.fvr
theorem Fl.fvr (h : Fl R I I') : FvR R I I' := h.fj.fvr
theorem Fw.fvr (h : Fw R I I') : FvR R I I' := h.fm.fvr
theorem fvr_5 (h : ∀ y, y ≠ R + 5 → I' y = I y) : FvR R I I' := ⟨fvm_5 h, by rw [h R (by omega)]⟩
theorem M_ck49 (hv : v < 2) (he : exC w v c = true) {K14 : Nat → Int32 → AH → Option (Int64 × AH)} {K21 : Nat → Int32 → Int32 → AH → Option (Int64 × AH)} : ∀ (e k f : Nat) (s : Int64) (I : Mem), MRel g A I w n P d → k + e = 10 → e < f → ∃ I', lX9_checksum_49 K14 K21 f (A + 418) (nI v) (nI c) (nI k) (mm g I (up2 J (A + 418) 19 s) Z) = K21 (A + 418) (nI v) (nI (c + 1)) (mm g I' (up2 J (A + 418) 19 (itN (fun k s => mxN s (infS w v c k)) k e s)) Z) ∧ FvR (A + 418) I I' := by
  intro e
  induction e with
  | zero =>
    intro k f s I h hi hf
    obtain ⟨f, rfl⟩ : ∃ z, f = z + 1 := ⟨f - 1, by omega⟩
    refine ⟨I, ?_, FvR.refl⟩
    show bX9_checksum_49 K14 K21 (lX9_checksum_49 K14 K21 f) _ _ _ _ _ = _
    unfold bX9_checksum_49 fX9_checksum_73
    rw [if_pos (nI_le (by omega) (by omega)), nI_add]
    rfl
  | succ e ih =>
    intro k f s I h hi hf
    obtain ⟨f, rfl⟩ : ∃ z, f = z + 1 := ⟨f - 1, by omega⟩
    obtain ⟨I1, a1, a2⟩ := M_info (J := up2 J (A + 418) 19 s) (Z := Z) (k := k) (h.mb hv) he (by omega)
    obtain ⟨I3, t1, t2⟩ := ih (k + 1) f (mxN s (infS w v c k)) I1 (h.fvm a2.fvm) (by omega) (by omega)
    refine ⟨I3, ?_, a2.fvr.trans t2⟩
    show bX9_checksum_49 K14 K21 (lX9_checksum_49 K14 K21 f) _ _ _ _ _ = _
    unfold bX9_checksum_49
    rw [if_neg (nI_ge (by omega) (by omega)), M_cv h.G, a1, bd_some, M_cv h.G, M_mix h.G, bd_some, nI_add]
    exact t1
theorem M_ck102 (hv : v < 2) (hm : m < nmb w v) {K14 : Nat → Int32 → AH → Option (Int64 × AH)} {K91 : Nat → Int32 → Int32 → AH → Option (Int64 × AH)} (h : MRel g A I w n P d) : ∀ (e k f : Nat) (s : Int64), k + e = 10 → e < f → lX9_checksum_102 K14 K91 f (A + 418) (nI v) (nI m) (nI k) (mm g I (up2 J (A + 418) 19 s) Z) = K91 (A + 418) (nI v) (nI (m + 1)) (mm g I (up2 J (A + 418) 19 (itN (fun k s => mxN s (mV w v m (k + 1))) k e s)) Z) := by
  intro e
  induction e with
  | zero =>
    intro k f s hi hf
    obtain ⟨f, rfl⟩ : ∃ z, f = z + 1 := ⟨f - 1, by omega⟩
    show bX9_checksum_102 K14 K91 (lX9_checksum_102 K14 K91 f) _ _ _ _ _ = _
    unfold bX9_checksum_102
    rw [if_pos (nI_le (by omega) (by omega)), nI_add]
    rfl
  | succ e ih =>
    intro k f s hi hf
    obtain ⟨f, rfl⟩ : ∃ z, f = z + 1 := ⟨f - 1, by omega⟩
    show bX9_checksum_102 K14 K91 (lX9_checksum_102 K14 K91 f) _ _ _ _ _ = _
    unfold bX9_checksum_102
    rw [if_neg (nI_ge (by omega) (by omega)), M_cv h.G, M_told (h.mb hv) hm (by omega), bd_some, M_cv h.G, M_mix h.G, bd_some, nI_add]
    exact ih (k + 1) f _ (by omega) (by omega)
theorem M_ck91 (hv : v < 2) {K14 : Nat → Int32 → AH → Option (Int64 × AH)} (h : MRel g A I w n P d) : ∀ (e m f : Nat) (s : Int64), m + e = nmb w v → e < f → lX9_checksum_91 K14 f (A + 418) (nI v) (nI m) (mm g I (up2 J (A + 418) 19 s) Z) = K14 (A + 418) (nI (v + 1)) (mm g I (up2 J (A + 418) 19 (itN (memF w v) m e s)) Z) := by
  have hn := (h.mb hv).M.n40
  intro e
  induction e with
  | zero =>
    intro m f s hi hf
    obtain ⟨f, rfl⟩ : ∃ z, f = z + 1 := ⟨f - 1, by omega⟩
    show bX9_checksum_91 K14 (lX9_checksum_91 K14 f) _ _ _ _ = _
    unfold bX9_checksum_91
    rw [M_cv h.G, (h.mb hv).many, bd_some, if_pos (nI_le (by omega) (by omega)), nI_add]
    rfl
  | succ e ih =>
    intro m f s hi hf
    obtain ⟨f, rfl⟩ : ∃ z, f = z + 1 := ⟨f - 1, by omega⟩
    show bX9_checksum_91 K14 (lX9_checksum_91 K14 f) _ _ _ _ = _
    unfold bX9_checksum_91
    rw [M_cv h.G, (h.mb hv).many, bd_some, if_neg (nI_ge (by omega) (by omega)), M_ck102 hv (by omega) h 10 0 fuel s (by omega) (by unfold fuel; omega)]
    exact ih (m + 1) f _ (by omega) (by omega)
theorem M_ck21 (hv : v < 2) {K14 : Nat → Int32 → AH → Option (Int64 × AH)} : ∀ (e c f : Nat) (s : Int64) (I : Mem), MRel g A I w n P d → c + e = 10 → e < f → ∃ I', lX9_checksum_21 K14 f (A + 418) (nI v) (nI c) (mm g I (up2 J (A + 418) 19 s) Z) = K14 (A + 418) (nI (v + 1)) (mm g I' (up2 J (A + 418) 19 (itN (memF w v) 0 (nmb w v) (mxN (itN (clsF w v) c e s) (nI (nmb w v))))) Z) ∧ FvR (A + 418) I I' := by
  intro e
  induction e with
  | zero =>
    intro c f s I h hi hf
    have hn := (h.mb hv).M.n40
    obtain ⟨f, rfl⟩ : ∃ z, f = z + 1 := ⟨f - 1, by omega⟩
    refine ⟨I, ?_, FvR.refl⟩
    show bX9_checksum_21 K14 (lX9_checksum_21 K14 f) _ _ _ _ = _
    unfold bX9_checksum_21
    rw [if_pos (nI_le (by omega) (by omega)), M_cv h.G, (h.mb hv).many, bd_some, M_cv h.G, M_mix h.G, bd_some]
    exact M_ck91 hv h (nmb w v) 0 fuel _ (by omega) (by unfold fuel; omega)
  | succ e ih =>
    intro c f s I h hi hf
    obtain ⟨f, rfl⟩ : ∃ z, f = z + 1 := ⟨f - 1, by omega⟩
    have hc : c < 10 := by omega
    show ∃ I', bX9_checksum_21 K14 (lX9_checksum_21 K14 f) _ _ _ _ = _ ∧ _
    unfold bX9_checksum_21
    cases he : exC w v c
    · obtain ⟨I3, t1, t2⟩ := ih (c + 1) f (mxN s (-3)) I h (by omega) (by omega)
      refine ⟨I3, ?_, t2⟩
      have e0 : cl w v c 0 = 0 := by
        rcases (h.W.1 v hv).1.2.1 c hc with q | q
        · exact q
        · rw [exC_of hc q] at he; cases he
      rw [if_neg (nI_ge (by omega) (by omega)), M_cv h.G, (h.mb hv).of hc (by decide), bd_some, if_pos e0, M_cv h.G, M_mix h.G, bd_some]
      unfold fX9_checksum_73
      rw [nI_add, itN, show clsF w v c s = mxN s (-3) from by unfold clsF; rw [he, if_ff]]
      exact t1
    · obtain ⟨I1, a1, a2⟩ := M_ck49 (J := J) (Z := Z) (K14 := K14) (K21 := lX9_checksum_21 K14 f) hv he 10 0 fuel s I h (by omega) (by unfold fuel; omega)
      obtain ⟨I3, t1, t2⟩ := ih (c + 1) f (itN (fun k s => mxN s (infS w v c k)) 0 10 s) I1 (h.fvm a2.1) (by omega) (by omega)
      refine ⟨I3, ?_, a2.trans t2⟩
      rw [if_neg (nI_ge (by omega) (by omega)), M_cv h.G, (h.mb hv).of hc (by decide), bd_some, exC_ex he, if_neg (by decide), a1, show itN (clsF w v) c (e + 1) s = itN (clsF w v) (c + 1) e (clsF w v c s) from rfl, show clsF w v c s = itN (fun k s => mxN s (infS w v c k)) 0 10 s from by unfold clsF; rw [he, if_tt]]
      exact t1
theorem M_ck159 {k : Nat} (hk : k < ncl w) {K : Nat → Int32 → AH → Option (Int64 × AH)} (h : MRel g A I w n P d) : ∀ (e j f : Nat) (s : Int64), j + e = 10 → e < f → ∃ I', lX9_checksum_159 K f (A + 418) (nI k) (nI j) (mm g I (up2 J (A + 418) 19 s) Z) = K (A + 418) (nI (k + 1)) (mm g I' (up2 J (A + 418) 19 (cliT w k (itN (fun j s => mxN s (tldS (rowC w k) j)) j e s))) Z) ∧ FvR (A + 418) I I' := by
  have hn := h.nc
  obtain ⟨u, c, b, hK, hS⟩ := h.W.2.2.2 k hk
  intro e
  induction e with
  | zero =>
    intro j f s hi hf
    obtain ⟨f, rfl⟩ : ∃ z, f = z + 1 := ⟨f - 1, by omega⟩
    obtain ⟨I0, z1, z2, z3⟩ := M_take (I := I) (J := up2 J (A + 418) 19 s) (Z := Z) (k := k) h.G h.row (by omega)
    have h0 := h.fvm (fvm_5 z2)
    obtain ⟨I1, a1, a2, a3⟩ := M_comp (J := up2 J (A + 418) 19 s) (Z := Z) (h0.mb (v := 0) (by omega)) (hK.cg z3)
    have h1 := h0.fvm a2.fvm
    have z4 : ∀ j, j < 16 → I1 (A + 418 + 5) j = rowC w k j := fun j hj => by rw [a2.r5]; exact z3 j hj
    rw [comS_cg z3] at a1
    obtain ⟨I2, b1, b2, b3⟩ := M_comp (J := up2 J (A + 418) 19 (mxN s (comS w 0 (rowC w k) u c b).1)) (Z := Z) (h1.mb (v := 1) (by omega)) (hK.cg z4)
    have h2 := h1.fvm b2.fvm
    have z5 : ∀ j, j < 16 → I2 (A + 418 + 5) j = rowC w k j := fun j hj => by rw [b2.r5]; exact z4 j hj
    rw [comS_cg z4] at b1
    obtain ⟨I3, c1, c2, c3⟩ := M_link (J := up2 J (A + 418) 19 (mxN (mxN s (comS w 0 (rowC w k) u c b).1) (comS w 1 (rowC w k) u c b).1)) (Z := Z) (h2.mb (v := 0) (by omega)) (hK.cg z5) (hS.cg z5)
    have h3 := h2.fvm c2.fvm
    have z6 : ∀ j, j < 16 → I3 (A + 418 + 5) j = rowC w k j := fun j hj => by rw [c2.r5]; exact z5 j hj
    rw [lkS_cg z5] at c1 c3
    obtain ⟨I4, d1, d2, d3⟩ := M_link (J := up2 J (A + 418) 19 (mxN (mxN (mxN s (comS w 0 (rowC w k) u c b).1) (comS w 1 (rowC w k) u c b).1) (lkS w 0 (rowC w k) u c b).1)) (Z := Z) (h3.mb (v := 1) (by omega)) (hK.cg z6) (hS.cg z6)
    have h4 := h3.fvm d2.fvm
    have z7 : ∀ j, j < 16 → I4 (A + 418 + 5) j = rowC w k j := fun j hj => by rw [d2.r5]; exact z6 j hj
    rw [lkS_cg z6] at d1 d3
    obtain ⟨I5, e1, e2⟩ := M_vdR (J := up2 J (A + 418) 19 (mxN (mxN (mxN (mxN (mxN (mxN s (comS w 0 (rowC w k) u c b).1) (comS w 1 (rowC w k) u c b).1) (lkS w 0 (rowC w k) u c b).1) (lkS w 1 (rowC w k) u c b).1) (lkS w 0 (rowC w k) u c b).2) (lkS w 1 (rowC w k) u c b).2)) (Z := Z) h4 hk z7
    refine ⟨I5, ?_, (fvr_5 z2).trans (a2.fvr.trans (b2.fvr.trans (c2.fvr.trans (d2.fvr.trans e2.fvr))))⟩
    show bX9_checksum_159 K (lX9_checksum_159 K f) _ _ _ _ = _
    unfold bX9_checksum_159
    have mx : ∀ (I : Mem) (s : Int64) (x : Int32), fX9_mix (A + 418) x.toInt64 (mm g I (up2 J (A + 418) 19 s) Z) = some ((), mm g I (up2 J (A + 418) 19 (mxN s x)) Z) := fun I s x => M_mix h.G
    rw [if_pos (nI_le (by omega) (by omega)), M_cv h.G, z1, bd_some, M_cv h.G, a1, bd_some, M_cv h.G, mx, bd_some, M_cv h.G, b1, bd_some, M_cv h.G, mx, bd_some, M_cv h.G, c1, bd_some, M_cv h.G, mx, bd_some, gI_m h.G.1, Option.bind_some, c3, M_cv h.G, d1, bd_some, M_cv h.G, mx, bd_some, M_cv h.G, mx, bd_some, gI_m h.G.1, Option.bind_some, d3, M_cv h.G, mx, bd_some, M_cv h.G, e1, bd_some, M_cv h.G, mx, bd_some, nI_add]
    unfold cliT
    rw [clN_eq hK, clN_eq hK, clN_eq hK, clN_eq hK, clN_eq hK, clN_eq hK]
    rfl
  | succ e ih =>
    intro j f s hi hf
    obtain ⟨f, rfl⟩ : ∃ z, f = z + 1 := ⟨f - 1, by omega⟩
    obtain ⟨I3, t1, t2⟩ := ih (j + 1) f (mxN s (tldS (rowC w k) j)) (by omega) (by omega)
    refine ⟨I3, ?_, t2⟩
    show bX9_checksum_159 K (lX9_checksum_159 K f) _ _ _ _ = _
    unfold bX9_checksum_159
    rw [if_neg (nI_ge (by omega) (by omega)), M_cv h.G, M_cTold h.G h.row (by omega) (by omega), bd_some, M_cv h.G, M_mix h.G, bd_some, nI_add]
    exact t1
theorem M_ck149 : ∀ (e k f : Nat) (s : Int64) (I : Mem), MRel g A I w n P d → k + e = ncl w → e < f → ∃ I' J', lX9_checksum_149 f (A + 418) (nI k) (mm g I (up2 J (A + 418) 19 s) Z) = some (mxN (mxN (mxN (itN (cliF w) k e s) (d 0)) (d 1)) (nI n), mm g I' J' Z) ∧ FvR (A + 418) I I' := by
  intro e
  induction e with
  | zero =>
    intro k f s I h hi hf
    have hn := h.nc
    obtain ⟨r1, r2, r3, r4, r5, r6, r7, r8, r9⟩ := h.2.1
    obtain ⟨f, rfl⟩ : ∃ z, f = z + 1 := ⟨f - 1, by omega⟩
    have mx : ∀ (I : Mem) (s : Int64) (x : Int32), fX9_mix (A + 418) x.toInt64 (mm g I (up2 J (A + 418) 19 s) Z) = some ((), mm g I (up2 J (A + 418) 19 (mxN s x)) Z) := fun I s x => M_mix h.G
    refine ⟨I, up2 J (A + 418) 19 (mxN (mxN (mxN s (d 0)) (d 1)) (nI n)), ?_, FvR.refl⟩
    show bX9_checksum_149 (lX9_checksum_149 f) _ _ _ = _
    unfold bX9_checksum_149
    rw [M_cv h.G, M_cmany h, bd_some, if_pos (nI_le (by omega) (by omega)), h.G.p4, Option.bind_some, h.G.ld3 (by decide), Option.bind_some, r6, M_cv h.G, mx, bd_some, h.G.p4, Option.bind_some, h.G.ld3 (by decide), Option.bind_some, r7, M_cv h.G, mx, bd_some, gI_m h.G.1, Option.bind_some, r4, M_cv h.G, mx, bd_some, gJ_m h.G.1, Option.bind_some, up2_at, if_pos rfl]
    rfl
  | succ e ih =>
    intro k f s I h hi hf
    have hn := h.nc
    obtain ⟨f, rfl⟩ : ∃ z, f = z + 1 := ⟨f - 1, by omega⟩
    obtain ⟨I1, a1, a2⟩ := M_ck159 (J := J) (Z := Z) (k := k) (by omega) (K := lX9_checksum_149 f) h 10 0 fuel s (by omega) (by unfold fuel; omega)
    obtain ⟨I3, J3, t1, t2⟩ := ih (k + 1) f (cliF w k s) I1 (h.fvm a2.1) (by omega) (by omega)
    refine ⟨I3, J3, ?_, a2.trans t2⟩
    show bX9_checksum_149 (lX9_checksum_149 f) _ _ _ = _
    unfold bX9_checksum_149
    rw [M_cv h.G, M_cmany h, bd_some, if_neg (nI_ge (by omega) (by omega)), a1]
    exact t1
theorem M_sum (h : MRel g A I w n P d) : ∃ I' J', fX9_checksum (A + 418) (mm g I J Z) = some (sumS w n d, mm g I' J' Z) ∧ FvM (A + 418) I I' := by
  have hn := h.nc
  have h0 := h.up3 (x := nI 0)
  obtain ⟨I1, a1, a2⟩ := M_ck21 (J := J) (Z := Z) (v := 0) (by omega) (K14 := lX9_checksum_14 99999) 10 0 fuel 17317 _ h0 (by omega) (by unfold fuel; omega)
  have h1 := h0.fvm a2.1
  obtain ⟨I2, b1, b2⟩ := M_ck21 (J := J) (Z := Z) (v := 1) (by omega) (K14 := lX9_checksum_14 99998) 10 0 fuel (verF w 0 17317) _ h1 (by omega) (by unfold fuel; omega)
  have h2 := h1.fvm b2.1
  obtain ⟨I3, J3, t1, t2⟩ := M_ck149 (J := J) (Z := Z) (ncl w) 0 fuel (mxN (verF w 1 (verF w 0 17317)) (nI (ncl w))) I2 h2 (by omega) (by unfold fuel; omega)
  refine ⟨I3, J3, ?_, fvm_3.trans (a2.1.trans (b2.1.trans t2.1))⟩
  unfold fX9_checksum
  rw [pI_m h.G.1, Option.bind_some, pJ_m h.G.1, Option.bind_some]
  show bX9_checksum_14 (lX9_checksum_14 99999) _ _ _ = _
  unfold bX9_checksum_14
  rw [if_neg (by decide), a1]
  show bX9_checksum_14 (lX9_checksum_14 99998) _ _ _ = _
  unfold bX9_checksum_14
  rw [if_neg (by decide), show mm g I1 (up2 J (A + 418) 19 (itN (memF w 0) 0 (nmb w 0) (mxN (itN (clsF w 0) 0 10 17317) (nI (nmb w 0))))) Z = mm g I1 (up2 J (A + 418) 19 (verF w 0 17317)) Z from rfl, b1]
  show bX9_checksum_14 (lX9_checksum_14 99997) _ _ _ = _
  unfold bX9_checksum_14
  rw [if_pos (by decide), M_cv h.G, M_cmany h2, bd_some, M_cv h.G, M_mix h.G, bd_some]
  exact t1
end Su

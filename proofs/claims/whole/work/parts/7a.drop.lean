/-! ===== members go: dropAt, drops, removeMember ===== -/
def mvI (I : Mem) (b f t j : Nat) : Mem := fun x k => if b + 1 ≤ x ∧ x ≤ b + j ∧ k = t then I x f else I x k
def dropW (w : Nat → Int32) (v m n : Nat) : Nat → Int32 := fun j => if 481 * v + 81 + 10 * m ≤ j ∧ j < 481 * v + 81 + 10 * (n - 1) then w (j + 10) else if j = 481 * v + 80 then nI (n - 1) else w j
def skp (m k : Nat) : Nat := if k < m then k else k + 1
section Dr
variable {g : Gr} {A R a b : Nat} {I I' : Mem} {J : Nat → Nat → Int64} {Z : Option Nat} {w w' : Nat → Int32} {n k v c m : Nat} {P : Nat → Nat → Int32} {d : Nat → Int32} {x y z : Int32}
theorem skp_lo (h : k < m) : skp m k = k := if_pos h
theorem skp_hi (h : m ≤ k) : skp m k = k + 1 := if_neg (by omega)
theorem mvI_in {f t j i k : Nat} (h1 : 1 ≤ i) (h2 : i ≤ j) : mvI I b f t j (b + i) k = if k = t then I (b + i) f else I (b + i) k := by
  unfold mvI
  by_cases e : k = t
  · rw [if_pos (by omega), if_pos e]
  · rw [if_neg (by omega), if_neg e]
theorem mvI_out {f t j x : Nat} (h : x < b + 1 ∨ b + j < x) : mvI I b f t j x = I x := by
  funext k
  unfold mvI
  rw [if_neg (by omega)]
theorem C_move (hM : MemG g b) {f t : Nat} (hf : f < 40) (ht : t < 40) : fX4_moveRow b (nI f) (nI t) (mm g I J Z) = some ((), mm g (mvI I b f t 12) J Z) := by
  have st : ∀ i j, j = i + 1 → up2 (mvI I b f t i) (b + j) t (mvI I b f t i (b + j) f) = mvI I b f t j := by
    intro i j e
    rw [mvI_out (x := b + j) (by omega)]
    funext x k
    by_cases q : x = b + j
    · subst q
      rw [up2_at, mvI_in (by omega) (Nat.le_refl _), mvI_out (by omega)]
    · rw [up2_ne q]
      unfold mvI
      by_cases q2 : b + 1 ≤ x ∧ x ≤ b + i ∧ k = t
      · rw [if_pos q2, if_pos (by omega)]
      · rw [if_neg q2, if_neg (by omega)]
  have st1 : up2 I (b + 1) t (I (b + 1) f) = mvI I b f t 1 := by
    have := st 0 1 rfl
    rw [show mvI I b f t 0 = I from by funext x; exact mvI_out (by omega)] at this
    exact this
  unfold fX4_moveRow
  rw [mem_p1 hM, Option.bind_some, Option.bind_some, mem_l1 hM hf, Option.bind_some, mem_s1 hM ht, Option.bind_some, st1, mem_p2 hM, Option.bind_some, Option.bind_some, mem_l2 hM hf, Option.bind_some, mem_s2 hM ht, Option.bind_some, st 1 2 rfl, mem_p3 hM, Option.bind_some, Option.bind_some, mem_l3 hM hf, Option.bind_some, mem_s3 hM ht, Option.bind_some, st 2 3 rfl, mem_p4 hM, Option.bind_some, Option.bind_some, mem_l4 hM hf, Option.bind_some, mem_s4 hM ht, Option.bind_some, st 3 4 rfl, mem_p5 hM, Option.bind_some, Option.bind_some, mem_l5 hM hf, Option.bind_some, mem_s5 hM ht, Option.bind_some, st 4 5 rfl, mem_p6 hM, Option.bind_some, Option.bind_some, mem_l6 hM hf, Option.bind_some, mem_s6 hM ht, Option.bind_some, st 5 6 rfl, mem_p7 hM, Option.bind_some, Option.bind_some, mem_l7 hM hf, Option.bind_some, mem_s7 hM ht, Option.bind_some, st 6 7 rfl, mem_p8 hM, Option.bind_some, Option.bind_some, mem_l8 hM hf, Option.bind_some, mem_s8 hM ht, Option.bind_some, st 7 8 rfl, mem_p9 hM, Option.bind_some, Option.bind_some, mem_l9 hM hf, Option.bind_some, mem_s9 hM ht, Option.bind_some, st 8 9 rfl, mem_p10 hM, Option.bind_some, Option.bind_some, mem_l10 hM hf, Option.bind_some, mem_s10 hM ht, Option.bind_some, st 9 10 rfl, mem_p11 hM, Option.bind_some, Option.bind_some, mem_l11 hM hf, Option.bind_some, mem_s11 hM ht, Option.bind_some, st 10 11 rfl, mem_p12 hM, Option.bind_some, Option.bind_some, mem_l12 hM hf, Option.bind_some, mem_s12 hM ht, Option.bind_some, st 11 12 rfl]
theorem C_dropL (hM : MemG g b) (hn : n ≤ 40) : ∀ (e k f : Nat) (I : Mem), k + 1 + e = n → e < f → I b 0 = nI n → ∃ I', lX4_dropAt_2 f b (nI k) (mm g I J Z) = some ((), mm g I' J Z) ∧ (∀ x, x < b ∨ b + 13 ≤ x → I' x = I x) ∧ I' b 0 = nI (n - 1) ∧ ∀ j, 1 ≤ j → j ≤ 12 → ∀ i, i < n - 1 → I' (b + j) i = I (b + j) (skp k i) := by
  intro e
  induction e with
  | zero =>
    intro k f I hi hf h0
    obtain ⟨f, rfl⟩ : ∃ z, f = z + 1 := ⟨f - 1, by omega⟩
    refine ⟨up2 I b 0 (nI (n - 1)), ?_, fun x hx => up2_ne (by omega), by rw [up2_at, if_pos rfl], fun j h1 h2 i hi2 => by rw [up2_ne (by omega)]; rw [skp_lo (by omega)]⟩
    show bX4_dropAt_2 (lX4_dropAt_2 f) b _ _ = _
    unfold bX4_dropAt_2
    rw [mem_gI hM, Option.bind_some, h0, nI_add, if_pos (nI_le (by omega) (by omega)), Option.bind_some, pk_sub (by omega), mem_pI hM, Option.bind_some]
  | succ e ih =>
    intro k f I hi hf h0
    obtain ⟨f, rfl⟩ : ∃ z, f = z + 1 := ⟨f - 1, by omega⟩
    obtain ⟨I3, t1, t2, t3, t4⟩ := ih (k + 1) f (mvI I b (k + 1) k 12) (by omega) (by omega) (by rw [mvI_out (by omega)]; exact h0)
    refine ⟨I3, ?_, fun x hx => by rw [t2 x hx, mvI_out (by omega)], t3, fun j h1 h2 i hi2 => ?_⟩
    · show bX4_dropAt_2 (lX4_dropAt_2 f) b _ _ = _
      unfold bX4_dropAt_2
      rw [mem_gI hM, Option.bind_some, h0, nI_add, if_neg (nI_ge (by omega) (by omega)), mem_cv hM, C_move hM (by omega) (by omega), bd_some]
      exact t1
    · rw [t4 j h1 h2 i hi2, mvI_in h1 h2]
      by_cases q1 : i < k
      · rw [skp_lo (m := k + 1) (by omega), skp_lo q1, if_neg (by omega)]
      · by_cases q2 : i = k
        · rw [skp_lo (m := k + 1) (by omega), skp_hi (m := k) (by omega), if_pos q2, q2]
        · rw [skp_hi (m := k + 1) (by omega), skp_hi (m := k) (by omega), if_neg (by omega)]
theorem M_dropL (hG : ModG g R) (hv : v < 2) (hn : n ≤ 40) : ∀ (e i f : Nat) (I : Mem), i + e = 481 * v + 81 + 10 * (n - 1) → 481 * v + 81 ≤ i → 1 ≤ n → e < f → mn (I (R + 1)) v = nI n → ∃ I', lX9_drops_6 f R (nI v) (nI i) (mm g I J Z) = some ((), mm g I' J Z) ∧ (∀ x, x ≠ R + 1 → I' x = I x) ∧ ∀ j, I' (R + 1) j = if i ≤ j ∧ j < 481 * v + 81 + 10 * (n - 1) then I (R + 1) (j + 10) else if j = 481 * v + 80 then nI (n - 1) else I (R + 1) j := by
  have ix : ∀ m, nI 481 * nI v + nI 81 + nI 10 * nI m = nI (481 * v + 81 + 10 * m) := fun m => by rw [pk_mul, pk_mul, nI_add, nI_add]
  intro e
  induction e with
  | zero =>
    intro i f I hi h81 h1 hf hmn
    obtain ⟨f, rfl⟩ : ∃ z, f = z + 1 := ⟨f - 1, by omega⟩
    refine ⟨up2 I (R + 1) (481 * v + 80) (nI (n - 1)), ?_, fun x hx => up2_ne hx, fun j => by rw [up2_at, if_neg (show ¬ (i ≤ j ∧ j < 481 * v + 81 + 10 * (n - 1)) by omega)]⟩
    show bX9_drops_6 (lX9_drops_6 f) R _ _ _ = _
    unfold bX9_drops_6 fX9_member
    have e80 : I (R + 1) (481 * v + 80) = nI n := hmn
    rw [M_cv hG, M_many hG hv, bd_some, hmn, pk_sub (by omega), ix, bd_some, if_pos (nI_le (by omega) (by omega)), hG.p0, Option.bind_some, pk_mul, nI_add, hG.ld1 (by omega), Option.bind_some, e80, pk_sub (by omega), hG.st1 (by omega), Option.bind_some]
  | succ e ih =>
    intro i f I hi h81 h1 hf hmn
    obtain ⟨f, rfl⟩ : ∃ z, f = z + 1 := ⟨f - 1, by omega⟩
    obtain ⟨I3, t1, t2, t3⟩ := ih (i + 1) f (up2 I (R + 1) i (I (R + 1) (i + 10))) (by omega) (by omega) h1 (by omega) (by show up2 I (R + 1) i (I (R + 1) (i + 10)) (R + 1) (481 * v + 80) = nI n; rw [up2_at, if_neg (by omega)]; exact hmn)
    refine ⟨I3, ?_, fun x hx => (t2 x hx).trans (up2_ne hx), fun j => ?_⟩
    · show bX9_drops_6 (lX9_drops_6 f) R _ _ _ = _
      unfold bX9_drops_6 fX9_member
      rw [M_cv hG, M_many hG hv, bd_some, hmn, pk_sub (by omega), ix, bd_some, if_neg (nI_ge (by omega) (by omega)), hG.p0, Option.bind_some, Option.bind_some, nI_add, hG.ld1 (by omega), Option.bind_some, hG.st1 (by omega), Option.bind_some, nI_add]
      exact t1
    · rw [t3 j, up2_at, up2_at]
      by_cases q : i + 1 ≤ j ∧ j < 481 * v + 81 + 10 * (n - 1)
      · rw [if_pos q, if_pos (show i ≤ j ∧ j < 481 * v + 81 + 10 * (n - 1) by omega), if_neg (show ¬ j + 10 = i by omega)]
      · rw [if_neg q]
        by_cases e : j = i
        · rw [if_neg (show ¬ j = 481 * v + 80 by omega), if_pos e, if_pos (show i ≤ j ∧ j < 481 * v + 81 + 10 * (n - 1) by omega), e]
        · rw [if_neg e, if_neg (show ¬ (i ≤ j ∧ j < 481 * v + 81 + 10 * (n - 1)) by omega)]
theorem M_drops (hG : ModG g R) (hv : v < 2) (hn : n ≤ 40) (hm : m < n) (hmn : mn (I (R + 1)) v = nI n) : ∃ I', fX9_drops R (nI v) (nI m) (mm g I J Z) = some ((), mm g I' J Z) ∧ (∀ x, x ≠ R + 1 → I' x = I x) ∧ I' (R + 1) = dropW (I (R + 1)) v m n := by
  obtain ⟨I3, t1, t2, t3⟩ := M_dropL (J := J) (Z := Z) hG hv hn (10 * (n - 1) - 10 * m) (481 * v + 81 + 10 * m) fuel I (by omega) (by omega) (by omega) (by unfold fuel; omega) hmn
  refine ⟨I3, ?_, t2, by funext j; rw [t3 j]; rfl⟩
  unfold fX9_drops fX9_member
  rw [pk_mul, pk_mul, nI_add, nI_add, bd_some]
  exact t1
theorem dropW_mb (hm : m < n) (hn : n ≤ 40) {k p : Nat} (hk : k < n - 1) (hp : p < 10) : mb (dropW w v m n) v k p = mb w v (skp m k) p := by
  unfold mb dropW skp
  by_cases q : k < m
  · rw [if_pos q, if_neg (by omega), if_neg (by omega)]
  · rw [if_neg q, if_pos (by omega), show 481 * v + 81 + 10 * k + p + 10 = 481 * v + 81 + 10 * (k + 1) + p from by omega]
theorem dropW_mn : mn (dropW w v m n) v = nI (n - 1) := by
  unfold mn dropW
  rw [if_neg (by omega), if_pos rfl]
theorem dropW_cl {c p : Nat} (hc : c < 10) (hp : p < 8) : cl (dropW w v m n) v c p = cl w v c p := by
  unfold cl dropW
  rw [if_neg (by omega), if_neg (by omega)]
theorem dropW_out (hn : n ≤ 40) {i : Nat} (h : i < 481 * v ∨ 481 * v + 481 ≤ i) : dropW w v m n i = w i := by
  unfold dropW
  rw [if_neg (by omega), if_neg (by omega)]
theorem skp_lt (hm : m < n) (hk : k < n - 1) : skp m k < n := by
  unfold skp
  by_cases q : k < m
  · rw [if_pos q]; omega
  · rw [if_neg q]; omega
theorem skp_inj {j : Nat} (h : skp m j = skp m k) : j = k := by
  unfold skp at h
  by_cases q : j < m
  · by_cases q2 : k < m
    · rw [if_pos q, if_pos q2] at h; exact h
    · rw [if_pos q, if_neg q2] at h; omega
  · by_cases q2 : k < m
    · rw [if_neg q, if_pos q2] at h; omega
    · rw [if_neg q, if_neg q2] at h; omega
theorem dropW_WM (hM : WM w v) (hm : m < nmb w v) : WM (dropW w v m (nmb w v)) v := by
  have hn := hM.n40
  refine hM.map (n := nmb w v - 1) (by omega) dropW_mn (skp m) (fun k hk => skp_lt hm hk) (fun j k _ _ e => skp_inj e) (fun k p hk hp => dropW_mb hm hn hk hp) (fun k hk => ?_) (fun k hk => ?_) (fun k hk e _ => ?_)
  · rw [exC_cg (fun c hc => dropW_cl hc (by decide))]; exact (hM.own _ (skp_lt hm hk)).2.2.2
  · unfold itB; rw [dropW_cl (hM.own _ (skp_lt hm hk)).2.1 (by decide)]; exact id
  · rw [dropW_cl (hM.own _ (skp_lt hm hk)).2.1 (by decide)]; exact e
/-- the members of a library, moved -/
theorem RLm.mv {n' : Nat} (h : RLm I a w v) (hn : n' ≤ 40) (hmn : mn w' v = nI n') (σ : Nat → Nat) (hs : ∀ k, k < n' → σ k < nmb w v) (hmb : ∀ k p, k < n' → p < 10 → mb w' v k p = mb w v (σ k) p) (h0 : I' (a + 6) 0 = nI n') (hI : ∀ j, 1 ≤ j → j ≤ 12 → ∀ i, i < n' → I' (a + 6 + j) i = I (a + 6 + j) (σ i)) : RLm I' a w' v := by
  refine ⟨h0.trans hmn.symm, fun j h1 h2 m hm => ?_⟩
  rw [nmb_of hn hmn] at hm
  rw [hI j h1 h2 m hm, h.2 j h1 h2 _ (hs m hm)]
  exact (mV_cg (fun p hp => hmb m p hm hp) j).symm
theorem Q_removeMember (h : Rel g A I w n P d) : Agr g A I (fX8_removeMember A x y) (fX9_removeMember (A + 418) x y) [1] := by
  rcases mem_cases h x y with ⟨v, m, hv, hm, rfl, rfl⟩ | ⟨q1, q2⟩
  · have hM := (h.W.1 v hv).2
    have hn := hM.n40
    refine Agr.lib h (v := v) (w' := dropW w v m (nmb w v)) (b := nI (nmb w v - 1)) hv (fun i hi => dropW_out hn hi) ((h.W.1 v hv).1.cg (fun c p hc hp => dropW_cl hc hp)) (dropW_WM hM hm)
      (fun h => (gP 2 (A + 1 + 3 + 20 * v) 10 h).bind fun a_6 => cv 4 a_6 (fX4_dropAt a_6 (nI m)) h fun _ h => (gP 2 (A + 1 + 3 + 20 * v) 10 h).bind fun a_7 => (gI 4 a_7 0 h).bind fun x_8 => some (.inr x_8, h))
      (fun h => cv 9 (A + 418) (fX9_drops (A + 418) (nI v) (nI m)) h fun _ h => cv 9 (A + 418) (fX9_memberMany (A + 418) (nI v)) h fun x_8 h => some (x_8, h)) (fun J Z => ?_) (fun I1 J Z hb hd => ?_) (fun I1 J Z h1 => ?_) (fun I1 J Z h1 => ?_)
    · unfold fX8_removeMember
      rw [h.jg.cv, C_libMem h hv hm, bd_some, xp_r, h.jg.cv]
    · have hb := hb v hv
      have hL := hb.L
      obtain ⟨I3, t1, t2, t3, t4⟩ := C_dropL (J := J) (Z := Z) hL.mem hn (nmb w v - 1 - m) m fuel I1 (by omega) (by unfold fuel; omega) (hb.R.size.trans hM.n)
      refine ⟨I3, ?_, fun x hx => t2 x (by omega), RLib.of (hb.R.c.cg (fun c p hc hp => dropW_cl hc hp) |>.fr (t2 _ (by omega)) (t2 _ (by omega)) (t2 _ (by omega)) (t2 _ (by omega))) ((hb.R.s.cg hb.C (hb.C.cg (fun c p hc hp => dropW_cl hc hp)) (fun c p hc hp => dropW_cl hc (by omega))).fr (t2 _ (by omega)) (t2 _ (by omega))) (hb.R.m.mv (by omega) dropW_mn (skp m) (fun k hk => skp_lt hm hk) (fun k p hk hp => dropW_mb hm hn hk hp) t3 t4)⟩
      show (gP 2 (A + 1 + 3 + 20 * v) 10 (mm g I1 J Z)).bind _ = _
      unfold fX4_dropAt
      rw [lib_p10 hL, Option.bind_some, mem_cv hL.mem, t1, bd_some, lib_p10 hL, Option.bind_some, mem_gI hL.mem, Option.bind_some, t3]
    · unfold fX9_removeMember fX9_removeMember_15
      rw [M_cv h1.G, M_isMem h1 hv hm, bd_some, bIf, if_tt, M_cv h1.G, M_ref0 h1.G, bd_some, bIf, if_ff, M_cv h1.G]
    · obtain ⟨I3, t1, t2, t3⟩ := M_drops (I := I1) (J := J) (Z := Z) h1.G hv hn hm (by rw [h1.row]; exact hM.n)
      rw [h1.row] at t3
      refine ⟨I3, ?_, t2, t3⟩
      rw [M_cv h1.G, t1, bd_some, M_cv h1.G, M_many h1.G hv, bd_some, t3, dropW_mn]
  · refine Agr.rfs h (i := 0) (e := 1) ⟨by decide, rfl⟩ (fun J Z => ⟨I, none, ?_, FvC.refl⟩) (fun I1 J Z h1 => ⟨nI 0, up2 I1 (A + 418) 3 (nI 1), ?_, fvm_3, up3⟩)
    · unfold fX8_removeMember
      rw [h.jg.cv, q1, bd_some, xp_l]
    · unfold fX9_removeMember fX9_removeMember_15
      rw [M_cv h1.G, q2 I1 J Z h1, bd_some, bIf, if_ff, M_cv h1.G, rf1 h1.G, bd_some, bIf, if_tt]
end Dr

/-! ===== versions with the same cells are the same ===== -/
section Cg
variable {w w' : Nat → Int32} {v v' : Nat} {I I' : Mem} {a : Nat}
theorem exC_ge {c : Nat} (h : ¬ c < 10) : exC w v c = false := by unfold exC; rw [decide_eq_false h, Bool.false_and]
theorem exC_cg (h : ∀ c, c < 10 → cl w' v' c 0 = cl w v c 0) (c : Nat) : exC w' v' c = exC w v c := by
  by_cases hc : c < 10
  · unfold exC; rw [h c hc]
  · rw [exC_ge hc, exC_ge hc]
theorem and_cg (h : ∀ c, c < 10 → cl w' v' c 0 = cl w v c 0) {c : Nat} {p q : Bool} (hp : exC w v c = true → p = q) : (exC w' v' c && p) = (exC w v c && q) := by
  rw [exC_cg h]
  cases he : exC w v c
  · rfl
  · rw [hp he]
theorem WC.cg (hW : WC w v) (h : ∀ c p, c < 10 → p < 8 → cl w' v' c p = cl w v c p) : WC w' v' := by
  obtain ⟨h0, h1, h2⟩ := hW
  refine ⟨⟨by rw [h 0 0 (by decide) (by decide)]; exact h0.1, by rw [h 0 1 (by decide) (by decide)]; exact h0.2.1, by rw [h 0 2 (by decide) (by decide)]; exact h0.2.2.1, by rw [h 0 3 (by decide) (by decide)]; exact h0.2.2.2.1, by rw [h 0 4 (by decide) (by decide)]; exact h0.2.2.2.2.1, by rw [h 0 5 (by decide) (by decide)]; exact h0.2.2.2.2.2.1, by rw [h 0 6 (by decide) (by decide)]; exact h0.2.2.2.2.2.2.1, by rw [h 0 7 (by decide) (by decide)]; exact h0.2.2.2.2.2.2.2⟩, fun c hc => by rw [h c 0 hc (by decide)]; exact h1 c hc, fun c hc1 hc he => ?_⟩
  rw [h c 0 hc (by decide)] at he
  obtain ⟨a1, ⟨s, s1, s2, s3, s4, s5⟩, a3, ⟨q, q1, q2⟩, a5, a6, a7, a8⟩ := h2 c hc1 hc he
  refine ⟨by rw [h c 1 hc (by decide)]; exact a1, ⟨s, s1, by rw [h c 2 hc (by decide)]; exact s2, by rw [h s 0 (by omega) (by decide)]; exact s3, by rw [h s 1 (by omega) (by decide)]; exact s4, by rw [h c 1 hc (by decide)]; exact s5⟩, fun k hk hb => ?_, ⟨q, q1, by rw [h c 4 hc (by decide)]; exact q2⟩, by rw [h c 5 hc (by decide)]; exact a5, by rw [h c 6 hc (by decide)]; exact a6, by rw [h c 7 hc (by decide)]; exact a7, by rw [h c 1 hc (by decide), h c 6 hc (by decide), h c 7 hc (by decide)]; exact a8⟩
  rw [h c 3 hc (by decide)] at hb
  obtain ⟨b1, b2, b3⟩ := a3 k hk hb
  exact ⟨b1, by rw [h k 0 (by omega) (by decide)]; exact b2, by rw [h k 1 (by omega) (by decide)]; exact b3⟩
theorem stB_cg (hW : WC w v) (hW' : WC w' v') (h : ∀ c p, c < 10 → p < 4 → cl w' v' c p = cl w v c p) : ∀ (c : Nat), c < 10 → exC w v c = true → ∀ t, stB w' v' c t = stB w v c t := by
  intro c
  induction c using Nat.strongRecOn with
  | ind c ih =>
    intro hc he t
    have he' : cl w' v' c 0 = nI 1 := by rw [h c 0 hc (by decide)]; exact exC_ex he
    refine Bool.eq_iff_iff.mpr ?_
    rw [stB_step hW' hc he', stB_step hW hc (exC_ex he)]
    by_cases h0 : 0 < c
    · have hs := hW.spx h0 he
      have e1 : spn w' v' c = spn w v c := by unfold spn; rw [h c 2 hc (by decide)]
      rw [e1, ih _ hs.1 (by omega) hs.2.2.1 t]
      refine or_congr Iff.rfl (and_congr Iff.rfl (or_congr Iff.rfl ⟨?_, ?_⟩))
      · rintro ⟨k, k1, k2, k3⟩
        rw [h c 3 hc (by decide)] at k2
        have hk := (hW.2.2 c h0 hc (exC_ex he)).2.2.1 k (by omega) k2
        exact ⟨k, k1, k2, by rw [← ih k k1 (by omega) (exC_of (by omega) hk.2.1) t]; exact k3⟩
      · rintro ⟨k, k1, k2, k3⟩
        have hk := (hW.2.2 c h0 hc (exC_ex he)).2.2.1 k (by omega) k2
        exact ⟨k, k1, by rw [h c 3 hc (by decide)]; exact k2, by rw [ih k k1 (by omega) (exC_of (by omega) hk.2.1) t]; exact k3⟩
    · exact ⟨fun q => q.elim Or.inl (fun e => absurd e.1 h0), fun q => q.elim Or.inl (fun e => absurd e.1 h0)⟩
theorem lnB_cg (hW : WC w v) (hW' : WC w' v') (h : ∀ c p, c < 10 → p < 4 → cl w' v' c p = cl w v c p) : ∀ (c : Nat), c < 10 → exC w v c = true → ∀ t, lnB w' v' c t = lnB w v c t := by
  intro c
  induction c using Nat.strongRecOn with
  | ind c ih =>
    intro hc he t
    have he' : exC w' v' c = true := by rw [exC_cg (fun c hc => h c 0 hc (by decide))]; exact he
    refine Bool.eq_iff_iff.mpr ?_
    rw [lnB_step hW' he', lnB_step hW he]
    by_cases h0 : 0 < c
    · have hs := hW.spx h0 he
      have e1 : spn w' v' c = spn w v c := by unfold spn; rw [h c 2 hc (by decide)]
      have e2 : itB w' v' c = itB w v c := by unfold itB; rw [h c 1 hc (by decide)]
      rw [e1, e2, ih _ hs.1 (by omega) hs.2.2.1 t]
    · exact ⟨fun q => q.elim Or.inl (fun e => absurd e.1 h0), fun q => q.elim Or.inl (fun e => absurd e.1 h0)⟩
/-! the class's part and the members' part of a library's relation -/
def RLc (I : Mem) (a : Nat) (w : Nat → Int32) (v : Nat) : Prop :=
  (∀ c, c < 32 → bt (I a 0) c = exC w v c) ∧
  (∀ c, c < 32 → bt (I a 1) c = (exC w v c && itB w v c)) ∧
  (∀ c, c < 32 → bt (I a 2) c = (exC w v c && decide (cl w v c 5 = nI 1))) ∧
  (∀ c, c < 32 → bt (I a 3) c = (exC w v c && decide (cl w v c 6 = nI 1))) ∧
  (∀ c, c < 32 → bt (I a 4) c = (exC w v c && decide (cl w v c 7 = nI 1))) ∧
  (∀ c, exC w v c = true → I (a + 1) c = cl w v c 4) ∧
  (∀ c, exC w v c = true → I (a + 2) c = cl w v c 2) ∧
  (∀ c, exC w v c = true → I (a + 3) c = cl w v c 3)
def RLs (I : Mem) (a : Nat) (w : Nat → Int32) (v : Nat) : Prop :=
  (∀ c t, c < 10 → t < 32 → bt (I (a + 4) c) t = (exC w v c && stB w v c t)) ∧
  (∀ c t, c < 10 → t < 32 → bt (I (a + 5) c) t = (exC w v c && lnB w v c t))
/-- what the class's arrays hold of a member -/
def mV (w : Nat → Int32) (v m : Nat) : Nat → Int32
  | 1 => mb w v m 3
  | 2 => mb w v m 4
  | 3 => mb w v m 9
  | 4 => mb w v m 0
  | 5 => mb w v m 1
  | 6 => mb w v m 2
  | 7 => mb w v m 5
  | 8 => if mb w v m 0 = nI 1 then mb w v m 6 else -2
  | 9 => mb w v m 7
  | 10 => mb w v m 8
  | 11 => if mb w v m 0 = nI 1 then sgI (mb w v m 2) (mb w v m 7) (mb w v m 8) else -1
  | 12 => if mb w v m 0 = nI 1 then dsI (sgI (mb w v m 2) (mb w v m 7) (mb w v m 8)) (mb w v m 5) else -1
  | _ => 0
def RLm (I : Mem) (a : Nat) (w : Nat → Int32) (v : Nat) : Prop := I (a + 6) 0 = mn w v ∧ ∀ j, 1 ≤ j → j ≤ 12 → ∀ m, m < nmb w v → I (a + 6 + j) m = mV w v m j
theorem RLib.of (hc : RLc I a w v) (hs : RLs I a w v) (hm : RLm I a w v) : RLib I a w v :=
  ⟨hc.1, hc.2.1, hc.2.2.1, hc.2.2.2.1, hc.2.2.2.2.1, hc.2.2.2.2.2.1, hc.2.2.2.2.2.2.1, hc.2.2.2.2.2.2.2, hs.1, hs.2, hm.1,
   fun m h => hm.2 1 (by decide) (by decide) m h, fun m h => hm.2 2 (by decide) (by decide) m h, fun m h => hm.2 3 (by decide) (by decide) m h, fun m h => hm.2 4 (by decide) (by decide) m h, fun m h => hm.2 5 (by decide) (by decide) m h, fun m h => hm.2 6 (by decide) (by decide) m h,
   fun m h => hm.2 7 (by decide) (by decide) m h, fun m h => hm.2 8 (by decide) (by decide) m h, fun m h => hm.2 9 (by decide) (by decide) m h, fun m h => hm.2 10 (by decide) (by decide) m h, fun m h => hm.2 11 (by decide) (by decide) m h, fun m h => hm.2 12 (by decide) (by decide) m h⟩
theorem RLib.c (h : RLib I a w v) : RLc I a w v := ⟨h.ex, h.ifc, h.pub, h.fin, h.abs, h.home, h.sup, h.itf⟩
theorem RLib.s (h : RLib I a w v) : RLs I a w v := ⟨h.sty, h.lin⟩
theorem RLib.m (h : RLib I a w v) : RLm I a w v := by
  refine ⟨h.size, fun j h1 h2 m hm => ?_⟩
  match j, h1, h2 with
  | 1, _, _ => exact h.acc m hm
  | 2, _, _ => exact h.flg m hm
  | 3, _, _ => exact h.con m hm
  | 4, _, _ => exact h.knd m hm
  | 5, _, _ => exact h.own m hm
  | 6, _, _ => exact h.nam m hm
  | 7, _, _ => exact h.typ m hm
  | 8, _, _ => exact h.man m hm
  | 9, _, _ => exact h.fst m hm
  | 10, _, _ => exact h.snd m hm
  | 11, _, _ => exact h.sig m hm
  | 12, _, _ => exact h.dsc m hm
  | k + 13, _, h2 => exact absurd h2 (by omega)
theorem mV_cg {m m' : Nat} (h : ∀ p, p < 10 → mb w' v' m' p = mb w v m p) (j : Nat) : mV w' v' m' j = mV w v m j := by
  unfold mV
  rw [h 0 (by decide), h 1 (by decide), h 2 (by decide), h 3 (by decide), h 4 (by decide), h 5 (by decide), h 6 (by decide), h 7 (by decide), h 8 (by decide), h 9 (by decide)]
theorem nmb_of {n : Nat} (hn : n ≤ 40) (h : mn w v = nI n) : nmb w v = n := by unfold nmb; rw [h, nI_clamp (by omega)]
theorem nmb_cg (h : mn w' v' = mn w v) : nmb w' v' = nmb w v := by unfold nmb; rw [h]
theorem RLm.cg (hn : mn w' v' = mn w v) (h : ∀ m p, m < nmb w v → p < 10 → mb w' v' m p = mb w v m p) (hr : RLm I a w v) : RLm I a w' v' := by
  refine ⟨hr.1.trans hn.symm, fun j h1 h2 m hm => ?_⟩
  rw [nmb_cg hn] at hm
  rw [mV_cg (fun p hp => h m p hm hp)]
  exact hr.2 j h1 h2 m hm
theorem RLc.cg (h : ∀ c p, c < 10 → p < 8 → cl w' v' c p = cl w v c p) (hr : RLc I a w v) : RLc I a w' v' := by
  have h0 : ∀ c, c < 10 → cl w' v' c 0 = cl w v c 0 := fun c hc => h c 0 hc (by decide)
  refine ⟨fun c hc => by rw [exC_cg h0]; exact hr.1 c hc, fun c hc => ?_, fun c hc => ?_, fun c hc => ?_, fun c hc => ?_, fun c he => ?_, fun c he => ?_, fun c he => ?_⟩
  · rw [and_cg h0 (q := itB w v c) (fun he => by unfold itB; rw [h c 1 (exC_lt he) (by decide)])]; exact hr.2.1 c hc
  · rw [and_cg h0 (q := decide (cl w v c 5 = nI 1)) (fun he => by rw [h c 5 (exC_lt he) (by decide)])]; exact hr.2.2.1 c hc
  · rw [and_cg h0 (q := decide (cl w v c 6 = nI 1)) (fun he => by rw [h c 6 (exC_lt he) (by decide)])]; exact hr.2.2.2.1 c hc
  · rw [and_cg h0 (q := decide (cl w v c 7 = nI 1)) (fun he => by rw [h c 7 (exC_lt he) (by decide)])]; exact hr.2.2.2.2.1 c hc
  · rw [exC_cg h0] at he; rw [h c 4 (exC_lt he) (by decide)]; exact hr.2.2.2.2.2.1 c he
  · rw [exC_cg h0] at he; rw [h c 2 (exC_lt he) (by decide)]; exact hr.2.2.2.2.2.2.1 c he
  · rw [exC_cg h0] at he; rw [h c 3 (exC_lt he) (by decide)]; exact hr.2.2.2.2.2.2.2 c he
theorem RLs.cg (hW : WC w v) (hW' : WC w' v') (h : ∀ c p, c < 10 → p < 4 → cl w' v' c p = cl w v c p) (hr : RLs I a w v) : RLs I a w' v' := by
  have h0 : ∀ c, c < 10 → cl w' v' c 0 = cl w v c 0 := fun c hc => h c 0 hc (by decide)
  refine ⟨fun c t hc ht => ?_, fun c t hc ht => ?_⟩
  · rw [and_cg h0 (q := stB w v c t) (fun he => stB_cg hW hW' h c hc he t)]; exact hr.1 c t hc ht
  · rw [and_cg h0 (q := lnB w v c t) (fun he => lnB_cg hW hW' h c hc he t)]; exact hr.2 c t hc ht
theorem RLib.cg (hW : WC w v) (h : ∀ c p, c < 10 → p < 8 → cl w' v' c p = cl w v c p) (hn : mn w' v' = mn w v) (hm : ∀ m p, m < nmb w v → p < 10 → mb w' v' m p = mb w v m p) (hr : RLib I a w v) : RLib I a w' v' :=
  RLib.of (hr.c.cg h) (hr.s.cg hW (hW.cg h) (fun c p hc hp => h c p hc (by omega))) (hr.m.cg hn hm)
/-! the members, one by one -/
def W1 (w : Nat → Int32) (v m : Nat) : Prop :=
  (mb w v m 0 = nI 0 ∨ mb w v m 0 = nI 1) ∧
  (1 ≤ ow w v m ∧ ow w v m < 10 ∧ mb w v m 1 = nI (ow w v m) ∧ exC w v (ow w v m) = true) ∧
  (∃ k, k < 8 ∧ mb w v m 2 = nI k) ∧
  (∃ k, k < 4 ∧ mb w v m 3 = nI k) ∧
  (∃ k, k < 8 ∧ mb w v m 4 = nI k) ∧
  Ty1 (mb w v m 5) ∧
  Pt (mb w v m 6) (mb w v m 7) (mb w v m 8) ∧
  (mb w v m 0 = nI 0 → bt (mb w v m 4) 2 = false ∧ mb w v m 6 = nI 0) ∧
  (bt (mb w v m 4) 2 = true → mb w v m 4 = nI 4 ∧ mb w v m 3 ≠ nI 0 ∧ cl w v (ow w v m) 7 = nI 1) ∧
  (itB w v (ow w v m) = true → mb w v m 3 = nI 3 ∧ (mb w v m 0 = nI 1 → bt (mb w v m 4) 1 = false) ∧ (mb w v m 0 = nI 0 → mb w v m 4 = nI 3)) ∧
  (mb w v m 9 ≠ -2 → mb w v m 4 = nI 3 ∧ mb w v m 0 = nI 0)
def kyE (w : Nat → Int32) (v m : Nat) (w' : Nat → Int32) (v' k : Nat) : Prop := mb w v m 0 = mb w' v' k 0 ∧ mb w v m 1 = mb w' v' k 1 ∧ mb w v m 2 = mb w' v' k 2 ∧ (mb w v m 0 = nI 0 ∨ (mb w v m 6 = mb w' v' k 6 ∧ mb w v m 7 = mb w' v' k 7 ∧ mb w v m 8 = mb w' v' k 8))
theorem WM.w1 (h : WM w v) {m : Nat} (hm : m < nmb w v) : W1 w v m := ⟨h.knd m hm, h.own m hm, h.nam m hm, h.acc m hm, h.flg m hm, h.typ m hm, h.par m hm, h.fld m hm, h.abs m hm, h.itf m hm, h.val m hm⟩
theorem WM.ky (h : WM w v) {m k : Nat} (hm : m < nmb w v) (hk : k < nmb w v) (e : kyE w v m w v k) : m = k := h.unq m k hm hk e.1 e.2.1 e.2.2.1 e.2.2.2
theorem WM.of {n : Nat} (hn : n ≤ 40) (hmn : mn w v = nI n) (h : ∀ m, m < n → W1 w v m) (hu : ∀ m k, m < n → k < n → kyE w v m w v k → m = k) : WM w v := by
  have e := nmb_of hn hmn
  unfold WM
  rw [e]
  exact ⟨hn, hmn, fun m hm => (h m hm).1, fun m hm => (h m hm).2.1, fun m hm => (h m hm).2.2.1, fun m hm => (h m hm).2.2.2.1, fun m hm => (h m hm).2.2.2.2.1, fun m hm => (h m hm).2.2.2.2.2.1, fun m hm => (h m hm).2.2.2.2.2.2.1, fun m hm => (h m hm).2.2.2.2.2.2.2.1, fun m hm => (h m hm).2.2.2.2.2.2.2.2.1, fun m hm => (h m hm).2.2.2.2.2.2.2.2.2.1, fun m hm => (h m hm).2.2.2.2.2.2.2.2.2.2, fun m k hm hk a b c d => hu m k hm hk ⟨a, b, c, d⟩⟩
theorem ow_cg {m m' : Nat} (h : mb w' v' m' 1 = mb w v m 1) : ow w' v' m' = ow w v m := by unfold ow; rw [h]
theorem W1.cg {m m' : Nat} (h : ∀ p, p < 10 → mb w' v' m' p = mb w v m p) (he : exC w' v' (ow w v m) = true) (h1 : itB w' v' (ow w v m) = true → itB w v (ow w v m) = true) (h7 : cl w v (ow w v m) 7 = nI 1 → bt (mb w v m 4) 2 = true → cl w' v' (ow w v m) 7 = nI 1) (hw : W1 w v m) : W1 w' v' m' := by
  obtain ⟨a1, a2, a3, a4, a5, a6, a7, a8, a9, a10, a11⟩ := hw
  have eo := ow_cg (h 1 (by decide))
  unfold W1
  rw [eo, h 0 (by decide), h 1 (by decide), h 2 (by decide), h 3 (by decide), h 4 (by decide), h 5 (by decide), h 6 (by decide), h 7 (by decide), h 8 (by decide), h 9 (by decide)]
  exact ⟨a1, ⟨a2.1, a2.2.1, a2.2.2.1, he⟩, a3, a4, a5, a6, a7, a8, fun q => ⟨(a9 q).1, (a9 q).2.1, h7 (a9 q).2.2 q⟩, fun q => a10 (h1 q), a11⟩
theorem kyE.cg {w2 : Nat → Int32} {v2 m m' k k2 : Nat} (h : ∀ p, p < 10 → mb w' v' m' p = mb w v m p) (h2 : ∀ p, p < 10 → mb w' v' k p = mb w2 v2 k2 p) (e : kyE w' v' m' w' v' k) : kyE w v m w2 v2 k2 := by
  unfold kyE at e ⊢
  rw [h 0 (by decide), h 1 (by decide), h 2 (by decide), h 6 (by decide), h 7 (by decide), h 8 (by decide), h2 0 (by decide), h2 1 (by decide), h2 2 (by decide), h2 6 (by decide), h2 7 (by decide), h2 8 (by decide)] at e
  exact e
/-- members kept, in another order or fewer -/
theorem WM.map (hM : WM w v) {n : Nat} (hn : n ≤ 40) (hmn : mn w' v' = nI n) (σ : Nat → Nat) (hs : ∀ k, k < n → σ k < nmb w v) (hi : ∀ j k, j < n → k < n → σ j = σ k → j = k) (hmb : ∀ k p, k < n → p < 10 → mb w' v' k p = mb w v (σ k) p) (hex : ∀ k, k < n → exC w' v' (ow w v (σ k)) = true) (h1 : ∀ k, k < n → itB w' v' (ow w v (σ k)) = true → itB w v (ow w v (σ k)) = true) (h7 : ∀ k, k < n → cl w v (ow w v (σ k)) 7 = nI 1 → bt (mb w v (σ k) 4) 2 = true → cl w' v' (ow w v (σ k)) 7 = nI 1) : WM w' v' :=
  WM.of hn hmn (fun m hm => (hM.w1 (hs m hm)).cg (fun p hp => hmb m p hm hp) (hex m hm) (h1 m hm) (h7 m hm)) (fun m k hm hk e => hi m k hm hk (hM.ky (hs m hm) (hs k hk) (e.cg (fun p hp => hmb m p hm hp) (fun p hp => hmb k p hk hp))))
theorem WM.cg (hM : WM w v) (hn : mn w' v' = mn w v) (hmb : ∀ m p, m < nmb w v → p < 10 → mb w' v' m p = mb w v m p) (hc : ∀ c p, c < 10 → p < 8 → cl w' v' c p = cl w v c p) : WM w' v' :=
  hM.map hM.n40 (hn.trans hM.n) id (fun _ h => h) (fun _ _ _ _ e => e) (fun k p hk hp => hmb k p hk hp) (fun k hk => by rw [exC_cg (fun c q => hc c 0 q (by decide))]; exact (hM.own k hk).2.2.2) (fun k hk => by show itB w' v' (ow w v k) = true → itB w v (ow w v k) = true; unfold itB; rw [hc _ 1 (hM.own k hk).2.1 (by decide)]; exact id) (fun k hk e _ => by show cl w' v' (ow w v k) 7 = nI 1; rw [hc _ 7 (hM.own k hk).2.1 (by decide)]; exact e)
/-- one member is new, or another than before -/
theorem WM.put (hM : WM w v) {n m : Nat} (hn : n ≤ 40) (hmn : mn w' v = nI n) (hk : ∀ k, k < n → k ≠ m → k < nmb w v) (hmb : ∀ k p, k < n → k ≠ m → p < 10 → mb w' v k p = mb w v k p) (hc : ∀ c p, c < 10 → p < 8 → cl w' v c p = cl w v c p) (h1 : W1 w' v m) (hu : ∀ k, k < n → k ≠ m → ¬ kyE w' v m w v k) : WM w' v := by
  refine WM.of hn hmn (fun k hkn => ?_) (fun j k hj hkn e => ?_)
  · by_cases e : k = m
    · rw [e]; exact h1
    · have q := hk k hkn e
      exact (hM.w1 q).cg (fun p hp => hmb k p hkn e hp) (by rw [exC_cg (fun c q => hc c 0 q (by decide))]; exact (hM.own k q).2.2.2) (by unfold itB; rw [hc _ 1 (hM.own k q).2.1 (by decide)]; exact id) (fun a _ => by rw [hc _ 7 (hM.own k q).2.1 (by decide)]; exact a)
  · by_cases e1 : j = m
    · by_cases e2 : k = m
      · rw [e1, e2]
      · rw [e1] at e
        exact absurd (e.cg (fun p hp => rfl) (fun p hp => hmb k p hkn e2 hp)) (hu k hkn e2)
    · by_cases e2 : k = m
      · rw [e2] at e
        have e' : kyE w' v m w' v j := ⟨e.1.symm, e.2.1.symm, e.2.2.1.symm, e.2.2.2.elim (fun q => Or.inl (e.1.symm.trans q)) (fun q => Or.inr ⟨q.1.symm, q.2.1.symm, q.2.2.symm⟩)⟩
        exact absurd (e'.cg (fun p hp => rfl) (fun p hp => hmb j p hj e1 hp)) (hu j hj e1)
      · exact hM.ky (hk j hj e1) (hk k hkn e2) (e.cg (fun p hp => hmb j p hj e1 hp) (fun p hp => hmb k p hkn e2 hp))
end Cg

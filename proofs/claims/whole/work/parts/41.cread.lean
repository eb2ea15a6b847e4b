/-! ===== a library of the class that holds a version: reading its members ===== -/
def CB (g : Gr) (I : Mem) (a : Nat) (w : Nat → Int32) (v : Nat) : Prop := LibG g a ∧ RLib I a w v ∧ WC w v ∧ WM w v
section Cr
variable {g : Gr} {a : Nat} {I : Mem} {J : Nat → Nat → Int64} {Z : Option Nat} {w : Nat → Int32} {v c m : Nat} {x y : Int32}
theorem CB.L (h : CB g I a w v) : LibG g a := h.1
theorem CB.R (h : CB g I a w v) : RLib I a w v := h.2.1
theorem CB.C (h : CB g I a w v) : WC w v := h.2.2.1
theorem CB.M (h : CB g I a w v) : WM w v := h.2.2.2
theorem c_size (h : CB g I a w v) {γ : Type} {K : Int32 → Option γ} : (gP 2 a 10 (mm g I J Z)).bind (fun x => (gI 4 x 0 (mm g I J Z)).bind K) = K (nI (nmb w v)) := by
  rw [lib_p10 h.L, Option.bind_some, C_size h.L h.R h.M, Option.bind_some]
theorem m_size (h : CB g I a w v) : gI 4 (a + 6) 0 (mm g I J Z) = some (nI (nmb w v)) := C_size h.L h.R h.M
theorem CB_cv {ρ γ : Type} {f : AH → Option (ρ × AH)} {K : ρ → AH → Option γ} (h : CB g I a w v) : cv 2 a f (mm g I J Z) K = bd (f (mm g I J Z)) K := lib_cv h.L
theorem CB_mcv {ρ γ : Type} {f : AH → Option (ρ × AH)} {K : ρ → AH → Option γ} (h : CB g I a w v) : (gP 2 a 10 (mm g I J Z)).bind (fun x => cv 4 x f (mm g I J Z) K) = bd (f (mm g I J Z)) K := by
  rw [lib_p10 h.L, Option.bind_some, mem_cv h.L.mem]
theorem m_acc (h : CB g I a w v) (hm : m < nmb w v) {γ : Type} {K : Int32 → Option γ} : (gP 4 (a + 6) 1 (mm g I J Z)).bind (fun y => (ldI y (nI m) (mm g I J Z)).bind K) = K (mb w v m 3) := by
  rw [mem_p1 h.L.mem, Option.bind_some, mem_l1 h.L.mem (by have := h.M.n40; omega), Option.bind_some, h.R.acc m hm]
theorem c_acc (h : CB g I a w v) (hm : m < nmb w v) {γ : Type} {K : Int32 → Option γ} : (gP 2 a 10 (mm g I J Z)).bind (fun x => (gP 4 x 1 (mm g I J Z)).bind (fun y => (ldI y (nI m) (mm g I J Z)).bind K)) = K (mb w v m 3) := by
  rw [lib_p10 h.L, Option.bind_some, m_acc h hm]
theorem m_flg (h : CB g I a w v) (hm : m < nmb w v) {γ : Type} {K : Int32 → Option γ} : (gP 4 (a + 6) 2 (mm g I J Z)).bind (fun y => (ldI y (nI m) (mm g I J Z)).bind K) = K (mb w v m 4) := by
  rw [mem_p2 h.L.mem, Option.bind_some, mem_l2 h.L.mem (by have := h.M.n40; omega), Option.bind_some, h.R.flg m hm]
theorem c_flg (h : CB g I a w v) (hm : m < nmb w v) {γ : Type} {K : Int32 → Option γ} : (gP 2 a 10 (mm g I J Z)).bind (fun x => (gP 4 x 2 (mm g I J Z)).bind (fun y => (ldI y (nI m) (mm g I J Z)).bind K)) = K (mb w v m 4) := by
  rw [lib_p10 h.L, Option.bind_some, m_flg h hm]
theorem m_con (h : CB g I a w v) (hm : m < nmb w v) {γ : Type} {K : Int32 → Option γ} : (gP 4 (a + 6) 3 (mm g I J Z)).bind (fun y => (ldI y (nI m) (mm g I J Z)).bind K) = K (mb w v m 9) := by
  rw [mem_p3 h.L.mem, Option.bind_some, mem_l3 h.L.mem (by have := h.M.n40; omega), Option.bind_some, h.R.con m hm]
theorem c_con (h : CB g I a w v) (hm : m < nmb w v) {γ : Type} {K : Int32 → Option γ} : (gP 2 a 10 (mm g I J Z)).bind (fun x => (gP 4 x 3 (mm g I J Z)).bind (fun y => (ldI y (nI m) (mm g I J Z)).bind K)) = K (mb w v m 9) := by
  rw [lib_p10 h.L, Option.bind_some, m_con h hm]
theorem m_knd (h : CB g I a w v) (hm : m < nmb w v) {γ : Type} {K : Int32 → Option γ} : (gP 4 (a + 6) 4 (mm g I J Z)).bind (fun y => (ldI y (nI m) (mm g I J Z)).bind K) = K (mb w v m 0) := by
  rw [mem_p4 h.L.mem, Option.bind_some, mem_l4 h.L.mem (by have := h.M.n40; omega), Option.bind_some, h.R.knd m hm]
theorem c_knd (h : CB g I a w v) (hm : m < nmb w v) {γ : Type} {K : Int32 → Option γ} : (gP 2 a 10 (mm g I J Z)).bind (fun x => (gP 4 x 4 (mm g I J Z)).bind (fun y => (ldI y (nI m) (mm g I J Z)).bind K)) = K (mb w v m 0) := by
  rw [lib_p10 h.L, Option.bind_some, m_knd h hm]
theorem m_own (h : CB g I a w v) (hm : m < nmb w v) {γ : Type} {K : Int32 → Option γ} : (gP 4 (a + 6) 5 (mm g I J Z)).bind (fun y => (ldI y (nI m) (mm g I J Z)).bind K) = K (nI (ow w v m)) := by
  rw [mem_p5 h.L.mem, Option.bind_some, mem_l5 h.L.mem (by have := h.M.n40; omega), Option.bind_some, h.R.own m hm, (h.M.own m hm).2.2.1]
theorem c_own (h : CB g I a w v) (hm : m < nmb w v) {γ : Type} {K : Int32 → Option γ} : (gP 2 a 10 (mm g I J Z)).bind (fun x => (gP 4 x 5 (mm g I J Z)).bind (fun y => (ldI y (nI m) (mm g I J Z)).bind K)) = K (nI (ow w v m)) := by
  rw [lib_p10 h.L, Option.bind_some, m_own h hm]
theorem m_nam (h : CB g I a w v) (hm : m < nmb w v) {γ : Type} {K : Int32 → Option γ} : (gP 4 (a + 6) 6 (mm g I J Z)).bind (fun y => (ldI y (nI m) (mm g I J Z)).bind K) = K (mb w v m 2) := by
  rw [mem_p6 h.L.mem, Option.bind_some, mem_l6 h.L.mem (by have := h.M.n40; omega), Option.bind_some, h.R.nam m hm]
theorem c_nam (h : CB g I a w v) (hm : m < nmb w v) {γ : Type} {K : Int32 → Option γ} : (gP 2 a 10 (mm g I J Z)).bind (fun x => (gP 4 x 6 (mm g I J Z)).bind (fun y => (ldI y (nI m) (mm g I J Z)).bind K)) = K (mb w v m 2) := by
  rw [lib_p10 h.L, Option.bind_some, m_nam h hm]
theorem m_typ (h : CB g I a w v) (hm : m < nmb w v) {γ : Type} {K : Int32 → Option γ} : (gP 4 (a + 6) 7 (mm g I J Z)).bind (fun y => (ldI y (nI m) (mm g I J Z)).bind K) = K (mb w v m 5) := by
  rw [mem_p7 h.L.mem, Option.bind_some, mem_l7 h.L.mem (by have := h.M.n40; omega), Option.bind_some, h.R.typ m hm]
theorem c_typ (h : CB g I a w v) (hm : m < nmb w v) {γ : Type} {K : Int32 → Option γ} : (gP 2 a 10 (mm g I J Z)).bind (fun x => (gP 4 x 7 (mm g I J Z)).bind (fun y => (ldI y (nI m) (mm g I J Z)).bind K)) = K (mb w v m 5) := by
  rw [lib_p10 h.L, Option.bind_some, m_typ h hm]
theorem m_man (h : CB g I a w v) (hm : m < nmb w v) {γ : Type} {K : Int32 → Option γ} : (gP 4 (a + 6) 8 (mm g I J Z)).bind (fun y => (ldI y (nI m) (mm g I J Z)).bind K) = K (if mb w v m 0 = nI 1 then mb w v m 6 else -2) := by
  rw [mem_p8 h.L.mem, Option.bind_some, mem_l8 h.L.mem (by have := h.M.n40; omega), Option.bind_some, h.R.man m hm]
theorem c_man (h : CB g I a w v) (hm : m < nmb w v) {γ : Type} {K : Int32 → Option γ} : (gP 2 a 10 (mm g I J Z)).bind (fun x => (gP 4 x 8 (mm g I J Z)).bind (fun y => (ldI y (nI m) (mm g I J Z)).bind K)) = K (if mb w v m 0 = nI 1 then mb w v m 6 else -2) := by
  rw [lib_p10 h.L, Option.bind_some, m_man h hm]
theorem m_fst (h : CB g I a w v) (hm : m < nmb w v) {γ : Type} {K : Int32 → Option γ} : (gP 4 (a + 6) 9 (mm g I J Z)).bind (fun y => (ldI y (nI m) (mm g I J Z)).bind K) = K (mb w v m 7) := by
  rw [mem_p9 h.L.mem, Option.bind_some, mem_l9 h.L.mem (by have := h.M.n40; omega), Option.bind_some, h.R.fst m hm]
theorem c_fst (h : CB g I a w v) (hm : m < nmb w v) {γ : Type} {K : Int32 → Option γ} : (gP 2 a 10 (mm g I J Z)).bind (fun x => (gP 4 x 9 (mm g I J Z)).bind (fun y => (ldI y (nI m) (mm g I J Z)).bind K)) = K (mb w v m 7) := by
  rw [lib_p10 h.L, Option.bind_some, m_fst h hm]
theorem m_snd (h : CB g I a w v) (hm : m < nmb w v) {γ : Type} {K : Int32 → Option γ} : (gP 4 (a + 6) 10 (mm g I J Z)).bind (fun y => (ldI y (nI m) (mm g I J Z)).bind K) = K (mb w v m 8) := by
  rw [mem_p10 h.L.mem, Option.bind_some, mem_l10 h.L.mem (by have := h.M.n40; omega), Option.bind_some, h.R.snd m hm]
theorem c_snd (h : CB g I a w v) (hm : m < nmb w v) {γ : Type} {K : Int32 → Option γ} : (gP 2 a 10 (mm g I J Z)).bind (fun x => (gP 4 x 10 (mm g I J Z)).bind (fun y => (ldI y (nI m) (mm g I J Z)).bind K)) = K (mb w v m 8) := by
  rw [lib_p10 h.L, Option.bind_some, m_snd h hm]
theorem m_sig (h : CB g I a w v) (hm : m < nmb w v) {γ : Type} {K : Int32 → Option γ} : (gP 4 (a + 6) 11 (mm g I J Z)).bind (fun y => (ldI y (nI m) (mm g I J Z)).bind K) = K (I (a + 6 + 11) m) := by
  rw [mem_p11 h.L.mem, Option.bind_some, mem_l11 h.L.mem (by have := h.M.n40; omega), Option.bind_some]
theorem c_sig (h : CB g I a w v) (hm : m < nmb w v) {γ : Type} {K : Int32 → Option γ} : (gP 2 a 10 (mm g I J Z)).bind (fun x => (gP 4 x 11 (mm g I J Z)).bind (fun y => (ldI y (nI m) (mm g I J Z)).bind K)) = K (I (a + 6 + 11) m) := by
  rw [lib_p10 h.L, Option.bind_some, m_sig h hm]
theorem m_dsc (h : CB g I a w v) (hm : m < nmb w v) {γ : Type} {K : Int32 → Option γ} : (gP 4 (a + 6) 12 (mm g I J Z)).bind (fun y => (ldI y (nI m) (mm g I J Z)).bind K) = K (I (a + 6 + 12) m) := by
  rw [mem_p12 h.L.mem, Option.bind_some, mem_l12 h.L.mem (by have := h.M.n40; omega), Option.bind_some]
theorem c_dsc (h : CB g I a w v) (hm : m < nmb w v) {γ : Type} {K : Int32 → Option γ} : (gP 2 a 10 (mm g I J Z)).bind (fun x => (gP 4 x 12 (mm g I J Z)).bind (fun y => (ldI y (nI m) (mm g I J Z)).bind K)) = K (I (a + 6 + 12) m) := by
  rw [lib_p10 h.L, Option.bind_some, m_dsc h hm]
theorem WM.m40 (h : WM w v) (hm : m < nmb w v) : m < 40 := by have := h.n40; omega
theorem C_mabs (h : CB g I a w v) (hm : m < nmb w v) : fX4_isAbstract (a + 6) (nI m) (mm g I J Z) = some (bI (abB w v m), mm g I J Z) := by
  unfold fX4_isAbstract
  rw [m_flg h hm]
  obtain ⟨k, hk, ek⟩ := h.M.flg m hm
  unfold abB
  rw [ek]
  cases hb : bt (nI k) 2
  · rw [if_pos ((flg_0 hk).2.2.mpr hb), rz_n0]
  · rw [if_neg (fun q => by rw [(flg_0 hk).2.2.mp q] at hb; cases hb), rz_n1]
theorem flg_if (h : WM w v) (hm : m < nmb w v) {α : Type} {A B : α} : (if mb w v m 4 &&& nI 1 = 0 then A else B) = (if bt (mb w v m 4) 0 = true then B else A) ∧ (if mb w v m 4 &&& nI 2 = 0 then A else B) = (if bt (mb w v m 4) 1 = true then B else A) ∧ (if mb w v m 4 &&& nI 4 = 0 then A else B) = (if bt (mb w v m 4) 2 = true then B else A) := by
  obtain ⟨k, hk, ek⟩ := h.flg m hm
  rw [ek]
  refine ⟨?_, ?_, ?_⟩
  · cases hb : bt (nI k) 0
    · rw [if_pos ((flg_0 hk).1.mpr hb), if_neg (by decide)]
    · rw [if_neg (fun q => by rw [(flg_0 hk).1.mp q] at hb; cases hb), if_pos rfl]
  · cases hb : bt (nI k) 1
    · rw [if_pos ((flg_0 hk).2.1.mpr hb), if_neg (by decide)]
    · rw [if_neg (fun q => by rw [(flg_0 hk).2.1.mp q] at hb; cases hb), if_pos rfl]
  · cases hb : bt (nI k) 2
    · rw [if_pos ((flg_0 hk).2.2.mpr hb), if_neg (by decide)]
    · rw [if_neg (fun q => by rw [(flg_0 hk).2.2.mp q] at hb; cases hb), if_pos rfl]
end Cr

/-! THE CLAIM OUT OF ONE WALK OF THE LAW'S BODY. Your part is whole_start (and what it stands on); all else here is the same for every law, but numbers. -/
def R_law : String := "CompatibilityJudgeLaw"
def lw_P (b : Addr) (xs : List Int32) (args : Array Value) (s : State) : Prop := args = #[.ref b] ∧ s.IntsAt b xs ∧ xs.length ≤ 3072 ∧ (Jvm.Cond.and given_1 narrow_1).before args s = true
def lw_Q (_ : Array Value) (s : State) (o : Outcome) (t : State) : Prop := o = .returned (some (.int 1)) ∧ Framed s o t [] 601024 7293034
def lw_Z (below : List Frame) (a : Array Value) (s : State) : State → Prop := fun t => ∃ o, t.status = .running ∧ Ended t below o ∧ lw_Q a s o t
/-- the law's own end, with 1 on the stack, nothing written that was there before, its room as the claim has it -/
theorem lw_ret {p : Program} {l : Launch} {e : Env} {s : State} {m : MethodId} {below : List Frame} {meth : Method} {c : Code} {b : Nat} (hx : p.tables.exec = Jvm.exec) (hb : c.code = code) (hr : meth.sig.returnType = ret) (hlocks : meth.locks = false) {pc : Nat} {H : Heap} {ls : Array Slot} (hdg : decode code pc = .ok (.ireturn, 1)) : W p l e room_1 s m #[Value.ref b] below meth c H [] 601024 7293034 (lw_Z below #[Value.ref b] s) (F0 m pc ls [.int 1]) := by
  intro T hT X
  obtain ⟨fs, hret, hrun, hended, hW, hframe⟩ := X.leave (v := some (.int 1)) (hlocks := hlocks) (fun h => by rw [hr] at h; cases h)
  have hmeth' : T.vm.method? m = some meth := X.method'
  refine ⟨T.setFrames fs, ?_, .returned (some (.int 1)), hrun, hended, rfl, ⟨_, rfl⟩, hW, hframe⟩
  jvm_step X.here [X.here.top, hx, hb, hdg, hmeth', hr, ret, narrow_b1]
  (try refine ⟨rfl, ?_⟩); (try refine ⟨rfl, ?_⟩)
  first | (intro acts; rw [hret _ acts rfl rfl rfl]) | rw [hret _ _ rfl rfl rfl]
  exact Steps.refl _
/-- what holds at the law's entry: the machine, the code, the tables' words (any of lw_tbl by 'hts w (by decide +kernel)'), the script of L ints xs at the cell b, what the Statement gives of the start (any of its parts by flat_of_before) -/
def lw_At (p : Program) (s : State) (m : MethodId) (meth : Method) (c : Code) (b L : Nat) (xs : Nat → Int32) : Prop :=
  p.tables.exec = Jvm.exec ∧ c.code = code ∧ meth.sig.returnType = ret ∧ c.maxLocals = 7 ∧ s.vm.findClass R_law = some m.cls ∧ (∀ w ∈ lw_tbl, w.before #[Value.ref b] s = true) ∧ va_X b L xs s s.heap ∧ b < s.heap.size ∧ meth.locks = false ∧ (Jvm.Cond.and given_1 narrow_1).before #[Value.ref b] s = true
/-! ===== the law's entry: from the machine's start to the pure statement about its function ===== -/
def h0 (b L : Nat) (xs : Nat → Int32) (sz : Nat) : AH := (fun a => if a = b then 23 else 0, fun a => if a = b then L else 0, fun a k => if a = b then xs k else 0, fun _ _ => 0, fun _ _ => none, some sz)
def LawPure : Prop := ∀ (b L : Nat) (xs : Nat → Int32) (sz : Nat), L ≤ 3072 → b < sz → ∃ h' : AH, fL_law b (h0 b L xs sz) = some (1, h')
theorem Rp_h0 {G : GC} {b L : Nat} {xs : Nat → Int32} {s : State} (hX : va_X b L xs s s.heap) (hbl : b < s.heap.size) : Rp G s.heap.size s s.heap (h0 b L xs s.heap.size) := by
  refine ⟨Nat.le_refl _, fun n hn => Option.some.inj hn, fun a => ?_⟩
  by_cases ha : a = b
  · subst ha
    have hk : aK (h0 a L xs s.heap.size) a = 23 := if_pos rfl
    refine ⟨fun c r q hr => absurd (vwCl_lt hr) (by omega), fun q => by omega, fun q => by omega, fun q => by omega, fun _ => ?_, fun c q => by omega⟩
    have e1 : aL (h0 a L xs s.heap.size) a = L := if_pos rfl
    have e2 : aI (h0 a L xs s.heap.size) a = xs := by funext k; exact if_pos rfl
    rw [e1, e2]
    exact hX
  · have hk : aK (h0 b L xs s.heap.size) a = 0 := if_neg ha
    exact ⟨fun c r q hr => by omega, fun q => by omega, fun q => by omega, fun q => by omega, fun q => by omega, fun c q => by omega⟩
theorem kn_of {s : State} {args : Array Value} (hts : ∀ w ∈ lw_tbl, w.before args s = true) (c : Nat) (r : vw_C) (hr : vwCl[c]? = some r) (hi : (Cond.instantiable r.1 r.2.2).before args s = true) : ∃ (cC : ClassId) (iS : Nat → Nat), u_Kn s r.1 r.2.1 r.2.2 cC iS :=
  u_known (ws := TW) (fun w h => hts w (TW_tbl h)) (cl_all hr).1 hi

theorem inst_ok : ∀ r ∈ vwCl, Cond.instantiable r.1 r.2.2 ∈ lw_tbl := by
  intro r hr
  simp only [vwCl, List.mem_cons, List.not_mem_nil, or_false] at hr
  rcases hr with rfl | rfl | rfl | rfl | rfl | rfl | rfl | rfl | rfl | rfl
  · exact (tb_1 (List.mem_of_getElem? (i := 167) rfl))
  · exact (tb_2 (List.mem_of_getElem? (i := 77) rfl))
  · exact (tb_1 (List.mem_of_getElem? (i := 37) rfl))
  · exact (tb_2 (List.mem_of_getElem? (i := 102) rfl))
  · exact (tb_1 (List.mem_of_getElem? (i := 43) rfl))
  · exact (tb_2 (List.mem_of_getElem? (i := 45) rfl))
  · exact (tb_1 (List.mem_of_getElem? (i := 28) rfl))
  · exact (tb_1 (List.mem_of_getElem? (i := 173) rfl))
  · exact (tb_1 (List.mem_of_getElem? (i := 20) rfl))
  · exact (tb_5 (List.mem_of_getElem? (i := 210) rfl))
theorem nest_ok : ∀ q ∈ nestW, Cond.methodLinkNest q.1 q.2.1 q.2.2.1 q.2.2.2 ∈ lw_tbl := by
  intro r hr
  simp only [nestW, List.mem_cons, List.not_mem_nil, or_false] at hr
  rcases hr with rfl | rfl | rfl | rfl | rfl | rfl | rfl
  · exact (tb_1 (List.mem_of_getElem? (i := 38) rfl))
  · exact (tb_1 (List.mem_of_getElem? (i := 44) rfl))
  · exact (tb_1 (List.mem_of_getElem? (i := 168) rfl))
  · exact (tb_1 (List.mem_of_getElem? (i := 174) rfl))
  · exact (tb_2 (List.mem_of_getElem? (i := 46) rfl))
  · exact (tb_2 (List.mem_of_getElem? (i := 72) rfl))
  · exact (tb_2 (List.mem_of_getElem? (i := 83) rfl))
theorem decl_ok : ∀ q ∈ declL, Cond.declares q ∈ lw_tbl := by
  intro r hr
  simp only [declL, List.mem_cons, List.not_mem_nil, or_false] at hr
  rcases hr with rfl | rfl | rfl
  · exact (tb_3 (List.mem_of_getElem? (i := 219) rfl))
  · exact (tb_3 (List.mem_of_getElem? (i := 221) rfl))
  · exact (tb_3 (List.mem_of_getElem? (i := 223) rfl))
theorem over_ok : ∀ q ∈ [RX0, RX1, RX2, RX3, RX6], Cond.arrayOver (.object q) ∈ lw_tbl := by
  intro r hr
  simp only [List.mem_cons, List.not_mem_nil, or_false] at hr
  rcases hr with rfl | rfl | rfl | rfl | rfl
  · exact (tb_1 (List.mem_of_getElem? (i := 36) rfl))
  · exact (tb_2 (List.mem_of_getElem? (i := 74) rfl))
  · exact (tb_1 (List.mem_of_getElem? (i := 34) rfl))
  · exact (tb_2 (List.mem_of_getElem? (i := 76) rfl))
  · exact (tb_2 (List.mem_of_getElem? (i := 43) rfl))
theorem cast_ok (k : Nat) : Cond.castable (exN k) (exN k) ∈ lw_tbl := by
  match k with
  | 0 => exact (tb_4 (List.mem_of_getElem? (i := 72) rfl))
  | 1 => exact (tb_3 (List.mem_of_getElem? (i := 217) rfl))
  | 2 => exact (tb_4 (List.mem_of_getElem? (i := 51) rfl))
  | k + 3 => exact (tb_4 (List.mem_of_getElem? (i := 72) rfl))
theorem str_ok : ∀ q ∈ strL, Cond.stringRef RX8 q.1 q.2 ∈ lw_tbl := by decide +kernel
theorem str_ex : ∀ q ∈ strL, Cond.exactly (Term.string RX8 q.1) "java/lang/String" ∈ flatC (Jvm.Cond.and given_1 narrow_1) := by decide +kernel
theorem nc_all : ∀ p ∈ ([(1, 2), (1, 3), (2, 1), (2, 3), (3, 1), (3, 2)] : List (Nat × Nat)), Cond.not (.castable (exN p.1) (exN p.2)) ∈ flatC (Jvm.Cond.and given_1 narrow_1) := by decide +kernel
theorem nc_ok : ∀ a, a < 4 → ∀ b, b < 4 → a ≠ b → 1 ≤ a → 1 ≤ b → Cond.not (.castable (exN a) (exN b)) ∈ flatC (Jvm.Cond.and given_1 narrow_1) := by
  intro a ha b hb hab h1 h2
  rcases (by omega : a = 1 ∧ b = 2 ∨ a = 1 ∧ b = 3 ∨ a = 2 ∧ b = 1 ∨ a = 2 ∧ b = 3 ∨ a = 3 ∧ b = 1 ∨ a = 3 ∧ b = 2) with ⟨rfl, rfl⟩ | ⟨rfl, rfl⟩ | ⟨rfl, rfl⟩ | ⟨rfl, rfl⟩ | ⟨rfl, rfl⟩ | ⟨rfl, rfl⟩
  · exact nc_all (1, 2) (by decide)
  · exact nc_all (1, 3) (by decide)
  · exact nc_all (2, 1) (by decide)
  · exact nc_all (2, 3) (by decide)
  · exact nc_all (3, 1) (by decide)
  · exact nc_all (3, 2) (by decide)
theorem isr_ok : Cond.isRef (.static Bundle.tN "UNASSIGNED_STACK" Bundle.steD) ∈ flatC (Jvm.Cond.and given_1 narrow_1) ∧ Cond.isRef (.static Bundle.tN "SUPPRESSED_SENTINEL" Bundle.listD) ∈ flatC (Jvm.Cond.and given_1 narrow_1) := by decide +kernel
theorem arr_prim {s : State} {args : Array Value} {ty : FieldType} (h : (Cond.arrayClass ty).before args s = true) (ht : isR ty = false) : ∃ c, ArrOfT s c ty ∧ va_RA s c ty := by
  obtain ⟨c, k, comp, h1, h2, h3⟩ := Cond.arrayClass_spec h
  refine ⟨c, fun N z => ⟨(fun k h => by cases h), k, h2, comp, h3⟩, ?_⟩
  cases ty <;> first | exact h1 | cases ht
theorem arr_obj {s : State} {args : Array Value} {C : String} (h : (Cond.arrayOver (.object C)).before args s = true) : ∃ c, ArrOfT s c (.object C) ∧ va_RA s c (.object C) := by
  obtain ⟨comp, c, k, h1, -, h3, h4, h5⟩ := Cond.arrayOver_spec h
  exact ⟨c, fun N z => ⟨(fun k h => by cases h), k, h3, comp, h4⟩, k, comp, h3, h4, h1, h5⟩
theorem GN_start {s : State} {args : Array Value} (hts : ∀ w ∈ lw_tbl, w.before args s = true) (hgv : (Jvm.Cond.and given_1 narrow_1).before args s = true) : ∃ G : GC, GN G s.heap.size s := by
  have hfl := flat_of_before _ hgv
  have hk : ∀ c : Nat, ∃ q : ClassId × (Nat → Nat), ∀ r : vw_C, vwCl[c]? = some r → u_Kn s r.1 r.2.1 r.2.2 q.1 q.2 := by
    intro c
    cases hr : vwCl[c]? with
    | none => exact ⟨(0, fun _ => 0), fun r h => by cases h⟩
    | some r =>
      obtain ⟨cC, iS, h⟩ := kn_of hts c r hr (hts _ (inst_ok r (List.mem_of_getElem? hr)))
      exact ⟨(cC, iS), fun r' h' => by cases h'; exact h⟩
  obtain ⟨cI, hI⟩ := arr_prim (hts _ (tb_1 (List.mem_of_getElem? (i := 119) rfl))) (ty := .int) rfl
  obtain ⟨cZ, hZ⟩ := arr_prim (hts _ (tb_6 (List.mem_of_getElem? (i := 206) rfl))) (ty := .boolean) rfl
  obtain ⟨cJ, hJ⟩ := arr_prim (hts _ (tb_7 (List.mem_of_getElem? (i := 236) rfl))) (ty := .long) rfl
  obtain ⟨q0, hq0⟩ := arr_obj (hts _ (over_ok RX0 (by simp)))
  obtain ⟨q1, hq1⟩ := arr_obj (hts _ (over_ok RX1 (by simp)))
  obtain ⟨q2, hq2⟩ := arr_obj (hts _ (over_ok RX2 (by simp)))
  obtain ⟨q3, hq3⟩ := arr_obj (hts _ (over_ok RX3 (by simp)))
  obtain ⟨q6, hq6⟩ := arr_obj (hts _ (over_ok RX6 (by simp)))
  refine ⟨((fun c => (Classical.choose (hk c)).1, fun c => (Classical.choose (hk c)).2), cI, cZ, cJ, fun c => if c = 0 then q0 else if c = 1 then q1 else if c = 2 then q2 else if c = 3 then q3 else q6), ⟨fun c r hr => Classical.choose_spec (hk c) r hr, fun k q hq => ?_⟩, fun q hq => va_Nw.of rfl (hts _ (nest_ok q hq)), fun q hq => ?_, fun a b h1 h2 h3 h4 h5 => va_Nc.of (hfl _ (nc_ok a (by omega) b (by omega) h5 h1 h3)), fun a => va_Yc.of (hts _ (cast_ok a)), fun q hq => va_AO.of (hts _ (over_ok q hq)), fun q hq => va_Nw.of rfl (hts _ (decl_ok q hq)), vx_Zqof (hts _ (tb_4 (List.mem_of_getElem? (i := 2) rfl))) (hts _ (tb_1 (List.mem_of_getElem? (i := 12) rfl))) (hfl _ isr_ok.1) (fun a ha => Nat.not_le.mpr ha), vx_Zqof (hts _ (tb_4 (List.mem_of_getElem? (i := 4) rfl))) (hts _ (tb_1 (List.mem_of_getElem? (i := 12) rfl))) (hfl _ isr_ok.2) (fun a ha => Nat.not_le.mpr ha)⟩
  · match k, hq with
    | 0, hq => cases hq; exact hI
    | 1, hq => cases hq; exact hZ
    | 2, hq => cases hq; exact hJ
    | 3, hq => cases hq; exact hq0
    | 4, hq => cases hq; exact hq1
    | 5, hq => cases hq; exact hq2
    | 6, hq => cases hq; exact hq3
    | 7, hq => cases hq; exact hq6
    | k + 8, hq => exact absurd (List.getElem?_eq_some_iff.mp hq).1 (by simp [gT])
  · obtain ⟨a, c, cell, k, h1, -⟩ := Cond.exactly_spec (hfl _ (str_ex q hq))
    exact ⟨a, vk_R.of (hts _ (str_ok q hq)) h1⟩
set_option maxHeartbeats 4000000 in
set_option maxRecDepth 100000 in
theorem whole_of (hp : LawPure) {p : Program} {e : Env} {s : State} {m : MethodId} {below : List Frame} {meth : Method} {c : Code} (l : Launch) (hflags : l.flags = flags0) {b L : Nat} {xs : Nat → Int32} (hL : L ≤ 3072) (C0 : lw_At p s m meth c b L xs) (htb : c.exceptionTable.toList = []) (hnm : meth.name = "law") : W p l e room_1 s m #[Value.ref b] below meth c s.heap [] 0 0 (lw_Z below #[Value.ref b] s) (entryFrame m ([Value.ref b] : List Value).toArray 7) := by
  obtain ⟨hx, hb, hr, hml, hown, hts, hX, hbl, hlocks, hgv⟩ := id C0
  obtain ⟨G, hG⟩ := GN_start hts hgv
  have hst : l.stackTraces = false := by unfold Launch.stackTraces; rw [hflags]; decide
  obtain ⟨h', hF⟩ := hp b L xs s.heap.size hL hbl
  have hC : Fx mL_law l G s.heap.size p s m #[Value.ref b] meth c := ⟨hx, hb, hr, hml, hown, fun w h => hts w (TW_tbl h), hlocks, hst, hG, htb, hnm⟩
  have K := sL_law b l G s.heap.size p e s m #[Value.ref b] below meth c hC s.heap [] _ (h0 b L xs s.heap.size) 1 h' (lvH.entry (as := [Value.ref b]) (n := 7) (z := 6) rfl (show 1 ≤ 7 by decide)) va_S.rf (Rp_h0 hX hbl) hF
  rw [lg_entry_eq]
  intro T hT X
  obtain ⟨t, a1, o, hrun, hend, hq⟩ := K T hT X
  refine ⟨t, a1, o, hrun, hend, ?_⟩
  rcases hq with ⟨⟨⟨v, hv, ho, -⟩, -⟩, LL, hFr, hLL⟩ | ⟨q, -, E, ce, LL, ⟨⟨k, hk, -⟩, -⟩, -⟩
  · cases hv
    refine ⟨ho, ⟨_, ho⟩, hFr.2.1, hFr.2.2.weaken (fun y hy hlt => absurd hlt (Nat.not_lt.mpr (hLL y hy))) (Nat.le_refl _) (Nat.le_refl _)⟩
  · cases hk
set_option maxHeartbeats 4000000 in
theorem lw_walk (hp : LawPure) (l : Launch) (hflags : l.flags = flags0) (b : Addr) (xs : List Int32) : MetFree l x (headSpec (Jvm.Cond.code x code maxLocals ret :: tables_1) room_1) (lw_P b xs) (fun _ _ _ _ _ => True) lw_Q := by
  refine MetFree.of_bodyS (code := code) (maxLocals := maxLocals) (ret := ret) (by decide) ?_ ?_
  · intro args s m h hn
    obtain ⟨meth, c, h1, h2, h3, h4, h5, h6, -, -⟩ := Cond.code_spec hn (atoms_spec (ws := Jvm.Cond.code x code maxLocals ret :: tables_1) h _ List.mem_cons_self)
    exact ⟨meth, c, h1, h2, h3, h4, h5, h6⟩
  · intro p e s m args below meth c s₁ B hml0 hP _
    obtain ⟨rfl, hx, hbd, hgv⟩ := hP
    obtain ⟨scr, harrAt, hlist, hof, hsmall⟩ := hx
    obtain ⟨hcb, hkn, -, -⟩ := State.arrayAt?_spec harrAt
    have hown : s.vm.findClass R_law = some m.cls := findClass_of_methodNamed B.named
    have hts0 : ∀ c ∈ (Jvm.Cond.code x code maxLocals ret :: tables_1), c.before #[Value.ref b] s = true := atoms_spec (ws := Jvm.Cond.code x code maxLocals ret :: tables_1) B.pre
    have hts : ∀ w ∈ lw_tbl, w.before #[Value.ref b] s = true := k2_hts_sels lw_privs (fun w hw => hts0 w (List.mem_cons_of_mem _ hw)) lw_privs_ok
    have hml : c.maxLocals = 7 := B.maxLocals_eq (hts0 _ List.mem_cons_self)
    have X₀ : Stand p l e room_1 s m #[Value.ref b] below meth c s₁ [] 0 0 := Stand.of_body B
    have hh0 : s₁.heap = s.heap := by rw [B.state]; rfl
    have hsz : scr.slots.size = xs.length := by rw [← Array.length_toList, hlist, List.length_map]
    have hval : ∀ j : Nat, j < xs.length → scr.slots[j]? = some (.int (xs.getD j 0)) := fun j hj => by
      rw [← Array.getElem?_toList, hlist]
      simp [hj]
    have hbl : b < s.heap.size := (Array.getElem?_eq_some_iff.mp hcb).1
    have hX : va_X b xs.length (fun j => xs.getD j 0) s s.heap := ⟨scr, hcb, hof, hkn, hsz, hval⟩
    have K : W p l e room_1 s m #[Value.ref b] below meth c s₁.heap [] 0 0 (lw_Z below #[Value.ref b] s) (entryFrame m ([Value.ref b] : List Value).toArray 7) := by
      rw [hh0]
      refine whole_of hp l hflags hbd ⟨B.exec, B.bytes, B.returns, hml, hown, hts, hX, hbl, B.notSynchronized, hgv⟩ ?_ (name_of_methodNamed B.named B.method).1
      obtain ⟨meth9, c9, h1, h2, -, -, -, -, h7, -⟩ := Cond.code_spec B.named (hts0 _ List.mem_cons_self)
      cases Option.some.inj (h1.symm.trans B.method)
      cases Option.some.inj (h2.symm.trans X₀.code)
      rw [Array.isEmpty_iff.mp h7]
    obtain ⟨t, a1, o, b1, b2, b3⟩ := K s₁ rfl X₀
    exact ⟨t, o, a1, b1, b2, b3⟩
theorem lw_pre_spec {args : Array Value} {s : State} (h : (Jvm.Cond.and given_1 narrow_1).before args s = true) (hr : rest_1_c.before args s = true) : ∃ (b : Addr) (xs : List Int32), lw_P b xs args s := by
  have hs := flat_of_before _ h
  have hq := flat_of_before _ hr
  have hc : (Cond.count 1).before args s = true := hs _ (by decide +kernel)
  have harr : (Cond.arrayOf (.arg 0) .int).before args s = true := hs _ (by decide +kernel)
  have hle : (Cond.le (.length (.arg 0)) (.int 3072)).before args s = true := hs _ (by decide +kernel)
  have hlen : (Cond.isInt (.length (.arg 0))).before args s = true := hq _ (by decide +kernel)
  have hall : (Cond.all (.arg 0) (.isInt (.elem (.arg 0) (.index 0)))).before args s = true := hq _ (by decide +kernel)
  obtain ⟨b, xs, hb, hx⟩ := State.ints_of_pre rfl harr hlen hall
  have hsm : xs.length < 2 ^ 31 := hx.choose_spec.2.2.2
  have hev : (Term.length (.arg 0)).eval args s none [] s = some (.int xs.length.toInt32) := hx.length_eval hb
  have hv := Cond.le_ints hev (show (Term.int 3072).eval args s none [] s = some (.int 3072) from rfl)
  have hd : xs.length.toInt32 ≤ 3072 := by
    simpa [Cond.before, Cond.holds, hv] using hle
  have hN : xs.length ≤ 3072 := (Int32.ofNat_le_ofNat hsm (by decide)).mp (show Int32.ofNat xs.length ≤ Int32.ofNat 3072 from hd)
  exact ⟨b, xs, Cond.one_arg hc (show args[0]? = some (.ref b) from hb), hx, hN, h⟩
theorem lw_comes (hp : LawPure) (l : Launch) (hflags : l.flags = flags0) : Comes l x (Jvm.Cond.code x code maxLocals ret :: tables_1) room_1 (fun tb e args s => Calls_1 tb e args s ∧ rest_1 tb e args s ∧ Pre_1 tb e args s)
    (fun _ _ args s o t => lw_Q args s o t) := by
  intro p e ha hc hk s m args below hf hfit hheap happ hpre
  obtain ⟨b, xs, hP⟩ := lw_pre_spec hpre.2.2 hpre.2.1
  obtain ⟨k, o, h1, h2, h3, hQ⟩ := lw_walk hp l hflags b xs p e ha hc hk s m args below hf ((Spec.applies_iff_loose hf).mp happ).1 hP trivial
  exact ⟨k, o, h1, h2, h3, hQ⟩
theorem lw_frame {s t : State} {o : Outcome} {args : Array Value} (h : Framed s o t [] 601024 7293034) :
    Framed s o t (fieldLocs frame_1_writes args s ++ arrayLocs frame_1_arrays args s ++ staticLocs frame_1_statics s) 601024 7293034 := h
theorem lw_limb (hp : LawPure) (L : Cond) (hL : ∀ (args : Array Value) (s t : State), L.after args s (.returned (some (.int 1))) t = true) :
    ArmFor flags0 classFile x code maxLocals ret World_1 tables_1 room_1 Calls_1 rest_1 Pre_1
      (fun tb e a s o t => postC L tb e a s o t ∧ Framed s o t (fieldLocs frame_1_writes a s ++ arrayLocs frame_1_arrays a s ++ staticLocs frame_1_statics s) 601024 7293034) := by
  intro l hflags _ _ p e ha hc hk s m args below hf hfit hheap happ hpre
  obtain ⟨k, o, h1, h2, h3, rfl, hF⟩ := lw_comes hp l hflags p e ha hc hk s m args below hf hfit hheap happ hpre
  exact ⟨k, _, h1, h2, h3, hL args s _, lw_frame hF⟩
theorem i_vc_of (hp : LawPure) : Claimed_1_1 ∧ Claimed_1_2 := ⟨lw_limb hp limb_1_1 (fun args s t => by simp [limb_1_1, Cond.after, Cond.holds, Cond.value]), lw_limb hp limb_1_2 (fun args s t => Cond.after_iff.mpr (by
  first | (rw [show limb_1_2 = Cond.eq .result (.int 1) from rfl, Cond.eq_ints (x := 1) (y := 1) rfl rfl]; simp; done) | (simp [limb_1_2, Cond.value, Term.eval]; done)))⟩


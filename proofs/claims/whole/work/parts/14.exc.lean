/-! EXCEPTIONS (own): NoSuchElementException's constructor calls its parent at place 13 of its pool, where the kit's laws (vx_throwS and the library's ctorThrowS, whose proof this one follows) take 7 throughout -/
def bs_NSE : String := "java/util/NoSuchElementException"
def bs_RE : String := "java/lang/RuntimeException"
def bs_EX : String := "java/lang/Exception"
section EXC
/-- what is asked of the tables -/
def bs_xat (own : String) (ic : Nat) : List Cond :=
  Bundle.throwableAtoms ++ Bundle.throwableSAtoms ++ Bundle.passSAtoms bs_NSE bs_RE 13 prog_24_method_4_code ++ Bundle.chainSAtoms bs_RE [bs_EX] ++
  [.methodLink own ic (Bundle.initS bs_NSE), .instantiable bs_NSE 6, .castable bs_NSE bs_NSE, .selects bs_NSE Bundle.tFill0 Bundle.tFill0, .selects bs_NSE Bundle.tFill Bundle.tFill,
   .lays bs_NSE Bundle.tN "cause" "Ljava/lang/Throwable;", .lays bs_NSE Bundle.tN "stackTrace" Bundle.steD, .lays bs_NSE Bundle.tN "suppressedExceptions" Bundle.listD, .lays bs_NSE Bundle.tN "detailMessage" "Ljava/lang/String;",
   .isRef (.static Bundle.tN "UNASSIGNED_STACK" Bundle.steD), .isRef (.static Bundle.tN "SUPPRESSED_SENTINEL" Bundle.listD),
   .fieldLink Bundle.tN 198 Bundle.tN "backtrace" "Ljava/lang/Object;", .lays Bundle.tN Bundle.tN "backtrace" "Ljava/lang/Object;", .lays bs_NSE Bundle.tN "backtrace" "Ljava/lang/Object;"]
variable {p : Program} {l : Launch} {e : Env} {R : Room} {s : State} {m₀ : MethodId} {args : Array Value} {below : List Frame} {meth : Method} {c : Code} {W : State} {locs : List Loc} {cells slots : Nat}
set_option maxHeartbeats 2000000 in
theorem bs_ctorT (X : Stand p l e R s m₀ args below meth c W locs cells slots) (hexec : p.tables.exec = Jvm.exec) (htr : e.platform.stackTraces = false) {own : String} {ic : Nat}
    (hown : s.vm.findClass own = some m₀.cls) (h : ∀ a ∈ bs_xat own ic, a.before args s = true)
    (hlocs : ∀ x ∈ locs, ∀ cell, s.heap[x.base]? = some cell → cell.vm.isStatics = false)
    {a : Addr} {cX : ClassId} {kX : Class} (hfoundX : s.vm.findClass bs_NSE = some cX) (hkX : s.vm.classes[cX]? = some kX) (hcell : W.heap[a]? = some (freshCell cX kX)) (hnew : s.heap.size ≤ a)
    {msg : Value} (hmsg : msg.isRef = true)
    {g : JFrame} (hg : g.method = m₀) (hsize : g.locals.size = c.maxLocals) (hlocked : g.locked = none) (hentered : g.entered = []) {rest : List Value} (hstack : g.stack = msg :: .ref a :: .ref a :: rest)
    (hd6 : decode c.code g.pc = .ok (.invokespecial ic, 3)) (hd9 : decode c.code (g.pc + 3) = .ok (.athrow, 1)) (hout : ∀ x ∈ c.exceptionTable.toList, covers x (g.pc + 3) = false)
    (hRframes : 5 < R.frames) (hRlocals : 2 * g.monitorRoom + ((Value.ref a :: rest).map fun v => v.category).sum + 81 ≤ R.locals) (hlocks : meth.locks = false) :
    ∃ U : State, Steps p.tables e below (W.setTop g) U ∧ U.status = .running ∧ Ended U below (.threw a) ∧ s.WarmedH U.vm ∧ s.sameButNew ({ U with vm := s.vm } : State) locs cells slots ∧
      ∃ ce, U.heap[a]? = some ce ∧ ce.vm = .none ∧ s.vm.findClass bs_NSE = some ce.cls := by
  have howns : e.platform.frameOwnsMonitors = true := by rw [X.admits.platform]
  have hfin : e.platform.finalization = false := by rw [X.admits.platform]
  have hpl : e.platform.magicAccessors = ({} : Platform).magicAccessors := by rw [X.admits.platform]
  have q : ∀ x, x ∈ bs_xat own ic → x.holds args s none s [] = true := fun x hx => h x hx
  obtain ⟨T, Z0, L, -, Y⟩ := ThrowableC.of_atoms (args := args) howns hfin hpl (fun x hx => h x (by simp [bs_xat, hx]))
  obtain ⟨Z, M, LZ, LM, hnZ⟩ := Init0T.ofS_atoms (args := args) hpl L Y (fun x hx => h x (by simp [bs_xat, hx]))
  -- its own link, then the chain of its parents
  obtain ⟨P0, L0, hP0m, hP0s⟩ := PassC.ofS_atoms (args := args) (s := s) hpl (X := bs_NSE) (Y := bs_RE) (index := 13) (bytes := prog_24_method_4_code) (by decide) (by decide) (by decide +kernel) (by decide +kernel) (by decide +kernel) (by decide +kernel) (fun x hx => h x (by simp [bs_xat, hx]))
  obtain ⟨P1, Ps, hlen, L1, hL, hP1m, hlink1, hlink⟩ := Bundle.chainS (args := args) hpl hnZ [bs_EX] bs_RE (by decide) (by decide) (fun x hx => h x (by simp [bs_xat, hx]))
  have hsup : P0.sup = P1.m := Option.some.inj (hP0s.symm.trans hP1m)
  have hfound : s.vm.findClass bs_NSE = some P0.m.cls := findClass_of_methodNamed hP0m
  cases Option.some.inj (hfoundX.symm.trans hfound)
  obtain ⟨c1, kX', hc1, hk, hord, -, -, hn6⟩ := Cond.instantiable_spec (q (.instantiable bs_NSE 6) (by simp [bs_xat]))
  cases Option.some.inj (hc1.symm.trans hfound)
  cases Option.some.inj (hkX.symm.trans hk)
  have hsel0 : selectMethod e.platform s.vm P0.m.cls T.fill0 = .method T.fill0 := by
    obtain ⟨c2, r2, m2, q1, q2, q3, q4, -⟩ := Cond.selects_spec (q (.selects bs_NSE Bundle.tFill0 Bundle.tFill0) (by simp [bs_xat]))
    cases Option.some.inj (q1.symm.trans hfound)
    cases Option.some.inj (q2.symm.trans (State.methodFound?_of_named Y.fill0 (by decide)))
    cases Option.some.inj (q3.symm.trans Y.fill0)
    rw [Launch.admits_selectMethod X.admits]; exact q4
  have hselF : selectMethod e.platform s.vm P0.m.cls T.fill = .method T.fill := by
    obtain ⟨c2, r2, m2, q1, q2, q3, q4, -⟩ := Cond.selects_spec (q (.selects bs_NSE Bundle.tFill Bundle.tFill) (by simp [bs_xat]))
    cases Option.some.inj (q1.symm.trans hfound)
    cases Option.some.inj (q2.symm.trans (State.methodFound?_of_named Y.fill (by decide)))
    cases Option.some.inj (q3.symm.trans Y.fill)
    rw [Launch.admits_selectMethod X.admits]; exact q4
  obtain ⟨cellS0, hcS0, hiss⟩ := Y.statics
  obtain ⟨u0, hu0⟩ := Cond.staticRefV Y.unassigned L.unassignedStatic L.statics hcS0 hiss (q (.isRef (.static Bundle.tN "UNASSIGNED_STACK" Bundle.steD)) (by simp [bs_xat]))
  obtain ⟨sen, hsen⟩ := Cond.staticRefV Y.sentinel L.sentinelStatic L.statics hcS0 hiss (q (.isRef (.static Bundle.tN "SUPPRESSED_SENTINEL" Bundle.listD)) (by simp [bs_xat]))
  obtain ⟨ci198, i198, fB, hk198, hg198, ha198, hsB, -, hnB, htB, hffB⟩ := Cond.ownField (t := .object "java/lang/Object") Y.found L.cls (by decide +kernel) (q (.fieldLink Bundle.tN 198 Bundle.tN "backtrace" "Ljava/lang/Object;") (by simp [bs_xat])) (q (.lays Bundle.tN Bundle.tN "backtrace" "Ljava/lang/Object;") (by simp [bs_xat])) e.platform hpl
  obtain ⟨cellS, hcS', heS, -, hkeep⟩ := X.same.2.2.2.2.2 T.aS cellS0 hcS0
  have hcellS : W.heap[T.aS]? = some cellS := hcS'
  have hout' : ∀ i, (⟨T.aS, i⟩ : Loc) ∉ locs := fun i hmem => by
    have := hlocs _ hmem cellS0 hcS0
    rw [hiss] at this; cases this
  have hknownS : cellS.vm ≠ .unknown := by
    rw [heS]; intro hu
    rw [show cellS0.vm = .unknown from hu] at hiss
    cases hiss
  have hneS : T.aS ≠ a := Nat.ne_of_lt (Nat.lt_of_lt_of_le (Array.getElem?_eq_some_iff.mp hcS0).1 hnew)
  obtain ⟨iM, hffM⟩ := Y.msg
  obtain ⟨tyC, dC, hdC, hdnC⟩ := Cond.laysAt hfound hk Y.cause (q (.lays bs_NSE Bundle.tN "cause" "Ljava/lang/Throwable;") (by simp [bs_xat]))
  obtain ⟨tyS, dS, hdS, hdnS⟩ := Cond.laysAt hfound hk Y.stack (q (.lays bs_NSE Bundle.tN "stackTrace" Bundle.steD) (by simp [bs_xat]))
  obtain ⟨tyP, dP, hdP, hdnP⟩ := Cond.laysAt hfound hk Y.supp (q (.lays bs_NSE Bundle.tN "suppressedExceptions" Bundle.listD) (by simp [bs_xat]))
  obtain ⟨tyM, dM, hdM, hdnM⟩ := Cond.laysAt hfound hk hffM (q (.lays bs_NSE Bundle.tN "detailMessage" "Ljava/lang/String;") (by simp [bs_xat]))
  obtain ⟨tyB, dB, hdB, hdnB⟩ := Cond.laysAt hfound hk hffB (q (.lays bs_NSE Bundle.tN "backtrace" "Ljava/lang/Object;") (by simp [bs_xat]))
  have bC := Cond.laysApart hdB hdC hdnB hdnC (by rw [hnB, Y.causeName]; decide)
  have bS := Cond.laysApart hdB hdS hdnB hdnS (by rw [hnB, Y.stackName]; decide)
  have bP := Cond.laysApart hdB hdP hdnB hdnP (by rw [hnB, Y.suppName]; decide)
  have hskip : SkipFacts T e.platform s (fun u => u) u0 ((preparedCellV T.toThrowableT (freshCell P0.m.cls kX) a u0 sen).withEntry W.cur) :=
    ⟨{ ci198 := ci198, i198 := i198, fBack := fB }, ⟨hk198, hg198, ha198, hsB⟩, by
      have := fresh_default (c := P0.m.cls) tyB
      rw [htB] at this
      simpa [preparedCellV, Cell.setSlot, Cell.withEntry, Array.getElem?_setIfInBounds, bC, bS, bP, bC.symm, bS.symm, bP.symm, defaultValue] using this, fun _ _ => rfl⟩
  obtain ⟨tm, methC, cdC, kC, vm₁, hnC, -, -, -, -, -, -, -, hW₁, st1⟩ := Steps.initColdS (tb := p.tables) (e := e) (below := below) (s := s) (U := W) X.here hexec X.warmed hpl hown (t := Bundle.initS bs_NSE) rfl rfl (by decide)
    (q (.methodLink own ic (Bundle.initS bs_NSE)) (by simp [bs_xat])) (h (.instanceMethod (Bundle.initS bs_NSE)) (by simp [bs_xat, Bundle.passSAtoms])) (bytes := prog_24_method_4_code) (maxL := 2) (h (.code (Bundle.initS bs_NSE) prog_24_method_4_code 2 none) (by simp [bs_xat, Bundle.passSAtoms]))
    (f := g) hg (a := a) (msg := msg) (rest := .ref a :: rest) hstack hd6
  cases Option.some.inj (hnC.symm.trans hP0m)
  have X₁ := X.noted hW₁
  obtain ⟨vm₂, X₂, st2⟩ := X₁.ctorMessageOffV hexec (g := { g with stack := .ref a :: rest }) hg hsize T L Z LZ M LM (P0 :: P1 :: Ps)
    (fun P hP => by
      rcases List.mem_cons.mp hP with rfl | hP
      · exact L0
      · rcases List.mem_cons.mp hP with rfl | hP
        · exact L1
        · exact hL P hP) ⟨hsup, hlink1, hlink⟩ (u0 := u0) (sen := sen) (self := a) hmsg (cell := freshCell P0.m.cls kX) (cellS := cellS)
    hcell (fun _ => by simp) (by simp) rfl rfl hsel0 hselF hcellS hneS hknownS (by rw [hkeep _ (hout' _)]; exact hu0) (by rw [hkeep _ (hout' _)]; exact hsen)
    (Takes.of_laid hk hord tyC (by rw [Y.causeType]; rfl)) (Takes.of_laid hk hord tyS (by rw [Y.stackType]; exact fits_refV_array _ u0)) (Takes.of_laid hk hord tyP (by rw [Y.suppType]; exact fits_refV_object _ sen))
    (Takes.of_laid hk hord tyM (by rw [Y.msgType]; exact fits_refV_object _ ⟨msg, hmsg⟩)) Y.objLocals hskip htr [] hd6
    (by have hl1 : Ps.length = 1 := hlen
        simp only [List.length_cons, hl1]; omega) (by have hl1 : Ps.length = 1 := hlen
                                                      simp only [List.length_cons, hl1]; exact hRlocals)
  obtain ⟨hwalk, hrun, hended, hWU, hsame⟩ := X₂.athrowLeaves hexec (g := { g with stack := .ref a :: rest, pc := g.pc + 3 }) hg hlocked hentered hout (a := a) (rest := rest) rfl hd9
  have hlt : a < ((W.setVm vm₁).setVm vm₂).heap.size := (Array.getElem?_eq_some_iff.mp hcell).1
  have hU := heapAt_setCell_self (s := (W.setVm vm₁).setVm vm₂) (plainBareV T.toThrowableT (freshCell P0.m.cls kX) a u0 sen msg) hlt
  refine ⟨_, st1 _ (fun acts => ?_), hrun, hended, hWU, hsame.weaken (fun y hy hlt' => ?_) (Nat.le_refl _) (Nat.le_refl _), _, hU, rfl, hfound⟩
  · rw [doInvoke_state]
    exact st2 _ hwalk
  · rcases List.mem_append.mp hy with h1 | h1
    · exact h1
    · exfalso
      have hb : y.base = a := by
        simp only [List.mem_cons, List.not_mem_nil, or_false] at h1
        rcases h1 with rfl | rfl | rfl | rfl | rfl <;> rfl
      rw [hb] at hlt'
      exact Nat.not_lt.mpr hnew hlt'
end EXC

/-! what a method that throws finds: the two statics, words of the tables that aren't kept of themselves, the texts -/
def bs_tx : List (Nat × String) := [(177, "no such bubble"), (196, "nothing such is told of a bubble"), (315, "no such guest in the latest run"), (329, "nothing such is told of a guest"), (335, "no such rule")]
def bs_J (A : Nat → Prop) (U : State) : Prop := vx_Zq Bundle.tN "UNASSIGNED_STACK" Bundle.steD A U U.heap ∧ vx_Zq Bundle.tN "SUPPRESSED_SENTINEL" Bundle.listD A U U.heap ∧ (∀ n ∈ [bs_RE, bs_EX, Bundle.tN], va_Nw (.declares (Bundle.initS n)) U) ∧ va_Nw (.castable bs_NSE bs_NSE) U ∧ ∀ q ∈ bs_tx, ∃ a, vk_R "BalloonStall" q.1 q.2 a U
theorem bs_J.same {A : Nat → Prop} {u U : State} (hv : u.vm = U.vm) (hh : u.heap = U.heap) (h : bs_J A u) : bs_J A U :=
  ⟨by rw [← hh]; exact vx_Zq.moved (by rw [hv]; exact Vm.Alike.refl U.vm) h.1, by rw [← hh]; exact vx_Zq.moved (by rw [hv]; exact Vm.Alike.refl U.vm) h.2.1, fun n hn => va_Nw.same rfl hv (h.2.2.1 n hn), va_Nw.same rfl hv h.2.2.2.1, fun q hq => (h.2.2.2.2 q hq).imp fun _ z => vk_R.same hv.symm z⟩
theorem bs_J.at {A B : Nat → Prop} {s U : State} (hW : s.WarmedH U.vm) (hk : ∀ a : Nat, a < s.heap.size → ¬ A a → U.heap[a]? = s.heap[a]?) (hAB : ∀ q, B q → A q) (h : bs_J A s) : bs_J B U :=
  ⟨((h.1.kept hk).moved hW.alike).narrow hAB, ((h.2.1.kept hk).moved hW.alike).narrow hAB, fun n hn => va_Nw.warmD hW (h.2.2.1 n hn), va_Nw.warmC hW h.2.2.2.1, fun q hq => (h.2.2.2.2 q hq).imp fun _ z => vk_R.warm hW z⟩
theorem bs_fac {α : Type} {P : α → Prop} {a : α} {t : List α} (h : P a) (k : ∀ w ∈ t, P w) : ∀ w ∈ a :: t, P w := fun w hw => by
  rcases List.mem_cons.mp hw with rfl | hw
  · exact h
  · exact k w hw
set_option maxRecDepth 10000 in
theorem bs_xat_ok {A : Nat → Prop} {args : Array Value} {s : State} (hts : ∀ w ∈ bs_al, w.before args s = true) (hJ : bs_J A s) : ∀ w ∈ bs_xat "BalloonStall" 179, w.before args s = true := by
  refine bs_fac (hts _ (bs_al_in (bs_t1 _ (List.mem_of_getElem? (i := 18) rfl)) rfl)) ?_
  refine bs_fac (hts _ (bs_al_in (bs_t5 _ (List.mem_of_getElem? (i := 182) rfl)) rfl)) ?_
  refine bs_fac (hts _ (bs_al_in (bs_t5 _ (List.mem_of_getElem? (i := 191) rfl)) rfl)) ?_
  refine bs_fac (hts _ (bs_al_in (bs_t5 _ (List.mem_of_getElem? (i := 193) rfl)) rfl)) ?_
  refine bs_fac (hts _ (bs_al_in (bs_t5 _ (List.mem_of_getElem? (i := 196) rfl)) rfl)) ?_
  refine bs_fac (hts _ (bs_al_in (bs_t5 _ (List.mem_of_getElem? (i := 198) rfl)) rfl)) ?_
  refine bs_fac (hts _ (bs_al_in (bs_t5 _ (List.mem_of_getElem? (i := 183) rfl)) rfl)) ?_
  refine bs_fac (hts _ (bs_al_in (bs_t5 _ (List.mem_of_getElem? (i := 184) rfl)) rfl)) ?_
  refine bs_fac (hts _ (bs_al_in (bs_t1 _ (List.mem_of_getElem? (i := 28) rfl)) rfl)) ?_
  refine bs_fac (hts _ (bs_al_in (bs_t1 _ (List.mem_of_getElem? (i := 29) rfl)) rfl)) ?_
  refine bs_fac (hts _ (bs_al_in (bs_t5 _ (List.mem_of_getElem? (i := 185) rfl)) rfl)) ?_
  refine bs_fac (hts _ (bs_al_in (bs_t5 _ (List.mem_of_getElem? (i := 190) rfl)) rfl)) ?_
  refine bs_fac (hts _ (bs_al_in (bs_t5 _ (List.mem_of_getElem? (i := 194) rfl)) rfl)) ?_
  refine bs_fac (hts _ (bs_al_in (bs_t5 _ (List.mem_of_getElem? (i := 214) rfl)) rfl)) ?_
  refine bs_fac (hts _ (bs_al_in (bs_t5 _ (List.mem_of_getElem? (i := 172) rfl)) rfl)) ?_
  refine bs_fac (hts _ (bs_al_in (bs_t5 _ (List.mem_of_getElem? (i := 215) rfl)) rfl)) ?_
  refine bs_fac (hts _ (bs_al_in (bs_t5 _ (List.mem_of_getElem? (i := 174) rfl)) rfl)) ?_
  refine bs_fac (hts _ (bs_al_in (bs_t5 _ (List.mem_of_getElem? (i := 216) rfl)) rfl)) ?_
  refine bs_fac (hts _ (bs_al_in (bs_t5 _ (List.mem_of_getElem? (i := 176) rfl)) rfl)) ?_
  refine bs_fac (hts _ (bs_al_in (bs_t5 _ (List.mem_of_getElem? (i := 186) rfl)) rfl)) ?_
  refine bs_fac (hJ.1.2.word) ?_
  refine bs_fac (hts _ (bs_al_in (bs_t5 _ (List.mem_of_getElem? (i := 188) rfl)) rfl)) ?_
  refine bs_fac (hJ.2.1.2.word) ?_
  refine bs_fac (hts _ (bs_al_in (bs_t5 _ (List.mem_of_getElem? (i := 178) rfl)) rfl)) ?_
  refine bs_fac (hts _ (bs_al_in (bs_t5 _ (List.mem_of_getElem? (i := 210) rfl)) rfl)) ?_
  refine bs_fac (hts _ (bs_al_in (bs_t5 _ (List.mem_of_getElem? (i := 211) rfl)) rfl)) ?_
  refine bs_fac (hts _ (bs_al_in (bs_t5 _ (List.mem_of_getElem? (i := 213) rfl)) rfl)) ?_
  refine bs_fac (hts _ (bs_al_in (bs_t5 _ (List.mem_of_getElem? (i := 178) rfl)) rfl)) ?_
  refine bs_fac (hts _ (bs_al_in (bs_t5 _ (List.mem_of_getElem? (i := 201) rfl)) rfl)) ?_
  refine bs_fac (hts _ (bs_al_in (bs_t5 _ (List.mem_of_getElem? (i := 202) rfl)) rfl)) ?_
  refine bs_fac (hts _ (bs_al_in (bs_t5 _ (List.mem_of_getElem? (i := 203) rfl)) rfl)) ?_
  refine bs_fac (hts _ (bs_al_in (bs_t5 _ (List.mem_of_getElem? (i := 204) rfl)) rfl)) ?_
  refine bs_fac (va_Nw.use rfl (hJ.2.2.1 bs_RE (by simp))) ?_
  refine bs_fac (hts _ (bs_al_in (bs_t5 _ (List.mem_of_getElem? (i := 204) rfl)) rfl)) ?_
  refine bs_fac (hts _ (bs_al_in (bs_t5 _ (List.mem_of_getElem? (i := 205) rfl)) rfl)) ?_
  refine bs_fac (hts _ (bs_al_in (bs_t5 _ (List.mem_of_getElem? (i := 206) rfl)) rfl)) ?_
  refine bs_fac (hts _ (bs_al_in (bs_t5 _ (List.mem_of_getElem? (i := 207) rfl)) rfl)) ?_
  refine bs_fac (va_Nw.use rfl (hJ.2.2.1 bs_EX (by simp))) ?_
  refine bs_fac (hts _ (bs_al_in (bs_t5 _ (List.mem_of_getElem? (i := 207) rfl)) rfl)) ?_
  refine bs_fac (hts _ (bs_al_in (bs_t5 _ (List.mem_of_getElem? (i := 208) rfl)) rfl)) ?_
  refine bs_fac (hts _ (bs_al_in (bs_t5 _ (List.mem_of_getElem? (i := 209) rfl)) rfl)) ?_
  refine bs_fac (hts _ (bs_al_in (bs_t5 _ (List.mem_of_getElem? (i := 210) rfl)) rfl)) ?_
  refine bs_fac (va_Nw.use rfl (hJ.2.2.1 Bundle.tN (by simp))) ?_
  refine bs_fac (hts _ (bs_al_in (bs_t5 _ (List.mem_of_getElem? (i := 200) rfl)) rfl)) ?_
  refine bs_fac (hts _ (bs_al_in (bs_t5 _ (List.mem_of_getElem? (i := 161) rfl)) rfl)) ?_
  refine bs_fac (va_Nw.use rfl hJ.2.2.2.1) ?_
  refine bs_fac (hts _ (bs_al_in (bs_t5 _ (List.mem_of_getElem? (i := 169) rfl)) rfl)) ?_
  refine bs_fac (hts _ (bs_al_in (bs_t5 _ (List.mem_of_getElem? (i := 170) rfl)) rfl)) ?_
  refine bs_fac (hts _ (bs_al_in (bs_t5 _ (List.mem_of_getElem? (i := 171) rfl)) rfl)) ?_
  refine bs_fac (hts _ (bs_al_in (bs_t5 _ (List.mem_of_getElem? (i := 173) rfl)) rfl)) ?_
  refine bs_fac (hts _ (bs_al_in (bs_t5 _ (List.mem_of_getElem? (i := 175) rfl)) rfl)) ?_
  refine bs_fac (hts _ (bs_al_in (bs_t5 _ (List.mem_of_getElem? (i := 177) rfl)) rfl)) ?_
  refine bs_fac (vx_isRefq hJ.1.1) ?_
  refine bs_fac (vx_isRefq hJ.2.1.1) ?_
  refine bs_fac (hts _ (bs_al_in (bs_t5 _ (List.mem_of_getElem? (i := 181) rfl)) rfl)) ?_
  refine bs_fac (hts _ (bs_al_in (bs_t5 _ (List.mem_of_getElem? (i := 180) rfl)) rfl)) ?_
  refine bs_fac (hts _ (bs_al_in (bs_t5 _ (List.mem_of_getElem? (i := 179) rfl)) rfl)) ?_
  exact fun w hw => nomatch hw
/-- what is known where a method has thrown -/
def bs_XC (Px : bs_Po) (D : va_G) (dA : Nat → ClassId) (A : Nat → Prop) : String → State → State → Prop := fun E st t =>
  E = bs_NSE ∧ (∃ (nx : Nat) (sh : bs_Sh) (mu : bs_Mm), Px none nx sh mu ∧ bs_rp D dA A nx sh mu t.heap) ∧ va_F A st t
def bs_Px (D : va_G) (dA : Nat → ClassId) (av : List Value) (nx : Nat) (sh : bs_Sh) (mu : bs_Mm) : Array Value → State → Prop := va_Pc av (fun U => bs_K D dA U ∧ bs_rp D dA (fun _ => True) nx sh mu U.heap ∧ bs_J (bs_A sh nx) U)
/-- A CONTRACT of a method that may throw: it returns and Ph holds, or NoSuchElementException leaves it and Px holds -/
def bs_CX (X : bs_M) (rm : Room) (av : List Value) (nx : Nat) (sh : bs_Sh) (mu : bs_Mm) (Ph Px : bs_Po) : Prop :=
  ∀ (l : Launch) (D : va_G) (dA : Nat → ClassId), l.stackTraces = false → vx_Met l X.1 (bs_ws X) rm (bs_Px D dA av nx sh mu) (bs_Q Ph D dA (bs_A sh nx)) (bs_XC Px D dA (bs_A sh nx)) rm.cells rm.slots (bs_A sh nx)
/-- A CONTRACT of a method with handlers hh, that returns -/
def bs_CT (X : bs_M) (hh : List (Nat × Nat × Nat × Nat)) (rm : Room) (av : List Value) (nx : Nat) (sh : bs_Sh) (mu : bs_Mm) (Ph : bs_Po) : Prop :=
  ∀ (l : Launch) (D : va_G) (dA : Nat → ClassId), l.stackTraces = false → Met l X.1 (Cond.codeWith X.1 X.2.1 X.2.2.1 X.2.2.2 hh :: bs_al) rm (bs_Px D dA av nx sh mu) (bs_Q Ph D dA (bs_A sh nx)) rm.cells rm.slots (bs_A sh nx)
def bs_zx (X : bs_M) (Ph Px : bs_Po) (rm : Room) : bs_Z := (fun l s args A => l.stackTraces = false ∧ bs_J A s ∧ ∃ (m0 : MethodId) (below0 : List Frame), s.frames = .invoking m0 args :: below0 ∧ s.methodNamed? X.1 = some m0, fun s args below D dA A => vx_MQ below (bs_Q Ph D dA A) (bs_XC Px D dA A) args s rm.cells rm.slots A)
def bs_zh (X : bs_M) (hh : List (Nat × Nat × Nat × Nat)) (Ph : bs_Po) (rm : Room) : bs_Z := (fun l s args A => l.stackTraces = false ∧ bs_J A s ∧ (Cond.codeWith X.1 X.2.1 X.2.2.1 X.2.2.2 hh).before args s = true ∧ ∃ (m0 : MethodId) (below0 : List Frame), s.frames = .invoking m0 args :: below0 ∧ s.methodNamed? X.1 = some m0, (bs_zm Ph rm).2)
section EXR
variable {Ph Px : bs_Po} {Z : bs_Z} {X : bs_M} {rm : Room} {pc : Nat} {lo : bs_L} {st rest : List Value} {nc ns nx : Nat} {sh : bs_Sh} {mu : bs_Mm} {hh : List (Nat × Nat × Nat × Nat)}
theorem bs_ofmX (k : bs_V (bs_zm Ph rm) X rm pc lo st nc ns nx sh mu) : bs_V (bs_zx X Ph Px rm) X rm pc lo st nc ns nx sh mu :=
  fun p l e s m args below meth c D dA A F _ H locs ls hP hS hl => vx_ret (k p l e s m args below meth c D dA A F trivial H locs ls hP hS hl)
theorem bs_ofmH (k : bs_V (bs_zm Ph rm) X rm pc lo st nc ns nx sh mu) : bs_V (bs_zh X hh Ph rm) X rm pc lo st nc ns nx sh mu :=
  fun p l e s m args below meth c D dA A F _ H locs ls hP hS hl => k p l e s m args below meth c D dA A F trivial H locs ls hP hS hl
/-- 'throw new NoSuchElementException(text)' -/
theorem bs_throw {is : Nat} {tx : String} (d0 : decode X.2.1 pc = .ok (.new 175, 3)) (d3 : decode X.2.1 (pc + 3) = .ok (.dup, 1)) (d4 : decode X.2.1 (pc + 4) = .ok (.ldc is, 2)) (d6 : decode X.2.1 (pc + 6) = .ok (.invokespecial 179, 3)) (d9 : decode X.2.1 (pc + 9) = .ok (.athrow, 1))
    (ho : X.1.cls = "BalloonStall") (hcw : Cond.code X.1 X.2.1 X.2.2.1 X.2.2.2 ∈ bs_al) (ht : (is, tx) ∈ bs_tx) (hf : 5 < rm.frames) (hlo : (rest.map fun v => v.category).sum + 82 ≤ rm.locals) (hc : nc + 1 ≤ rm.cells) (hn : ns + 6 ≤ rm.slots) (h : ∀ nx', nx ≤ nx' → Px none nx' sh mu) :
    bs_V (bs_zx X Ph Px rm) X rm pc lo rest nc ns nx sh mu := by
  intro p l e s m args below meth c D dA A F hE H locs ls hP hS hl
  obtain ⟨hl0, hJ, m0, below0, hfr, hnm⟩ := hE
  obtain ⟨hexec, hb, -, hml, hown, hts, hlocks, -, -, hAn⟩ := F
  rw [ho] at hown
  intro T hT X0
  have hm : m0 = m := by
    have e1 := hfr.symm.trans X0.frames
    injection e1 with e2 _
    injection e2
  subst hm
  obtain ⟨meth9, c9, q1, q2, -, -, -, -, q7, -⟩ := Cond.code_spec hnm (hts _ (id hcw))
  cases Option.some.inj (q1.symm.trans X0.method)
  cases Option.some.inj (q2.symm.trans X0.code)
  have hout : ∀ x ∈ c.exceptionTable.toList, covers x (pc + 9) = false := by
    intro x hx
    rw [Array.isEmpty_iff.mp q7] at hx
    cases hx
  obtain ⟨sa, hstr⟩ := hJ.2.2.2.2 _ ht
  have htr : e.platform.stackTraces = false := (show e.platform.stackTraces = l.stackTraces by rw [X0.admits.platform]).trans hl0
  have Y := vx_rebase X0 (R' := { frames := rm.frames, locals := rm.locals, cells := 1, slots := 6 }) (Nat.le_refl _) (Nat.le_refl _) hc hn
  obtain ⟨s', hA⟩ : ∃ z, z = (T.setVm s.vm).setFrames (.invoking m0 args :: below) := ⟨_, rfl⟩
  rw [← hA] at Y
  have hvm : s'.vm = s.vm := by rw [hA]; rfl
  have hhp : s'.heap = H := by rw [hA]; exact hT
  have hW0 : s.WarmedH s'.vm := by rw [hvm]; exact State.WarmedH.refl s
  have hts' : ∀ w ∈ bs_al, w.before args s' = true := fun w hw => by
    have hg : goodWord w = true := (List.mem_filter.mp hw).2
    exact word_at hW0 (good_of_word hg) (hts w hw)
  have hJ' : bs_J A s' := hJ.at hW0 (fun a h1 h2 => by rw [hhp]; exact hS.2.1 a h1 h2) (fun _ z => z)
  have hat := bs_xat_ok hts' hJ'
  have hown' : s'.vm.findClass "BalloonStall" = some m0.cls := by rw [hvm]; exact hown
  have hk' : (Cond.classLink "BalloonStall" 175 bs_NSE).before args s' = true := hts' _ (bs_al_in (bs_t5 _ (List.mem_of_getElem? (i := 160) rfl)) rfl)
  have hini' : (Cond.initialized bs_NSE).before args s' = true := hts' _ (bs_al_in (bs_t1 _ (List.mem_of_getElem? (i := 21) rfl)) rfl)
  have hins : (Cond.instantiable bs_NSE 6).before args s' = true := hat _ (by simp [bs_xat])
  obtain ⟨vm₁, cX, kX, hfX, hkX, -, -, X₁, st1⟩ := Y.newCold hexec (own := "BalloonStall") (C := bs_NSE) (index := 175) (n := 6) hown' hk' hins hini'
    (g := F0 m0 pc ls rest) rfl (by rw [hb]; exact d0) (Nat.le_refl _) (Nat.le_refl _)
  generalize hT1 : (T.setVm vm₁).pushCell { cls := cX, slots := kX.instanceTypes.map defaultValue, vm := .none } = T1 at X₁ st1
  have hcat : (Value.ref T.heap.size).category = 1 := rfl
  have hcellA : T1.heap[T.heap.size]? = some (freshCell cX kX) := by rw [← hT1]; exact State.heap_pushCell_size _ _
  have d3' : decode c.code (pc + 3) = .ok (.dup, 1) := by rw [hb]; exact d3
  have d4' : decode c.code (pc + 4) = .ok (.ldc is, 2) := by rw [hb]; exact d4
  have hstr' : vk_R "BalloonStall" is tx sa s' := vk_R.warm hW0 hstr
  obtain ⟨U, hsteps, hrun, hend, hW, hsame, ce, hce, hcv, hcc⟩ := bs_ctorT X₁ hexec htr (own := "BalloonStall") (ic := 179) hown' hat (fun x hx => nomatch hx) hfX hkX hcellA (by rw [hhp, hT]; exact Nat.le_refl _) (msg := .ref sa) rfl
    (g := { method := m0, pc := pc + 6, locals := ls, stack := .ref sa :: .ref T.heap.size :: .ref T.heap.size :: rest, locked := none }) rfl (hl.1.trans hml.symm) rfl rfl (rest := rest) rfl
    (by rw [hb]; exact d6) (by rw [hb]; exact d9) hout hf (by simp only [List.map_cons, List.sum_cons, hcat]; show 2 * 0 + _ + _ ≤ _; omega) hlocks
  obtain ⟨f1, f2⟩ := vx_frame hsame
  rw [hhp] at f1 f2
  have f3 : ∀ q : Nat, q < H.size → U.heap[q]? = H[q]? := fun q hq => f2 q hq (fun z hz => nomatch hz)
  have hWs : s.WarmedH U.vm := State.WarmedH.trans hW0 hW
  have hcl : s.vm.findClass bs_NSE = some ce.cls := by rw [hvm] at hcc; exact hcc
  have hall : s.sameButNew ({ U with vm := s.vm } : State) locs rm.cells rm.slots := by
    subst hA
    obtain ⟨e1, e2⟩ := hsame
    rw [State.setFrames_setFrames] at e1
    have h2 : (T.setVm s.vm).sameButNew ({ U with vm := s.vm } : State) [] (0 + 1) (0 + 6) := ⟨e1, e2⟩
    have h3 := X0.same.trans h2
    rw [List.append_nil] at h3
    exact h3.mono hc hn
  have hrp : bs_rp D dA A U.heap.size sh mu U.heap := ⟨rfl, fun a ha => ⟨(hP.2 a ha).1, ((hP.2 a ha).2).kept (f3 a (by have := hP.lt ha; rw [hP.1]; exact this))⟩⟩
  have hF : va_F A s U := ⟨Nat.le_trans hS.1 f1, fun q h1 h2 => (f3 q (Nat.lt_of_lt_of_le h1 hS.1)).trans (hS.2.1 q h1 h2)⟩
  refine ⟨U, ?_, .threw T.heap.size, hrun, hend, Or.inr ⟨T.heap.size, rfl, bs_NSE, ce, locs, ⟨rfl, ⟨_, sh, mu, h _ (by rw [← hP.1]; exact f1), hrp⟩, hF⟩, hce, hcv, hcl, hWs, hall, hS.2.2⟩⟩
  refine st1 _ ?_
  show Steps p.tables e below (T1.setTop { method := m0, pc := pc + 3, locals := ls, stack := .ref T.heap.size :: rest, locked := none }) _
  jvm_step X₁.here [X₁.here.top, hexec, d3', Value.category]
  exact X₁.ldcString hexec (own := "BalloonStall") (text := tx) (index := is) (a := sa) hown' hstr'.1 hstr'.2
    (g := { method := m0, pc := pc + 4, locals := ls, stack := .ref T.heap.size :: .ref T.heap.size :: rest, locked := none }) rfl d4' _ hsteps
/-- 'throw new NoSuchElementException(text)', the text by a wide index -/
theorem bs_throwW {is : Nat} {tx : String} (d0 : decode X.2.1 pc = .ok (.new 175, 3)) (d3 : decode X.2.1 (pc + 3) = .ok (.dup, 1)) (d4 : decode X.2.1 (pc + 4) = .ok (.ldc_w is, 3)) (d6 : decode X.2.1 (pc + 7) = .ok (.invokespecial 179, 3)) (d9 : decode X.2.1 (pc + 10) = .ok (.athrow, 1))
    (ho : X.1.cls = "BalloonStall") (hcw : Cond.code X.1 X.2.1 X.2.2.1 X.2.2.2 ∈ bs_al) (ht : (is, tx) ∈ bs_tx) (hf : 5 < rm.frames) (hlo : (rest.map fun v => v.category).sum + 82 ≤ rm.locals) (hc : nc + 1 ≤ rm.cells) (hn : ns + 6 ≤ rm.slots) (h : ∀ nx', nx ≤ nx' → Px none nx' sh mu) :
    bs_V (bs_zx X Ph Px rm) X rm pc lo rest nc ns nx sh mu := by
  intro p l e s m args below meth c D dA A F hE H locs ls hP hS hl
  obtain ⟨hl0, hJ, m0, below0, hfr, hnm⟩ := hE
  obtain ⟨hexec, hb, -, hml, hown, hts, hlocks, -, -, hAn⟩ := F
  rw [ho] at hown
  intro T hT X0
  have hm : m0 = m := by
    have e1 := hfr.symm.trans X0.frames
    injection e1 with e2 _
    injection e2
  subst hm
  obtain ⟨meth9, c9, q1, q2, -, -, -, -, q7, -⟩ := Cond.code_spec hnm (hts _ (id hcw))
  cases Option.some.inj (q1.symm.trans X0.method)
  cases Option.some.inj (q2.symm.trans X0.code)
  have hout : ∀ x ∈ c.exceptionTable.toList, covers x (pc + 10) = false := by
    intro x hx
    rw [Array.isEmpty_iff.mp q7] at hx
    cases hx
  obtain ⟨sa, hstr⟩ := hJ.2.2.2.2 _ ht
  have htr : e.platform.stackTraces = false := (show e.platform.stackTraces = l.stackTraces by rw [X0.admits.platform]).trans hl0
  have Y := vx_rebase X0 (R' := { frames := rm.frames, locals := rm.locals, cells := 1, slots := 6 }) (Nat.le_refl _) (Nat.le_refl _) hc hn
  obtain ⟨s', hA⟩ : ∃ z, z = (T.setVm s.vm).setFrames (.invoking m0 args :: below) := ⟨_, rfl⟩
  rw [← hA] at Y
  have hvm : s'.vm = s.vm := by rw [hA]; rfl
  have hhp : s'.heap = H := by rw [hA]; exact hT
  have hW0 : s.WarmedH s'.vm := by rw [hvm]; exact State.WarmedH.refl s
  have hts' : ∀ w ∈ bs_al, w.before args s' = true := fun w hw => by
    have hg : goodWord w = true := (List.mem_filter.mp hw).2
    exact word_at hW0 (good_of_word hg) (hts w hw)
  have hJ' : bs_J A s' := hJ.at hW0 (fun a h1 h2 => by rw [hhp]; exact hS.2.1 a h1 h2) (fun _ z => z)
  have hat := bs_xat_ok hts' hJ'
  have hown' : s'.vm.findClass "BalloonStall" = some m0.cls := by rw [hvm]; exact hown
  have hk' : (Cond.classLink "BalloonStall" 175 bs_NSE).before args s' = true := hts' _ (bs_al_in (bs_t5 _ (List.mem_of_getElem? (i := 160) rfl)) rfl)
  have hini' : (Cond.initialized bs_NSE).before args s' = true := hts' _ (bs_al_in (bs_t1 _ (List.mem_of_getElem? (i := 21) rfl)) rfl)
  have hins : (Cond.instantiable bs_NSE 6).before args s' = true := hat _ (by simp [bs_xat])
  obtain ⟨vm₁, cX, kX, hfX, hkX, -, -, X₁, st1⟩ := Y.newCold hexec (own := "BalloonStall") (C := bs_NSE) (index := 175) (n := 6) hown' hk' hins hini'
    (g := F0 m0 pc ls rest) rfl (by rw [hb]; exact d0) (Nat.le_refl _) (Nat.le_refl _)
  generalize hT1 : (T.setVm vm₁).pushCell { cls := cX, slots := kX.instanceTypes.map defaultValue, vm := .none } = T1 at X₁ st1
  have hcat : (Value.ref T.heap.size).category = 1 := rfl
  have hcellA : T1.heap[T.heap.size]? = some (freshCell cX kX) := by rw [← hT1]; exact State.heap_pushCell_size _ _
  have d3' : decode c.code (pc + 3) = .ok (.dup, 1) := by rw [hb]; exact d3
  have d4' : decode c.code (pc + 4) = .ok (.ldc_w is, 3) := by rw [hb]; exact d4
  have hstr' : vk_R "BalloonStall" is tx sa s' := vk_R.warm hW0 hstr
  obtain ⟨U, hsteps, hrun, hend, hW, hsame, ce, hce, hcv, hcc⟩ := bs_ctorT X₁ hexec htr (own := "BalloonStall") (ic := 179) hown' hat (fun x hx => nomatch hx) hfX hkX hcellA (by rw [hhp, hT]; exact Nat.le_refl _) (msg := .ref sa) rfl
    (g := { method := m0, pc := pc + 7, locals := ls, stack := .ref sa :: .ref T.heap.size :: .ref T.heap.size :: rest, locked := none }) rfl (hl.1.trans hml.symm) rfl rfl (rest := rest) rfl
    (by rw [hb]; exact d6) (by rw [hb]; exact d9) hout hf (by simp only [List.map_cons, List.sum_cons, hcat]; show 2 * 0 + _ + _ ≤ _; omega) hlocks
  obtain ⟨f1, f2⟩ := vx_frame hsame
  rw [hhp] at f1 f2
  have f3 : ∀ q : Nat, q < H.size → U.heap[q]? = H[q]? := fun q hq => f2 q hq (fun z hz => nomatch hz)
  have hWs : s.WarmedH U.vm := State.WarmedH.trans hW0 hW
  have hcl : s.vm.findClass bs_NSE = some ce.cls := by rw [hvm] at hcc; exact hcc
  have hall : s.sameButNew ({ U with vm := s.vm } : State) locs rm.cells rm.slots := by
    subst hA
    obtain ⟨e1, e2⟩ := hsame
    rw [State.setFrames_setFrames] at e1
    have h2 : (T.setVm s.vm).sameButNew ({ U with vm := s.vm } : State) [] (0 + 1) (0 + 6) := ⟨e1, e2⟩
    have h3 := X0.same.trans h2
    rw [List.append_nil] at h3
    exact h3.mono hc hn
  have hrp : bs_rp D dA A U.heap.size sh mu U.heap := ⟨rfl, fun a ha => ⟨(hP.2 a ha).1, ((hP.2 a ha).2).kept (f3 a (by have := hP.lt ha; rw [hP.1]; exact this))⟩⟩
  have hF : va_F A s U := ⟨Nat.le_trans hS.1 f1, fun q h1 h2 => (f3 q (Nat.lt_of_lt_of_le h1 hS.1)).trans (hS.2.1 q h1 h2)⟩
  refine ⟨U, ?_, .threw T.heap.size, hrun, hend, Or.inr ⟨T.heap.size, rfl, bs_NSE, ce, locs, ⟨rfl, ⟨_, sh, mu, h _ (by rw [← hP.1]; exact f1), hrp⟩, hF⟩, hce, hcv, hcl, hWs, hall, hS.2.2⟩⟩
  refine st1 _ ?_
  show Steps p.tables e below (T1.setTop { method := m0, pc := pc + 3, locals := ls, stack := .ref T.heap.size :: rest, locked := none }) _
  jvm_step X₁.here [X₁.here.top, hexec, d3', Value.category]
  exact X₁.ldcStringW hexec (own := "BalloonStall") (text := tx) (index := is) (a := sa) hown' hstr'.1 hstr'.2
    (g := { method := m0, pc := pc + 4, locals := ls, stack := .ref T.heap.size :: .ref T.heap.size :: rest, locked := none }) rfl d4' _ hsteps
theorem bs_blindX {D : va_G} {dA : Nat → ClassId} {av : List Value} : FrameBlind (bs_Px D dA av nx sh mu) := fun a U g mk q => ⟨q.1, bs_K.same rfl q.2.1, q.2.2.1, bs_J.same rfl rfl q.2.2.2⟩
/-- a contract out of a walk that may throw -/
theorem bs_ctx {av : List Value} (hy : plainName X.1.cls = true) (hlen : (lg_sl av).length ≤ X.2.2.1) (body : bs_V (bs_zx X Ph Px rm) X rm 0 (bs_mk (lv_args 0 av)) [] 0 0 nx sh mu) : bs_CX X rm av nx sh mu Ph Px := by
  intro l D dA hl0
  refine vx_ofW (cc := X.2.1) (maxL := X.2.2.1) (ret := X.2.2.2) hy rfl ?_
  intro p e s m args below meth c s₁ B hml _ hv
  obtain ⟨rfl, hK, hP, hJ⟩ := hv
  have hts := atoms_spec (ws := bs_ws X) B.pre
  have F : bs_F p s m av.toArray meth c X D dA (bs_A sh nx) := ⟨B.exec, B.bytes, B.returns, hml, findClass_of_methodNamed B.named, fun w h => hts w (List.mem_cons_of_mem _ h), B.notSynchronized, (name_of_methodNamed B.named B.method).1, hK, fun q h => Or.inr (by rw [hP.1] at h; exact h)⟩
  rw [lg_entry_eq]
  have hl := lv_entry av (n := X.2.2.1) hlen
  exact body p l e s m _ below meth c D dA _ F ⟨hl0, hJ, m, below, (Stand.of_body B).frames, B.named⟩ s.heap [] _ hP.self va_S.rf ⟨hl.1, hl.2.1, fun i v h => hl.2.2 (i, v) (bs_mk_in _ i v h)⟩
/-- a contract out of a walk with handlers -/
theorem bs_cth {av : List Value} (hy : plainName X.1.cls = true) (hlen : (lg_sl av).length ≤ X.2.2.1) (body : bs_V (bs_zh X hh Ph rm) X rm 0 (bs_mk (lv_args 0 av)) [] 0 0 nx sh mu) : bs_CT X hh rm av nx sh mu Ph := by
  intro l D dA hl0
  refine va_MetW (cc := X.2.1) (maxL := X.2.2.1) (ret := X.2.2.2) (hh := hh) hy rfl ?_
  intro p e s m args below meth c s₁ B hml hv
  obtain ⟨rfl, hK, hP, hJ⟩ := hv
  have hts := atoms_spec (ws := Cond.codeWith X.1 X.2.1 X.2.2.1 X.2.2.2 hh :: bs_al) B.pre
  have F : bs_F p s m av.toArray meth c X D dA (bs_A sh nx) := ⟨B.exec, B.bytes, B.returns, hml, findClass_of_methodNamed B.named, fun w h => hts w (List.mem_cons_of_mem _ h), B.notSynchronized, (name_of_methodNamed B.named B.method).1, hK, fun q h => Or.inr (by rw [hP.1] at h; exact h)⟩
  rw [lg_entry_eq]
  have hl := lv_entry av (n := X.2.2.1) hlen
  exact body p l e s m _ below meth c D dA _ F ⟨hl0, hJ, hts _ List.mem_cons_self, m, below, (Stand.of_body B).frames, B.named⟩ s.heap [] _ hP.self va_S.rf ⟨hl.1, hl.2.1, fun i v h => hl.2.2 (i, v) (bs_mk_in _ i v h)⟩
/-- a call of a method that may throw, in a method whose one handler catches it -/
theorem bs_callVX {ix n ci b : Nat} {Y : bs_M} {rm1 : Room} {As : List Value} {P1 Px1 : bs_Po} {z0 : ExceptionTableEntry} (d : decode X.2.1 pc = .ok (.invokevirtual ix, 3)) (w : bs_cv X.1.cls ix Y n ci) (hC : bs_CX Y rm1 (.ref b :: As) nx sh mu P1 Px1) (hn : As.length = n) (hb : (sh b).1 = ci) (hst : st = As.reverse ++ .ref b :: rest) (hw : (rest.map fun v => v.category).sum ≤ 8) (hR : bs_cr rm rm1 Y.2.2.1 nc ns)
    (hz : tableOf hh = [z0]) (hcov : covers z0 pc = true) (h0 : z0.catchType ≠ 0) (hlk : Cond.classLink X.1.cls z0.catchType bs_NSE ∈ bs_al)
    (kx : ∀ q nx' sh' mu', Px1 none nx' sh' mu' → bs_V (bs_zh X hh Ph rm) X rm z0.handlerPc lo [.ref q] (nc + rm1.cells) (ns + rm1.slots) nx' sh' mu')
    (kk : ∀ v nx' sh' mu', P1 v nx' sh' mu' → bs_V (bs_zh X hh Ph rm) X rm (pc + 3) lo (v.toList ++ rest) (nc + rm1.cells) (ns + rm1.slots) nx' sh' mu') : bs_V (bs_zh X hh Ph rm) X rm pc lo st nc ns nx sh mu := by
  intro p l e s m args below meth c D dA A F hE H locs ls hP hS hl
  obtain ⟨hl0, hJ, hcw, m0, below0, hfr, hnm⟩ := id hE
  obtain ⟨⟨w2, w3, w4, w5, w6⟩, w7, w8, w9, h13, q, hq, hqn⟩ := w
  have hts := F.2.2.2.2.2.1
  have hK := F.2.2.2.2.2.2.2.2.1
  have hP1 := hP.one (a := b) (by omega)
  rw [show bs_ce dA sh mu b = .inr (ci, bs_fs ci (mu b)) by simp [bs_ce, hb, h13]] at hP1
  have hrecv := va_recv hK.1 hP1 hq (q0 := 0) rfl
  rw [hqn] at hrecv
  have hg : GoodIn bs_al (wsV X.1.cls ix Y.1.cls Y.1 (bs_ws Y)) := bs_al_good fun w hw => by
    rcases List.mem_append.mp hw with h | h
    · simp only [List.mem_cons, List.not_mem_nil, or_false] at h
      rcases h with rfl | rfl | rfl | rfl
      · exact w7
      · exact w8
      · exact w9
      · exact w2
    · rcases List.mem_cons.mp h with rfl | h
      · exact w3
      · exact h
  have hAA : ∀ q, bs_A sh nx q → A q := fun q h => by
    rcases h with h | h
    · exact (hP.2 q h).1
    · exact F.2.2.2.2.2.2.2.2.2 q (Nat.le_trans hS.1 (by rw [hP.1]; exact h))
  have hr := vx_runV (As := As) (rest := rest) ⟨F.1, F.2.1, F.2.2.2.1, F.2.2.2.2.1, hts⟩ (hC l D dA hl0) (cwV n hts hg rfl rfl rfl ⟨rfl, w4, w5, w6⟩ hR.1) ⟨bs_blindX, hrecv, fun U hU hW => ⟨rfl, hK.warm hW, by rw [hU]; exact hP.weaken fun _ _ _ => trivial, hJ.at hW (fun a h1 h2 => by rw [hU]; exact hS.2.1 a h1 h2) hAA⟩⟩ (g := F0 m pc ls st) rfl hn hl.1 hst (by show 2 * 0 + _ ≤ _; omega) d (cells := nc) (slots := ns) (locs := locs) (below := below) (meth := meth) (c := c) (p := p) (e := e) hR.2
  intro T hT X0
  rcases hr T hT X0 with ⟨v0, st₀, t, T', L, e0, X', hL, e1, e2, ⟨⟨v, nx', sh', mu', hv, hp, hrp⟩, hz', hk⟩, stp⟩ | ⟨q9, st₀, t, T', L, E, ce, e0, X', hL, e1, e2, ⟨rfl, ⟨nx', sh', mu', hp, hrp⟩, hz', hk⟩, hce, hcv, hcl, stp⟩
  · cases hv
    rw [e0] at hz' hk
    have hrp' : bs_rp D dA A nx' sh' mu' T'.heap := by rw [e1]; exact hrp.weaken fun q _ h => hAA q h
    have hS' : va_S A s.heap T'.heap (locs ++ L) := ⟨Nat.le_trans hS.1 (by rw [e1]; exact hz'), fun q h1 h2 => by
        rw [e1, hk q (Nat.lt_of_lt_of_le h1 hS.1) (fun z => h2 (hAA q z))]; exact hS.2.1 q h1 h2, fun q hq => by
        rcases List.mem_append.mp hq with h | h
        · exact hS.2.2 q h
        · exact hAA _ (hL q h)⟩
    obtain ⟨t2, a1, b1⟩ := kk _ nx' sh' mu' hp p l e s m args below meth c D dA A F hE T'.heap (locs ++ L) ls hrp' hS' hl T' rfl X'
    exact ⟨t2, stp t2 a1, b1⟩
  · rw [e0] at hz' hk
    have hrp' : bs_rp D dA A nx' sh' mu' T'.heap := by rw [e1]; exact hrp.weaken fun q _ h => hAA q h
    have hS' : va_S A s.heap T'.heap (locs ++ L) := ⟨Nat.le_trans hS.1 (by rw [e1]; exact hz'), fun q h1 h2 => by
        rw [e1, hk q (Nat.lt_of_lt_of_le h1 hS.1) (fun z => h2 (hAA q z))]; exact hS.2.1 q h1 h2, fun q hq => by
        rcases List.mem_append.mp hq with h | h
        · exact hS.2.2 q h
        · exact hAA _ (hL q h)⟩
    have hm : m0 = m := by
      have e3 := hfr.symm.trans X0.frames
      injection e3 with e4 _
      injection e4
    subst hm
    have htab : c.exceptionTable.toList = [] ++ z0 :: [] := by
      obtain ⟨m9, meth9, c9, hn9, h1, h2, -, -, h6, -⟩ := Cond.codeWith_spec hcw
      cases Option.some.inj (hn9.symm.trans hnm)
      cases Option.some.inj (h1.symm.trans X0.method)
      cases Option.some.inj (h2.symm.trans X0.code)
      rw [List.nil_append, ← hz, ← h6, table_eq]
    have kW := vx_catch (H := T'.heap) (locs := locs ++ L) (cells := nc + rm1.cells) (slots := ns + rm1.slots) (Q := (bs_zh X hh Ph rm).2 s args below D dA A) (p := p) (l := l) (e := e) (R := rm) (below := below) (meth := meth) (ls := ls) (rest := rest) (pc := pc) F.2.2.2.2.1 [] z0 [] htab (fun _ h => nomatch h) hcov h0 (hts _ (id hlk)) (va_Nw.use rfl hJ.2.2.2.1) (by rw [e1]; exact hce) hcv hcl
      (kx q9 nx' sh' mu' hp p l e s m0 args below meth c D dA A F hE T'.heap (locs ++ L) ls hrp' hS' hl)
    obtain ⟨t2, a1, b1⟩ := kW T' rfl X'
    exact ⟨t2, stp.trans a1, b1⟩
end EXR

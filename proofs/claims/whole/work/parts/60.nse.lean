/-! 'throw new NoSuchElementException(text)': its constructor links its super at another place than the kit's row has it (the road is that of the library's ctorThrowS, over chainSX) -/
abbrev sd_ups : List String := ["java/lang/RuntimeException", "java/lang/Exception"]
abbrev eN : String := "java/util/NoSuchElementException"
abbrev eA : String := "java/lang/IllegalArgumentException"
abbrev eS : String := "java/lang/IllegalStateException"
/-- what the thrown object's own class must have -/
def sd_tail (own : String) (ic : Nat) (X : String) : List Cond :=
  [.methodLink own ic (Bundle.initS X), .instantiable X 6, .castable X X, .selects X Bundle.tFill0 Bundle.tFill0, .selects X Bundle.tFill Bundle.tFill] ++
  ([("cause", "Ljava/lang/Throwable;"), ("stackTrace", Bundle.steD), ("suppressedExceptions", Bundle.listD), ("detailMessage", "Ljava/lang/String;"), ("backtrace", "Ljava/lang/Object;")].map (fun q => Cond.lays X Bundle.tN q.1 q.2)) ++
  [.isRef (.static Bundle.tN "UNASSIGNED_STACK" Bundle.steD), .isRef (.static Bundle.tN "SUPPRESSED_SENTINEL" Bundle.listD), .fieldLink Bundle.tN 198 Bundle.tN "backtrace" "Ljava/lang/Object;", .lays Bundle.tN Bundle.tN "backtrace" "Ljava/lang/Object;"]
/-- all words of a throw of an X whose super Y (and on by 'ups') it links at ix -/
def sd_own (own : String) (ic : Nat) (X : String) (ix : Nat) (rx : ByteArray) (Y : String) (ups : List String) : List Cond := (Bundle.throwableAtoms ++ Bundle.throwableSAtoms) ++ ((Bundle.passSAtoms X Y ix rx ++ Bundle.chainSAtoms Y ups) ++ sd_tail own ic X)
def sd_atX (own : String) (ic : Nat) (X : String) (ix : Nat) (rx : ByteArray) (Y : String) (ups : List String) : List Cond := (sd_own own ic X ix rx Y ups).filter vx_no
section
variable {p : Program} {l : Launch} {e : Env} {R : Room} {s : State} {m : MethodId} {args : Array Value} {below : List Frame} {meth : Method} {c : Code} {H : Heap} {locs : List Loc} {cells slots : Nat}
set_option maxHeartbeats 1000000 in
/-- the constructor's chain and athrow, from the cell a that is new -/
theorem sd_ctorX {T0 : State} (X : Stand p l e R s m args below meth c T0 locs cells slots) (hexec : p.tables.exec = Jvm.exec) (htr : e.platform.stackTraces = false) {own cls Y0 : String} {ups : List String} {ic ix : Nat} {rx : ByteArray}
    (x0 : decode rx 0 = .ok (.aload_n 0, 1)) (x1 : decode rx 1 = .ok (.aload_n 1, 1)) (x2 : decode rx 2 = .ok (.invokespecial ix, 3)) (x5 : decode rx 5 = .ok (.return_, 1))
    (hown : s.vm.findClass own = some m.cls) (hcls : Bundle.fit cls = true) (hY0 : Bundle.fit Y0 = true) (hups : ∀ n ∈ ups, Bundle.fit n = true) (h : ∀ w ∈ sd_own own ic cls ix rx Y0 ups, w.before args s = true) (hlocs : ∀ x ∈ locs, ∀ cell, s.heap[x.base]? = some cell → cell.vm.isStatics = false)
    {a : Addr} {cX : ClassId} {kX : Class} (hfoundX : s.vm.findClass cls = some cX) (hkX : s.vm.classes[cX]? = some kX) (hcell : T0.heap[a]? = some (freshCell cX kX)) (hnew : s.heap.size ≤ a) {msg : Value} (hmsg : msg.isRef = true)
    {g : JFrame} (hg : g.method = m) (hsize : g.locals.size = c.maxLocals) (hlocked : g.locked = none) (hentered : g.entered = []) {rest : List Value} (hstack : g.stack = msg :: .ref a :: .ref a :: rest)
    (d6 : decode c.code g.pc = .ok (.invokespecial ic, 3)) (d9 : decode c.code (g.pc + 3) = .ok (.athrow, 1)) (hout : ∀ x ∈ c.exceptionTable.toList, covers x (g.pc + 3) = false)
    (hRf : ups.length + 4 < R.frames) (hRl : 2 * g.monitorRoom + ((Value.ref a :: rest).map fun v => v.category).sum + (13 * (ups.length + 2) + 42) ≤ R.locals) (hlocks : meth.locks = false) :
    ∃ U : State, Steps p.tables e below (T0.setTop g) U ∧ U.status = .running ∧ Ended U below (.threw a) ∧ s.WarmedH U.vm ∧ s.sameButNew ({ U with vm := s.vm } : State) locs cells slots ∧ ∃ ce, U.heap[a]? = some ce ∧ ce.vm = .none ∧ s.vm.findClass cls = some ce.cls := by
  have hpl : e.platform.magicAccessors = ({} : Platform).magicAccessors := by rw [X.admits.platform]
  have w9 : ∀ x, x ∈ sd_own own ic cls ix rx Y0 ups → x.holds args s none s [] = true := fun x hx => h x hx
  obtain ⟨T, Z0, L, -, Y⟩ := ThrowableC.of_atoms (args := args) (by rw [X.admits.platform]) (by rw [X.admits.platform]) hpl (fun x hx => h x (by simp [sd_own, sd_tail, hx]))
  obtain ⟨Z, M, LZ, LM, hnZ⟩ := Init0T.ofS_atoms (args := args) hpl L Y (fun x hx => h x (by simp [sd_own, sd_tail, hx]))
  obtain ⟨P1, L1, hP1m, hsup⟩ := PassC.ofS_atoms (args := args) (s := s) hpl (X := cls) (Y := Y0) (Bundle.fit_spec hcls).1 (Bundle.fit_spec hY0).2 x0 x1 x2 x5 (fun x hx => h x (by simp [sd_own, hx]))
  obtain ⟨P2, Pr, hlen2, L2, hL2, hP2m, hlink2, hlink3⟩ := Bundle.chainS (args := args) hpl hnZ ups Y0 hY0 hups (fun x hx => h x (by simp [sd_own, hx]))
  have hlink1 : P1.sup = P2.m := Option.some.inj (hsup.symm.trans hP2m)
  have hfound : s.vm.findClass cls = some P1.m.cls := findClass_of_methodNamed hP1m
  cases Option.some.inj (hfoundX.symm.trans hfound)
  obtain ⟨c1, kX', hc1, hk, hord, -, -, hn6⟩ := Cond.instantiable_spec (w9 (.instantiable cls 6) (by simp [sd_own, sd_tail]))
  cases Option.some.inj (hc1.symm.trans hfound)
  cases Option.some.inj (hkX.symm.trans hk)
  have sel : ∀ {y : MethodName} {i : MethodId}, s.methodNamed? y = some i → (Cond.selects cls y y).before args s = true → s.methodFound? y.cls y.name y.desc = some i → selectMethod e.platform s.vm P1.m.cls i = .method i := by
    intro y i h2 h1 h3
    obtain ⟨c2, r2, m2, q1, q2, q3, q4, -⟩ := Cond.selects_spec h1
    cases Option.some.inj (q1.symm.trans hfound)
    cases Option.some.inj (q2.symm.trans h3)
    cases Option.some.inj (q3.symm.trans h2)
    rw [Launch.admits_selectMethod X.admits]
    exact q4
  have hsel0 := sel (y := Bundle.tFill0) Y.fill0 (h _ (by simp [sd_own, sd_tail])) (State.methodFound?_of_named Y.fill0 (by decide))
  have hselF := sel (y := Bundle.tFill) Y.fill (h _ (by simp [sd_own, sd_tail])) (State.methodFound?_of_named Y.fill (by decide))
  obtain ⟨cellS0, hcS0, hiss⟩ := Y.statics
  obtain ⟨u0, hu0⟩ := Cond.staticRefV Y.unassigned L.unassignedStatic L.statics hcS0 hiss (w9 (.isRef (.static Bundle.tN "UNASSIGNED_STACK" Bundle.steD)) (by simp [sd_own, sd_tail]))
  obtain ⟨sen, hsen⟩ := Cond.staticRefV Y.sentinel L.sentinelStatic L.statics hcS0 hiss (w9 (.isRef (.static Bundle.tN "SUPPRESSED_SENTINEL" Bundle.listD)) (by simp [sd_own, sd_tail]))
  obtain ⟨ci198, i198, fB, hk198, hg198, ha198, hsB, -, hnB, htB, hffB⟩ := Cond.ownField (t := .object "java/lang/Object") Y.found L.cls (by decide +kernel) (w9 (.fieldLink Bundle.tN 198 Bundle.tN "backtrace" "Ljava/lang/Object;") (by simp [sd_own, sd_tail])) (w9 (.lays Bundle.tN Bundle.tN "backtrace" "Ljava/lang/Object;") (by simp [sd_own, sd_tail])) e.platform hpl
  obtain ⟨cellS, hcellS, heS, -, hkeep⟩ := X.same.2.2.2.2.2 T.aS cellS0 hcS0
  have hout' : ∀ i, (⟨T.aS, i⟩ : Loc) ∉ locs := fun i hmem => by
    have z := hlocs _ hmem cellS0 hcS0
    rw [hiss] at z
    cases z
  have hknownS : cellS.vm ≠ .unknown := fun hu => by
    rw [heS] at hu
    rw [show cellS0.vm = .unknown from hu] at hiss
    cases hiss
  have hneS : T.aS ≠ a := Nat.ne_of_lt (Nat.lt_of_lt_of_le (Array.getElem?_eq_some_iff.mp hcS0).1 hnew)
  obtain ⟨iM, hffM⟩ := Y.msg
  obtain ⟨tyC, dC, hdC, hdnC⟩ := Cond.laysAt hfound hk Y.cause (w9 (.lays cls Bundle.tN "cause" "Ljava/lang/Throwable;") (by simp [sd_own, sd_tail]))
  obtain ⟨tyS, dS, hdS, hdnS⟩ := Cond.laysAt hfound hk Y.stack (w9 (.lays cls Bundle.tN "stackTrace" Bundle.steD) (by simp [sd_own, sd_tail]))
  obtain ⟨tyP, dP, hdP, hdnP⟩ := Cond.laysAt hfound hk Y.supp (w9 (.lays cls Bundle.tN "suppressedExceptions" Bundle.listD) (by simp [sd_own, sd_tail]))
  obtain ⟨tyM, dM, hdM, hdnM⟩ := Cond.laysAt hfound hk hffM (w9 (.lays cls Bundle.tN "detailMessage" "Ljava/lang/String;") (by simp [sd_own, sd_tail]))
  obtain ⟨tyB, dB, hdB, hdnB⟩ := Cond.laysAt hfound hk hffB (w9 (.lays cls Bundle.tN "backtrace" "Ljava/lang/Object;") (by simp [sd_own, sd_tail]))
  have bC := Cond.laysApart hdB hdC hdnB hdnC (by rw [hnB, Y.causeName]; decide)
  have bS := Cond.laysApart hdB hdS hdnB hdnS (by rw [hnB, Y.stackName]; decide)
  have bP := Cond.laysApart hdB hdP hdnB hdnP (by rw [hnB, Y.suppName]; decide)
  have hskip : SkipFacts T e.platform s (fun u => u) u0 ((preparedCellV T.toThrowableT (freshCell P1.m.cls kX) a u0 sen).withEntry T0.cur) :=
    ⟨{ ci198 := ci198, i198 := i198, fBack := fB }, ⟨hk198, hg198, ha198, hsB⟩, by
      have z := fresh_default (c := P1.m.cls) tyB
      rw [htB] at z
      simpa [preparedCellV, Cell.setSlot, Cell.withEntry, Array.getElem?_setIfInBounds, bC, bS, bP, bC.symm, bS.symm, bP.symm, defaultValue] using z, fun _ _ => rfl⟩
  obtain ⟨tm, methC, cdC, kC, vm₁, hnC, -, -, -, -, -, -, -, hW₁, st1⟩ := Steps.initColdS (tb := p.tables) (e := e) (below := below) (s := s) (U := T0) X.here hexec X.warmed hpl hown (t := Bundle.initS cls) rfl rfl (Bundle.fit_spec hcls).2
    (w9 (.methodLink own ic (Bundle.initS cls)) (by simp [sd_own, sd_tail])) (h (.instanceMethod (Bundle.initS cls)) (by simp [sd_own, Bundle.passSAtoms])) (bytes := rx) (maxL := 2) (h (.code (Bundle.initS cls) rx 2 none) (by simp [sd_own, Bundle.passSAtoms]))
    (f := g) hg (a := a) (msg := msg) (rest := .ref a :: rest) hstack d6
  cases Option.some.inj (hnC.symm.trans hP1m)
  obtain ⟨vm₂, X₂, st2⟩ := (X.noted hW₁).ctorMessageOffV hexec (g := { g with stack := .ref a :: rest }) hg hsize T L Z LZ M LM (P1 :: P2 :: Pr)
    (fun P hP => (List.mem_cons.mp hP).elim (fun e9 => by rw [e9]; exact L1) (fun h9 => (List.mem_cons.mp h9).elim (fun e9 => by rw [e9]; exact L2) (fun h8 => hL2 P h8))) ⟨hlink1, hlink2, hlink3⟩ (u0 := u0) (sen := sen) (self := a) hmsg (cell := freshCell P1.m.cls kX) (cellS := cellS)
    hcell (fun _ => by simp) (by simp) rfl rfl hsel0 hselF hcellS hneS hknownS (by rw [hkeep _ (hout' _)]; exact hu0) (by rw [hkeep _ (hout' _)]; exact hsen)
    (Takes.of_laid hk hord tyC (by rw [Y.causeType]; rfl)) (Takes.of_laid hk hord tyS (by rw [Y.stackType]; exact fits_refV_array _ u0)) (Takes.of_laid hk hord tyP (by rw [Y.suppType]; exact fits_refV_object _ sen))
    (Takes.of_laid hk hord tyM (by rw [Y.msgType]; exact fits_refV_object _ ⟨msg, hmsg⟩)) Y.objLocals hskip htr [] d6 (by simp only [List.length_cons, hlen2]; omega) (by simp only [List.length_cons, hlen2]; exact hRl)
  obtain ⟨hwalk, hrun, hended, hWU, hsame⟩ := X₂.athrowLeaves hexec (g := { g with stack := .ref a :: rest, pc := g.pc + 3 }) hg hlocked hentered hout (a := a) (rest := rest) rfl d9
  have hlt : a < ((T0.setVm vm₁).setVm vm₂).heap.size := (Array.getElem?_eq_some_iff.mp hcell).1
  have hU := heapAt_setCell_self (s := (T0.setVm vm₁).setVm vm₂) (plainBareV T.toThrowableT (freshCell P1.m.cls kX) a u0 sen msg) hlt
  refine ⟨_, st1 _ (fun acts => ?_), hrun, hended, hWU, hsame.weaken (fun y hy hlt' => ?_) (Nat.le_refl _) (Nat.le_refl _), _, hU, rfl, hfound⟩
  · rw [doInvoke_state]
    exact st2 _ hwalk
  · refine (List.mem_append.mp hy).elim id (fun h1 => ?_)
    exfalso
    have hb : y.base = a := by
      simp only [List.mem_cons, List.not_mem_nil, or_false] at h1
      rcases h1 with rfl | rfl | rfl | rfl | rfl <;> rfl
    rw [hb] at hlt'
    exact Nat.not_lt.mpr hnew hlt'
end

/-! 'throw new E(text)' with a super link of its own; what a method that throws needs of the start (sd_E); worlds side by side -/
section
variable {p : Program} {l : Launch} {e : Env} {R : Room} {s : State} {m : MethodId} {args : Array Value} {below : List Frame} {meth : Method} {c : Code} {H : Heap} {locs : List Loc} {cells slots : Nat}
variable {free : Addr → Prop} {ls : Array Slot} {rest : List Value} {Qc : Array Value → State → Outcome → State → Prop} {XC : String → State → State → Prop}
set_option maxHeartbeats 1000000 in
theorem sd_throwX {cc : ByteArray} {pc : Nat} (hexec : p.tables.exec = Jvm.exec) (hb : c.code = cc) (hl : l.stackTraces = false) {own cls text Y0 : String} {ups : List String} {ik is ic ix mc ms sa : Nat} {rx : ByteArray} {A : Nat → Prop}
    (x0 : decode rx 0 = .ok (.aload_n 0, 1)) (x1 : decode rx 1 = .ok (.aload_n 1, 1)) (x2 : decode rx 2 = .ok (.invokespecial ix, 3)) (x5 : decode rx 5 = .ok (.return_, 1))
    (hown : s.vm.findClass own = some m.cls) (hcls : Bundle.fit cls = true) (hY0 : Bundle.fit Y0 = true) (hups : ∀ n ∈ ups, Bundle.fit n = true) (hk : (Cond.classLink own ik cls).before args s = true) (hini : (Cond.initialized cls).before args s = true) (hstr : vk_R own is text sa s)
    (hat : ∀ w ∈ sd_atX own ic cls ix rx Y0 ups, w.before args s = true) (hgood : ∀ w ∈ Cond.classLink own ik cls :: Cond.initialized cls :: sd_atX own ic cls ix rx Y0 ups, vx_ot w = true)
    (hU : vx_Zq Bundle.tN "UNASSIGNED_STACK" Bundle.steD A s s.heap) (hN : vx_Zq Bundle.tN "SUPPRESSED_SENTINEL" Bundle.listD A s s.heap) (hS : va_S A s.heap H locs) (hsize : ls.size = c.maxLocals)
    (d0 : decode cc pc = .ok (.new ik, 3)) (d3 : decode cc (pc + 3) = .ok (.dup, 1)) (d4 : decode cc (pc + 4) = .ok (.ldc is, 2)) (d6 : decode cc (pc + 6) = .ok (.invokespecial ic, 3)) (d9 : decode cc (pc + 9) = .ok (.athrow, 1))
    (hout : ∀ x ∈ c.exceptionTable.toList, covers x (pc + 9) = false) (hRf : ups.length + 4 < R.frames) (hRl : (rest.map fun v => v.category).sum + (13 * (ups.length + 2) + 43) ≤ R.locals) (hRc : cells + 1 ≤ R.cells) (hRs : slots + 6 ≤ R.slots) (hlocks : meth.locks = false)
    (hx : ∀ t : State, s.vm.Alike t.vm → H.size ≤ t.heap.size → (∀ q : Nat, q < H.size → t.heap[q]? = H[q]?) → XC cls s t) (hf : ∀ z ∈ locs, free z.base) (hc : cells + 1 ≤ mc) (hs : slots + 6 ≤ ms) :
    W p l e R s m args below meth c H locs cells slots (vx_MQ below Qc XC args s mc ms free) (F0 m pc ls rest) := by
  intro T hT X
  have htr : e.platform.stackTraces = false := (show e.platform.stackTraces = l.stackTraces by rw [X.admits.platform]).trans hl
  have Y := vx_rebase X (R' := { frames := R.frames, locals := R.locals, cells := 1, slots := 6 }) (Nat.le_refl _) (Nat.le_refl _) hRc hRs
  obtain ⟨s', hA⟩ : ∃ z, z = (T.setVm s.vm).setFrames (.invoking m args :: below) := ⟨_, rfl⟩
  rw [← hA] at Y
  have hvm : s'.vm = s.vm := by rw [hA]; rfl
  have hhp : s'.heap = H := by rw [hA]; exact hT
  have hW0 : s.WarmedH s'.vm := by rw [hvm]; exact State.WarmedH.refl s
  have mv : ∀ w ∈ Cond.classLink own ik cls :: Cond.initialized cls :: sd_atX own ic cls ix rx Y0 ups, w.before args s = true → w.before args s' = true := fun w hw h => vx_ot_at hW0 hvm.symm (hgood w hw) h
  have hU' : vx_Zq Bundle.tN "UNASSIGNED_STACK" Bundle.steD A s' s'.heap := by rw [hhp]; exact vx_Zq.moved hW0.alike (hU.kept hS.2.1)
  have hN' : vx_Zq Bundle.tN "SUPPRESSED_SENTINEL" Bundle.listD A s' s'.heap := by rw [hhp]; exact vx_Zq.moved hW0.alike (hN.kept hS.2.1)
  have h : ∀ w ∈ sd_own own ic cls ix rx Y0 ups, w.before args s' = true := vx_own (fun w hw => mv w (List.mem_cons_of_mem _ (List.mem_cons_of_mem _ hw)) (hat w hw)) (vx_isRefq hU'.1) (vx_isRefq hN'.1) hU'.2.word hN'.2.word
  have hown' : s'.vm.findClass own = some m.cls := by rw [hvm]; exact hown
  obtain ⟨vm₁, cX, kX, hfX, hkX, -, -, X₁, st1⟩ := Y.newCold hexec (own := own) (C := cls) (index := ik) (n := 6) hown' (mv _ List.mem_cons_self hk) (h _ (by simp [sd_own, sd_tail])) (mv _ (List.mem_cons_of_mem _ List.mem_cons_self) hini)
    (g := F0 m pc ls rest) rfl (by rw [hb]; exact d0) (Nat.le_refl _) (Nat.le_refl _)
  generalize hT1 : (T.setVm vm₁).pushCell { cls := cX, slots := kX.instanceTypes.map defaultValue, vm := .none } = T1 at X₁ st1
  have hcellA : T1.heap[T.heap.size]? = some (freshCell cX kX) := by rw [← hT1]; exact State.heap_pushCell_size _ _
  have d3' : decode c.code (pc + 3) = .ok (.dup, 1) := by rw [hb]; exact d3
  have hstr' : vk_R own is text sa s' := vk_R.warm hW0 hstr
  have hcat : (Value.ref T.heap.size).category = 1 := rfl
  obtain ⟨U, hsteps, hrun, hend, hW, hsame, ce, hce, hcv, hcc⟩ := sd_ctorX X₁ hexec htr x0 x1 x2 x5 hown' hcls hY0 hups h (fun x hx => nomatch hx) hfX hkX hcellA (by rw [hhp, hT]; exact Nat.le_refl _) (msg := .ref sa) rfl
    (g := { method := m, pc := pc + 6, locals := ls, stack := .ref sa :: .ref T.heap.size :: .ref T.heap.size :: rest, locked := none }) rfl hsize rfl rfl (rest := rest) rfl
    (by rw [hb]; exact d6) (by rw [hb]; exact d9) hout hRf (by simp only [List.map_cons, List.sum_cons, hcat]; omega) hlocks
  obtain ⟨f1, f2⟩ := vx_frame hsame
  rw [hhp] at f1 f2
  have hWs : s.WarmedH U.vm := State.WarmedH.trans hW0 hW
  have hcl : s.vm.findClass cls = some ce.cls := by rw [hvm] at hcc; exact hcc
  have hall : s.sameButNew ({ U with vm := s.vm } : State) locs mc ms := by
    subst hA
    obtain ⟨e1, e2⟩ := hsame
    rw [State.setFrames_setFrames] at e1
    have h3 := X.same.trans (show (T.setVm s.vm).sameButNew ({ U with vm := s.vm } : State) [] (0 + 1) (0 + 6) from ⟨e1, e2⟩)
    rw [List.append_nil] at h3
    exact h3.mono hc hs
  refine ⟨U, ?_, .threw T.heap.size, hrun, hend, Or.inr ⟨T.heap.size, rfl, cls, ce, locs, hx U hWs.alike f1 (fun q hq => f2 q hq (fun z hz => nomatch hz)), hce, hcv, hcl, hWs, hall, hf⟩⟩
  refine st1 _ ?_
  show Steps p.tables e below (T1.setTop { method := m, pc := pc + 3, locals := ls, stack := .ref T.heap.size :: rest, locked := none }) _
  jvm_step X₁.here [X₁.here.top, hexec, d3', Value.category]
  exact X₁.ldcString hexec (own := own) (text := text) (index := is) (a := sa) hown' hstr'.1 hstr'.2
    (g := { method := m, pc := pc + 4, locals := ls, stack := .ref T.heap.size :: .ref T.heap.size :: rest, locked := none }) rfl (by rw [hb]; exact d4) _ hsteps
end
abbrev sd_atN : List Cond := sd_atX RX4 151 eN 13 prog_16_method_4_code "java/lang/RuntimeException" ["java/lang/Exception"]
abbrev sd_atA : List Cond := vx_atS RX4 115 eA sd_ups
abbrev sd_atT : List Cond := vx_atS RX4 142 eS sd_ups
abbrev sd_dcl : List Cond := [.declares (Bundle.initS "java/lang/RuntimeException"), .declares (Bundle.initS "java/lang/Exception"), .declares (Bundle.initS Bundle.tN)]
theorem sd_atN_n : sd_atN.filter (fun w => !goodWord w) = sd_dcl ++ [.castable eN eN] := by decide +kernel
theorem sd_atA_n : sd_atA.filter (fun w => !goodWord w) = sd_dcl ++ [.castable eA eA] := by decide +kernel
theorem sd_atT_n : sd_atT.filter (fun w => !goodWord w) = sd_dcl ++ [.castable eS eS] := by decide +kernel
theorem sd_atN_g : ∀ w ∈ sd_atN.filter goodWord, w ∈ bg := fun w h => List.mem_filter.mpr ⟨(show ∀ w ∈ sd_atN.filter goodWord, w ∈ lw_tbl by decide +kernel) w h, (List.mem_filter.mp h).2⟩
theorem sd_atA_g : ∀ w ∈ sd_atA.filter goodWord, w ∈ bg := fun w h => List.mem_filter.mpr ⟨(show ∀ w ∈ sd_atA.filter goodWord, w ∈ lw_tbl by decide +kernel) w h, (List.mem_filter.mp h).2⟩
theorem sd_atT_g : ∀ w ∈ sd_atT.filter goodWord, w ∈ bg := fun w h => List.mem_filter.mpr ⟨(show ∀ w ∈ sd_atT.filter goodWord, w ∈ lw_tbl by decide +kernel) w h, (List.mem_filter.mp h).2⟩
theorem sd_otN : ∀ w ∈ Cond.classLink RX4 147 eN :: Cond.initialized eN :: sd_atN, vx_ot w = true := by decide +kernel
theorem sd_otA : ∀ w ∈ Cond.classLink RX4 111 eA :: Cond.initialized eA :: sd_atA, vx_ot w = true := by decide +kernel
theorem sd_otT : ∀ w ∈ Cond.classLink RX4 138 eS :: Cond.initialized eS :: sd_atT, vx_ot w = true := by decide +kernel
theorem sd_nw : ∀ w ∈ sd_dcl ++ [.castable eN eN, .castable eA eA, .castable eS eS], w.onTables = true := by decide +kernel
/-- what the machine's part of the start must hold for a throw: words, the texts -/
def sd_Ev (U : State) : Prop := (∀ w ∈ sd_dcl ++ [.castable eN eN, .castable eA eA, .castable eS eS], va_Nw w U) ∧ va_Nc eS eA U ∧
  (∃ a, vk_R RX4 113 "no such split, or no such number of wrong ones" a U) ∧ (∃ a, vk_R RX4 125 "too few shares are there" a U) ∧ (∃ a, vk_R RX4 140 "no such curve" a U) ∧ (∃ a, vk_R RX4 149 "no curve was found yet" a U) ∧ (∃ a, vk_R RX4 152 "no curve was found yet, or it has no such part" a U) ∧ ∃ a, vk_R RX4 157 "no such share is there" a U
theorem sd_Ev.warm {s U : State} (hW : s.WarmedH U.vm) (h : sd_Ev s) : sd_Ev U := by
  obtain ⟨h1, h2, ⟨a1, r1⟩, ⟨a2, r2⟩, ⟨a3, r3⟩, ⟨a4, r4⟩, ⟨a5, r5⟩, ⟨a6, r6⟩⟩ := h
  refine ⟨fun w hw => ?_, va_Nc.moved hW.alike h2, ⟨a1, vk_R.warm hW r1⟩, ⟨a2, vk_R.warm hW r2⟩, ⟨a3, vk_R.warm hW r3⟩, ⟨a4, vk_R.warm hW r4⟩, ⟨a5, vk_R.warm hW r5⟩, ⟨a6, vk_R.warm hW r6⟩⟩
  have h9 := h1 w hw
  simp only [List.mem_append, List.mem_cons, List.not_mem_nil, or_false] at hw
  rcases hw with (rfl | rfl | rfl) | rfl | rfl | rfl
  · exact va_Nw.warmD hW h9
  · exact va_Nw.warmD hW h9
  · exact va_Nw.warmD hW h9
  · exact va_Nw.warmC hW h9
  · exact va_Nw.warmC hW h9
  · exact va_Nw.warmC hW h9
theorem sd_Ev.same {u U : State} (hv : U.vm = u.vm) (h : sd_Ev u) : sd_Ev U := by
  obtain ⟨h1, h2, ⟨a1, r1⟩, ⟨a2, r2⟩, ⟨a3, r3⟩, ⟨a4, r4⟩, ⟨a5, r5⟩, ⟨a6, r6⟩⟩ := h
  exact ⟨fun w hw => va_Nw.same (sd_nw w hw) hv.symm (h1 w hw), va_Nc.moved (by rw [hv]; exact Vm.Alike.refl _) h2, ⟨a1, vk_R.same hv r1⟩, ⟨a2, vk_R.same hv r2⟩, ⟨a3, vk_R.same hv r3⟩, ⟨a4, vk_R.same hv r4⟩, ⟨a5, vk_R.same hv r5⟩, ⟨a6, vk_R.same hv r6⟩⟩
/-- the two statics of Throwable lie outside A -/
def sd_Es (A : Nat → Prop) (U : State) (H : Heap) : Prop := vx_Zq Bundle.tN "UNASSIGNED_STACK" Bundle.steD A U H ∧ vx_Zq Bundle.tN "SUPPRESSED_SENTINEL" Bundle.listD A U H
theorem sd_Es.moved {A : Nat → Prop} {u U : State} {H : Heap} (hvm : u.vm.Alike U.vm) (h : sd_Es A u H) : sd_Es A U H := ⟨vx_Zq.moved hvm h.1, vx_Zq.moved hvm h.2⟩
theorem sd_Es.kept {A : Nat → Prop} {U : State} {H H1 : Heap} (h : sd_Es A U H) (hq : ∀ a : Nat, a < H.size → ¬ A a → H1[a]? = H[a]?) : sd_Es A U H1 := ⟨h.1.kept hq, h.2.kept hq⟩
theorem sd_Es.narrow {A B : Nat → Prop} {U : State} {H : Heap} (h : sd_Es A U H) (hAB : ∀ q, B q → A q) : sd_Es B U H := ⟨h.1.narrow hAB, h.2.narrow hAB⟩
/-- the world ahead of a method that may throw -/
def sd_Xr (D : va_G) (cl : List vw_C) (tys : List (ClassId × FieldType)) (ws : va_W) (sz : Nat) (av : List Value) : Array Value → State → Prop := va_Pc av (fun U => U.heap.size = sz ∧ va_P D cl ws U.heap ∧ va_K D cl tys U ∧ va_D (fun _ => True) ws ∧ sd_Ev U ∧ sd_Es (va_A ws sz) U U.heap)
/-- worlds apart -/
def sd_Ap (w1 w2 : va_W) : Prop := ∀ (i j : Nat) (p q : Nat × va_E), w1[i]? = some p → w2[j]? = some q → p.1 ≠ q.1
theorem sd_Ap.symm {w1 w2 : va_W} (h : sd_Ap w1 w2) : sd_Ap w2 w1 := fun i j p q hp hq e => h j i q p hq hp e.symm
theorem sd_kp {D : va_G} {cl : List vw_C} {ws wr : va_W} {H H1 : Heap} (hP : va_P D cl wr H) (hAp : sd_Ap ws wr) (hk : ∀ q : Nat, q < H.size → ¬ va_A ws H.size q → H1[q]? = H[q]?) : va_P D cl wr H1 :=
  hP.kept (fun k q hq => hk q.1 (vx_lt hP hq) (fun h => h.elim (fun ⟨i, e, h⟩ => hAp i k _ _ h hq rfl) (fun h => absurd (vx_lt hP hq) (Nat.not_lt.mpr h))))
theorem sd_ka {D : va_G} {cl : List vw_C} {ws w1 wr : va_W} {H : Heap} (hP : va_P D cl wr H) (hAp : sd_Ap ws wr) (hD : va_D (va_A ws H.size) w1) : sd_Ap w1 wr := fun i j p q hp hq e =>
  (hD.2 i p hp).elim (fun ⟨k, e2, h⟩ => hAp k j _ _ h hq e) (fun h => by
    have z := vx_lt hP hq
    rw [← e] at z
    exact absurd z (Nat.not_lt.mpr h))
section
variable {p : Program} {l : Launch} {e : Env} {R : Room} {s : State} {m : MethodId} {args : Array Value} {below : List Frame} {meth : Method} {c : Code} {H : Heap} {locs : List Loc} {cells slots : Nat} {Q : State → Prop}
variable {cc : ByteArray} {pc : Nat} {ls : Array Slot} {rest st0 : List Value} {D : va_G} {cl : List vw_C} {A A0 : Nat → Prop} {a : Nat} {tys : List (ClassId × FieldType)} {ws : va_W} {H0 : Heap} {av : List Value} {mc ms : Nat} {aa : Array Value}
theorem sd_preX (hP : va_P D cl ws H) (hK : va_K D cl tys s) (hD : va_D A ws) (hE : sd_Ev s) (hU : sd_Es (va_A ws H.size) s H) : PreS s H (sd_Xr D cl tys ws H.size av) av :=
  ⟨fun a U g mk q => by
      obtain ⟨q0, q1, qP, qK, qD, qE, qS⟩ := q
      exact ⟨q0, q1, qP, va_K.moved (u := U) (U := U.calling g mk a) (Vm.Alike.refl U.vm) qK, qD, sd_Ev.same (u := U) (U := U.calling g mk a) rfl qE, sd_Es.moved (u := U) (U := U.calling g mk a) (Vm.Alike.refl U.vm) qS⟩,
    fun U hU2 hW => ⟨rfl, by rw [hU2], by rw [hU2]; exact hP, va_K.moved hW.alike hK, hD.weaken (fun _ _ _ _ => trivial), hE.warm hW, by rw [hU2]; exact hU.moved hW.alike⟩⟩
theorem sd_preVX {C : String} {b q0 ci : Nat} {q : vw_C} {fs : List Value} (hP : va_P D cl ws H) (hK : va_K D cl tys s) (hD : va_D A ws) (hE : sd_Ev s) (hU : sd_Es (va_A ws H.size) s H) (hc : cl[ci]? = some q) (hq : q.1 = C) (he : ws[q0]? = some (b, .inr (ci, fs))) : PreV s H C b (sd_Xr D cl tys ws H.size (.ref b :: av)) av := by
  subst hq
  exact ⟨(sd_preX (av := .ref b :: av) hP hK hD hE hU).1, va_recv hK hP hc he, (sd_preX (av := .ref b :: av) hP hK hD hE hU).2⟩
/-- a call that keeps other worlds: the raw facts -/
theorem sd_fi {S : Type} {post : Int32 → S → Prop} {w : S → va_W} (hr : va_Run p l e R s m args below meth c H locs cells slots mc ms (F0 m pc ls st0) rest (va_Qi post (sd_B D cl tys (va_A ws H.size) w) (va_A ws H.size) aa) (va_A ws H.size)) (hD : va_D A0 ws) (hS : va_S A0 H0 H locs) (hA : ∀ q, H0.size ≤ q → A0 q)
    (kk : ∀ (r : Int32) (u : S) (H1 : Heap) (locs1 : List Loc), post r u → va_P D cl (w u) H1 → va_D A0 (w u) → va_S A0 H0 H1 locs1 → va_D (va_A ws H.size) (w u) → (∀ q : Nat, q < H.size → ¬ va_A ws H.size q → H1[q]? = H[q]?) → W p l e R s m args below meth c H1 locs1 (cells + mc) (slots + ms) Q (F0 m (pc + 3) ls (.int r :: rest))) : W p l e R s m args below meth c H locs cells slots Q (F0 m pc ls st0) := by
  have hF := sd_free hD hS hA
  refine va_calli hr hS (fun q _ h => hF q h) hF (fun r u t H1 locs1 ht hvm hu hB hz hk hS1 => ?_)
  obtain ⟨hP1, hK1, hD1⟩ := hB
  rw [ht] at hP1
  exact kk r u H1 locs1 hu hP1 (hD1.weaken (fun k q _ h => hF q.1 h)) hS1 hD1 hk
theorem sd_fl {S : Type} {post : Int64 → S → Prop} {w : S → va_W} (hr : va_Run p l e R s m args below meth c H locs cells slots mc ms (F0 m pc ls st0) rest (va_Ql post (sd_B D cl tys (va_A ws H.size) w) (va_A ws H.size) aa) (va_A ws H.size)) (hD : va_D A0 ws) (hS : va_S A0 H0 H locs) (hA : ∀ q, H0.size ≤ q → A0 q)
    (kk : ∀ (r : Int64) (u : S) (H1 : Heap) (locs1 : List Loc), post r u → va_P D cl (w u) H1 → va_D A0 (w u) → va_S A0 H0 H1 locs1 → va_D (va_A ws H.size) (w u) → (∀ q : Nat, q < H.size → ¬ va_A ws H.size q → H1[q]? = H[q]?) → W p l e R s m args below meth c H1 locs1 (cells + mc) (slots + ms) Q (F0 m (pc + 3) ls (.long r :: rest))) : W p l e R s m args below meth c H locs cells slots Q (F0 m pc ls st0) := by
  have hF := sd_free hD hS hA
  refine va_calll hr hS (fun q _ h => hF q h) hF (fun r u t H1 locs1 ht hvm hu hB hz hk hS1 => ?_)
  obtain ⟨hP1, hK1, hD1⟩ := hB
  rw [ht] at hP1
  exact kk r u H1 locs1 hu hP1 (hD1.weaken (fun k q _ h => hF q.1 h)) hS1 hD1 hk
end

/-! the law's own find, at, part, share: they catch what the desk throws -/
abbrev oW (tc : Nat → ClassId) (bo : Nat) (f : Nat → Int64) : Nat × va_E := (bo, .inl (tc 0, 1, .inr (.inl f)))
theorem sd_P_l {D : va_G} {cl : List vw_C} {w1 w2 : va_W} {H : Heap} (h : va_P D cl (w1 ++ w2) H) : va_P D cl w1 H := fun k q hk => h k q (by rw [List.getElem?_append_left (List.getElem?_eq_some_iff.mp hk).1]; exact hk)
theorem sd_ar {w1 w2 : va_W} {k : Nat} {q : Nat × va_E} (hk : w2[k]? = some q) : (w1 ++ w2)[w1.length + k]? = some q := by
  rw [List.getElem?_append_right (Nat.le_add_right _ _), Nat.add_sub_cancel_left]
  exact hk
theorem sd_al {w1 w2 : va_W} {k : Nat} {q : Nat × va_E} (hk : w1[k]? = some q) : (w1 ++ w2)[k]? = some q := by
  rw [List.getElem?_append_left (List.getElem?_eq_some_iff.mp hk).1]
  exact hk
theorem sd_P_r {D : va_G} {cl : List vw_C} {w1 w2 : va_W} {H : Heap} (h : va_P D cl (w1 ++ w2) H) : va_P D cl w2 H := fun k q hk => h _ q (sd_ar hk)
theorem sd_D_l {A : Nat → Prop} {w1 w2 : va_W} (h : va_D A (w1 ++ w2)) : va_D A w1 := ⟨fun i j p q hp hq e => h.1 i j p q (sd_al hp) (sd_al hq) e, fun k q hk => h.2 k q (sd_al hk)⟩
theorem sd_D_r {A : Nat → Prop} {w1 w2 : va_W} (h : va_D A (w1 ++ w2)) : va_D A w2 := ⟨fun i j p q hp hq e => by have z := h.1 _ _ p q (sd_ar (w1 := w1) hp) (sd_ar (w1 := w1) hq) e; omega, fun k q hk => h.2 _ q (sd_ar hk)⟩
theorem sd_D_x {A : Nat → Prop} {w1 w2 : va_W} (h : va_D A (w1 ++ w2)) : sd_Ap w1 w2 := fun i j p q hp hq e => by
  have z := h.1 i (w1.length + j) p q (sd_al hp) (sd_ar hq) e
  have z2 := (List.getElem?_eq_some_iff.mp hp).1
  omega
theorem sd_A_l {w1 w2 : va_W} {sz q : Nat} (h : va_A w1 sz q) : va_A (w1 ++ w2) sz q := h.elim (fun ⟨k, e, h⟩ => Or.inl ⟨k, e, sd_al h⟩) Or.inr
theorem sd_A_r {w1 w2 : va_W} {sz q : Nat} (h : va_A w2 sz q) : va_A (w1 ++ w2) sz q := h.elim (fun ⟨k, e, h⟩ => Or.inl ⟨w1.length + k, e, sd_ar h⟩) Or.inr
theorem sd_s1 {w1 : va_W} {x y : Nat × va_E} : (w1 ++ [x]).set w1.length y = w1 ++ [y] := by
  rw [List.set_append_right _ _ (Nat.le_refl _), Nat.sub_self]
  rfl
theorem sd_s0 {w1 : va_W} {x : Nat × va_E} : (w1 ++ [x])[w1.length]? = some x := by
  rw [List.getElem?_append_right (Nat.le_refl _), Nat.sub_self]
  rfl
def H_find (x y : Int32) (a : DS) (r : Int32) (u : DS) (o : Int64) : Prop := (r = nI 0 ∧ ∃ v : Int32, P_find x y a v u ∧ o = v.toInt64) ∨ (r = nI 1 ∧ PX_find x y a eA u) ∨ (r = nI 2 ∧ PX_find x y a eS u)
def H_at (x : Int64) (a : DS) (r : Int32) (u : DS) (o : Int64) : Prop := (r = nI 0 ∧ P_at x a o u) ∨ (r = nI 1 ∧ PX_at a eN u)
def H_part (x : Int32) (a : DS) (r : Int32) (u : DS) (o : Int64) : Prop := (r = nI 0 ∧ P_part x a o u) ∨ (r = nI 1 ∧ PX_part x a eN u)
def H_share (x y : Int32) (a : DS) (r : Int32) (u : DS) (o : Int64) : Prop := (r = nI 0 ∧ P_share x y a o u) ∨ (r = nI 1 ∧ PX_share x y a eN u)
theorem sd_cN {s : State} {args : Array Value} (h : sd_Ev s) : (Cond.castable eN eN).before args s = true := va_Nw.use rfl (h.1 _ (List.mem_append_right _ List.mem_cons_self))
theorem sd_cA {s : State} {args : Array Value} (h : sd_Ev s) : (Cond.castable eA eA).before args s = true := va_Nw.use rfl (h.1 _ (List.mem_append_right _ (List.mem_cons_of_mem _ List.mem_cons_self)))
theorem sd_cS {s : State} {args : Array Value} (h : sd_Ev s) : (Cond.castable eS eS).before args s = true := va_Nw.use rfl (h.1 _ (List.mem_append_right _ (List.mem_cons_of_mem _ (List.mem_cons_of_mem _ List.mem_cons_self))))

set_option maxHeartbeats 1000000 in
set_option maxRecDepth 100000 in
theorem k_L_find (l : Launch) (D : va_G) {ad : Nat → Nat} {tc : Nat → ClassId} {dg pl : Nat → Nat} {vl : Nat → Nat → FP} {th : Nat → Nat → Bool} {cu mx : Nat → Nat → FP} {us : Nat → Bool} {so : Nat → FP} {rr : Nat → Int32} {fw : Nat → Bool} {ff : Int32} {bo : Nat} {f : Nat → Int64} (sz : Nat) (x y : Int32) (hok : ∀ q, q < 8 → dg q ≤ 8 ∧ pl q ≤ 16) (hl9 : l.stackTraces = false) : Met l yL_find (Cond.codeWith yL_find cL_find 5 (some .int) [(0, 10, 13, 13), (0, 10, 17, 15)] :: bg) { frames := 7, cells := 1, slots := 6, locals := 190 } (sd_Xr D vwCl (ty5 tc) (dw ad tc dg pl vl th cu mx us so rr fw ff ++ [oW tc bo f]) sz [.ref (ad 0), .int x, .int y, .ref bo]) (va_Qi (S := DS × (Nat → Int64)) (fun r u => H_find x y (dg, pl, vl, th, cu, mx, us, so, rr, fw, ff) r u.1 (u.2 0)) (sd_B D vwCl (ty5 tc) (va_A (dw ad tc dg pl vl th cu mx us so rr fw ff ++ [oW tc bo f]) sz) (fun u => dwt ad tc u.1 ++ [oW tc bo u.2])) (va_A (dw ad tc dg pl vl th cu mx us so rr fw ff ++ [oW tc bo f]) sz)) 1 6 (va_A (dw ad tc dg pl vl th cu mx us so rr fw ff ++ [oW tc bo f]) sz) := by
  refine va_MetW (cc := cL_find) (maxL := 5) (ret := some .int) (by decide) rfl ?_
  intro p e s m args below meth c s₁ B hml hv
  obtain ⟨rfl, hsz, hP, hK, hD0, hEv, hEs⟩ := hv
  have hx := B.exec
  have hb := B.bytes
  have hr := B.returns
  have hts := atoms_spec (ws := Cond.codeWith yL_find cL_find 5 (some .int) [(0, 10, 13, 13), (0, 10, 17, 15)] :: bg) B.pre
  have hown : s.vm.findClass RL = some m.cls := findClass_of_methodNamed B.named
  have hlocks := B.notSynchronized
  have htab := vx_table (x := yL_find) B (hts _ List.mem_cons_self)
  subst hsz
  have hD := hD0.self (sz := s.heap.size)
  have hEs1 := hEs.narrow (fun q h => sd_A_l h)
  have hAl : ∀ q, va_A (dw ad tc dg pl vl th cu mx us so rr fw ff) s.heap.size q → va_A (dw ad tc dg pl vl th cu mx us so rr fw ff ++ [oW tc bo f]) s.heap.size q := fun q h => sd_A_l h
  generalize hAe : va_A (dw ad tc dg pl vl th cu mx us so rr fw ff ++ [oW tc bo f]) s.heap.size = A at hD hEs hAl ⊢
  have hA : ∀ q : Nat, s.heap.size ≤ q → A q := fun q h => by rw [← hAe]; exact Or.inr h
  have hS : va_S A s.heap s.heap [] := va_S.rf
  have hP1 := sd_P_l hP
  have hPo := sd_P_r hP
  have hD1 := sd_D_l hD
  have hDo := sd_D_r hD
  have hAp := sd_D_x hD
  have hl := lv_entry ([.ref (ad 0), .int x, .int y, .ref bo]) (n := 5) (Nat.le_of_ble_eq_true rfl)
  rw [lg_entry_eq]
  generalize (lg_sl ([.ref (ad 0), .int x, .int y, .ref bo]) ++ List.replicate (5 - (lg_sl ([.ref (ad 0), .int x, .int y, .ref bo])).length) Slot.unset).toArray = ls at hl ⊢
  replace hl : lv_has ls 5 [(0, .ref (ad 0)), (1, .int x), (2, .int y), (3, .ref bo)] := hl
  refine lv_aload_n hx hb dL_find_0 rfl (lv_at hl 3 rfl) ?_
  refine lv_iconst (v := nI 0) hx hb dL_find_1 (by decide) ?_
  refine lv_aload_n hx hb dL_find_2 rfl (lv_at hl 0 rfl) ?_
  refine lv_iload_n hx hb dL_find_3 rfl (lv_at hl 1 rfl) ?_
  refine lv_iload_n hx hb dL_find_4 rfl (lv_at hl 2 rfl) ?_
  refine vx_calli (vx_runV (As := [.int x, .int y]) (rest := [.int (nI 0), .ref bo]) ⟨hx, hb, hml, hown, hts⟩ (k_X4_find l D _ x y hok hl9) (sd_cwV hts wd_X4_find wn_X4 wm_L_7 wi_X4_find ws_X4_find nq_X4_find rfl rfl ⟨Nat.le_of_ble_eq_true rfl, Nat.le_of_ble_eq_true rfl⟩) (sd_preVX hP1 hK hD1 hEv hEs1 (ci := 4) (q0 := 0) rfl rfl dw_desk) rfl rfl hl.1 rfl (lv_room (Nat.le_of_ble_eq_true rfl)) dL_find_5 ⟨Nat.le_refl _, Nat.le_refl _⟩) hS (fun q _ h => hAl q h) hAl (fun q _ h => hAl q h) (fun E ce q9 u t H locs ht hal _ hB hz hk hS hce hcv hfc => ?_) (fun r u t H locs ht hal hu hB hz hk hS => ?_)
  · obtain ⟨hXP, hP2, hK2, hD2⟩ := hB
    rw [ht] at hP2
    have hPo2 := sd_kp hPo hAp hk
    have hAp2 := sd_ka hPo hAp hD2
    have hP3 := hP2.app hPo2
    have hD3 := (hD2.weaken (fun k q _ h => hAl q.1 h)).app hDo hAp2
    have htab : c.exceptionTable.toList = [⟨0, 10, 13, 13⟩, ⟨0, 10, 17, 15⟩] := htab
    rcases hXP.2 with ⟨rfl, hno⟩ | ⟨rfl, hno⟩
    · skip
      refine vx_catch hown [] ⟨0, 10, 13, 13⟩ [⟨0, 10, 17, 15⟩] htab (fun z hz => nomatch hz) rfl (by decide) (hts _ (mm wc_L_13)) (sd_cA hEv) hce hcv hfc ?_
      refine lv_astore (lv' := (4, .ref q9) :: [(0, .ref (ad 0)), (1, .int x), (2, .int y), (3, .ref bo)]) hx hb dL_find_13 hl (by decide) rfl (fun ls hl => ?_)
      refine lv_iconst (v := nI 1) hx hb dL_find_15 (by decide) ?_
      exact W.iret hx hb hr (fun T9 hT9 hW => ⟨⟨_, (u, f), rfl, Or.inr (Or.inl ⟨rfl, hXP⟩), by rw [hT9]; exact hP3, va_K.moved hW.alike hK, hD3⟩, hS.F hT9⟩) hS.2.2 dL_find_16
    · skip
      refine vx_catch hown [⟨0, 10, 13, 13⟩] ⟨0, 10, 17, 15⟩ [] htab (fun z hz => Or.inr ⟨by rw [List.mem_singleton.mp hz]; decide, eA, by rw [List.mem_singleton.mp hz]; exact hts _ (mm wc_L_13), hEv.2.1⟩) rfl (by decide) (hts _ (mm wc_L_15)) (sd_cS hEv) hce hcv hfc ?_
      refine lv_astore (lv' := (4, .ref q9) :: [(0, .ref (ad 0)), (1, .int x), (2, .int y), (3, .ref bo)]) hx hb dL_find_17 hl (by decide) rfl (fun ls hl => ?_)
      refine lv_iconst (v := nI 2) hx hb dL_find_19 (by decide) ?_
      exact W.iret hx hb hr (fun T9 hT9 hW => ⟨⟨_, (u, f), rfl, Or.inr (Or.inr ⟨rfl, hXP⟩), by rw [hT9]; exact hP3, va_K.moved hW.alike hK, hD3⟩, hS.F hT9⟩) hS.2.2 dL_find_20
  · obtain ⟨hP2, hK2, hD2⟩ := hB
    rw [ht] at hP2
    have hPo2 := sd_kp hPo hAp hk
    have hAp2 := sd_ka hPo hAp hD2
    have hP3 := hP2.app hPo2
    have hD3 := (hD2.weaken (fun k q _ h => hAl q.1 h)).app hDo hAp2
    refine lv_i2l (v := r.toInt64) hx hb dL_find_8 rfl ?_
    refine sd_last hx hb hK hP3 hD3 hS _ 0 sd_s0 rfl (k := 0) (by decide) (by decide) (ws2 := dwt ad tc u ++ [oW tc bo (vp_updL f 0 r.toInt64)]) sd_s1 dL_find_9 (fun H locs hP hD hS => ?_)
    refine lv_goto (tgt := 21) hx hb dL_find_10 (by decide) ?_
    refine lv_iconst (v := nI 0) hx hb dL_find_21 (by decide) ?_
    exact W.iret hx hb hr (fun T9 hT9 hW => ⟨⟨_, (u, vp_updL f 0 r.toInt64), rfl, Or.inl ⟨rfl, r, hu, (show vp_updL f 0 r.toInt64 0 = r.toInt64 from pk_uLs)⟩, by rw [hT9]; exact hP, va_K.moved hW.alike hK, hD⟩, hS.F hT9⟩) hS.2.2 dL_find_22

set_option maxHeartbeats 1000000 in
set_option maxRecDepth 100000 in
theorem k_L_at (l : Launch) (D : va_G) {ad : Nat → Nat} {tc : Nat → ClassId} {dg pl : Nat → Nat} {vl : Nat → Nat → FP} {th : Nat → Nat → Bool} {cu mx : Nat → Nat → FP} {us : Nat → Bool} {so : Nat → FP} {rr : Nat → Int32} {fw : Nat → Bool} {ff : Int32} {bo : Nat} {f : Nat → Int64} (sz : Nat) (x : Int64)  (hl9 : l.stackTraces = false) : Met l yL_at (Cond.codeWith yL_at cL_at 5 (some .int) [(0, 8, 11, 21)] :: bg) { frames := 7, cells := 1, slots := 6, locals := 120 } (sd_Xr D vwCl (ty5 tc) (dw ad tc dg pl vl th cu mx us so rr fw ff ++ [oW tc bo f]) sz [.ref (ad 0), .long x, .ref bo]) (va_Qi (S := DS × (Nat → Int64)) (fun r u => H_at x (dg, pl, vl, th, cu, mx, us, so, rr, fw, ff) r u.1 (u.2 0)) (sd_B D vwCl (ty5 tc) (va_A (dw ad tc dg pl vl th cu mx us so rr fw ff ++ [oW tc bo f]) sz) (fun u => dwt ad tc u.1 ++ [oW tc bo u.2])) (va_A (dw ad tc dg pl vl th cu mx us so rr fw ff ++ [oW tc bo f]) sz)) 1 6 (va_A (dw ad tc dg pl vl th cu mx us so rr fw ff ++ [oW tc bo f]) sz) := by
  refine va_MetW (cc := cL_at) (maxL := 5) (ret := some .int) (by decide) rfl ?_
  intro p e s m args below meth c s₁ B hml hv
  obtain ⟨rfl, hsz, hP, hK, hD0, hEv, hEs⟩ := hv
  have hx := B.exec
  have hb := B.bytes
  have hr := B.returns
  have hts := atoms_spec (ws := Cond.codeWith yL_at cL_at 5 (some .int) [(0, 8, 11, 21)] :: bg) B.pre
  have hown : s.vm.findClass RL = some m.cls := findClass_of_methodNamed B.named
  have hlocks := B.notSynchronized
  have htab := vx_table (x := yL_find) B (hts _ List.mem_cons_self)
  subst hsz
  have hD := hD0.self (sz := s.heap.size)
  have hEs1 := hEs.narrow (fun q h => sd_A_l h)
  have hAl : ∀ q, va_A (dw ad tc dg pl vl th cu mx us so rr fw ff) s.heap.size q → va_A (dw ad tc dg pl vl th cu mx us so rr fw ff ++ [oW tc bo f]) s.heap.size q := fun q h => sd_A_l h
  generalize hAe : va_A (dw ad tc dg pl vl th cu mx us so rr fw ff ++ [oW tc bo f]) s.heap.size = A at hD hEs hAl ⊢
  have hA : ∀ q : Nat, s.heap.size ≤ q → A q := fun q h => by rw [← hAe]; exact Or.inr h
  have hS : va_S A s.heap s.heap [] := va_S.rf
  have hP1 := sd_P_l hP
  have hPo := sd_P_r hP
  have hD1 := sd_D_l hD
  have hDo := sd_D_r hD
  have hAp := sd_D_x hD
  have hl := lv_entry ([.ref (ad 0), .long x, .ref bo]) (n := 5) (Nat.le_of_ble_eq_true rfl)
  rw [lg_entry_eq]
  generalize (lg_sl ([.ref (ad 0), .long x, .ref bo]) ++ List.replicate (5 - (lg_sl ([.ref (ad 0), .long x, .ref bo])).length) Slot.unset).toArray = ls at hl ⊢
  replace hl : lv_has ls 5 [(0, .ref (ad 0)), (1, .long x), (3, .ref bo)] := hl
  refine lv_aload_n hx hb dL_at_0 rfl (lv_at hl 2 rfl) ?_
  refine lv_iconst (v := nI 0) hx hb dL_at_1 (by decide) ?_
  refine lv_aload_n hx hb dL_at_2 rfl (lv_at hl 0 rfl) ?_
  refine lv_lload_n hx hb dL_at_3 rfl (lv_at hl 1 rfl) ?_
  refine vx_calll (vx_runV (As := [.long x]) (rest := [.int (nI 0), .ref bo]) ⟨hx, hb, hml, hown, hts⟩ (k_X4_at l D _ x hl9) (sd_cwV hts wd_X4_at wn_X4 wm_L_17 wi_X4_at ws_X4_at nq_X4_at rfl rfl ⟨Nat.le_of_ble_eq_true rfl, Nat.le_of_ble_eq_true rfl⟩) (sd_preVX hP1 hK hD1 hEv hEs1 (ci := 4) (q0 := 0) rfl rfl dw_desk) rfl rfl hl.1 rfl (lv_room (Nat.le_of_ble_eq_true rfl)) dL_at_4 ⟨Nat.le_refl _, Nat.le_refl _⟩) hS (fun q _ h => hAl q h) hAl (fun q _ h => hAl q h) (fun E ce q9 u t H locs ht hal _ hB hz hk hS hce hcv hfc => ?_) (fun r u t H locs ht hal hu hB hz hk hS => ?_)
  · obtain ⟨hXP, hP2, hK2, hD2⟩ := hB
    rw [ht] at hP2
    have hPo2 := sd_kp hPo hAp hk
    have hAp2 := sd_ka hPo hAp hD2
    have hP3 := hP2.app hPo2
    have hD3 := (hD2.weaken (fun k q _ h => hAl q.1 h)).app hDo hAp2
    have htab : c.exceptionTable.toList = [⟨0, 8, 11, 21⟩] := htab
    obtain rfl := hXP.2.1
    refine vx_catch hown [] ⟨0, 8, 11, 21⟩ [] htab (fun z hz => nomatch hz) rfl (by decide) (hts _ (mm wc_L_21)) (sd_cN hEv) hce hcv hfc ?_
    refine lv_astore (lv' := (4, .ref q9) :: [(0, .ref (ad 0)), (1, .long x), (3, .ref bo)]) hx hb dL_at_11 hl (by decide) rfl (fun ls hl => ?_)
    refine lv_iconst (v := nI 1) hx hb dL_at_13 (by decide) ?_
    exact W.iret hx hb hr (fun T9 hT9 hW => ⟨⟨_, (u, f), rfl, Or.inr ⟨rfl, hXP⟩, by rw [hT9]; exact hP3, va_K.moved hW.alike hK, hD3⟩, hS.F hT9⟩) hS.2.2 dL_at_14
  · obtain ⟨hP2, hK2, hD2⟩ := hB
    rw [ht] at hP2
    have hPo2 := sd_kp hPo hAp hk
    have hAp2 := sd_ka hPo hAp hD2
    have hP3 := hP2.app hPo2
    have hD3 := (hD2.weaken (fun k q _ h => hAl q.1 h)).app hDo hAp2
    refine sd_last hx hb hK hP3 hD3 hS _ 0 sd_s0 rfl (k := 0) (by decide) (by decide) (ws2 := dwt ad tc u ++ [oW tc bo (vp_updL f 0 r)]) sd_s1 dL_at_7 (fun H locs hP hD hS => ?_)
    refine lv_goto (tgt := 15) hx hb dL_at_8 (by decide) ?_
    refine lv_iconst (v := nI 0) hx hb dL_at_15 (by decide) ?_
    exact W.iret hx hb hr (fun T9 hT9 hW => ⟨⟨_, (u, vp_updL f 0 r), rfl, Or.inl ⟨rfl, by have z9 : vp_updL f 0 r 0 = r := pk_uLs; show P_at x (dg, pl, vl, th, cu, mx, us, so, rr, fw, ff) (vp_updL f 0 r 0) u; rw [z9]; exact hu⟩, by rw [hT9]; exact hP, va_K.moved hW.alike hK, hD⟩, hS.F hT9⟩) hS.2.2 dL_at_16

set_option maxHeartbeats 1000000 in
set_option maxRecDepth 100000 in
theorem k_L_part (l : Launch) (D : va_G) {ad : Nat → Nat} {tc : Nat → ClassId} {dg pl : Nat → Nat} {vl : Nat → Nat → FP} {th : Nat → Nat → Bool} {cu mx : Nat → Nat → FP} {us : Nat → Bool} {so : Nat → FP} {rr : Nat → Int32} {fw : Nat → Bool} {ff : Int32} {bo : Nat} {f : Nat → Int64} (sz : Nat) (x : Int32)  (hl9 : l.stackTraces = false) : Met l yL_part (Cond.codeWith yL_part cL_part 4 (some .int) [(0, 8, 11, 21)] :: bg) { frames := 7, cells := 1, slots := 6, locals := 120 } (sd_Xr D vwCl (ty5 tc) (dw ad tc dg pl vl th cu mx us so rr fw ff ++ [oW tc bo f]) sz [.ref (ad 0), .int x, .ref bo]) (va_Qi (S := DS × (Nat → Int64)) (fun r u => H_part x (dg, pl, vl, th, cu, mx, us, so, rr, fw, ff) r u.1 (u.2 0)) (sd_B D vwCl (ty5 tc) (va_A (dw ad tc dg pl vl th cu mx us so rr fw ff ++ [oW tc bo f]) sz) (fun u => dwt ad tc u.1 ++ [oW tc bo u.2])) (va_A (dw ad tc dg pl vl th cu mx us so rr fw ff ++ [oW tc bo f]) sz)) 1 6 (va_A (dw ad tc dg pl vl th cu mx us so rr fw ff ++ [oW tc bo f]) sz) := by
  refine va_MetW (cc := cL_part) (maxL := 4) (ret := some .int) (by decide) rfl ?_
  intro p e s m args below meth c s₁ B hml hv
  obtain ⟨rfl, hsz, hP, hK, hD0, hEv, hEs⟩ := hv
  have hx := B.exec
  have hb := B.bytes
  have hr := B.returns
  have hts := atoms_spec (ws := Cond.codeWith yL_part cL_part 4 (some .int) [(0, 8, 11, 21)] :: bg) B.pre
  have hown : s.vm.findClass RL = some m.cls := findClass_of_methodNamed B.named
  have hlocks := B.notSynchronized
  have htab := vx_table (x := yL_find) B (hts _ List.mem_cons_self)
  subst hsz
  have hD := hD0.self (sz := s.heap.size)
  have hEs1 := hEs.narrow (fun q h => sd_A_l h)
  have hAl : ∀ q, va_A (dw ad tc dg pl vl th cu mx us so rr fw ff) s.heap.size q → va_A (dw ad tc dg pl vl th cu mx us so rr fw ff ++ [oW tc bo f]) s.heap.size q := fun q h => sd_A_l h
  generalize hAe : va_A (dw ad tc dg pl vl th cu mx us so rr fw ff ++ [oW tc bo f]) s.heap.size = A at hD hEs hAl ⊢
  have hA : ∀ q : Nat, s.heap.size ≤ q → A q := fun q h => by rw [← hAe]; exact Or.inr h
  have hS : va_S A s.heap s.heap [] := va_S.rf
  have hP1 := sd_P_l hP
  have hPo := sd_P_r hP
  have hD1 := sd_D_l hD
  have hDo := sd_D_r hD
  have hAp := sd_D_x hD
  have hl := lv_entry ([.ref (ad 0), .int x, .ref bo]) (n := 4) (Nat.le_of_ble_eq_true rfl)
  rw [lg_entry_eq]
  generalize (lg_sl ([.ref (ad 0), .int x, .ref bo]) ++ List.replicate (4 - (lg_sl ([.ref (ad 0), .int x, .ref bo])).length) Slot.unset).toArray = ls at hl ⊢
  replace hl : lv_has ls 4 [(0, .ref (ad 0)), (1, .int x), (2, .ref bo)] := hl
  refine lv_aload_n hx hb dL_part_0 rfl (lv_at hl 2 rfl) ?_
  refine lv_iconst (v := nI 0) hx hb dL_part_1 (by decide) ?_
  refine lv_aload_n hx hb dL_part_2 rfl (lv_at hl 0 rfl) ?_
  refine lv_iload_n hx hb dL_part_3 rfl (lv_at hl 1 rfl) ?_
  refine vx_calll (vx_runV (As := [.int x]) (rest := [.int (nI 0), .ref bo]) ⟨hx, hb, hml, hown, hts⟩ (k_X4_part l D _ x hl9) (sd_cwV hts wd_X4_part wn_X4 wm_L_23 wi_X4_part ws_X4_part nq_X4_part rfl rfl ⟨Nat.le_of_ble_eq_true rfl, Nat.le_of_ble_eq_true rfl⟩) (sd_preVX hP1 hK hD1 hEv hEs1 (ci := 4) (q0 := 0) rfl rfl dw_desk) rfl rfl hl.1 rfl (lv_room (Nat.le_of_ble_eq_true rfl)) dL_part_4 ⟨Nat.le_refl _, Nat.le_refl _⟩) hS (fun q _ h => hAl q h) hAl (fun q _ h => hAl q h) (fun E ce q9 u t H locs ht hal _ hB hz hk hS hce hcv hfc => ?_) (fun r u t H locs ht hal hu hB hz hk hS => ?_)
  · obtain ⟨hXP, hP2, hK2, hD2⟩ := hB
    rw [ht] at hP2
    have hPo2 := sd_kp hPo hAp hk
    have hAp2 := sd_ka hPo hAp hD2
    have hP3 := hP2.app hPo2
    have hD3 := (hD2.weaken (fun k q _ h => hAl q.1 h)).app hDo hAp2
    have htab : c.exceptionTable.toList = [⟨0, 8, 11, 21⟩] := htab
    obtain rfl := hXP.2.1
    refine vx_catch hown [] ⟨0, 8, 11, 21⟩ [] htab (fun z hz => nomatch hz) rfl (by decide) (hts _ (mm wc_L_21)) (sd_cN hEv) hce hcv hfc ?_
    refine lv_astore_n (lv' := (3, .ref q9) :: [(0, .ref (ad 0)), (1, .int x), (2, .ref bo)]) hx hb dL_part_11 rfl hl (by decide) rfl (fun ls hl => ?_)
    refine lv_iconst (v := nI 1) hx hb dL_part_12 (by decide) ?_
    exact W.iret hx hb hr (fun T9 hT9 hW => ⟨⟨_, (u, f), rfl, Or.inr ⟨rfl, hXP⟩, by rw [hT9]; exact hP3, va_K.moved hW.alike hK, hD3⟩, hS.F hT9⟩) hS.2.2 dL_part_13
  · obtain ⟨hP2, hK2, hD2⟩ := hB
    rw [ht] at hP2
    have hPo2 := sd_kp hPo hAp hk
    have hAp2 := sd_ka hPo hAp hD2
    have hP3 := hP2.app hPo2
    have hD3 := (hD2.weaken (fun k q _ h => hAl q.1 h)).app hDo hAp2
    refine sd_last hx hb hK hP3 hD3 hS _ 0 sd_s0 rfl (k := 0) (by decide) (by decide) (ws2 := dwt ad tc u ++ [oW tc bo (vp_updL f 0 r)]) sd_s1 dL_part_7 (fun H locs hP hD hS => ?_)
    refine lv_goto (tgt := 14) hx hb dL_part_8 (by decide) ?_
    refine lv_iconst (v := nI 0) hx hb dL_part_14 (by decide) ?_
    exact W.iret hx hb hr (fun T9 hT9 hW => ⟨⟨_, (u, vp_updL f 0 r), rfl, Or.inl ⟨rfl, by have z9 : vp_updL f 0 r 0 = r := pk_uLs; show P_part x (dg, pl, vl, th, cu, mx, us, so, rr, fw, ff) (vp_updL f 0 r 0) u; rw [z9]; exact hu⟩, by rw [hT9]; exact hP, va_K.moved hW.alike hK, hD⟩, hS.F hT9⟩) hS.2.2 dL_part_15

set_option maxHeartbeats 1000000 in
set_option maxRecDepth 100000 in
theorem k_L_share (l : Launch) (D : va_G) {ad : Nat → Nat} {tc : Nat → ClassId} {dg pl : Nat → Nat} {vl : Nat → Nat → FP} {th : Nat → Nat → Bool} {cu mx : Nat → Nat → FP} {us : Nat → Bool} {so : Nat → FP} {rr : Nat → Int32} {fw : Nat → Bool} {ff : Int32} {bo : Nat} {f : Nat → Int64} (sz : Nat) (x y : Int32) (hok : ∀ q, q < 8 → dg q ≤ 8 ∧ pl q ≤ 16) (hl9 : l.stackTraces = false) : Met l yL_share (Cond.codeWith yL_share cL_share 5 (some .int) [(0, 9, 12, 21)] :: bg) { frames := 7, cells := 1, slots := 6, locals := 120 } (sd_Xr D vwCl (ty5 tc) (dw ad tc dg pl vl th cu mx us so rr fw ff ++ [oW tc bo f]) sz [.ref (ad 0), .int x, .int y, .ref bo]) (va_Qi (S := DS × (Nat → Int64)) (fun r u => H_share x y (dg, pl, vl, th, cu, mx, us, so, rr, fw, ff) r u.1 (u.2 0)) (sd_B D vwCl (ty5 tc) (va_A (dw ad tc dg pl vl th cu mx us so rr fw ff ++ [oW tc bo f]) sz) (fun u => dwt ad tc u.1 ++ [oW tc bo u.2])) (va_A (dw ad tc dg pl vl th cu mx us so rr fw ff ++ [oW tc bo f]) sz)) 1 6 (va_A (dw ad tc dg pl vl th cu mx us so rr fw ff ++ [oW tc bo f]) sz) := by
  refine va_MetW (cc := cL_share) (maxL := 5) (ret := some .int) (by decide) rfl ?_
  intro p e s m args below meth c s₁ B hml hv
  obtain ⟨rfl, hsz, hP, hK, hD0, hEv, hEs⟩ := hv
  have hx := B.exec
  have hb := B.bytes
  have hr := B.returns
  have hts := atoms_spec (ws := Cond.codeWith yL_share cL_share 5 (some .int) [(0, 9, 12, 21)] :: bg) B.pre
  have hown : s.vm.findClass RL = some m.cls := findClass_of_methodNamed B.named
  have hlocks := B.notSynchronized
  have htab := vx_table (x := yL_find) B (hts _ List.mem_cons_self)
  subst hsz
  have hD := hD0.self (sz := s.heap.size)
  have hEs1 := hEs.narrow (fun q h => sd_A_l h)
  have hAl : ∀ q, va_A (dw ad tc dg pl vl th cu mx us so rr fw ff) s.heap.size q → va_A (dw ad tc dg pl vl th cu mx us so rr fw ff ++ [oW tc bo f]) s.heap.size q := fun q h => sd_A_l h
  generalize hAe : va_A (dw ad tc dg pl vl th cu mx us so rr fw ff ++ [oW tc bo f]) s.heap.size = A at hD hEs hAl ⊢
  have hA : ∀ q : Nat, s.heap.size ≤ q → A q := fun q h => by rw [← hAe]; exact Or.inr h
  have hS : va_S A s.heap s.heap [] := va_S.rf
  have hP1 := sd_P_l hP
  have hPo := sd_P_r hP
  have hD1 := sd_D_l hD
  have hDo := sd_D_r hD
  have hAp := sd_D_x hD
  have hl := lv_entry ([.ref (ad 0), .int x, .int y, .ref bo]) (n := 5) (Nat.le_of_ble_eq_true rfl)
  rw [lg_entry_eq]
  generalize (lg_sl ([.ref (ad 0), .int x, .int y, .ref bo]) ++ List.replicate (5 - (lg_sl ([.ref (ad 0), .int x, .int y, .ref bo])).length) Slot.unset).toArray = ls at hl ⊢
  replace hl : lv_has ls 5 [(0, .ref (ad 0)), (1, .int x), (2, .int y), (3, .ref bo)] := hl
  refine lv_aload_n hx hb dL_share_0 rfl (lv_at hl 3 rfl) ?_
  refine lv_iconst (v := nI 0) hx hb dL_share_1 (by decide) ?_
  refine lv_aload_n hx hb dL_share_2 rfl (lv_at hl 0 rfl) ?_
  refine lv_iload_n hx hb dL_share_3 rfl (lv_at hl 1 rfl) ?_
  refine lv_iload_n hx hb dL_share_4 rfl (lv_at hl 2 rfl) ?_
  refine vx_calll (vx_runV (As := [.int x, .int y]) (rest := [.int (nI 0), .ref bo]) ⟨hx, hb, hml, hown, hts⟩ (k_X4_share l D _ x y hok hl9) (sd_cwV hts wd_X4_share wn_X4 wm_L_27 wi_X4_share ws_X4_share nq_X4_share rfl rfl ⟨Nat.le_of_ble_eq_true rfl, Nat.le_of_ble_eq_true rfl⟩) (sd_preVX hP1 hK hD1 hEv hEs1 (ci := 4) (q0 := 0) rfl rfl dw_desk) rfl rfl hl.1 rfl (lv_room (Nat.le_of_ble_eq_true rfl)) dL_share_5 ⟨Nat.le_refl _, Nat.le_refl _⟩) hS (fun q _ h => hAl q h) hAl (fun q _ h => hAl q h) (fun E ce q9 u t H locs ht hal _ hB hz hk hS hce hcv hfc => ?_) (fun r u t H locs ht hal hu hB hz hk hS => ?_)
  · obtain ⟨hXP, hP2, hK2, hD2⟩ := hB
    rw [ht] at hP2
    have hPo2 := sd_kp hPo hAp hk
    have hAp2 := sd_ka hPo hAp hD2
    have hP3 := hP2.app hPo2
    have hD3 := (hD2.weaken (fun k q _ h => hAl q.1 h)).app hDo hAp2
    have htab : c.exceptionTable.toList = [⟨0, 9, 12, 21⟩] := htab
    obtain rfl := hXP.2.1
    refine vx_catch hown [] ⟨0, 9, 12, 21⟩ [] htab (fun z hz => nomatch hz) rfl (by decide) (hts _ (mm wc_L_21)) (sd_cN hEv) hce hcv hfc ?_
    refine lv_astore (lv' := (4, .ref q9) :: [(0, .ref (ad 0)), (1, .int x), (2, .int y), (3, .ref bo)]) hx hb dL_share_12 hl (by decide) rfl (fun ls hl => ?_)
    refine lv_iconst (v := nI 1) hx hb dL_share_14 (by decide) ?_
    exact W.iret hx hb hr (fun T9 hT9 hW => ⟨⟨_, (u, f), rfl, Or.inr ⟨rfl, hXP⟩, by rw [hT9]; exact hP3, va_K.moved hW.alike hK, hD3⟩, hS.F hT9⟩) hS.2.2 dL_share_15
  · obtain ⟨hP2, hK2, hD2⟩ := hB
    rw [ht] at hP2
    have hPo2 := sd_kp hPo hAp hk
    have hAp2 := sd_ka hPo hAp hD2
    have hP3 := hP2.app hPo2
    have hD3 := (hD2.weaken (fun k q _ h => hAl q.1 h)).app hDo hAp2
    refine sd_last hx hb hK hP3 hD3 hS _ 0 sd_s0 rfl (k := 0) (by decide) (by decide) (ws2 := dwt ad tc u ++ [oW tc bo (vp_updL f 0 r)]) sd_s1 dL_share_8 (fun H locs hP hD hS => ?_)
    refine lv_goto (tgt := 16) hx hb dL_share_9 (by decide) ?_
    refine lv_iconst (v := nI 0) hx hb dL_share_16 (by decide) ?_
    exact W.iret hx hb hr (fun T9 hT9 hW => ⟨⟨_, (u, vp_updL f 0 r), rfl, Or.inl ⟨rfl, by have z9 : vp_updL f 0 r 0 = r := pk_uLs; show P_share x y (dg, pl, vl, th, cu, mx, us, so, rr, fw, ff) (vp_updL f 0 r 0) u; rw [z9]; exact hu⟩, by rw [hT9]; exact hP, va_K.moved hW.alike hK, hD⟩, hS.F hT9⟩) hS.2.2 dL_share_17

/-! the finder: one equation, one row -/
set_option maxHeartbeats 4000000 in
set_option maxRecDepth 100000 in
theorem k_X1_sharesNeeded (l : Launch)  (t e1 : Nat)  : Met l yX1_sharesNeeded (Cond.code yX1_sharesNeeded cX1_sharesNeeded 2 (some .int) :: bg) { frames := 0, cells := 0, slots := 0, locals := 0 } (sd_N0 [.int (nI t), .int (nI e1)]) (vp_Si (fun r => r = nI (t + 1 + 2 * e1))) 0 0 (fun _ => False) := by
  refine Met.ofW (cc := cX1_sharesNeeded) (maxL := 2) (ret := some .int) (by decide) rfl ?_
  intro p e s m args below meth c s₁ B hml hv
  obtain ⟨rfl, -⟩ := hv
  have hx := B.exec
  have hb := B.bytes
  have hr := B.returns
  have hts := atoms_spec (ws := Cond.code yX1_sharesNeeded cX1_sharesNeeded 2 (some .int) :: bg) B.pre
  have hown : s.vm.findClass RX1 = some m.cls := findClass_of_methodNamed B.named
  have hlocks := B.notSynchronized
  have hl := lv_entry ([.int (nI t), .int (nI e1)]) (n := 2) (Nat.le_of_ble_eq_true rfl)
  rw [lg_entry_eq]
  generalize (lg_sl ([.int (nI t), .int (nI e1)]) ++ List.replicate (2 - (lg_sl ([.int (nI t), .int (nI e1)])).length) Slot.unset).toArray = ls at hl ⊢
  replace hl : lv_has ls 2 [(0, .int (nI t)), (1, .int (nI e1))] := hl
  refine lv_iload_n hx hb dX1_sharesNeeded_0 rfl (lv_at hl 0 rfl) ?_
  refine lv_iconst (v := nI 1) hx hb dX1_sharesNeeded_1 (by decide) ?_
  refine sd_iadd hx hb dX1_sharesNeeded_2 ?_
  refine lv_iconst (v := nI 2) hx hb dX1_sharesNeeded_3 (by decide) ?_
  refine lv_iload_n hx hb dX1_sharesNeeded_4 rfl (lv_at hl 1 rfl) ?_
  refine sd_imul hx hb dX1_sharesNeeded_5 ?_
  refine sd_iadd hx hb dX1_sharesNeeded_6 ?_
  exact W.iret hx hb hr (fun t ht hW => ⟨_, rfl, rfl, ht⟩) (fun q h => nomatch h) dX1_sharesNeeded_7

set_option maxHeartbeats 4000000 in
set_option maxRecDepth 100000 in
theorem k_X1_makeOne (l : Launch) (D : va_G) {ad : Nat → Nat} {tc : Nat → ClassId} {dg pl : Nat → Nat} {vl : Nat → Nat → FP} {th : Nat → Nat → Bool} {cu mx : Nat → Nat → FP} {us : Nat → Bool} {so : Nat → FP} {rr : Nat → Int32} {fw : Nat → Bool} {ff : Int32} (sz : Nat) (r ux nx : Nat) (hrr : r < 16) (hu : ux ≤ nx) (hn : nx ≤ 16) (h0 : mx r ux ≠ 0) : Met l yX1_makeOne (Cond.code yX1_makeOne cX1_makeOne 6 none :: bg) { frames := 3, cells := 0, slots := 0, locals := 82 } (sd_Wr D vwCl (ty5 tc) (dw ad tc dg pl vl th cu mx us so rr fw ff) sz [.ref (ad (38 + r)), .int (nI ux), .int (nI nx)]) (va_Qv (S := Nat → Nat → FP) (fun u : Nat → Nat → FP => ∃ s9 : FP, mx r ux * s9 = 1 ∧ ∀ i j, u i j = (if i = r ∧ ux ≤ j ∧ j ≤ nx then mx r j * s9 else mx i j)) (sd_B D vwCl (ty5 tc) (va_A (dw ad tc dg pl vl th cu mx us so rr fw ff) sz) (fun u => dw ad tc dg pl vl th cu u us so rr fw ff)) (va_A (dw ad tc dg pl vl th cu mx us so rr fw ff) sz)) 0 0 (va_A (dw ad tc dg pl vl th cu mx us so rr fw ff) sz) := by
  refine Met.ofW (cc := cX1_makeOne) (maxL := 6) (ret := none) (by decide) rfl ?_
  intro p e s m args below meth c s₁ B hml hv
  obtain ⟨rfl, hsz, hP, hK, hD0⟩ := hv
  have hx := B.exec
  have hb := B.bytes
  have hret := B.returns
  have hts := atoms_spec (ws := Cond.code yX1_makeOne cX1_makeOne 6 none :: bg) B.pre
  have hown : s.vm.findClass RX1 = some m.cls := findClass_of_methodNamed B.named
  have hlocks := B.notSynchronized
  subst hsz
  have hD := hD0.self (sz := s.heap.size)
  generalize hAe : va_A (dw ad tc dg pl vl th cu mx us so rr fw ff) s.heap.size = A at hD ⊢
  have hA : ∀ q : Nat, s.heap.size ≤ q → A q := fun q h => by rw [← hAe]; exact Or.inr h
  have hS : va_S A s.heap s.heap [] := va_S.rf
  have hl := lv_entry ([.ref (ad (38 + r)), .int (nI ux), .int (nI nx)]) (n := 6) (Nat.le_of_ble_eq_true rfl)
  rw [lg_entry_eq]
  generalize (lg_sl ([.ref (ad (38 + r)), .int (nI ux), .int (nI nx)]) ++ List.replicate (6 - (lg_sl ([.ref (ad (38 + r)), .int (nI ux), .int (nI nx)])).length) Slot.unset).toArray = ls at hl ⊢
  replace hl : lv_has ls 6 [(0, .ref (ad (38 + r))), (1, .int (nI ux)), (2, .int (nI nx))] := hl
  have hr := hrr
  refine lv_aload_n hx hb dX1_makeOne_0 rfl (lv_at hl 0 rfl) ?_
  refine lv_iload_n hx hb dX1_makeOne_1 rfl (lv_at hl 1 rfl) ?_
  refine sd_lald hx hb hK hP (38 + r) 0 (dw_mx hr) rfl (k := ux) (by omega) (by decide) dX1_makeOne_2 ?_
  refine sd_rl (va_runS (As := [.long (sd_L ((mx r) ux))]) (rest := []) ⟨hx, hb, hml, hown, hts⟩ (k_X2_inverse l (mx r ux) h0) (sd_cwS hts wd_X2_inverse wn_X2 wm_X1_91 wi_X2_inverse nq_X2_inverse rfl rfl ⟨Nat.le_of_ble_eq_true rfl, Nat.le_of_ble_eq_true rfl⟩) sd_preN rfl rfl hl.1 rfl (lv_room (Nat.le_of_ble_eq_true rfl)) dX1_makeOne_3 ⟨Nat.zero_le _, Nat.zero_le _⟩) (fun iv hiv => ?_)
  obtain ⟨s9, rfl, hs9⟩ := hiv
  refine lv_lstore_n (lv' := [(3, .long (sd_L s9)), (0, .ref (ad (38 + r))), (1, .int (nI ux)), (2, .int (nI nx))]) hx hb dX1_makeOne_6 rfl hl (by decide) rfl (fun ls hl => ?_)
  refine lv_iload_n hx hb dX1_makeOne_7 rfl (lv_at hl 2 rfl) ?_
  refine lv_istore (lv' := [(5, .int (nI ux)), (3, .long (sd_L s9)), (0, .ref (ad (38 + r))), (1, .int (nI ux)), (2, .int (nI nx))]) hx hb dX1_makeOne_8 hl (by decide) rfl (fun ls hl => ?_)
  obtain ⟨H, hH9⟩ : ∃ H : Heap, H = s.heap := ⟨_, rfl⟩
  obtain ⟨locs, hl9⟩ : ∃ x : List Loc, x = [] := ⟨_, rfl⟩
  rw [← hH9, ← hl9]
  have hS : va_S A s.heap H locs := by rw [hH9, hl9]; exact va_S.rf
  have hP : va_P D vwCl (dw ad tc dg pl vl th cu mx us so rr fw ff) H := by rw [hH9]; exact hP
  clear hH9 hl9
  obtain ⟨k, m1, hk, hI, hP9, hD9, hl9⟩ : ∃ (k : Nat) (m1 : Nat → Nat → FP), (ux ≤ k ∧ k ≤ nx + 1) ∧ (∀ i j, m1 i j = (if i = r ∧ ux ≤ j ∧ j < k then mx r j * s9 else mx i j)) ∧ va_P D vwCl (dw ad tc dg pl vl th cu m1 us so rr fw ff) H ∧ va_D A (dw ad tc dg pl vl th cu m1 us so rr fw ff) ∧ lv_has ls 6 [(5, .int (nI k)), (0, .ref (ad (38 + r))), (2, .int (nI nx)), (3, .long (sd_L s9))] := ⟨ux, mx, ⟨Nat.le_refl _, by omega⟩, fun i j => by rw [if_neg (by omega)], hP, hD, (lv_sub hl [0, 2, 4, 1] rfl)⟩
  replace hl := hl9
  clear hl9
  replace hP := hP9
  replace hD := hD9
  clear hP9 hD9
  obtain ⟨k9, hk9⟩ : ∃ k9 : Nat, nx + 1 < k + k9 := ⟨nx + 2, by omega⟩
  induction k9 generalizing k m1 ls H locs with
  | zero => exact absurd hk9 (by omega)
  | succ k9 ih =>
    refine lv_iload hx hb dX1_makeOne_10 (lv_at hl 0 rfl) ?_
    refine lv_iload_n hx hb dX1_makeOne_12 rfl (lv_at hl 2 rfl) ?_
    refine sd_icmp_gt (tgt := 34) hx hb (by omega) (by omega) dX1_makeOne_13 (by decide) (fun c1 => ?_) (fun c1 => ?_)
    · exact W.vret hx hb hret (fun t ht hW => ⟨⟨m1, rfl, ⟨s9, hs9, fun i j => by rw [hI i j, show k = nx + 1 by omega]; simp only [Nat.lt_succ_iff]⟩, by rw [ht]; exact hP, va_K.moved hW.alike hK, hD⟩, hS.F ht⟩) hS.2.2 dX1_makeOne_34
    · refine lv_aload_n hx hb dX1_makeOne_16 rfl (lv_at hl 1 rfl) ?_
      refine lv_iload hx hb dX1_makeOne_17 (lv_at hl 0 rfl) ?_
      refine lv_aload_n hx hb dX1_makeOne_19 rfl (lv_at hl 1 rfl) ?_
      refine lv_iload hx hb dX1_makeOne_20 (lv_at hl 0 rfl) ?_
      refine sd_lald hx hb hK hP (38 + r) 0 (dw_mx hr) rfl (k := k) (by omega) (by decide) dX1_makeOne_22 ?_
      refine lv_lload_n hx hb dX1_makeOne_23 rfl (lv_at hl 3 rfl) ?_
      refine sd_rl (va_runS (As := [.long (sd_L ((m1 r) k)), .long (sd_L s9)]) (rest := [.int (nI k), .ref (ad (38 + r))]) ⟨hx, hb, hml, hown, hts⟩ (k_X2_times l (m1 r k) s9) (sd_cwS hts wd_X2_times wn_X2 wm_X1_71 wi_X2_times nq_X2_times rfl rfl ⟨Nat.le_of_ble_eq_true rfl, Nat.le_of_ble_eq_true rfl⟩) sd_preN rfl rfl hl.1 rfl (lv_room (Nat.le_of_ble_eq_true rfl)) dX1_makeOne_24 ⟨Nat.zero_le _, Nat.zero_le _⟩) (fun r1 hr1 => ?_)
      subst hr1
      refine sd_last hx hb hK hP hD hS (38 + r) 0 (dw_mx hr) rfl (k := k) (by omega) (by decide) (ws2 := dw ad tc dg pl vl th cu (sd_up m1 r (sd_up (m1 r) k (m1 r k * s9))) us so rr fw ff) (by rw [sd_stL]; exact dws_mx hr _) dX1_makeOne_27 (fun H locs hP hD hS => ?_)
      refine lv_iinc (v := nI (k + 1)) (lv' := [(5, .int (nI (k + 1))), (0, .ref (ad (38 + r))), (2, .int (nI nx)), (3, .long (sd_L s9))]) hx hb dX1_makeOne_28 hl (k := 0) rfl (nI_1 _) (by decide) rfl (fun ls hl => ?_)
      refine lv_goto (tgt := 10) hx hb dX1_makeOne_31 (by decide) ?_
      have hI9 : ∀ i j, sd_up m1 r (sd_up (m1 r) k (m1 r k * s9)) i j = (if i = r ∧ ux ≤ j ∧ j < k + 1 then mx r j * s9 else mx i j) := by
        intro i j
        rw [sd_up2]
        by_cases e1 : i = r ∧ j = k
        · obtain ⟨rfl, rfl⟩ := e1
          rw [if_pos ⟨rfl, rfl⟩, if_pos (by omega), hI, if_neg (by omega)]
        · rw [if_neg e1, hI]
          by_cases e2 : i = r ∧ ux ≤ j ∧ j < k
          · rw [if_pos e2, if_pos (by omega)]
          · rw [if_neg e2, if_neg (by omega)]
      exact ih (k := k + 1) (m1 := sd_up m1 r (sd_up (m1 r) k (m1 r k * s9))) (hk := by omega) (hI := hI9) (H := H) (locs := locs) (hP := hP) (hD := hD) (hS := hS) (ls := ls) (hl := (lv_sub hl [0, 1, 2, 3] rfl)) (hk9 := by omega)

set_option maxHeartbeats 4000000 in
set_option maxRecDepth 100000 in
theorem k_X1_takeTimes (l : Launch) (D : va_G) {ad : Nat → Nat} {tc : Nat → ClassId} {dg pl : Nat → Nat} {vl : Nat → Nat → FP} {th : Nat → Nat → Bool} {cu mx : Nat → Nat → FP} {us : Nat → Bool} {so : Nat → FP} {rr : Nat → Int32} {fw : Nat → Bool} {ff : Int32} (sz : Nat) (r g ux nx : Nat) (hrr : r < 16) (hg : g < 16) (hrg : r ≠ g) (hu : ux ≤ nx) (hn : nx ≤ 16) : Met l yX1_takeTimes (Cond.code yX1_takeTimes cX1_takeTimes 7 none :: bg) { frames := 1, cells := 0, slots := 0, locals := 35 } (sd_Wr D vwCl (ty5 tc) (dw ad tc dg pl vl th cu mx us so rr fw ff) sz [.ref (ad (38 + r)), .ref (ad (38 + g)), .int (nI ux), .int (nI nx)]) (va_Qv (S := Nat → Nat → FP) (fun u : Nat → Nat → FP => ∀ i j, u i j = (if i = r ∧ ux ≤ j ∧ j ≤ nx then mx r j - mx r ux * mx g j else mx i j)) (sd_B D vwCl (ty5 tc) (va_A (dw ad tc dg pl vl th cu mx us so rr fw ff) sz) (fun u => dw ad tc dg pl vl th cu u us so rr fw ff)) (va_A (dw ad tc dg pl vl th cu mx us so rr fw ff) sz)) 0 0 (va_A (dw ad tc dg pl vl th cu mx us so rr fw ff) sz) := by
  refine Met.ofW (cc := cX1_takeTimes) (maxL := 7) (ret := none) (by decide) rfl ?_
  intro p e s m args below meth c s₁ B hml hv
  obtain ⟨rfl, hsz, hP, hK, hD0⟩ := hv
  have hx := B.exec
  have hb := B.bytes
  have hret := B.returns
  have hts := atoms_spec (ws := Cond.code yX1_takeTimes cX1_takeTimes 7 none :: bg) B.pre
  have hown : s.vm.findClass RX1 = some m.cls := findClass_of_methodNamed B.named
  have hlocks := B.notSynchronized
  subst hsz
  have hD := hD0.self (sz := s.heap.size)
  generalize hAe : va_A (dw ad tc dg pl vl th cu mx us so rr fw ff) s.heap.size = A at hD ⊢
  have hA : ∀ q : Nat, s.heap.size ≤ q → A q := fun q h => by rw [← hAe]; exact Or.inr h
  have hS : va_S A s.heap s.heap [] := va_S.rf
  have hl := lv_entry ([.ref (ad (38 + r)), .ref (ad (38 + g)), .int (nI ux), .int (nI nx)]) (n := 7) (Nat.le_of_ble_eq_true rfl)
  rw [lg_entry_eq]
  generalize (lg_sl ([.ref (ad (38 + r)), .ref (ad (38 + g)), .int (nI ux), .int (nI nx)]) ++ List.replicate (7 - (lg_sl ([.ref (ad (38 + r)), .ref (ad (38 + g)), .int (nI ux), .int (nI nx)])).length) Slot.unset).toArray = ls at hl ⊢
  replace hl : lv_has ls 7 [(0, .ref (ad (38 + r))), (1, .ref (ad (38 + g))), (2, .int (nI ux)), (3, .int (nI nx))] := hl
  have hr := hrr
  refine lv_aload_n hx hb dX1_takeTimes_0 rfl (lv_at hl 0 rfl) ?_
  refine lv_iload_n hx hb dX1_takeTimes_1 rfl (lv_at hl 2 rfl) ?_
  refine sd_lald hx hb hK hP (38 + r) 0 (dw_mx hr) rfl (k := ux) (by omega) (by decide) dX1_takeTimes_2 ?_
  refine lv_lstore (lv' := [(4, .long (sd_L ((mx r) ux))), (0, .ref (ad (38 + r))), (1, .ref (ad (38 + g))), (2, .int (nI ux)), (3, .int (nI nx))]) hx hb dX1_takeTimes_3 hl (by decide) rfl (fun ls hl => ?_)
  refine lv_iload_n hx hb dX1_takeTimes_5 rfl (lv_at hl 3 rfl) ?_
  refine lv_istore (lv' := [(6, .int (nI ux)), (4, .long (sd_L ((mx r) ux))), (0, .ref (ad (38 + r))), (1, .ref (ad (38 + g))), (2, .int (nI ux)), (3, .int (nI nx))]) hx hb dX1_takeTimes_6 hl (by decide) rfl (fun ls hl => ?_)
  obtain ⟨H, hH9⟩ : ∃ H : Heap, H = s.heap := ⟨_, rfl⟩
  obtain ⟨locs, hl9⟩ : ∃ x : List Loc, x = [] := ⟨_, rfl⟩
  rw [← hH9, ← hl9]
  have hS : va_S A s.heap H locs := by rw [hH9, hl9]; exact va_S.rf
  have hP : va_P D vwCl (dw ad tc dg pl vl th cu mx us so rr fw ff) H := by rw [hH9]; exact hP
  clear hH9 hl9
  obtain ⟨k, m1, hk, hI, hP9, hD9, hl9⟩ : ∃ (k : Nat) (m1 : Nat → Nat → FP), (ux ≤ k ∧ k ≤ nx + 1) ∧ (∀ i j, m1 i j = (if i = r ∧ ux ≤ j ∧ j < k then mx r j - mx r ux * mx g j else mx i j)) ∧ va_P D vwCl (dw ad tc dg pl vl th cu m1 us so rr fw ff) H ∧ va_D A (dw ad tc dg pl vl th cu m1 us so rr fw ff) ∧ lv_has ls 7 [(6, .int (nI k)), (0, .ref (ad (38 + r))), (1, .ref (ad (38 + g))), (3, .int (nI nx)), (4, .long (sd_L (mx r ux)))] := ⟨ux, mx, ⟨Nat.le_refl _, by omega⟩, fun i j => by rw [if_neg (by omega)], hP, hD, (lv_sub hl [0, 2, 3, 5, 1] rfl)⟩
  replace hl := hl9
  clear hl9
  replace hP := hP9
  replace hD := hD9
  clear hP9 hD9
  obtain ⟨k9, hk9⟩ : ∃ k9 : Nat, nx + 1 < k + k9 := ⟨nx + 2, by omega⟩
  induction k9 generalizing k m1 ls H locs with
  | zero => exact absurd hk9 (by omega)
  | succ k9 ih =>
    refine lv_iload hx hb dX1_takeTimes_8 (lv_at hl 0 rfl) ?_
    refine lv_iload_n hx hb dX1_takeTimes_10 rfl (lv_at hl 3 rfl) ?_
    refine sd_icmp_gt (tgt := 40) hx hb (by omega) (by omega) dX1_takeTimes_11 (by decide) (fun c1 => ?_) (fun c1 => ?_)
    · exact W.vret hx hb hret (fun t ht hW => ⟨⟨m1, rfl, fun i j => by rw [hI i j, show k = nx + 1 by omega]; simp only [Nat.lt_succ_iff], by rw [ht]; exact hP, va_K.moved hW.alike hK, hD⟩, hS.F ht⟩) hS.2.2 dX1_takeTimes_40
    · refine lv_aload_n hx hb dX1_takeTimes_14 rfl (lv_at hl 1 rfl) ?_
      refine lv_iload hx hb dX1_takeTimes_15 (lv_at hl 0 rfl) ?_
      refine lv_aload_n hx hb dX1_takeTimes_17 rfl (lv_at hl 1 rfl) ?_
      refine lv_iload hx hb dX1_takeTimes_18 (lv_at hl 0 rfl) ?_
      refine sd_lald hx hb hK hP (38 + r) 0 (dw_mx hr) rfl (k := k) (by omega) (by decide) dX1_takeTimes_20 ?_
      refine lv_lload hx hb dX1_takeTimes_21 (lv_at hl 4 rfl) ?_
      refine lv_aload_n hx hb dX1_takeTimes_23 rfl (lv_at hl 2 rfl) ?_
      refine lv_iload hx hb dX1_takeTimes_24 (lv_at hl 0 rfl) ?_
      refine sd_lald hx hb hK hP (38 + g) 0 (dw_mx hg) rfl (k := k) (by omega) (by decide) dX1_takeTimes_26 ?_
      refine sd_rl (va_runS (As := [.long (sd_L (mx r ux)), .long (sd_L ((m1 g) k))]) (rest := [.long (sd_L ((m1 r) k)), .int (nI k), .ref (ad (38 + r))]) ⟨hx, hb, hml, hown, hts⟩ (k_X2_times l (mx r ux) (m1 g k)) (sd_cwS hts wd_X2_times wn_X2 wm_X1_71 wi_X2_times nq_X2_times rfl rfl ⟨Nat.le_of_ble_eq_true rfl, Nat.le_of_ble_eq_true rfl⟩) sd_preN rfl rfl hl.1 rfl (lv_room (Nat.le_of_ble_eq_true rfl)) dX1_takeTimes_27 ⟨Nat.zero_le _, Nat.zero_le _⟩) (fun r1 hr1 => ?_)
      subst hr1
      refine sd_rl (va_runS (As := [.long (sd_L ((m1 r) k)), .long (sd_L (mx r ux * m1 g k))]) (rest := [.int (nI k), .ref (ad (38 + r))]) ⟨hx, hb, hml, hown, hts⟩ (k_X2_minus l (m1 r k) (mx r ux * m1 g k)) (sd_cwS hts wd_X2_minus wn_X2 wm_X1_77 wi_X2_minus nq_X2_minus rfl rfl ⟨Nat.le_of_ble_eq_true rfl, Nat.le_of_ble_eq_true rfl⟩) sd_preN rfl rfl hl.1 rfl (lv_room (Nat.le_of_ble_eq_true rfl)) dX1_takeTimes_30 ⟨Nat.zero_le _, Nat.zero_le _⟩) (fun r2 hr2 => ?_)
      subst hr2
      refine sd_last hx hb hK hP hD hS (38 + r) 0 (dw_mx hr) rfl (k := k) (by omega) (by decide) (ws2 := dw ad tc dg pl vl th cu (sd_up m1 r (sd_up (m1 r) k (m1 r k - mx r ux * m1 g k))) us so rr fw ff) (by rw [sd_stL]; exact dws_mx hr _) dX1_takeTimes_33 (fun H locs hP hD hS => ?_)
      refine lv_iinc (v := nI (k + 1)) (lv' := [(6, .int (nI (k + 1))), (0, .ref (ad (38 + r))), (1, .ref (ad (38 + g))), (3, .int (nI nx)), (4, .long (sd_L (mx r ux)))]) hx hb dX1_takeTimes_34 hl (k := 0) rfl (nI_1 _) (by decide) rfl (fun ls hl => ?_)
      refine lv_goto (tgt := 8) hx hb dX1_takeTimes_37 (by decide) ?_
      have hI9 : ∀ i j, sd_up m1 r (sd_up (m1 r) k (m1 r k - mx r ux * m1 g k)) i j = (if i = r ∧ ux ≤ j ∧ j < k + 1 then mx r j - mx r ux * mx g j else mx i j) := by
        intro i j
        rw [sd_up2]
        by_cases e1 : i = r ∧ j = k
        · obtain ⟨rfl, rfl⟩ := e1
          rw [if_pos ⟨rfl, rfl⟩, if_pos (by omega), hI, hI, if_neg (by omega), if_neg (by omega)]
        · rw [if_neg e1, hI]
          by_cases e2 : i = r ∧ ux ≤ j ∧ j < k
          · rw [if_pos e2, if_pos (by omega)]
          · rw [if_neg e2, if_neg (by omega)]
      exact ih (k := k + 1) (m1 := sd_up m1 r (sd_up (m1 r) k (m1 r k - mx r ux * m1 g k))) (hk := by omega) (hI := hI9) (H := H) (locs := locs) (hP := hP) (hD := hD) (hS := hS) (ls := ls) (hl := (lv_sub hl [0, 1, 2, 3, 4] rfl)) (hk9 := by omega)

set_option maxHeartbeats 4000000 in
set_option maxRecDepth 100000 in
theorem k_X1_unusedRowWith (l : Launch) (D : va_G) {ad : Nat → Nat} {tc : Nat → ClassId} {dg pl : Nat → Nat} {vl : Nat → Nat → FP} {th : Nat → Nat → Bool} {cu mx : Nat → Nat → FP} {us : Nat → Bool} {so : Nat → FP} {rr : Nat → Int32} {fw : Nat → Bool} {ff : Int32} (ux nx : Nat) (hu : ux < 17) (hn : nx ≤ 16) : Met l yX1_unusedRowWith (Cond.code yX1_unusedRowWith cX1_unusedRowWith 4 (some .int) :: bg) { frames := 0, cells := 0, slots := 0, locals := 0 } (sd_R D vwCl (ty5 tc) (dw ad tc dg pl vl th cu mx us so rr fw ff) [.ref (ad 8), .int (nI ux), .int (nI nx)]) (vp_Si (fun r => (r = -1 ∧ ∀ i, i < nx → us i = false → mx i ux = 0) ∨ ∃ i, i < nx ∧ r = nI i ∧ us i = false ∧ mx i ux ≠ 0)) 0 0 (fun _ => False) := by
  refine Met.ofW (cc := cX1_unusedRowWith) (maxL := 4) (ret := some .int) (by decide) rfl ?_
  intro p e s m args below meth c s₁ B hml hv
  obtain ⟨rfl, hP, hK⟩ := hv
  have hx := B.exec
  have hb := B.bytes
  have hr := B.returns
  have hts := atoms_spec (ws := Cond.code yX1_unusedRowWith cX1_unusedRowWith 4 (some .int) :: bg) B.pre
  have hown : s.vm.findClass RX1 = some m.cls := findClass_of_methodNamed B.named
  have hlocks := B.notSynchronized
  have hl := lv_entry ([.ref (ad 8), .int (nI ux), .int (nI nx)]) (n := 4) (Nat.le_of_ble_eq_true rfl)
  rw [lg_entry_eq]
  generalize (lg_sl ([.ref (ad 8), .int (nI ux), .int (nI nx)]) ++ List.replicate (4 - (lg_sl ([.ref (ad 8), .int (nI ux), .int (nI nx)])).length) Slot.unset).toArray = ls at hl ⊢
  replace hl : lv_has ls 4 [(0, .ref (ad 8)), (1, .int (nI ux)), (2, .int (nI nx))] := hl
  refine lv_iconst (v := nI 0) hx hb dX1_unusedRowWith_0 (by decide) ?_
  refine lv_istore_n (lv' := [(3, .int (nI 0)), (0, .ref (ad 8)), (1, .int (nI ux)), (2, .int (nI nx))]) hx hb dX1_unusedRowWith_1 rfl hl (by decide) rfl (fun ls hl => ?_)
  obtain ⟨k, hk, hI, hl9⟩ : ∃ (k : Nat), (k ≤ nx) ∧ (∀ i, i < k → us i = false → mx i ux = 0) ∧ lv_has ls 4 [(3, .int (nI k)), (0, .ref (ad 8)), (1, .int (nI ux)), (2, .int (nI nx))] := ⟨0, Nat.zero_le _, fun i hi => absurd hi (Nat.not_lt_zero i), (lv_sub hl [0, 1, 2, 3] rfl)⟩
  replace hl := hl9
  clear hl9
  obtain ⟨k9, hk9⟩ : ∃ k9 : Nat, nx < k + k9 := ⟨nx + 1, by omega⟩
  induction k9 generalizing k ls with
  | zero => exact absurd hk9 (by omega)
  | succ k9 ih =>
    refine lv_iload_n hx hb dX1_unusedRowWith_2 rfl (lv_at hl 0 rfl) ?_
    refine lv_iload_n hx hb dX1_unusedRowWith_3 rfl (lv_at hl 3 rfl) ?_
    refine sd_icmp_ge (tgt := 37) hx hb (by omega) (by omega) dX1_unusedRowWith_4 (by decide) (fun c1 => ?_) (fun c1 => ?_)
    · refine lv_iconst (v := -1) hx hb dX1_unusedRowWith_37 (by decide) ?_
      exact W.iret hx hb hr (fun t ht hW => ⟨_, rfl, Or.inl ⟨rfl, fun i hi => hI i (by omega)⟩, ht⟩) (fun q h => nomatch h) dX1_unusedRowWith_38
    · refine lv_aload_n hx hb dX1_unusedRowWith_7 rfl (lv_at hl 1 rfl) ?_
      refine va_get (D := D) (ci := 1) (v := .ref (ad 10)) (C := RX1) (T := TX1) (N := 5) hx hb hts (fun w h => mm (inX1 w h)) hown hK hP 8 dw_finder rfl 2 (by decide) (hts _ (mm wf_X1_23)) (fun _ h9 => h9) rfl dX1_unusedRowWith_8 ?_
      refine lv_iload_n hx hb dX1_unusedRowWith_11 rfl (lv_at hl 0 rfl) ?_
      refine sd_zald hx hb hK hP 10 1 dw_used rfl (k := k) (by omega) (by decide) dX1_unusedRowWith_12 ?_
      refine sd_if_neB (tgt := 31) hx hb dX1_unusedRowWith_13 (by decide) (fun c2 => ?_) (fun c2 => ?_)
      · refine lv_iinc (v := nI (k + 1)) (lv' := [(3, .int (nI (k + 1))), (0, .ref (ad 8)), (1, .int (nI ux)), (2, .int (nI nx))]) hx hb dX1_unusedRowWith_31 hl (k := 0) rfl (nI_1 _) (by decide) rfl (fun ls hl => ?_)
        refine lv_goto (tgt := 2) hx hb dX1_unusedRowWith_34 (by decide) ?_
        exact ih (k := k + 1) (hk := by omega) (hI := fun i hi hz => (Nat.lt_or_ge i k).elim (fun q => hI i q hz) (fun q => absurd hz (by rw [show i = k by omega, c2]; decide))) (ls := ls) (hl := (lv_sub hl [0, 1, 2, 3] rfl)) (hk9 := by omega)
      · have hk16 : k < 16 := by omega
        refine lv_aload_n hx hb dX1_unusedRowWith_16 rfl (lv_at hl 1 rfl) ?_
        refine va_get (D := D) (ci := 1) (v := .ref (ad 9)) (C := RX1) (T := TX1) (N := 5) hx hb hts (fun w h => mm (inX1 w h)) hown hK hP 8 dw_finder rfl 1 (by decide) (hts _ (mm wf_X1_20)) (fun _ h9 => h9) rfl dX1_unusedRowWith_17 ?_
        refine lv_iload_n hx hb dX1_unusedRowWith_20 rfl (lv_at hl 0 rfl) ?_
        refine sd_aldA hx hb hK hP 9 4 dw_rows rfl (k := k) (by omega) (by decide) rfl dX1_unusedRowWith_21 ?_
        have hk2 := hk
        clear hk
        have hk : k < 16 := by omega
        refine lv_iload_n hx hb dX1_unusedRowWith_22 rfl (lv_at hl 2 rfl) ?_
        refine sd_lald hx hb hK hP (38 + k) 0 (dw_mx hk) rfl (k := ux) (by omega) (by decide) dX1_unusedRowWith_23 ?_
        refine lv_lconst (v := 0) hx hb dX1_unusedRowWith_24 (by decide) ?_
        refine W.lcmp hx hb dX1_unusedRowWith_25 ?_
        refine lv_if_eq (tgt := 31) hx hb dX1_unusedRowWith_26 (by decide) (fun c3 => ?_) (fun c3 => ?_)
        · have c3 : (sd_L ((mx k) ux)) = 0 := (lg_cmp_eq _ _).mp c3
          refine lv_iinc (v := nI (k + 1)) (lv' := [(3, .int (nI (k + 1))), (0, .ref (ad 8)), (1, .int (nI ux)), (2, .int (nI nx))]) hx hb dX1_unusedRowWith_31 hl (k := 0) rfl (nI_1 _) (by decide) rfl (fun ls hl => ?_)
          refine lv_goto (tgt := 2) hx hb dX1_unusedRowWith_34 (by decide) ?_
          exact ih (k := k + 1) (hk := by omega) (hI := fun i hi hz => (Nat.lt_or_ge i k).elim (fun q => hI i q hz) (fun q => by rw [show i = k by omega]; exact sd_L_inj (c3.trans sd_L_0.symm))) (ls := ls) (hl := (lv_sub hl [0, 1, 2, 3] rfl)) (hk9 := by omega)
        · have c3 : ¬ (sd_L ((mx k) ux)) = 0 := fun q => c3 ((lg_cmp_eq _ _).mpr q)
          refine lv_iload_n hx hb dX1_unusedRowWith_29 rfl (lv_at hl 0 rfl) ?_
          exact W.iret hx hb hr (fun t ht hW => ⟨_, rfl, Or.inr ⟨k, by omega, rfl, c2, fun z => c3 (by rw [z]; exact sd_L_0)⟩, ht⟩) (fun q h => nomatch h) dX1_unusedRowWith_30

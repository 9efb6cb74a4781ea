/-! the desk: joined, join, split, keepFound -/
theorem sd_max {a b : Nat} (ha : a < 2 ^ 31) (hb : b < 2 ^ 31) : (if nI a < nI b then nI b else nI a) = nI (max a b) := by
  by_cases h : a < b
  · rw [if_pos (nI_lt h hb), Nat.max_eq_right (by omega)]
  · rw [if_neg (nI_nlt (by omega) ha), Nat.max_eq_left (by omega)]
theorem sd_min {a b : Nat} (ha : a < 2 ^ 31) (hb : b < 2 ^ 31) : (if nI b < nI a then nI b else nI a) = nI (min a b) := by
  by_cases h : b < a
  · rw [if_pos (nI_lt h ha), Nat.min_eq_right (by omega)]
  · rw [if_neg (nI_nlt (by omega) hb), Nat.min_eq_left (by omega)]
theorem sd_ne_toInt {y : Int32} {k : Nat} (hk : k < 2 ^ 31) (h : ¬ y = nI k) : y.toInt ≠ (k : Int) := fun z => h (Int32.toInt_inj.mp (by rw [nI_toInt hk]; exact z))

set_option maxHeartbeats 1000000 in
set_option maxRecDepth 100000 in
theorem k_X4_joined (l : Launch)  (a b : FP) (h : Nat) (hh : h ≤ 2) : Met l yX4_joined (Cond.code yX4_joined cX4_joined 5 (some .long) :: bg) { frames := 1, cells := 0, slots := 0, locals := 35 } (sd_N0 [.long (sd_L a), .long (sd_L b), .int (nI h)]) (vp_Sl (fun r => r = sd_L (sd_jn h a b))) 0 0 (fun _ => False) := by
  refine Met.ofW (cc := cX4_joined) (maxL := 5) (ret := some .long) (by decide) rfl ?_
  intro p e s m args below meth c s₁ B hml hv
  obtain ⟨rfl, -⟩ := hv
  have hx := B.exec
  have hb := B.bytes
  have hr := B.returns
  have hts := atoms_spec (ws := Cond.code yX4_joined cX4_joined 5 (some .long) :: bg) B.pre
  have hown : s.vm.findClass RX4 = some m.cls := findClass_of_methodNamed B.named
  have hlocks := B.notSynchronized
  have hl := lv_entry ([.long (sd_L a), .long (sd_L b), .int (nI h)]) (n := 5) (Nat.le_of_ble_eq_true rfl)
  rw [lg_entry_eq]
  generalize (lg_sl ([.long (sd_L a), .long (sd_L b), .int (nI h)]) ++ List.replicate (5 - (lg_sl ([.long (sd_L a), .long (sd_L b), .int (nI h)])).length) Slot.unset).toArray = ls at hl ⊢
  replace hl : lv_has ls 5 [(0, .long (sd_L a)), (2, .long (sd_L b)), (4, .int (nI h))] := hl
  refine lv_iload hx hb dX4_joined_0 (lv_at hl 2 rfl) ?_
  rcases (show h = 0 ∨ h = 1 ∨ h = 2 by omega) with rfl | rfl | rfl
  · refine lv_lookup (off := 26) (tgt := 28) hx hb dX4_joined_2 (by decide) (by decide +kernel) (by decide) ?_
    refine lv_lload_n hx hb dX4_joined_28 rfl (lv_at hl 0 rfl) ?_
    refine lv_lload_n hx hb dX4_joined_29 rfl (lv_at hl 1 rfl) ?_
    refine sd_rl (va_runS (As := [.long (sd_L a), .long (sd_L b)]) (rest := []) ⟨hx, hb, hml, hown, hts⟩ (k_X2_plus l a b) (sd_cwS hts wd_X2_plus wn_X2 wm_X4_105 wi_X2_plus nq_X2_plus rfl rfl ⟨Nat.le_of_ble_eq_true rfl, Nat.le_of_ble_eq_true rfl⟩) sd_preN rfl rfl hl.1 rfl (lv_room (Nat.le_of_ble_eq_true rfl)) dX4_joined_30 ⟨Nat.zero_le _, Nat.zero_le _⟩) (fun r1 hr1 => ?_)
    subst hr1
    exact W.lret hx hb hr (fun T9 hT9 hW => ⟨_, rfl, rfl, hT9⟩) (fun q h => nomatch h) dX4_joined_33
  · refine lv_lookup (off := 32) (tgt := 34) hx hb dX4_joined_2 (by decide) (by decide +kernel) (by decide) ?_
    refine lv_lload_n hx hb dX4_joined_34 rfl (lv_at hl 0 rfl) ?_
    refine lv_lload_n hx hb dX4_joined_35 rfl (lv_at hl 1 rfl) ?_
    refine sd_rl (va_runS (As := [.long (sd_L a), .long (sd_L b)]) (rest := []) ⟨hx, hb, hml, hown, hts⟩ (k_X2_minus l a b) (sd_cwS hts wd_X2_minus wn_X2 wm_X4_159 wi_X2_minus nq_X2_minus rfl rfl ⟨Nat.le_of_ble_eq_true rfl, Nat.le_of_ble_eq_true rfl⟩) sd_preN rfl rfl hl.1 rfl (lv_room (Nat.le_of_ble_eq_true rfl)) dX4_joined_36 ⟨Nat.zero_le _, Nat.zero_le _⟩) (fun r2 hr2 => ?_)
    subst hr2
    exact W.lret hx hb hr (fun T9 hT9 hW => ⟨_, rfl, rfl, hT9⟩) (fun q h => nomatch h) dX4_joined_39
  · refine lv_lookup (off := 38) (tgt := 40) hx hb dX4_joined_2 (by decide) (by decide +kernel) (by decide) ?_
    refine lv_lload_n hx hb dX4_joined_40 rfl (lv_at hl 0 rfl) ?_
    refine lv_lload_n hx hb dX4_joined_41 rfl (lv_at hl 1 rfl) ?_
    refine sd_rl (va_runS (As := [.long (sd_L a), .long (sd_L b)]) (rest := []) ⟨hx, hb, hml, hown, hts⟩ (k_X2_times l a b) (sd_cwS hts wd_X2_times wn_X2 wm_X4_101 wi_X2_times nq_X2_times rfl rfl ⟨Nat.le_of_ble_eq_true rfl, Nat.le_of_ble_eq_true rfl⟩) sd_preN rfl rfl hl.1 rfl (lv_room (Nat.le_of_ble_eq_true rfl)) dX4_joined_42 ⟨Nat.zero_le _, Nat.zero_le _⟩) (fun r3 hr3 => ?_)
    subst hr3
    exact W.lret hx hb hr (fun T9 hT9 hW => ⟨_, rfl, rfl, hT9⟩) (fun q h => nomatch h) dX4_joined_45

set_option maxHeartbeats 1000000 in
set_option maxRecDepth 100000 in
theorem k_X4_join (l : Launch) (D : va_G) {ad : Nat → Nat} {tc : Nat → ClassId} {dg pl : Nat → Nat} {vl : Nat → Nat → FP} {th : Nat → Nat → Bool} {cu mx : Nat → Nat → FP} {us : Nat → Bool} {so : Nat → FP} {rr : Nat → Int32} {fw : Nat → Bool} {ff : Int32} (sz : Nat) (x y z v : Int32) (hok : ∀ q, q < 8 → dg q ≤ 8 ∧ pl q ≤ 16) : Met l yX4_join (Cond.code yX4_join cX4_join 11 (some .boolean) :: bg) { frames := 2, cells := 0, slots := 0, locals := 59 } (sd_Wr D vwCl (ty5 tc) (dw ad tc dg pl vl th cu mx us so rr fw ff) sz [.ref (ad 0), .int x, .int y, .int z, .int v]) (va_Qi (S := DS) (fun r u => P_join x y z v (dg, pl, vl, th, cu, mx, us, so, rr, fw, ff) r u) (sd_B D vwCl (ty5 tc) (va_A (dw ad tc dg pl vl th cu mx us so rr fw ff) sz) (fun u => dwt ad tc u)) (va_A (dw ad tc dg pl vl th cu mx us so rr fw ff) sz)) 0 0 (va_A (dw ad tc dg pl vl th cu mx us so rr fw ff) sz) := by
  refine Met.ofW (cc := cX4_join) (maxL := 11) (ret := some .boolean) (by decide) rfl ?_
  intro p e s m args below meth c s₁ B hml hv
  obtain ⟨rfl, hsz, hP, hK, hD0⟩ := hv
  have hx := B.exec
  have hb := B.bytes
  have hr := B.returns
  have hts := atoms_spec (ws := Cond.code yX4_join cX4_join 11 (some .boolean) :: bg) B.pre
  have hown : s.vm.findClass RX4 = some m.cls := findClass_of_methodNamed B.named
  have hlocks := B.notSynchronized
  subst hsz
  have hD := hD0.self (sz := s.heap.size)
  generalize hAe : va_A (dw ad tc dg pl vl th cu mx us so rr fw ff) s.heap.size = A at hD ⊢
  have hA : ∀ q : Nat, s.heap.size ≤ q → A q := fun q h => by rw [← hAe]; exact Or.inr h
  have hS : va_S A s.heap s.heap [] := va_S.rf
  have hl := lv_entry ([.ref (ad 0), .int x, .int y, .int z, .int v]) (n := 11) (Nat.le_of_ble_eq_true rfl)
  rw [lg_entry_eq]
  generalize (lg_sl ([.ref (ad 0), .int x, .int y, .int z, .int v]) ++ List.replicate (11 - (lg_sl ([.ref (ad 0), .int x, .int y, .int z, .int v])).length) Slot.unset).toArray = ls at hl ⊢
  replace hl : lv_has ls 11 [(0, .ref (ad 0)), (1, .int x), (2, .int y), (3, .int z), (4, .int v)] := hl
  refine lv_aload_n hx hb dX4_join_0 rfl (lv_at hl 0 rfl) ?_
  refine lv_iload_n hx hb dX4_join_1 rfl (lv_at hl 1 rfl) ?_
  refine va_csq (va_runV (As := [.int x]) (rest := []) ⟨hx, hb, hml, hown, hts⟩ (k_X4_splitOrNull l D x) (sd_cwV hts wd_X4_splitOrNull wn_X4 wm_X4_41 wi_X4_splitOrNull ws_X4_splitOrNull nq_X4_splitOrNull rfl rfl ⟨Nat.le_of_ble_eq_true rfl, Nat.le_of_ble_eq_true rfl⟩) (sd_preVR hP hK (ci := 4) (q0 := 0) rfl rfl dw_desk) rfl rfl hl.1 rfl (lv_room (Nat.le_of_ble_eq_true rfl)) dX4_join_2 ⟨Nat.zero_le _, Nat.zero_le _⟩).run (fun r1 hr1 => ?_)
  subst hr1
  rcases hixq : sd_ix x with _ | q
  · refine sd_top (v2 := .null) rfl ?_
    refine lv_astoreN (lv' := [(5, .null), (0, .ref (ad 0)), (1, .int x), (2, .int y), (3, .int z), (4, .int v)]) hx hb dX4_join_5 hl (by decide) rfl (fun ls hl => ?_)
    refine lv_aload_n hx hb dX4_join_7 rfl (lv_at hl 1 rfl) ?_
    refine lv_iload_n hx hb dX4_join_8 rfl (lv_at hl 3 rfl) ?_
    refine va_csq (va_runV (As := [.int y]) (rest := []) ⟨hx, hb, hml, hown, hts⟩ (k_X4_splitOrNull l D y) (sd_cwV hts wd_X4_splitOrNull wn_X4 wm_X4_41 wi_X4_splitOrNull ws_X4_splitOrNull nq_X4_splitOrNull rfl rfl ⟨Nat.le_of_ble_eq_true rfl, Nat.le_of_ble_eq_true rfl⟩) (sd_preVR hP hK (ci := 4) (q0 := 0) rfl rfl dw_desk) rfl rfl hl.1 rfl (lv_room (Nat.le_of_ble_eq_true rfl)) dX4_join_9 ⟨Nat.zero_le _, Nat.zero_le _⟩).run (fun r2 hr2 => ?_)
    subst hr2
    rcases hixqa : sd_ix y with _ | qa
    · refine sd_top (v2 := .null) rfl ?_
      refine lv_astoreN (lv' := [(6, .null), (5, .null), (0, .ref (ad 0)), (1, .int x), (2, .int y), (3, .int z), (4, .int v)]) hx hb dX4_join_12 hl (by decide) rfl (fun ls hl => ?_)
      refine lv_aload_n hx hb dX4_join_14 rfl (lv_at hl 2 rfl) ?_
      refine lv_iload_n hx hb dX4_join_15 rfl (lv_at hl 5 rfl) ?_
      refine va_csq (va_runV (As := [.int z]) (rest := []) ⟨hx, hb, hml, hown, hts⟩ (k_X4_splitOrNull l D z) (sd_cwV hts wd_X4_splitOrNull wn_X4 wm_X4_41 wi_X4_splitOrNull ws_X4_splitOrNull nq_X4_splitOrNull rfl rfl ⟨Nat.le_of_ble_eq_true rfl, Nat.le_of_ble_eq_true rfl⟩) (sd_preVR hP hK (ci := 4) (q0 := 0) rfl rfl dw_desk) rfl rfl hl.1 rfl (lv_room (Nat.le_of_ble_eq_true rfl)) dX4_join_16 ⟨Nat.zero_le _, Nat.zero_le _⟩).run (fun r3 hr3 => ?_)
      subst hr3
      rcases hixqb : sd_ix z with _ | qb
      · refine sd_top (v2 := .null) rfl ?_
        refine lv_astoreN (lv' := [(7, .null), (6, .null), (5, .null), (0, .ref (ad 0)), (1, .int x), (2, .int y), (3, .int z), (4, .int v)]) hx hb dX4_join_19 hl (by decide) rfl (fun ls hl => ?_)
        refine lv_aloadN hx hb dX4_join_21 (lv_at hl 2 rfl) ?_
        refine lv_ifnullN (tgt := 47) hx hb dX4_join_23 (by decide) ?_
        refine lv_iconst (v := nI 0) hx hb dX4_join_47 (by decide) ?_
        exact W.zret hx hb hr rfl (fun T9 hT9 hW => ⟨⟨_, (dg, pl, vl, th, cu, mx, us, so, rr, fw, ff), rfl, Or.inr ⟨fun ⟨q2, a2, b2, h2, hv⟩ => sd_ix_none hixq hv.1 hv.2.1, rfl, ⟨rfl, rfl, rfl, rfl, rfl, rfl, rfl⟩⟩, by rw [hT9]; exact hP, va_K.moved hW.alike hK, hD⟩, hS.F hT9⟩) hS.2.2 dX4_join_48
      · obtain ⟨hqb, hxqb⟩ := sd_ix_some hixqb
        refine sd_top (v2 := .ref (ad (14 + 3 * qb))) rfl ?_
        refine lv_astore (lv' := [(7, .ref (ad (14 + 3 * qb))), (6, .null), (5, .null), (0, .ref (ad 0)), (1, .int x), (2, .int y), (3, .int z), (4, .int v)]) hx hb dX4_join_19 hl (by decide) rfl (fun ls hl => ?_)
        refine lv_aloadN hx hb dX4_join_21 (lv_at hl 2 rfl) ?_
        refine lv_ifnullN (tgt := 47) hx hb dX4_join_23 (by decide) ?_
        refine lv_iconst (v := nI 0) hx hb dX4_join_47 (by decide) ?_
        exact W.zret hx hb hr rfl (fun T9 hT9 hW => ⟨⟨_, (dg, pl, vl, th, cu, mx, us, so, rr, fw, ff), rfl, Or.inr ⟨fun ⟨q2, a2, b2, h2, hv⟩ => sd_ix_none hixq hv.1 hv.2.1, rfl, ⟨rfl, rfl, rfl, rfl, rfl, rfl, rfl⟩⟩, by rw [hT9]; exact hP, va_K.moved hW.alike hK, hD⟩, hS.F hT9⟩) hS.2.2 dX4_join_48
    · obtain ⟨hqa, hxqa⟩ := sd_ix_some hixqa
      refine sd_top (v2 := .ref (ad (14 + 3 * qa))) rfl ?_
      refine lv_astore (lv' := [(6, .ref (ad (14 + 3 * qa))), (5, .null), (0, .ref (ad 0)), (1, .int x), (2, .int y), (3, .int z), (4, .int v)]) hx hb dX4_join_12 hl (by decide) rfl (fun ls hl => ?_)
      refine lv_aload_n hx hb dX4_join_14 rfl (lv_at hl 2 rfl) ?_
      refine lv_iload_n hx hb dX4_join_15 rfl (lv_at hl 5 rfl) ?_
      refine va_csq (va_runV (As := [.int z]) (rest := []) ⟨hx, hb, hml, hown, hts⟩ (k_X4_splitOrNull l D z) (sd_cwV hts wd_X4_splitOrNull wn_X4 wm_X4_41 wi_X4_splitOrNull ws_X4_splitOrNull nq_X4_splitOrNull rfl rfl ⟨Nat.le_of_ble_eq_true rfl, Nat.le_of_ble_eq_true rfl⟩) (sd_preVR hP hK (ci := 4) (q0 := 0) rfl rfl dw_desk) rfl rfl hl.1 rfl (lv_room (Nat.le_of_ble_eq_true rfl)) dX4_join_16 ⟨Nat.zero_le _, Nat.zero_le _⟩).run (fun r6 hr6 => ?_)
      subst hr6
      rcases hixqb : sd_ix z with _ | qb
      · refine sd_top (v2 := .null) rfl ?_
        refine lv_astoreN (lv' := [(7, .null), (6, .ref (ad (14 + 3 * qa))), (5, .null), (0, .ref (ad 0)), (1, .int x), (2, .int y), (3, .int z), (4, .int v)]) hx hb dX4_join_19 hl (by decide) rfl (fun ls hl => ?_)
        refine lv_aloadN hx hb dX4_join_21 (lv_at hl 2 rfl) ?_
        refine lv_ifnullN (tgt := 47) hx hb dX4_join_23 (by decide) ?_
        refine lv_iconst (v := nI 0) hx hb dX4_join_47 (by decide) ?_
        exact W.zret hx hb hr rfl (fun T9 hT9 hW => ⟨⟨_, (dg, pl, vl, th, cu, mx, us, so, rr, fw, ff), rfl, Or.inr ⟨fun ⟨q2, a2, b2, h2, hv⟩ => sd_ix_none hixq hv.1 hv.2.1, rfl, ⟨rfl, rfl, rfl, rfl, rfl, rfl, rfl⟩⟩, by rw [hT9]; exact hP, va_K.moved hW.alike hK, hD⟩, hS.F hT9⟩) hS.2.2 dX4_join_48
      · obtain ⟨hqb, hxqb⟩ := sd_ix_some hixqb
        refine sd_top (v2 := .ref (ad (14 + 3 * qb))) rfl ?_
        refine lv_astore (lv' := [(7, .ref (ad (14 + 3 * qb))), (6, .ref (ad (14 + 3 * qa))), (5, .null), (0, .ref (ad 0)), (1, .int x), (2, .int y), (3, .int z), (4, .int v)]) hx hb dX4_join_19 hl (by decide) rfl (fun ls hl => ?_)
        refine lv_aloadN hx hb dX4_join_21 (lv_at hl 2 rfl) ?_
        refine lv_ifnullN (tgt := 47) hx hb dX4_join_23 (by decide) ?_
        refine lv_iconst (v := nI 0) hx hb dX4_join_47 (by decide) ?_
        exact W.zret hx hb hr rfl (fun T9 hT9 hW => ⟨⟨_, (dg, pl, vl, th, cu, mx, us, so, rr, fw, ff), rfl, Or.inr ⟨fun ⟨q2, a2, b2, h2, hv⟩ => sd_ix_none hixq hv.1 hv.2.1, rfl, ⟨rfl, rfl, rfl, rfl, rfl, rfl, rfl⟩⟩, by rw [hT9]; exact hP, va_K.moved hW.alike hK, hD⟩, hS.F hT9⟩) hS.2.2 dX4_join_48
  · obtain ⟨hq, hxq⟩ := sd_ix_some hixq
    refine sd_top (v2 := .ref (ad (14 + 3 * q))) rfl ?_
    refine lv_astore (lv' := [(5, .ref (ad (14 + 3 * q))), (0, .ref (ad 0)), (1, .int x), (2, .int y), (3, .int z), (4, .int v)]) hx hb dX4_join_5 hl (by decide) rfl (fun ls hl => ?_)
    refine lv_aload_n hx hb dX4_join_7 rfl (lv_at hl 1 rfl) ?_
    refine lv_iload_n hx hb dX4_join_8 rfl (lv_at hl 3 rfl) ?_
    refine va_csq (va_runV (As := [.int y]) (rest := []) ⟨hx, hb, hml, hown, hts⟩ (k_X4_splitOrNull l D y) (sd_cwV hts wd_X4_splitOrNull wn_X4 wm_X4_41 wi_X4_splitOrNull ws_X4_splitOrNull nq_X4_splitOrNull rfl rfl ⟨Nat.le_of_ble_eq_true rfl, Nat.le_of_ble_eq_true rfl⟩) (sd_preVR hP hK (ci := 4) (q0 := 0) rfl rfl dw_desk) rfl rfl hl.1 rfl (lv_room (Nat.le_of_ble_eq_true rfl)) dX4_join_9 ⟨Nat.zero_le _, Nat.zero_le _⟩).run (fun r9 hr9 => ?_)
    subst hr9
    rcases hixqa : sd_ix y with _ | qa
    · refine sd_top (v2 := .null) rfl ?_
      refine lv_astoreN (lv' := [(6, .null), (5, .ref (ad (14 + 3 * q))), (0, .ref (ad 0)), (1, .int x), (2, .int y), (3, .int z), (4, .int v)]) hx hb dX4_join_12 hl (by decide) rfl (fun ls hl => ?_)
      refine lv_aload_n hx hb dX4_join_14 rfl (lv_at hl 2 rfl) ?_
      refine lv_iload_n hx hb dX4_join_15 rfl (lv_at hl 5 rfl) ?_
      refine va_csq (va_runV (As := [.int z]) (rest := []) ⟨hx, hb, hml, hown, hts⟩ (k_X4_splitOrNull l D z) (sd_cwV hts wd_X4_splitOrNull wn_X4 wm_X4_41 wi_X4_splitOrNull ws_X4_splitOrNull nq_X4_splitOrNull rfl rfl ⟨Nat.le_of_ble_eq_true rfl, Nat.le_of_ble_eq_true rfl⟩) (sd_preVR hP hK (ci := 4) (q0 := 0) rfl rfl dw_desk) rfl rfl hl.1 rfl (lv_room (Nat.le_of_ble_eq_true rfl)) dX4_join_16 ⟨Nat.zero_le _, Nat.zero_le _⟩).run (fun r10 hr10 => ?_)
      subst hr10
      rcases hixqb : sd_ix z with _ | qb
      · refine sd_top (v2 := .null) rfl ?_
        refine lv_astoreN (lv' := [(7, .null), (6, .null), (5, .ref (ad (14 + 3 * q))), (0, .ref (ad 0)), (1, .int x), (2, .int y), (3, .int z), (4, .int v)]) hx hb dX4_join_19 hl (by decide) rfl (fun ls hl => ?_)
        refine lv_aload hx hb dX4_join_21 (lv_at hl 2 rfl) ?_
        refine lv_ifnull hx hb dX4_join_23 ?_
        refine lv_aloadN hx hb dX4_join_26 (lv_at hl 1 rfl) ?_
        refine lv_ifnullN (tgt := 47) hx hb dX4_join_28 (by decide) ?_
        refine lv_iconst (v := nI 0) hx hb dX4_join_47 (by decide) ?_
        exact W.zret hx hb hr rfl (fun T9 hT9 hW => ⟨⟨_, (dg, pl, vl, th, cu, mx, us, so, rr, fw, ff), rfl, Or.inr ⟨fun ⟨q2, a2, b2, h2, hv⟩ => sd_ix_none hixqa hv.2.2.1 hv.2.2.2.1, rfl, ⟨rfl, rfl, rfl, rfl, rfl, rfl, rfl⟩⟩, by rw [hT9]; exact hP, va_K.moved hW.alike hK, hD⟩, hS.F hT9⟩) hS.2.2 dX4_join_48
      · obtain ⟨hqb, hxqb⟩ := sd_ix_some hixqb
        refine sd_top (v2 := .ref (ad (14 + 3 * qb))) rfl ?_
        refine lv_astore (lv' := [(7, .ref (ad (14 + 3 * qb))), (6, .null), (5, .ref (ad (14 + 3 * q))), (0, .ref (ad 0)), (1, .int x), (2, .int y), (3, .int z), (4, .int v)]) hx hb dX4_join_19 hl (by decide) rfl (fun ls hl => ?_)
        refine lv_aload hx hb dX4_join_21 (lv_at hl 2 rfl) ?_
        refine lv_ifnull hx hb dX4_join_23 ?_
        refine lv_aloadN hx hb dX4_join_26 (lv_at hl 1 rfl) ?_
        refine lv_ifnullN (tgt := 47) hx hb dX4_join_28 (by decide) ?_
        refine lv_iconst (v := nI 0) hx hb dX4_join_47 (by decide) ?_
        exact W.zret hx hb hr rfl (fun T9 hT9 hW => ⟨⟨_, (dg, pl, vl, th, cu, mx, us, so, rr, fw, ff), rfl, Or.inr ⟨fun ⟨q2, a2, b2, h2, hv⟩ => sd_ix_none hixqa hv.2.2.1 hv.2.2.2.1, rfl, ⟨rfl, rfl, rfl, rfl, rfl, rfl, rfl⟩⟩, by rw [hT9]; exact hP, va_K.moved hW.alike hK, hD⟩, hS.F hT9⟩) hS.2.2 dX4_join_48
    · obtain ⟨hqa, hxqa⟩ := sd_ix_some hixqa
      refine sd_top (v2 := .ref (ad (14 + 3 * qa))) rfl ?_
      refine lv_astore (lv' := [(6, .ref (ad (14 + 3 * qa))), (5, .ref (ad (14 + 3 * q))), (0, .ref (ad 0)), (1, .int x), (2, .int y), (3, .int z), (4, .int v)]) hx hb dX4_join_12 hl (by decide) rfl (fun ls hl => ?_)
      refine lv_aload_n hx hb dX4_join_14 rfl (lv_at hl 2 rfl) ?_
      refine lv_iload_n hx hb dX4_join_15 rfl (lv_at hl 5 rfl) ?_
      refine va_csq (va_runV (As := [.int z]) (rest := []) ⟨hx, hb, hml, hown, hts⟩ (k_X4_splitOrNull l D z) (sd_cwV hts wd_X4_splitOrNull wn_X4 wm_X4_41 wi_X4_splitOrNull ws_X4_splitOrNull nq_X4_splitOrNull rfl rfl ⟨Nat.le_of_ble_eq_true rfl, Nat.le_of_ble_eq_true rfl⟩) (sd_preVR hP hK (ci := 4) (q0 := 0) rfl rfl dw_desk) rfl rfl hl.1 rfl (lv_room (Nat.le_of_ble_eq_true rfl)) dX4_join_16 ⟨Nat.zero_le _, Nat.zero_le _⟩).run (fun r15 hr15 => ?_)
      subst hr15
      rcases hixqb : sd_ix z with _ | qb
      · refine sd_top (v2 := .null) rfl ?_
        refine lv_astoreN (lv' := [(7, .null), (6, .ref (ad (14 + 3 * qa))), (5, .ref (ad (14 + 3 * q))), (0, .ref (ad 0)), (1, .int x), (2, .int y), (3, .int z), (4, .int v)]) hx hb dX4_join_19 hl (by decide) rfl (fun ls hl => ?_)
        refine lv_aload hx hb dX4_join_21 (lv_at hl 2 rfl) ?_
        refine lv_ifnull hx hb dX4_join_23 ?_
        refine lv_aload hx hb dX4_join_26 (lv_at hl 1 rfl) ?_
        refine lv_ifnull hx hb dX4_join_28 ?_
        refine lv_aloadN hx hb dX4_join_31 (lv_at hl 0 rfl) ?_
        refine lv_ifnullN (tgt := 47) hx hb dX4_join_33 (by decide) ?_
        refine lv_iconst (v := nI 0) hx hb dX4_join_47 (by decide) ?_
        exact W.zret hx hb hr rfl (fun T9 hT9 hW => ⟨⟨_, (dg, pl, vl, th, cu, mx, us, so, rr, fw, ff), rfl, Or.inr ⟨fun ⟨q2, a2, b2, h2, hv⟩ => sd_ix_none hixqb hv.2.2.2.2.1 hv.2.2.2.2.2.1, rfl, ⟨rfl, rfl, rfl, rfl, rfl, rfl, rfl⟩⟩, by rw [hT9]; exact hP, va_K.moved hW.alike hK, hD⟩, hS.F hT9⟩) hS.2.2 dX4_join_48
      · obtain ⟨hqb, hxqb⟩ := sd_ix_some hixqb
        refine sd_top (v2 := .ref (ad (14 + 3 * qb))) rfl ?_
        refine lv_astore (lv' := [(7, .ref (ad (14 + 3 * qb))), (6, .ref (ad (14 + 3 * qa))), (5, .ref (ad (14 + 3 * q))), (0, .ref (ad 0)), (1, .int x), (2, .int y), (3, .int z), (4, .int v)]) hx hb dX4_join_19 hl (by decide) rfl (fun ls hl => ?_)
        have hokb := hok qb hqb
        have hoka := hok qa hqa
        refine lv_aload hx hb dX4_join_21 (lv_at hl 2 rfl) ?_
        refine lv_ifnull hx hb dX4_join_23 ?_
        refine lv_aload hx hb dX4_join_26 (lv_at hl 1 rfl) ?_
        refine lv_ifnull hx hb dX4_join_28 ?_
        refine lv_aload hx hb dX4_join_31 (lv_at hl 0 rfl) ?_
        refine lv_ifnull hx hb dX4_join_33 ?_
        refine lv_iload hx hb dX4_join_36 (lv_at hl 7 rfl) ?_
        refine lv_if_lt (tgt := 47) hx hb dX4_join_38 (by decide) (fun c1 => ?_) (fun c1 => ?_)
        · refine lv_iconst (v := nI 0) hx hb dX4_join_47 (by decide) ?_
          exact W.zret hx hb hr rfl (fun T9 hT9 hW => ⟨⟨_, (dg, pl, vl, th, cu, mx, us, so, rr, fw, ff), rfl, Or.inr ⟨fun ⟨q2, a2, b2, h2, hv⟩ => absurd c1 (by obtain ⟨g1, g2, g3, g4, g5, g6, g7, g8, g9⟩ := hv; rw [g8]; exact nI_pos (by omega)), rfl, ⟨rfl, rfl, rfl, rfl, rfl, rfl, rfl⟩⟩, by rw [hT9]; exact hP, va_K.moved hW.alike hK, hD⟩, hS.F hT9⟩) hS.2.2 dX4_join_48
        · obtain ⟨h, hh9, rfl⟩ := nI_of c1
          refine lv_iload hx hb dX4_join_41 (lv_at hl 7 rfl) ?_
          refine lv_iconst (v := nI 2) hx hb dX4_join_43 (by decide) ?_
          refine sd_icmp_le (tgt := 49) hx hb (by omega) (by omega) dX4_join_44 (by decide) (fun ch => ?_) (fun ch => ?_)
          · refine lv_iload hx hb dX4_join_49 (lv_at hl 7 rfl) ?_
            refine lv_iconst (v := nI 2) hx hb dX4_join_51 (by decide) ?_
            refine sd_icmp_ne (tgt := 69) hx hb (by omega) (by omega) dX4_join_52 (by decide) (fun c4 => ?_) (fun c4 => ?_)
            · refine lv_aload hx hb dX4_join_69 (lv_at hl 1 rfl) ?_
              refine va_get (D := D) (ci := 3) (v := .int (nI (dg qa))) (C := RX3) (T := TX3) (N := 4) hx hb hts (fun w h => mm (inX3 w h)) hown hK hP (14 + 3 * qa) (dw_sp hqa) rfl 2 (by decide) (hts _ (mm wf_X4_78)) (fun _ h9 => h9) rfl dX4_join_71 ?_
              refine lv_aload hx hb dX4_join_74 (lv_at hl 0 rfl) ?_
              refine va_get (D := D) (ci := 3) (v := .int (nI (dg qb))) (C := RX3) (T := TX3) (N := 4) hx hb hts (fun w h => mm (inX3 w h)) hown hK hP (14 + 3 * qb) (dw_sp hqb) rfl 2 (by decide) (hts _ (mm wf_X4_78)) (fun _ h9 => h9) rfl dX4_join_76 ?_
              refine va_mmax hx hb (by rw [hml]; exact hl.1.symm) hown (hts _ (mm wm_X4_81)) (hts _ (mm wi_J9_max)) (hts _ (mm wn_J9)) (hts _ (mm wd_J9_max)) (Nat.le_of_ble_eq_true rfl) (Nat.le_of_ble_eq_true rfl) (Nat.zero_le _) (Nat.zero_le _) dX4_join_79 ?_
              refine sd_toi (y := nI (max (dg qa) (dg qb))) (sd_max (by omega) (by omega)) ?_
              obtain ⟨dd, hdd⟩ : ∃ dd, dd = sd_jd (dg, pl, vl, th, cu, mx, us, so, rr, fw, ff) qa qb h := ⟨_, rfl⟩
              have e9 : max (dg qa) (dg qb) = dd := by rw [hdd, sd_jd, if_neg c4]
              have e8 : max (dg qa) (dg qb) ≤ 8 := by omega
              rw [e9] at e8 ⊢
              refine lv_istore (lv' := [(8, .int (nI dd)), (7, .ref (ad (14 + 3 * qb))), (6, .ref (ad (14 + 3 * qa))), (5, .ref (ad (14 + 3 * q))), (0, .ref (ad 0)), (1, .int x), (2, .int y), (3, .int z), (4, .int (nI h))]) hx hb dX4_join_82 hl (by decide) rfl (fun ls hl => ?_)
              refine lv_iload hx hb dX4_join_84 (lv_at hl 0 rfl) ?_
              refine lv_bipush (v := nI 8) hx hb dX4_join_86 (by decide) ?_
              refine sd_icmp_le (tgt := 93) hx hb (by omega) (by omega) dX4_join_88 (by decide) (fun c5 => ?_) (fun c5 => ?_)
              · refine lv_aload hx hb dX4_join_93 (lv_at hl 2 rfl) ?_
                refine va_get (D := D) (ci := 3) (v := .int (nI (pl qa))) (C := RX3) (T := TX3) (N := 4) hx hb hts (fun w h => mm (inX3 w h)) hown hK hP (14 + 3 * qa) (dw_sp hqa) rfl 3 (by decide) (hts _ (mm wf_X4_87)) (fun _ h9 => h9) rfl dX4_join_95 ?_
                refine lv_aload hx hb dX4_join_98 (lv_at hl 1 rfl) ?_
                refine va_get (D := D) (ci := 3) (v := .int (nI (pl qb))) (C := RX3) (T := TX3) (N := 4) hx hb hts (fun w h => mm (inX3 w h)) hown hK hP (14 + 3 * qb) (dw_sp hqb) rfl 3 (by decide) (hts _ (mm wf_X4_87)) (fun _ h9 => h9) rfl dX4_join_100 ?_
                refine va_mmin hx hb (by rw [hml]; exact hl.1.symm) hown (hts _ (mm wm_X4_90)) (hts _ (mm wi_J9_min)) (hts _ (mm wn_J9)) (hts _ (mm wd_J9_min)) (Nat.le_of_ble_eq_true rfl) (Nat.le_of_ble_eq_true rfl) (Nat.zero_le _) (Nat.zero_le _) dX4_join_103 ?_
                refine sd_toi (y := nI (min (pl qa) (pl qb))) (sd_min (by omega) (by omega)) ?_
                obtain ⟨nn, hnn⟩ : ∃ nn, nn = min (pl qa) (pl qb) := ⟨_, rfl⟩
                rw [← hnn]
                refine lv_istore (lv' := [(9, .int (nI nn)), (8, .int (nI dd)), (7, .ref (ad (14 + 3 * qb))), (6, .ref (ad (14 + 3 * qa))), (5, .ref (ad (14 + 3 * q))), (0, .ref (ad 0)), (1, .int x), (2, .int y), (3, .int z), (4, .int (nI h))]) hx hb dX4_join_106 hl (by decide) rfl (fun ls hl => ?_)
                refine lv_iconst (v := nI 1) hx hb dX4_join_108 (by decide) ?_
                refine lv_istore (lv' := [(10, .int (nI 1)), (9, .int (nI nn)), (8, .int (nI dd)), (7, .ref (ad (14 + 3 * qb))), (6, .ref (ad (14 + 3 * qa))), (5, .ref (ad (14 + 3 * q))), (0, .ref (ad 0)), (1, .int x), (2, .int y), (3, .int z), (4, .int (nI h))]) hx hb dX4_join_109 hl (by decide) rfl (fun ls hl => ?_)
                obtain ⟨H, hH9⟩ : ∃ H : Heap, H = s.heap := ⟨_, rfl⟩
                obtain ⟨locs, hl9⟩ : ∃ x : List Loc, x = [] := ⟨_, rfl⟩
                rw [← hH9, ← hl9]
                have hS : va_S A s.heap H locs := by rw [hH9, hl9]; exact va_S.rf
                have hP : va_P D vwCl (dw ad tc dg pl vl th cu mx us so rr fw ff) H := by rw [hH9]; exact hP
                clear hH9 hl9
                obtain ⟨k, v1, t1, hk, hI, hP9, hD9, hl9⟩ : ∃ (k : Nat) (v1 : Nat → Nat → FP) (t1 : Nat → Nat → Bool), (1 ≤ k ∧ k ≤ nn + 1) ∧ ((∀ i j, i ≠ q → v1 i j = vl i j ∧ t1 i j = th i j) ∧ (∀ j, k ≤ j → v1 q j = vl q j ∧ t1 q j = th q j) ∧ ∀ j, 1 ≤ j → j < k → t1 q j = (th qa j && th qb j) ∧ (th qa j = true → th qb j = true → v1 q j = sd_jn h (vl qa j) (vl qb j))) ∧ va_P D vwCl (dw ad tc dg pl v1 t1 cu mx us so rr fw ff) H ∧ va_D A (dw ad tc dg pl v1 t1 cu mx us so rr fw ff) ∧ lv_has ls 11 [(10, .int (nI k)), (9, .int (nI nn)), (8, .int (nI dd)), (4, .int (nI h)), (5, .ref (ad (14 + 3 * q))), (6, .ref (ad (14 + 3 * qa))), (7, .ref (ad (14 + 3 * qb)))] := ⟨1, vl, th, ⟨Nat.le_refl 1, by omega⟩, ⟨fun _ _ _ => ⟨rfl, rfl⟩, fun _ _ => ⟨rfl, rfl⟩, fun j h1 h2 => absurd h2 (by omega)⟩, hP, hD, (lv_sub hl [0, 1, 2, 10, 5, 4, 3] rfl)⟩
                replace hl := hl9
                clear hl9
                replace hP := hP9
                replace hD := hD9
                clear hP9 hD9
                obtain ⟨k9, hk9⟩ : ∃ k9 : Nat, nn + 1 < k + k9 := ⟨nn + 1, by omega⟩
                induction k9 generalizing k v1 t1 ls H locs with
                | zero => exact absurd hk9 (by omega)
                | succ k9 ih =>
                  refine lv_iload hx hb dX4_join_111 (lv_at hl 0 rfl) ?_
                  refine lv_iload hx hb dX4_join_113 (lv_at hl 1 rfl) ?_
                  refine sd_icmp_gt (tgt := 182) hx hb (by omega) (by omega) dX4_join_115 (by decide) (fun c6 => ?_) (fun c6 => ?_)
                  · refine lv_aload hx hb dX4_join_182 (lv_at hl 4 rfl) ?_
                    refine lv_iload hx hb dX4_join_184 (lv_at hl 2 rfl) ?_
                    refine lv_iload hx hb dX4_join_186 (lv_at hl 1 rfl) ?_
                    refine sd_wv (va_runV (As := [.int (nI dd), .int (nI nn)]) (rest := []) ⟨hx, hb, hml, hown, hts⟩ (k_X3_shape l D _ q dd nn hq) (sd_cwV hts wd_X3_shape wn_X3 wm_X4_55 wi_X3_shape ws_X3_shape nq_X3_shape rfl rfl ⟨Nat.le_of_ble_eq_true rfl, Nat.le_of_ble_eq_true rfl⟩) (sd_preVW hP hK hD (ci := 3) (q0 := (14 + 3 * q)) rfl rfl (dw_sp hq)) rfl rfl hl.1 rfl (lv_room (Nat.le_of_ble_eq_true rfl)) dX4_join_188 ⟨Nat.zero_le _, Nat.zero_le _⟩) hD hS hA (fun u23 H locs hu23 hP hD hS => ?_)
                    replace hP : va_P D vwCl (dw ad tc (sd_up dg q dd) (sd_up pl q nn) v1 t1 cu mx us so rr fw ff) H := hP
                    replace hD : va_D A (dw ad tc (sd_up dg q dd) (sd_up pl q nn) v1 t1 cu mx us so rr fw ff) := hD
                    refine lv_iconst (v := nI 1) hx hb dX4_join_191 (by decide) ?_
                    exact W.zret hx hb hr rfl (fun T9 hT9 hW => ⟨⟨_, (sd_up dg q dd, sd_up pl q nn, v1, t1, cu, mx, us, so, rr, fw, ff), rfl, Or.inl ⟨q, qa, qb, h, ⟨hq, hxq, hqa, hxqa, hqb, hxqb, ch, rfl, hdd ▸ c5⟩, rfl, by rw [← hdd], by rw [hnn], ⟨rfl, rfl, rfl⟩, hI.1, fun j h1 h2 => hI.2.2 j h1 (by have h2 : j ≤ min (pl qa) (pl qb) := h2; omega)⟩, by rw [hT9]; exact hP, va_K.moved hW.alike hK, hD⟩, hS.F hT9⟩) hS.2.2 dX4_join_192
                  · have hA9 : ∀ i, v1 i k = vl i k ∧ t1 i k = th i k := fun i => (Classical.em (i = q)).elim (fun z => by rw [z]; exact hI.2.1 k (Nat.le_refl k)) (fun z => hI.1 i k z)
                    have hka : k ≤ pl qa ∧ k ≤ pl qb := by omega
                    refine lv_aload hx hb dX4_join_118 (lv_at hl 5 rfl) ?_
                    refine lv_iload hx hb dX4_join_120 (lv_at hl 0 rfl) ?_
                    refine sd_ri (va_runV (As := [.int (nI k)]) (rest := []) ⟨hx, hb, hml, hown, hts⟩ (k_X3_hasShare l D qa (nI k) hqa (hok qa hqa).2) (sd_cwV hts wd_X3_hasShare wn_X3 wm_X4_71 wi_X3_hasShare ws_X3_hasShare nq_X3_hasShare rfl rfl ⟨Nat.le_of_ble_eq_true rfl, Nat.le_of_ble_eq_true rfl⟩) (sd_preVR hP hK (ci := 3) (q0 := (14 + 3 * qa)) rfl rfl (dw_sp hqa)) rfl rfl hl.1 rfl (lv_room (Nat.le_of_ble_eq_true rfl)) dX4_join_122 ⟨Nat.zero_le _, Nat.zero_le _⟩) (fun r24 hr24 => ?_)
                    subst hr24
                    refine sd_if_eqB (tgt := 169) hx hb dX4_join_125 (by decide) (fun c7 => ?_) (fun c7 => ?_)
                    · rw [sd_hs_nI _ (by omega) hk.1 hka.1, (hA9 qa).2] at c7
                      refine lv_aload hx hb dX4_join_169 (lv_at hl 4 rfl) ?_
                      refine lv_iload hx hb dX4_join_171 (lv_at hl 0 rfl) ?_
                      refine sd_wv (va_runV (As := [.int (nI k)]) (rest := []) ⟨hx, hb, hml, hown, hts⟩ (k_X3_drop l D _ q k hq (by omega)) (sd_cwV hts wd_X3_drop wn_X3 wm_X4_74 wi_X3_drop ws_X3_drop nq_X3_drop rfl rfl ⟨Nat.le_of_ble_eq_true rfl, Nat.le_of_ble_eq_true rfl⟩) (sd_preVW hP hK hD (ci := 3) (q0 := (14 + 3 * q)) rfl rfl (dw_sp hq)) rfl rfl hl.1 rfl (lv_room (Nat.le_of_ble_eq_true rfl)) dX4_join_173 ⟨Nat.zero_le _, Nat.zero_le _⟩) hD hS hA (fun u26 H locs hu26 hP hD hS => ?_)
                      replace hP : va_P D vwCl (dw ad tc dg pl v1 (sd_up t1 q (sd_up (t1 q) k false)) cu mx us so rr fw ff) H := hP
                      replace hD : va_D A (dw ad tc dg pl v1 (sd_up t1 q (sd_up (t1 q) k false)) cu mx us so rr fw ff) := hD
                      refine lv_iinc (v := nI (k + 1)) (lv' := [(10, .int (nI (k + 1))), (9, .int (nI nn)), (8, .int (nI dd)), (4, .int (nI h)), (5, .ref (ad (14 + 3 * q))), (6, .ref (ad (14 + 3 * qa))), (7, .ref (ad (14 + 3 * qb)))]) hx hb dX4_join_176 hl (k := 0) rfl (nI_1 _) (by decide) rfl (fun ls hl => ?_)
                      refine lv_goto (tgt := 111) hx hb dX4_join_179 (by decide) ?_
                      exact ih (k := k + 1) (v1 := v1) (t1 := sd_up t1 q (sd_up (t1 q) k false)) (hk := by omega) (hI := ⟨fun i j hi => ⟨(hI.1 i j hi).1, by rw [sd_up_n _ _ hi]; exact (hI.1 i j hi).2⟩, fun j h1 => ⟨(hI.2.1 j (by omega)).1, by rw [sd_up2, if_neg (by omega)]; exact (hI.2.1 j (by omega)).2⟩, fun j h1 h2 => (Classical.em (j = k)).elim (fun ej => ⟨by rw [sd_up2, if_pos ⟨rfl, ej⟩, ej]; rw [c7]; rfl, fun g1 g2 => by rw [ej, c7] at g1; cases g1⟩) (fun ej => ⟨by rw [sd_up2, if_neg (fun z => ej z.2)]; exact (hI.2.2 j h1 (by omega)).1, fun g1 g2 => (hI.2.2 j h1 (by omega)).2 g1 g2⟩)⟩) (H := H) (locs := locs) (hP := hP) (hD := hD) (hS := hS) (ls := ls) (hl := (lv_sub hl [0, 1, 2, 3, 4, 5, 6] rfl)) (hk9 := by omega)
                    · rw [sd_hs_nI _ (by omega) hk.1 hka.1, (hA9 qa).2] at c7
                      refine lv_aload hx hb dX4_join_128 (lv_at hl 6 rfl) ?_
                      refine lv_iload hx hb dX4_join_130 (lv_at hl 0 rfl) ?_
                      refine sd_ri (va_runV (As := [.int (nI k)]) (rest := []) ⟨hx, hb, hml, hown, hts⟩ (k_X3_hasShare l D qb (nI k) hqb (hok qb hqb).2) (sd_cwV hts wd_X3_hasShare wn_X3 wm_X4_71 wi_X3_hasShare ws_X3_hasShare nq_X3_hasShare rfl rfl ⟨Nat.le_of_ble_eq_true rfl, Nat.le_of_ble_eq_true rfl⟩) (sd_preVR hP hK (ci := 3) (q0 := (14 + 3 * qb)) rfl rfl (dw_sp hqb)) rfl rfl hl.1 rfl (lv_room (Nat.le_of_ble_eq_true rfl)) dX4_join_132 ⟨Nat.zero_le _, Nat.zero_le _⟩) (fun r27 hr27 => ?_)
                      subst hr27
                      refine sd_if_eqB (tgt := 169) hx hb dX4_join_135 (by decide) (fun c8 => ?_) (fun c8 => ?_)
                      · rw [sd_hs_nI _ (by omega) hk.1 hka.2, (hA9 qb).2] at c8
                        refine lv_aload hx hb dX4_join_169 (lv_at hl 4 rfl) ?_
                        refine lv_iload hx hb dX4_join_171 (lv_at hl 0 rfl) ?_
                        refine sd_wv (va_runV (As := [.int (nI k)]) (rest := []) ⟨hx, hb, hml, hown, hts⟩ (k_X3_drop l D _ q k hq (by omega)) (sd_cwV hts wd_X3_drop wn_X3 wm_X4_74 wi_X3_drop ws_X3_drop nq_X3_drop rfl rfl ⟨Nat.le_of_ble_eq_true rfl, Nat.le_of_ble_eq_true rfl⟩) (sd_preVW hP hK hD (ci := 3) (q0 := (14 + 3 * q)) rfl rfl (dw_sp hq)) rfl rfl hl.1 rfl (lv_room (Nat.le_of_ble_eq_true rfl)) dX4_join_173 ⟨Nat.zero_le _, Nat.zero_le _⟩) hD hS hA (fun u29 H locs hu29 hP hD hS => ?_)
                        replace hP : va_P D vwCl (dw ad tc dg pl v1 (sd_up t1 q (sd_up (t1 q) k false)) cu mx us so rr fw ff) H := hP
                        replace hD : va_D A (dw ad tc dg pl v1 (sd_up t1 q (sd_up (t1 q) k false)) cu mx us so rr fw ff) := hD
                        refine lv_iinc (v := nI (k + 1)) (lv' := [(10, .int (nI (k + 1))), (9, .int (nI nn)), (8, .int (nI dd)), (4, .int (nI h)), (5, .ref (ad (14 + 3 * q))), (6, .ref (ad (14 + 3 * qa))), (7, .ref (ad (14 + 3 * qb)))]) hx hb dX4_join_176 hl (k := 0) rfl (nI_1 _) (by decide) rfl (fun ls hl => ?_)
                        refine lv_goto (tgt := 111) hx hb dX4_join_179 (by decide) ?_
                        exact ih (k := k + 1) (v1 := v1) (t1 := sd_up t1 q (sd_up (t1 q) k false)) (hk := by omega) (hI := ⟨fun i j hi => ⟨(hI.1 i j hi).1, by rw [sd_up_n _ _ hi]; exact (hI.1 i j hi).2⟩, fun j h1 => ⟨(hI.2.1 j (by omega)).1, by rw [sd_up2, if_neg (by omega)]; exact (hI.2.1 j (by omega)).2⟩, fun j h1 h2 => (Classical.em (j = k)).elim (fun ej => ⟨by rw [sd_up2, if_pos ⟨rfl, ej⟩, ej]; rw [c7, c8]; rfl, fun g1 g2 => by rw [ej, c8] at g2; cases g2⟩) (fun ej => ⟨by rw [sd_up2, if_neg (fun z => ej z.2)]; exact (hI.2.2 j h1 (by omega)).1, fun g1 g2 => (hI.2.2 j h1 (by omega)).2 g1 g2⟩)⟩) (H := H) (locs := locs) (hP := hP) (hD := hD) (hS := hS) (ls := ls) (hl := (lv_sub hl [0, 1, 2, 3, 4, 5, 6] rfl)) (hk9 := by omega)
                      · rw [sd_hs_nI _ (by omega) hk.1 hka.2, (hA9 qb).2] at c8
                        refine lv_aload hx hb dX4_join_138 (lv_at hl 4 rfl) ?_
                        refine lv_iload hx hb dX4_join_140 (lv_at hl 0 rfl) ?_
                        refine lv_aload hx hb dX4_join_142 (lv_at hl 5 rfl) ?_
                        refine va_get (D := D) (ci := 3) (v := .ref (ad (15 + 3 * qa))) (C := RX3) (T := TX3) (N := 4) hx hb hts (fun w h => mm (inX3 w h)) hown hK hP (14 + 3 * qa) (dw_sp hqa) rfl 0 (by decide) (hts _ (mm wf_X4_93)) (fun _ h9 => h9) rfl dX4_join_144 ?_
                        refine lv_iload hx hb dX4_join_147 (lv_at hl 0 rfl) ?_
                        refine sd_lald hx hb hK hP (15 + 3 * qa) 0 (dw_vl hqa) rfl (k := k) (by omega) (by decide) dX4_join_149 ?_
                        refine lv_aload hx hb dX4_join_150 (lv_at hl 6 rfl) ?_
                        refine va_get (D := D) (ci := 3) (v := .ref (ad (15 + 3 * qb))) (C := RX3) (T := TX3) (N := 4) hx hb hts (fun w h => mm (inX3 w h)) hown hK hP (14 + 3 * qb) (dw_sp hqb) rfl 0 (by decide) (hts _ (mm wf_X4_93)) (fun _ h9 => h9) rfl dX4_join_152 ?_
                        refine lv_iload hx hb dX4_join_155 (lv_at hl 0 rfl) ?_
                        refine sd_lald hx hb hK hP (15 + 3 * qb) 0 (dw_vl hqb) rfl (k := k) (by omega) (by decide) dX4_join_157 ?_
                        refine lv_iload hx hb dX4_join_158 (lv_at hl 3 rfl) ?_
                        refine sd_rl (va_runS (As := [.long (sd_L ((v1 qa) k)), .long (sd_L ((v1 qb) k)), .int (nI h)]) (rest := [.int (nI k), .ref (ad (14 + 3 * q))]) ⟨hx, hb, hml, hown, hts⟩ (k_X4_joined l (v1 qa k) (v1 qb k) h ch) (sd_cwS hts wd_X4_joined wn_X4 wm_X4_97 wi_X4_joined nq_X4_joined rfl rfl ⟨Nat.le_of_ble_eq_true rfl, Nat.le_of_ble_eq_true rfl⟩) sd_preN rfl rfl hl.1 rfl (lv_room (Nat.le_of_ble_eq_true rfl)) dX4_join_160 ⟨Nat.zero_le _, Nat.zero_le _⟩) (fun r30 hr30 => ?_)
                        subst hr30
                        refine sd_wv (va_runV (As := [.int (nI k), .long (sd_L (sd_jn h (v1 qa k) (v1 qb k)))]) (rest := []) ⟨hx, hb, hml, hown, hts⟩ (k_X3_keep l D _ q k (sd_jn h (v1 qa k) (v1 qb k)) hq (by omega)) (sd_cwV hts wd_X3_keep wn_X3 wm_X4_67 wi_X3_keep ws_X3_keep nq_X3_keep rfl rfl ⟨Nat.le_of_ble_eq_true rfl, Nat.le_of_ble_eq_true rfl⟩) (sd_preVW hP hK hD (ci := 3) (q0 := (14 + 3 * q)) rfl rfl (dw_sp hq)) rfl rfl hl.1 rfl (lv_room (Nat.le_of_ble_eq_true rfl)) dX4_join_163 ⟨Nat.zero_le _, Nat.zero_le _⟩) hD hS hA (fun u32 H locs hu32 hP hD hS => ?_)
                        replace hP : va_P D vwCl (dw ad tc dg pl (sd_up v1 q (sd_up (v1 q) k (sd_jn h (v1 qa k) (v1 qb k)))) (sd_up t1 q (sd_up (t1 q) k true)) cu mx us so rr fw ff) H := hP
                        replace hD : va_D A (dw ad tc dg pl (sd_up v1 q (sd_up (v1 q) k (sd_jn h (v1 qa k) (v1 qb k)))) (sd_up t1 q (sd_up (t1 q) k true)) cu mx us so rr fw ff) := hD
                        refine lv_goto (tgt := 176) hx hb dX4_join_166 (by decide) ?_
                        refine lv_iinc (v := nI (k + 1)) (lv' := [(10, .int (nI (k + 1))), (9, .int (nI nn)), (8, .int (nI dd)), (4, .int (nI h)), (5, .ref (ad (14 + 3 * q))), (6, .ref (ad (14 + 3 * qa))), (7, .ref (ad (14 + 3 * qb)))]) hx hb dX4_join_176 hl (k := 0) rfl (nI_1 _) (by decide) rfl (fun ls hl => ?_)
                        refine lv_goto (tgt := 111) hx hb dX4_join_179 (by decide) ?_
                        exact ih (k := k + 1) (v1 := sd_up v1 q (sd_up (v1 q) k (sd_jn h (v1 qa k) (v1 qb k)))) (t1 := sd_up t1 q (sd_up (t1 q) k true)) (hk := by omega) (hI := ⟨fun i j hi => ⟨by rw [sd_up_n _ _ hi]; exact (hI.1 i j hi).1, by rw [sd_up_n _ _ hi]; exact (hI.1 i j hi).2⟩, fun j h1 => ⟨by rw [sd_up2, if_neg (by omega)]; exact (hI.2.1 j (by omega)).1, by rw [sd_up2, if_neg (by omega)]; exact (hI.2.1 j (by omega)).2⟩, fun j h1 h2 => (Classical.em (j = k)).elim (fun ej => ⟨by rw [sd_up2, if_pos ⟨rfl, ej⟩, ej]; rw [c7, c8]; rfl, fun g1 g2 => by rw [sd_up2, if_pos ⟨rfl, ej⟩, (hA9 qa).1, (hA9 qb).1, ej]⟩) (fun ej => ⟨by rw [sd_up2, if_neg (fun z => ej z.2)]; exact (hI.2.2 j h1 (by omega)).1, fun g1 g2 => by rw [sd_up2, if_neg (fun z => ej z.2)]; exact (hI.2.2 j h1 (by omega)).2 g1 g2⟩)⟩) (H := H) (locs := locs) (hP := hP) (hD := hD) (hS := hS) (ls := ls) (hl := (lv_sub hl [0, 1, 2, 3, 4, 5, 6] rfl)) (hk9 := by omega)
              · refine lv_iconst (v := nI 0) hx hb dX4_join_91 (by decide) ?_
                exact W.zret hx hb hr rfl (fun T9 hT9 hW => ⟨⟨_, (dg, pl, vl, th, cu, mx, us, so, rr, fw, ff), rfl, Or.inr ⟨fun ⟨q2, a2, b2, h2, hv⟩ => (by obtain ⟨g1, g2, g3, g4, g5, g6, g7, g8, g9⟩ := hv; have e1 := sd_nI_inj (by omega) (by omega) (hxqa.symm.trans g4); have e2 := sd_nI_inj (by omega) (by omega) (hxqb.symm.trans g6); have e3 := sd_nI_inj (by omega) (by omega) g8; subst e1; subst e2; subst e3; rw [← hdd] at g9; omega), rfl, ⟨rfl, rfl, rfl, rfl, rfl, rfl, rfl⟩⟩, by rw [hT9]; exact hP, va_K.moved hW.alike hK, hD⟩, hS.F hT9⟩) hS.2.2 dX4_join_92
            · refine lv_aload hx hb dX4_join_55 (lv_at hl 1 rfl) ?_
              refine va_get (D := D) (ci := 3) (v := .int (nI (dg qa))) (C := RX3) (T := TX3) (N := 4) hx hb hts (fun w h => mm (inX3 w h)) hown hK hP (14 + 3 * qa) (dw_sp hqa) rfl 2 (by decide) (hts _ (mm wf_X4_78)) (fun _ h9 => h9) rfl dX4_join_57 ?_
              refine lv_aload hx hb dX4_join_60 (lv_at hl 0 rfl) ?_
              refine va_get (D := D) (ci := 3) (v := .int (nI (dg qb))) (C := RX3) (T := TX3) (N := 4) hx hb hts (fun w h => mm (inX3 w h)) hown hK hP (14 + 3 * qb) (dw_sp hqb) rfl 2 (by decide) (hts _ (mm wf_X4_78)) (fun _ h9 => h9) rfl dX4_join_62 ?_
              refine sd_iadd hx hb dX4_join_65 ?_
              refine lv_goto (tgt := 82) hx hb dX4_join_66 (by decide) ?_
              obtain ⟨dd, hdd⟩ : ∃ dd, dd = sd_jd (dg, pl, vl, th, cu, mx, us, so, rr, fw, ff) qa qb h := ⟨_, rfl⟩
              have e9 : dg qa + dg qb = dd := by rw [hdd, sd_jd, if_pos c4]
              have e8 : dg qa + dg qb ≤ 16 := by omega
              rw [e9] at e8 ⊢
              refine lv_istore (lv' := [(8, .int (nI dd)), (7, .ref (ad (14 + 3 * qb))), (6, .ref (ad (14 + 3 * qa))), (5, .ref (ad (14 + 3 * q))), (0, .ref (ad 0)), (1, .int x), (2, .int y), (3, .int z), (4, .int (nI h))]) hx hb dX4_join_82 hl (by decide) rfl (fun ls hl => ?_)
              refine lv_iload hx hb dX4_join_84 (lv_at hl 0 rfl) ?_
              refine lv_bipush (v := nI 8) hx hb dX4_join_86 (by decide) ?_
              refine sd_icmp_le (tgt := 93) hx hb (by omega) (by omega) dX4_join_88 (by decide) (fun c5 => ?_) (fun c5 => ?_)
              · refine lv_aload hx hb dX4_join_93 (lv_at hl 2 rfl) ?_
                refine va_get (D := D) (ci := 3) (v := .int (nI (pl qa))) (C := RX3) (T := TX3) (N := 4) hx hb hts (fun w h => mm (inX3 w h)) hown hK hP (14 + 3 * qa) (dw_sp hqa) rfl 3 (by decide) (hts _ (mm wf_X4_87)) (fun _ h9 => h9) rfl dX4_join_95 ?_
                refine lv_aload hx hb dX4_join_98 (lv_at hl 1 rfl) ?_
                refine va_get (D := D) (ci := 3) (v := .int (nI (pl qb))) (C := RX3) (T := TX3) (N := 4) hx hb hts (fun w h => mm (inX3 w h)) hown hK hP (14 + 3 * qb) (dw_sp hqb) rfl 3 (by decide) (hts _ (mm wf_X4_87)) (fun _ h9 => h9) rfl dX4_join_100 ?_
                refine va_mmin hx hb (by rw [hml]; exact hl.1.symm) hown (hts _ (mm wm_X4_90)) (hts _ (mm wi_J9_min)) (hts _ (mm wn_J9)) (hts _ (mm wd_J9_min)) (Nat.le_of_ble_eq_true rfl) (Nat.le_of_ble_eq_true rfl) (Nat.zero_le _) (Nat.zero_le _) dX4_join_103 ?_
                refine sd_toi (y := nI (min (pl qa) (pl qb))) (sd_min (by omega) (by omega)) ?_
                obtain ⟨nn, hnn⟩ : ∃ nn, nn = min (pl qa) (pl qb) := ⟨_, rfl⟩
                rw [← hnn]
                refine lv_istore (lv' := [(9, .int (nI nn)), (8, .int (nI dd)), (7, .ref (ad (14 + 3 * qb))), (6, .ref (ad (14 + 3 * qa))), (5, .ref (ad (14 + 3 * q))), (0, .ref (ad 0)), (1, .int x), (2, .int y), (3, .int z), (4, .int (nI h))]) hx hb dX4_join_106 hl (by decide) rfl (fun ls hl => ?_)
                refine lv_iconst (v := nI 1) hx hb dX4_join_108 (by decide) ?_
                refine lv_istore (lv' := [(10, .int (nI 1)), (9, .int (nI nn)), (8, .int (nI dd)), (7, .ref (ad (14 + 3 * qb))), (6, .ref (ad (14 + 3 * qa))), (5, .ref (ad (14 + 3 * q))), (0, .ref (ad 0)), (1, .int x), (2, .int y), (3, .int z), (4, .int (nI h))]) hx hb dX4_join_109 hl (by decide) rfl (fun ls hl => ?_)
                obtain ⟨H, hH9⟩ : ∃ H : Heap, H = s.heap := ⟨_, rfl⟩
                obtain ⟨locs, hl9⟩ : ∃ x : List Loc, x = [] := ⟨_, rfl⟩
                rw [← hH9, ← hl9]
                have hS : va_S A s.heap H locs := by rw [hH9, hl9]; exact va_S.rf
                have hP : va_P D vwCl (dw ad tc dg pl vl th cu mx us so rr fw ff) H := by rw [hH9]; exact hP
                clear hH9 hl9
                obtain ⟨k, v1, t1, hk, hI, hP9, hD9, hl9⟩ : ∃ (k : Nat) (v1 : Nat → Nat → FP) (t1 : Nat → Nat → Bool), (1 ≤ k ∧ k ≤ nn + 1) ∧ ((∀ i j, i ≠ q → v1 i j = vl i j ∧ t1 i j = th i j) ∧ (∀ j, k ≤ j → v1 q j = vl q j ∧ t1 q j = th q j) ∧ ∀ j, 1 ≤ j → j < k → t1 q j = (th qa j && th qb j) ∧ (th qa j = true → th qb j = true → v1 q j = sd_jn h (vl qa j) (vl qb j))) ∧ va_P D vwCl (dw ad tc dg pl v1 t1 cu mx us so rr fw ff) H ∧ va_D A (dw ad tc dg pl v1 t1 cu mx us so rr fw ff) ∧ lv_has ls 11 [(10, .int (nI k)), (9, .int (nI nn)), (8, .int (nI dd)), (4, .int (nI h)), (5, .ref (ad (14 + 3 * q))), (6, .ref (ad (14 + 3 * qa))), (7, .ref (ad (14 + 3 * qb)))] := ⟨1, vl, th, ⟨Nat.le_refl 1, by omega⟩, ⟨fun _ _ _ => ⟨rfl, rfl⟩, fun _ _ => ⟨rfl, rfl⟩, fun j h1 h2 => absurd h2 (by omega)⟩, hP, hD, (lv_sub hl [0, 1, 2, 10, 5, 4, 3] rfl)⟩
                replace hl := hl9
                clear hl9
                replace hP := hP9
                replace hD := hD9
                clear hP9 hD9
                obtain ⟨k9, hk9⟩ : ∃ k9 : Nat, nn + 1 < k + k9 := ⟨nn + 1, by omega⟩
                induction k9 generalizing k v1 t1 ls H locs with
                | zero => exact absurd hk9 (by omega)
                | succ k9 ih =>
                  refine lv_iload hx hb dX4_join_111 (lv_at hl 0 rfl) ?_
                  refine lv_iload hx hb dX4_join_113 (lv_at hl 1 rfl) ?_
                  refine sd_icmp_gt (tgt := 182) hx hb (by omega) (by omega) dX4_join_115 (by decide) (fun c6 => ?_) (fun c6 => ?_)
                  · refine lv_aload hx hb dX4_join_182 (lv_at hl 4 rfl) ?_
                    refine lv_iload hx hb dX4_join_184 (lv_at hl 2 rfl) ?_
                    refine lv_iload hx hb dX4_join_186 (lv_at hl 1 rfl) ?_
                    refine sd_wv (va_runV (As := [.int (nI dd), .int (nI nn)]) (rest := []) ⟨hx, hb, hml, hown, hts⟩ (k_X3_shape l D _ q dd nn hq) (sd_cwV hts wd_X3_shape wn_X3 wm_X4_55 wi_X3_shape ws_X3_shape nq_X3_shape rfl rfl ⟨Nat.le_of_ble_eq_true rfl, Nat.le_of_ble_eq_true rfl⟩) (sd_preVW hP hK hD (ci := 3) (q0 := (14 + 3 * q)) rfl rfl (dw_sp hq)) rfl rfl hl.1 rfl (lv_room (Nat.le_of_ble_eq_true rfl)) dX4_join_188 ⟨Nat.zero_le _, Nat.zero_le _⟩) hD hS hA (fun u34 H locs hu34 hP hD hS => ?_)
                    replace hP : va_P D vwCl (dw ad tc (sd_up dg q dd) (sd_up pl q nn) v1 t1 cu mx us so rr fw ff) H := hP
                    replace hD : va_D A (dw ad tc (sd_up dg q dd) (sd_up pl q nn) v1 t1 cu mx us so rr fw ff) := hD
                    refine lv_iconst (v := nI 1) hx hb dX4_join_191 (by decide) ?_
                    exact W.zret hx hb hr rfl (fun T9 hT9 hW => ⟨⟨_, (sd_up dg q dd, sd_up pl q nn, v1, t1, cu, mx, us, so, rr, fw, ff), rfl, Or.inl ⟨q, qa, qb, h, ⟨hq, hxq, hqa, hxqa, hqb, hxqb, ch, rfl, hdd ▸ c5⟩, rfl, by rw [← hdd], by rw [hnn], ⟨rfl, rfl, rfl⟩, hI.1, fun j h1 h2 => hI.2.2 j h1 (by have h2 : j ≤ min (pl qa) (pl qb) := h2; omega)⟩, by rw [hT9]; exact hP, va_K.moved hW.alike hK, hD⟩, hS.F hT9⟩) hS.2.2 dX4_join_192
                  · have hA9 : ∀ i, v1 i k = vl i k ∧ t1 i k = th i k := fun i => (Classical.em (i = q)).elim (fun z => by rw [z]; exact hI.2.1 k (Nat.le_refl k)) (fun z => hI.1 i k z)
                    have hka : k ≤ pl qa ∧ k ≤ pl qb := by omega
                    refine lv_aload hx hb dX4_join_118 (lv_at hl 5 rfl) ?_
                    refine lv_iload hx hb dX4_join_120 (lv_at hl 0 rfl) ?_
                    refine sd_ri (va_runV (As := [.int (nI k)]) (rest := []) ⟨hx, hb, hml, hown, hts⟩ (k_X3_hasShare l D qa (nI k) hqa (hok qa hqa).2) (sd_cwV hts wd_X3_hasShare wn_X3 wm_X4_71 wi_X3_hasShare ws_X3_hasShare nq_X3_hasShare rfl rfl ⟨Nat.le_of_ble_eq_true rfl, Nat.le_of_ble_eq_true rfl⟩) (sd_preVR hP hK (ci := 3) (q0 := (14 + 3 * qa)) rfl rfl (dw_sp hqa)) rfl rfl hl.1 rfl (lv_room (Nat.le_of_ble_eq_true rfl)) dX4_join_122 ⟨Nat.zero_le _, Nat.zero_le _⟩) (fun r35 hr35 => ?_)
                    subst hr35
                    refine sd_if_eqB (tgt := 169) hx hb dX4_join_125 (by decide) (fun c7 => ?_) (fun c7 => ?_)
                    · rw [sd_hs_nI _ (by omega) hk.1 hka.1, (hA9 qa).2] at c7
                      refine lv_aload hx hb dX4_join_169 (lv_at hl 4 rfl) ?_
                      refine lv_iload hx hb dX4_join_171 (lv_at hl 0 rfl) ?_
                      refine sd_wv (va_runV (As := [.int (nI k)]) (rest := []) ⟨hx, hb, hml, hown, hts⟩ (k_X3_drop l D _ q k hq (by omega)) (sd_cwV hts wd_X3_drop wn_X3 wm_X4_74 wi_X3_drop ws_X3_drop nq_X3_drop rfl rfl ⟨Nat.le_of_ble_eq_true rfl, Nat.le_of_ble_eq_true rfl⟩) (sd_preVW hP hK hD (ci := 3) (q0 := (14 + 3 * q)) rfl rfl (dw_sp hq)) rfl rfl hl.1 rfl (lv_room (Nat.le_of_ble_eq_true rfl)) dX4_join_173 ⟨Nat.zero_le _, Nat.zero_le _⟩) hD hS hA (fun u37 H locs hu37 hP hD hS => ?_)
                      replace hP : va_P D vwCl (dw ad tc dg pl v1 (sd_up t1 q (sd_up (t1 q) k false)) cu mx us so rr fw ff) H := hP
                      replace hD : va_D A (dw ad tc dg pl v1 (sd_up t1 q (sd_up (t1 q) k false)) cu mx us so rr fw ff) := hD
                      refine lv_iinc (v := nI (k + 1)) (lv' := [(10, .int (nI (k + 1))), (9, .int (nI nn)), (8, .int (nI dd)), (4, .int (nI h)), (5, .ref (ad (14 + 3 * q))), (6, .ref (ad (14 + 3 * qa))), (7, .ref (ad (14 + 3 * qb)))]) hx hb dX4_join_176 hl (k := 0) rfl (nI_1 _) (by decide) rfl (fun ls hl => ?_)
                      refine lv_goto (tgt := 111) hx hb dX4_join_179 (by decide) ?_
                      exact ih (k := k + 1) (v1 := v1) (t1 := sd_up t1 q (sd_up (t1 q) k false)) (hk := by omega) (hI := ⟨fun i j hi => ⟨(hI.1 i j hi).1, by rw [sd_up_n _ _ hi]; exact (hI.1 i j hi).2⟩, fun j h1 => ⟨(hI.2.1 j (by omega)).1, by rw [sd_up2, if_neg (by omega)]; exact (hI.2.1 j (by omega)).2⟩, fun j h1 h2 => (Classical.em (j = k)).elim (fun ej => ⟨by rw [sd_up2, if_pos ⟨rfl, ej⟩, ej]; rw [c7]; rfl, fun g1 g2 => by rw [ej, c7] at g1; cases g1⟩) (fun ej => ⟨by rw [sd_up2, if_neg (fun z => ej z.2)]; exact (hI.2.2 j h1 (by omega)).1, fun g1 g2 => (hI.2.2 j h1 (by omega)).2 g1 g2⟩)⟩) (H := H) (locs := locs) (hP := hP) (hD := hD) (hS := hS) (ls := ls) (hl := (lv_sub hl [0, 1, 2, 3, 4, 5, 6] rfl)) (hk9 := by omega)
                    · rw [sd_hs_nI _ (by omega) hk.1 hka.1, (hA9 qa).2] at c7
                      refine lv_aload hx hb dX4_join_128 (lv_at hl 6 rfl) ?_
                      refine lv_iload hx hb dX4_join_130 (lv_at hl 0 rfl) ?_
                      refine sd_ri (va_runV (As := [.int (nI k)]) (rest := []) ⟨hx, hb, hml, hown, hts⟩ (k_X3_hasShare l D qb (nI k) hqb (hok qb hqb).2) (sd_cwV hts wd_X3_hasShare wn_X3 wm_X4_71 wi_X3_hasShare ws_X3_hasShare nq_X3_hasShare rfl rfl ⟨Nat.le_of_ble_eq_true rfl, Nat.le_of_ble_eq_true rfl⟩) (sd_preVR hP hK (ci := 3) (q0 := (14 + 3 * qb)) rfl rfl (dw_sp hqb)) rfl rfl hl.1 rfl (lv_room (Nat.le_of_ble_eq_true rfl)) dX4_join_132 ⟨Nat.zero_le _, Nat.zero_le _⟩) (fun r38 hr38 => ?_)
                      subst hr38
                      refine sd_if_eqB (tgt := 169) hx hb dX4_join_135 (by decide) (fun c8 => ?_) (fun c8 => ?_)
                      · rw [sd_hs_nI _ (by omega) hk.1 hka.2, (hA9 qb).2] at c8
                        refine lv_aload hx hb dX4_join_169 (lv_at hl 4 rfl) ?_
                        refine lv_iload hx hb dX4_join_171 (lv_at hl 0 rfl) ?_
                        refine sd_wv (va_runV (As := [.int (nI k)]) (rest := []) ⟨hx, hb, hml, hown, hts⟩ (k_X3_drop l D _ q k hq (by omega)) (sd_cwV hts wd_X3_drop wn_X3 wm_X4_74 wi_X3_drop ws_X3_drop nq_X3_drop rfl rfl ⟨Nat.le_of_ble_eq_true rfl, Nat.le_of_ble_eq_true rfl⟩) (sd_preVW hP hK hD (ci := 3) (q0 := (14 + 3 * q)) rfl rfl (dw_sp hq)) rfl rfl hl.1 rfl (lv_room (Nat.le_of_ble_eq_true rfl)) dX4_join_173 ⟨Nat.zero_le _, Nat.zero_le _⟩) hD hS hA (fun u40 H locs hu40 hP hD hS => ?_)
                        replace hP : va_P D vwCl (dw ad tc dg pl v1 (sd_up t1 q (sd_up (t1 q) k false)) cu mx us so rr fw ff) H := hP
                        replace hD : va_D A (dw ad tc dg pl v1 (sd_up t1 q (sd_up (t1 q) k false)) cu mx us so rr fw ff) := hD
                        refine lv_iinc (v := nI (k + 1)) (lv' := [(10, .int (nI (k + 1))), (9, .int (nI nn)), (8, .int (nI dd)), (4, .int (nI h)), (5, .ref (ad (14 + 3 * q))), (6, .ref (ad (14 + 3 * qa))), (7, .ref (ad (14 + 3 * qb)))]) hx hb dX4_join_176 hl (k := 0) rfl (nI_1 _) (by decide) rfl (fun ls hl => ?_)
                        refine lv_goto (tgt := 111) hx hb dX4_join_179 (by decide) ?_
                        exact ih (k := k + 1) (v1 := v1) (t1 := sd_up t1 q (sd_up (t1 q) k false)) (hk := by omega) (hI := ⟨fun i j hi => ⟨(hI.1 i j hi).1, by rw [sd_up_n _ _ hi]; exact (hI.1 i j hi).2⟩, fun j h1 => ⟨(hI.2.1 j (by omega)).1, by rw [sd_up2, if_neg (by omega)]; exact (hI.2.1 j (by omega)).2⟩, fun j h1 h2 => (Classical.em (j = k)).elim (fun ej => ⟨by rw [sd_up2, if_pos ⟨rfl, ej⟩, ej]; rw [c7, c8]; rfl, fun g1 g2 => by rw [ej, c8] at g2; cases g2⟩) (fun ej => ⟨by rw [sd_up2, if_neg (fun z => ej z.2)]; exact (hI.2.2 j h1 (by omega)).1, fun g1 g2 => (hI.2.2 j h1 (by omega)).2 g1 g2⟩)⟩) (H := H) (locs := locs) (hP := hP) (hD := hD) (hS := hS) (ls := ls) (hl := (lv_sub hl [0, 1, 2, 3, 4, 5, 6] rfl)) (hk9 := by omega)
                      · rw [sd_hs_nI _ (by omega) hk.1 hka.2, (hA9 qb).2] at c8
                        refine lv_aload hx hb dX4_join_138 (lv_at hl 4 rfl) ?_
                        refine lv_iload hx hb dX4_join_140 (lv_at hl 0 rfl) ?_
                        refine lv_aload hx hb dX4_join_142 (lv_at hl 5 rfl) ?_
                        refine va_get (D := D) (ci := 3) (v := .ref (ad (15 + 3 * qa))) (C := RX3) (T := TX3) (N := 4) hx hb hts (fun w h => mm (inX3 w h)) hown hK hP (14 + 3 * qa) (dw_sp hqa) rfl 0 (by decide) (hts _ (mm wf_X4_93)) (fun _ h9 => h9) rfl dX4_join_144 ?_
                        refine lv_iload hx hb dX4_join_147 (lv_at hl 0 rfl) ?_
                        refine sd_lald hx hb hK hP (15 + 3 * qa) 0 (dw_vl hqa) rfl (k := k) (by omega) (by decide) dX4_join_149 ?_
                        refine lv_aload hx hb dX4_join_150 (lv_at hl 6 rfl) ?_
                        refine va_get (D := D) (ci := 3) (v := .ref (ad (15 + 3 * qb))) (C := RX3) (T := TX3) (N := 4) hx hb hts (fun w h => mm (inX3 w h)) hown hK hP (14 + 3 * qb) (dw_sp hqb) rfl 0 (by decide) (hts _ (mm wf_X4_93)) (fun _ h9 => h9) rfl dX4_join_152 ?_
                        refine lv_iload hx hb dX4_join_155 (lv_at hl 0 rfl) ?_
                        refine sd_lald hx hb hK hP (15 + 3 * qb) 0 (dw_vl hqb) rfl (k := k) (by omega) (by decide) dX4_join_157 ?_
                        refine lv_iload hx hb dX4_join_158 (lv_at hl 3 rfl) ?_
                        refine sd_rl (va_runS (As := [.long (sd_L ((v1 qa) k)), .long (sd_L ((v1 qb) k)), .int (nI h)]) (rest := [.int (nI k), .ref (ad (14 + 3 * q))]) ⟨hx, hb, hml, hown, hts⟩ (k_X4_joined l (v1 qa k) (v1 qb k) h ch) (sd_cwS hts wd_X4_joined wn_X4 wm_X4_97 wi_X4_joined nq_X4_joined rfl rfl ⟨Nat.le_of_ble_eq_true rfl, Nat.le_of_ble_eq_true rfl⟩) sd_preN rfl rfl hl.1 rfl (lv_room (Nat.le_of_ble_eq_true rfl)) dX4_join_160 ⟨Nat.zero_le _, Nat.zero_le _⟩) (fun r41 hr41 => ?_)
                        subst hr41
                        refine sd_wv (va_runV (As := [.int (nI k), .long (sd_L (sd_jn h (v1 qa k) (v1 qb k)))]) (rest := []) ⟨hx, hb, hml, hown, hts⟩ (k_X3_keep l D _ q k (sd_jn h (v1 qa k) (v1 qb k)) hq (by omega)) (sd_cwV hts wd_X3_keep wn_X3 wm_X4_67 wi_X3_keep ws_X3_keep nq_X3_keep rfl rfl ⟨Nat.le_of_ble_eq_true rfl, Nat.le_of_ble_eq_true rfl⟩) (sd_preVW hP hK hD (ci := 3) (q0 := (14 + 3 * q)) rfl rfl (dw_sp hq)) rfl rfl hl.1 rfl (lv_room (Nat.le_of_ble_eq_true rfl)) dX4_join_163 ⟨Nat.zero_le _, Nat.zero_le _⟩) hD hS hA (fun u43 H locs hu43 hP hD hS => ?_)
                        replace hP : va_P D vwCl (dw ad tc dg pl (sd_up v1 q (sd_up (v1 q) k (sd_jn h (v1 qa k) (v1 qb k)))) (sd_up t1 q (sd_up (t1 q) k true)) cu mx us so rr fw ff) H := hP
                        replace hD : va_D A (dw ad tc dg pl (sd_up v1 q (sd_up (v1 q) k (sd_jn h (v1 qa k) (v1 qb k)))) (sd_up t1 q (sd_up (t1 q) k true)) cu mx us so rr fw ff) := hD
                        refine lv_goto (tgt := 176) hx hb dX4_join_166 (by decide) ?_
                        refine lv_iinc (v := nI (k + 1)) (lv' := [(10, .int (nI (k + 1))), (9, .int (nI nn)), (8, .int (nI dd)), (4, .int (nI h)), (5, .ref (ad (14 + 3 * q))), (6, .ref (ad (14 + 3 * qa))), (7, .ref (ad (14 + 3 * qb)))]) hx hb dX4_join_176 hl (k := 0) rfl (nI_1 _) (by decide) rfl (fun ls hl => ?_)
                        refine lv_goto (tgt := 111) hx hb dX4_join_179 (by decide) ?_
                        exact ih (k := k + 1) (v1 := sd_up v1 q (sd_up (v1 q) k (sd_jn h (v1 qa k) (v1 qb k)))) (t1 := sd_up t1 q (sd_up (t1 q) k true)) (hk := by omega) (hI := ⟨fun i j hi => ⟨by rw [sd_up_n _ _ hi]; exact (hI.1 i j hi).1, by rw [sd_up_n _ _ hi]; exact (hI.1 i j hi).2⟩, fun j h1 => ⟨by rw [sd_up2, if_neg (by omega)]; exact (hI.2.1 j (by omega)).1, by rw [sd_up2, if_neg (by omega)]; exact (hI.2.1 j (by omega)).2⟩, fun j h1 h2 => (Classical.em (j = k)).elim (fun ej => ⟨by rw [sd_up2, if_pos ⟨rfl, ej⟩, ej]; rw [c7, c8]; rfl, fun g1 g2 => by rw [sd_up2, if_pos ⟨rfl, ej⟩, (hA9 qa).1, (hA9 qb).1, ej]⟩) (fun ej => ⟨by rw [sd_up2, if_neg (fun z => ej z.2)]; exact (hI.2.2 j h1 (by omega)).1, fun g1 g2 => by rw [sd_up2, if_neg (fun z => ej z.2)]; exact (hI.2.2 j h1 (by omega)).2 g1 g2⟩)⟩) (H := H) (locs := locs) (hP := hP) (hD := hD) (hS := hS) (ls := ls) (hl := (lv_sub hl [0, 1, 2, 3, 4, 5, 6] rfl)) (hk9 := by omega)
              · refine lv_iconst (v := nI 0) hx hb dX4_join_91 (by decide) ?_
                exact W.zret hx hb hr rfl (fun T9 hT9 hW => ⟨⟨_, (dg, pl, vl, th, cu, mx, us, so, rr, fw, ff), rfl, Or.inr ⟨fun ⟨q2, a2, b2, h2, hv⟩ => (by obtain ⟨g1, g2, g3, g4, g5, g6, g7, g8, g9⟩ := hv; have e1 := sd_nI_inj (by omega) (by omega) (hxqa.symm.trans g4); have e2 := sd_nI_inj (by omega) (by omega) (hxqb.symm.trans g6); have e3 := sd_nI_inj (by omega) (by omega) g8; subst e1; subst e2; subst e3; rw [← hdd] at g9; omega), rfl, ⟨rfl, rfl, rfl, rfl, rfl, rfl, rfl⟩⟩, by rw [hT9]; exact hP, va_K.moved hW.alike hK, hD⟩, hS.F hT9⟩) hS.2.2 dX4_join_92
          · refine lv_iconst (v := nI 0) hx hb dX4_join_47 (by decide) ?_
            exact W.zret hx hb hr rfl (fun T9 hT9 hW => ⟨⟨_, (dg, pl, vl, th, cu, mx, us, so, rr, fw, ff), rfl, Or.inr ⟨fun ⟨q2, a2, b2, h2, hv⟩ => (by obtain ⟨g1, g2, g3, g4, g5, g6, g7, g8, g9⟩ := hv; have e9 := sd_nI_inj hh9 (by omega) g8; omega), rfl, ⟨rfl, rfl, rfl, rfl, rfl, rfl, rfl⟩⟩, by rw [hT9]; exact hP, va_K.moved hW.alike hK, hD⟩, hS.F hT9⟩) hS.2.2 dX4_join_48

set_option maxHeartbeats 1000000 in
set_option maxRecDepth 100000 in
theorem k_X4_split (l : Launch) (D : va_G) {ad : Nat → Nat} {tc : Nat → ClassId} {dg pl : Nat → Nat} {vl : Nat → Nat → FP} {th : Nat → Nat → Bool} {cu mx : Nat → Nat → FP} {us : Nat → Bool} {so : Nat → FP} {rr : Nat → Int32} {fw : Nat → Bool} {ff : Int32} (x y : Int32) (hok : ∀ q, q < 8 → dg q ≤ 8 ∧ pl q ≤ 16) : Met l yX4_split (Cond.code yX4_split cX4_split 4 (some .int) :: bg) { frames := 1, cells := 0, slots := 0, locals := 22 } (sd_R D vwCl (ty5 tc) (dw ad tc dg pl vl th cu mx us so rr fw ff) [.ref (ad 0), .int x, .int y]) (vp_Si (fun r => P_split x y (dg, pl, vl, th, cu, mx, us, so, rr, fw, ff) r)) 0 0 (fun _ => False) := by
  refine Met.ofW (cc := cX4_split) (maxL := 4) (ret := some .int) (by decide) rfl ?_
  intro p e s m args below meth c s₁ B hml hv
  obtain ⟨rfl, hP, hK⟩ := hv
  have hx := B.exec
  have hb := B.bytes
  have hr := B.returns
  have hts := atoms_spec (ws := Cond.code yX4_split cX4_split 4 (some .int) :: bg) B.pre
  have hown : s.vm.findClass RX4 = some m.cls := findClass_of_methodNamed B.named
  have hlocks := B.notSynchronized
  have hl := lv_entry ([.ref (ad 0), .int x, .int y]) (n := 4) (Nat.le_of_ble_eq_true rfl)
  rw [lg_entry_eq]
  generalize (lg_sl ([.ref (ad 0), .int x, .int y]) ++ List.replicate (4 - (lg_sl ([.ref (ad 0), .int x, .int y])).length) Slot.unset).toArray = ls at hl ⊢
  replace hl : lv_has ls 4 [(0, .ref (ad 0)), (1, .int x), (2, .int y)] := hl
  refine lv_aload_n hx hb dX4_split_0 rfl (lv_at hl 0 rfl) ?_
  refine lv_iload_n hx hb dX4_split_1 rfl (lv_at hl 1 rfl) ?_
  refine va_csq (va_runV (As := [.int x]) (rest := []) ⟨hx, hb, hml, hown, hts⟩ (k_X4_splitOrNull l D x) (sd_cwV hts wd_X4_splitOrNull wn_X4 wm_X4_41 wi_X4_splitOrNull ws_X4_splitOrNull nq_X4_splitOrNull rfl rfl ⟨Nat.le_of_ble_eq_true rfl, Nat.le_of_ble_eq_true rfl⟩) (sd_preVR hP hK (ci := 4) (q0 := 0) rfl rfl dw_desk) rfl rfl hl.1 rfl (lv_room (Nat.le_of_ble_eq_true rfl)) dX4_split_2 ⟨Nat.zero_le _, Nat.zero_le _⟩).run (fun r1 hr1 => ?_)
  subst hr1
  rcases hixq : sd_ix x with _ | q
  · refine sd_top (v2 := .null) rfl ?_
    refine lv_astore_nN (lv' := [(3, .null), (0, .ref (ad 0)), (1, .int x), (2, .int y)]) hx hb dX4_split_5 rfl hl (by decide) rfl (fun ls hl => ?_)
    refine lv_aload_nN hx hb dX4_split_6 rfl (lv_at hl 0 rfl) ?_
    refine lv_ifnonnullN hx hb dX4_split_7 ?_
    refine lv_iconst (v := -1) hx hb dX4_split_10 (by decide) ?_
    exact W.iret hx hb hr (fun T9 hT9 hW => ⟨_, rfl, Or.inr ⟨fun ⟨q, h1, h2⟩ => sd_ix_none hixq h1 h2, rfl⟩, hT9⟩) (fun q h => nomatch h) dX4_split_11
  · obtain ⟨hq, hxq⟩ := sd_ix_some hixq
    refine sd_top (v2 := .ref (ad (14 + 3 * q))) rfl ?_
    refine lv_astore_n (lv' := [(3, .ref (ad (14 + 3 * q))), (0, .ref (ad 0)), (1, .int x), (2, .int y)]) hx hb dX4_split_5 rfl hl (by decide) rfl (fun ls hl => ?_)
    refine lv_aload_n hx hb dX4_split_6 rfl (lv_at hl 0 rfl) ?_
    refine lv_ifnonnull (tgt := 12) hx hb dX4_split_7 (by decide) ?_
    refine lv_iload_n hx hb dX4_split_12 rfl (lv_at hl 3 rfl) ?_
    by_cases e0 : y = nI 0
    · subst e0
      refine lv_tableIn (off := 27) (tgt := 40) hx hb dX4_split_13 (by decide +kernel) (by decide +kernel) (by decide +kernel) (by decide) ?_
      refine lv_aload_n hx hb dX4_split_40 rfl (lv_at hl 0 rfl) ?_
      refine va_get (D := D) (ci := 3) (v := .int (nI (dg q))) (C := RX3) (T := TX3) (N := 4) hx hb hts (fun w h => mm (inX3 w h)) hown hK hP (14 + 3 * q) (dw_sp hq) rfl 2 (by decide) (hts _ (mm wf_X4_78)) (fun _ h9 => h9) rfl dX4_split_41 ?_
      exact W.iret hx hb hr (fun T9 hT9 hW => ⟨_, rfl, Or.inl ⟨q, hq, hxq, rfl⟩, hT9⟩) (fun q h => nomatch h) dX4_split_44
    by_cases e1 : y = nI 1
    · subst e1
      refine lv_tableIn (off := 32) (tgt := 45) hx hb dX4_split_13 (by decide +kernel) (by decide +kernel) (by decide +kernel) (by decide) ?_
      refine lv_aload_n hx hb dX4_split_45 rfl (lv_at hl 0 rfl) ?_
      refine va_get (D := D) (ci := 3) (v := .int (nI (pl q))) (C := RX3) (T := TX3) (N := 4) hx hb hts (fun w h => mm (inX3 w h)) hown hK hP (14 + 3 * q) (dw_sp hq) rfl 3 (by decide) (hts _ (mm wf_X4_87)) (fun _ h9 => h9) rfl dX4_split_46 ?_
      exact W.iret hx hb hr (fun T9 hT9 hW => ⟨_, rfl, Or.inl ⟨q, hq, hxq, rfl⟩, hT9⟩) (fun q h => nomatch h) dX4_split_49
    by_cases e2 : y = nI 2
    · subst e2
      refine lv_tableIn (off := 37) (tgt := 50) hx hb dX4_split_13 (by decide +kernel) (by decide +kernel) (by decide +kernel) (by decide) ?_
      refine lv_aload_n hx hb dX4_split_50 rfl (lv_at hl 0 rfl) ?_
      refine sd_ri (va_runV (As := []) (rest := []) ⟨hx, hb, hml, hown, hts⟩ (k_X3_countThere l D q hq (hok q hq).2) (sd_cwV hts wd_X3_countThere wn_X3 wm_X4_118 wi_X3_countThere ws_X3_countThere nq_X3_countThere rfl rfl ⟨Nat.le_of_ble_eq_true rfl, Nat.le_of_ble_eq_true rfl⟩) (sd_preVR hP hK (ci := 3) (q0 := (14 + 3 * q)) rfl rfl (dw_sp hq)) rfl rfl hl.1 rfl (lv_room (Nat.le_of_ble_eq_true rfl)) dX4_split_51 ⟨Nat.zero_le _, Nat.zero_le _⟩) (fun r4 hr4 => ?_)
      subst hr4
      exact W.iret hx hb hr (fun T9 hT9 hW => ⟨_, rfl, Or.inl ⟨q, hq, hxq, rfl⟩, hT9⟩) (fun q h => nomatch h) dX4_split_54
    have g0 := sd_ne_toInt (by decide) e0
    have g1 := sd_ne_toInt (by decide) e1
    have g2 := sd_ne_toInt (by decide) e2
    refine lv_tableOut (tgt := 55) hx hb dX4_split_13 (by omega) (by decide) ?_
    refine lv_iconst (v := -1) hx hb dX4_split_55 (by decide) ?_
    exact W.iret hx hb hr (fun T9 hT9 hW => ⟨_, rfl, Or.inl ⟨q, hq, hxq, by rw [if_neg e0, if_neg e1, if_neg e2]⟩, hT9⟩) (fun q h => nomatch h) dX4_split_56

set_option maxHeartbeats 1000000 in
set_option maxRecDepth 100000 in
theorem k_X4_keepFound (l : Launch) (D : va_G) {ad : Nat → Nat} {tc : Nat → ClassId} {dg pl : Nat → Nat} {vl : Nat → Nat → FP} {th : Nat → Nat → Bool} {cu mx : Nat → Nat → FP} {us : Nat → Bool} {so : Nat → FP} {rr : Nat → Int32} {fw : Nat → Bool} {ff : Int32} (sz : Nat) (x : Int32) (q : Nat) (hq : q < 8) (hpl : pl q ≤ 16) : Met l yX4_keepFound (Cond.code yX4_keepFound cX4_keepFound 4 none :: bg) { frames := 3, cells := 0, slots := 0, locals := 85 } (sd_Wr D vwCl (ty5 tc) (dw ad tc dg pl vl th cu mx us so rr fw ff) sz [.ref (ad 0), .int x, .ref (ad (14 + 3 * q))]) (va_Qv (S := DS) (fun u : DS => sdg u = dg ∧ spl u = pl ∧ svl u = vl ∧ sth u = th ∧ sff u = x ∧ (∀ k, k < 9 → scu u 2 k = cu 1 k) ∧ ∀ j, 1 ≤ j → j ≤ 16 → sfw u j = sd_mk (pl q) (th q) (vl q) (cu 1) j) (sd_B D vwCl (ty5 tc) (va_A (dw ad tc dg pl vl th cu mx us so rr fw ff) sz) (fun u => dwt ad tc u)) (va_A (dw ad tc dg pl vl th cu mx us so rr fw ff) sz)) 0 0 (va_A (dw ad tc dg pl vl th cu mx us so rr fw ff) sz) := by
  refine Met.ofW (cc := cX4_keepFound) (maxL := 4) (ret := none) (by decide) rfl ?_
  intro p e s m args below meth c s₁ B hml hv
  obtain ⟨rfl, hsz, hP, hK, hD0⟩ := hv
  have hx := B.exec
  have hb := B.bytes
  have hr := B.returns
  have hts := atoms_spec (ws := Cond.code yX4_keepFound cX4_keepFound 4 none :: bg) B.pre
  have hown : s.vm.findClass RX4 = some m.cls := findClass_of_methodNamed B.named
  have hlocks := B.notSynchronized
  subst hsz
  have hD := hD0.self (sz := s.heap.size)
  generalize hAe : va_A (dw ad tc dg pl vl th cu mx us so rr fw ff) s.heap.size = A at hD ⊢
  have hA : ∀ q : Nat, s.heap.size ≤ q → A q := fun q h => by rw [← hAe]; exact Or.inr h
  have hS : va_S A s.heap s.heap [] := va_S.rf
  have hl := lv_entry ([.ref (ad 0), .int x, .ref (ad (14 + 3 * q))]) (n := 4) (Nat.le_of_ble_eq_true rfl)
  rw [lg_entry_eq]
  generalize (lg_sl ([.ref (ad 0), .int x, .ref (ad (14 + 3 * q))]) ++ List.replicate (4 - (lg_sl ([.ref (ad 0), .int x, .ref (ad (14 + 3 * q))])).length) Slot.unset).toArray = ls at hl ⊢
  replace hl : lv_has ls 4 [(0, .ref (ad 0)), (1, .int x), (2, .ref (ad (14 + 3 * q)))] := hl
  refine lv_aload_n hx hb dX4_keepFound_0 rfl (lv_at hl 0 rfl) ?_
  refine lv_iload_n hx hb dX4_keepFound_1 rfl (lv_at hl 1 rfl) ?_
  refine sd_put (ci := 4) (C := RX4) (T := TX4) (N := 6) hx hb hts (fun w h => mm (inX4 w h)) tyX4 tyX4_ok nmX4 hown hK hP hD hS 0 dw_desk rfl 5 (by decide) (hts _ (mm wf_X4_36)) rfl rfl rfl rfl (Nat.le_of_ble_eq_true rfl) rfl (ws2 := dw ad tc dg pl vl th cu mx us so rr fw x) (dws_ff _) dX4_keepFound_2 (fun H locs hP hD hS => ?_)
  refine lv_aload_n hx hb dX4_keepFound_5 rfl (lv_at hl 0 rfl) ?_
  refine va_get (D := D) (ci := 4) (v := .ref (ad 6)) (C := RX4) (T := TX4) (N := 6) hx hb hts (fun w h => mm (inX4 w h)) hown hK hP 0 dw_desk rfl 3 (by decide) (hts _ (mm wf_X4_29)) (fun _ h9 => h9) rfl dX4_keepFound_6 ?_
  refine lv_aload_n hx hb dX4_keepFound_9 rfl (lv_at hl 0 rfl) ?_
  refine va_get (D := D) (ci := 4) (v := .ref (ad 8)) (C := RX4) (T := TX4) (N := 6) hx hb hts (fun w h => mm (inX4 w h)) hown hK hP 0 dw_desk rfl 2 (by decide) (hts _ (mm wf_X4_25)) (fun _ h9 => h9) rfl dX4_keepFound_10 ?_
  refine va_get (D := D) (ci := 1) (v := .ref (ad 4)) (C := RX1) (T := TX1) (N := 5) hx hb hts (fun w h => mm (inX1 w h)) hown hK hP 8 dw_finder rfl 0 (by decide) (hts _ (mm wf_X4_131)) (fun _ h9 => h9) rfl dX4_keepFound_13 ?_
  refine sd_wv (va_runV (As := [.ref (ad 4)]) (rest := []) ⟨hx, hb, hml, hown, hts⟩ (k_X0_copyFrom l D _ 2 1 (by decide) (by decide)) (sd_cwV hts wd_X0_copyFrom wn_X0 wm_X4_162 wi_X0_copyFrom ws_X0_copyFrom nq_X0_copyFrom rfl rfl ⟨Nat.le_of_ble_eq_true rfl, Nat.le_of_ble_eq_true rfl⟩) (sd_preVW hP hK hD (ci := 0) (q0 := 6) rfl rfl (dw_curve (c := 2) (by decide))) rfl rfl hl.1 rfl (lv_room (Nat.le_of_ble_eq_true rfl)) dX4_keepFound_16 ⟨Nat.zero_le _, Nat.zero_le _⟩) hD hS hA (fun u2 H locs hu2 hP hD hS => ?_)
  replace hP : va_P D vwCl (dw ad tc dg pl vl th (sd_up cu 2 (fun k => if k < 9 then cu 1 k else cu 2 k)) mx us so rr fw x) H := hP
  replace hD : va_D A (dw ad tc dg pl vl th (sd_up cu 2 (fun k => if k < 9 then cu 1 k else cu 2 k)) mx us so rr fw x) := hD
  refine lv_iconst (v := nI 1) hx hb dX4_keepFound_19 (by decide) ?_
  refine lv_istore_n (lv' := [(3, .int (nI 1)), (0, .ref (ad 0)), (1, .int x), (2, .ref (ad (14 + 3 * q)))]) hx hb dX4_keepFound_20 rfl hl (by decide) rfl (fun ls hl => ?_)
  obtain ⟨cA, hcA⟩ : ∃ z, z = sd_up cu 2 (fun k => if k < 9 then cu 1 k else cu 2 k) := ⟨_, rfl⟩
  rw [← hcA] at hP hD
  have hc2 : ∀ k, k < 9 → cA 2 k = cu 1 k := fun k hk => by rw [hcA, sd_up_s]; exact if_pos hk
  have hmk : ∀ j, sd_mk (pl q) (th q) (vl q) (cA 2) j = sd_mk (pl q) (th q) (vl q) (cu 1) j := fun j => by
    have ez : sd_ev (cA 2) (sd_N j) = sd_ev (cu 1) (sd_N j) := sd_pv_congr _ 9 0 (fun k _ hk => hc2 k (by omega))
    unfold sd_mk sd_ms
    rw [ez]
  obtain ⟨k, f1, hk, hI, hP9, hD9, hl9⟩ : ∃ (k : Nat) (f1 : Nat → Bool), (1 ≤ k ∧ k ≤ 17) ∧ (∀ j, 1 ≤ j → j < k → f1 j = sd_mk (pl q) (th q) (vl q) (cA 2) j) ∧ va_P D vwCl (dw ad tc dg pl vl th cA mx us so rr f1 x) H ∧ va_D A (dw ad tc dg pl vl th cA mx us so rr f1 x) ∧ lv_has ls 4 [(3, .int (nI k)), (0, .ref (ad 0)), (2, .ref (ad (14 + 3 * q)))] := ⟨1, fw, by decide, fun j h1 h2 => absurd h2 (by omega), hP, hD, (lv_sub hl [0, 1, 3] rfl)⟩
  replace hl := hl9
  clear hl9
  replace hP := hP9
  replace hD := hD9
  clear hP9 hD9
  obtain ⟨k9, hk9⟩ : ∃ k9 : Nat, 17 < k + k9 := ⟨17, by omega⟩
  induction k9 generalizing k f1 ls H locs with
  | zero => exact absurd hk9 (by omega)
  | succ k9 ih =>
    refine lv_iload_n hx hb dX4_keepFound_21 rfl (lv_at hl 0 rfl) ?_
    refine lv_bipush (v := nI 16) hx hb dX4_keepFound_22 (by decide) ?_
    refine sd_icmp_gt (tgt := 48) hx hb (by omega) (by omega) dX4_keepFound_24 (by decide) (fun c1 => ?_) (fun c1 => ?_)
    · exact W.vret hx hb hr (fun T9 hT9 hW => ⟨⟨(dg, pl, vl, th, cA, mx, us, so, rr, f1, x), rfl, ⟨rfl, rfl, rfl, rfl, rfl, hc2, fun j h1 h2 => (hI j h1 (by omega)).trans (hmk j)⟩, by rw [hT9]; exact hP, va_K.moved hW.alike hK, hD⟩, hS.F hT9⟩) hS.2.2 dX4_keepFound_48
    · refine lv_aload_n hx hb dX4_keepFound_27 rfl (lv_at hl 1 rfl) ?_
      refine va_get (D := D) (ci := 4) (v := .ref (ad 13)) (C := RX4) (T := TX4) (N := 6) hx hb hts (fun w h => mm (inX4 w h)) hown hK hP 0 dw_desk rfl 4 (by decide) (hts _ (mm wf_X4_32)) (fun _ h9 => h9) rfl dX4_keepFound_28 ?_
      refine lv_iload_n hx hb dX4_keepFound_31 rfl (lv_at hl 0 rfl) ?_
      refine lv_aload_n hx hb dX4_keepFound_32 rfl (lv_at hl 2 rfl) ?_
      refine lv_aload_n hx hb dX4_keepFound_33 rfl (lv_at hl 1 rfl) ?_
      refine va_get (D := D) (ci := 4) (v := .ref (ad 6)) (C := RX4) (T := TX4) (N := 6) hx hb hts (fun w h => mm (inX4 w h)) hown hK hP 0 dw_desk rfl 3 (by decide) (hts _ (mm wf_X4_29)) (fun _ h9 => h9) rfl dX4_keepFound_34 ?_
      refine lv_iload_n hx hb dX4_keepFound_37 rfl (lv_at hl 0 rfl) ?_
      refine sd_ri (va_runV (As := [.ref (ad 6), .int (nI k)]) (rest := [.int (nI k), .ref (ad 13)]) ⟨hx, hb, hml, hown, hts⟩ (k_X3_isMissedBy l D q 2 k hq (by decide) hpl hk.1 c1) (sd_cwV hts wd_X3_isMissedBy wn_X3 wm_X4_165 wi_X3_isMissedBy ws_X3_isMissedBy nq_X3_isMissedBy rfl rfl ⟨Nat.le_of_ble_eq_true rfl, Nat.le_of_ble_eq_true rfl⟩) (sd_preVR hP hK (ci := 3) (q0 := (14 + 3 * q)) rfl rfl (dw_sp hq)) rfl rfl hl.1 rfl (lv_room (Nat.le_of_ble_eq_true rfl)) dX4_keepFound_38 ⟨Nat.zero_le _, Nat.zero_le _⟩) (fun r3 hr3 => ?_)
      subst hr3
      refine sd_zast hx hb hK hP hD hS 13 1 dw_fw rfl (k := k) (by omega) (by decide) (ws2 := dw ad tc dg pl vl th cA mx us so rr (sd_up f1 k (sd_mk (pl q) (th q) (vl q) (cA 2) k)) x) (by rw [sd_stZ]; exact dws_fw _) dX4_keepFound_41 (fun H locs hP hD hS => ?_)
      refine lv_iinc (v := nI (k + 1)) (lv' := [(3, .int (nI (k + 1))), (0, .ref (ad 0)), (2, .ref (ad (14 + 3 * q)))]) hx hb dX4_keepFound_42 hl (k := 0) rfl (nI_1 _) (by decide) rfl (fun ls hl => ?_)
      refine lv_goto (tgt := 21) hx hb dX4_keepFound_45 (by decide) ?_
      exact ih (k := k + 1) (f1 := sd_up f1 k (sd_mk (pl q) (th q) (vl q) (cA 2) k)) (hk := by omega) (hI := fun j h1 h2 => (Classical.em (j = k)).elim (fun ej => by rw [ej, sd_up_s]) (fun ej => by rw [sd_up_n _ _ ej]; exact hI j h1 (by omega))) (H := H) (locs := locs) (hP := hP) (hD := hD) (hS := hS) (ls := ls) (hl := (lv_sub hl [0, 1, 2] rfl)) (hk9 := by omega)

/-! the desk: scale, renew, deal, join, mend, split -/
set_option maxHeartbeats 1000000 in
set_option maxRecDepth 100000 in
theorem k_X4_scale (l : Launch) (D : va_G) {ad : Nat → Nat} {tc : Nat → ClassId} {dg pl : Nat → Nat} {vl : Nat → Nat → FP} {th : Nat → Nat → Bool} {cu mx : Nat → Nat → FP} {us : Nat → Bool} {so : Nat → FP} {rr : Nat → Int32} {fw : Nat → Bool} {ff : Int32} (sz : Nat) (x : Int32) (v v2 : Int64) (hok : ∀ q, q < 8 → dg q ≤ 8 ∧ pl q ≤ 16) : Met l yX4_scale (Cond.code yX4_scale cX4_scale 12 (some .boolean) :: bg) { frames := 2, cells := 0, slots := 0, locals := 46 } (sd_Wr D vwCl (ty5 tc) (dw ad tc dg pl vl th cu mx us so rr fw ff) sz [.ref (ad 0), .int x, .long v, .long v2]) (va_Qi (S := DS) (fun r u => P_scale x v v2 (dg, pl, vl, th, cu, mx, us, so, rr, fw, ff) r u) (sd_B D vwCl (ty5 tc) (va_A (dw ad tc dg pl vl th cu mx us so rr fw ff) sz) (fun u => dwt ad tc u)) (va_A (dw ad tc dg pl vl th cu mx us so rr fw ff) sz)) 0 0 (va_A (dw ad tc dg pl vl th cu mx us so rr fw ff) sz) := by
  refine Met.ofW (cc := cX4_scale) (maxL := 12) (ret := some .boolean) (by decide) rfl ?_
  intro p e s m args below meth c s₁ B hml hv
  obtain ⟨rfl, hsz, hP, hK, hD0⟩ := hv
  have hx := B.exec
  have hb := B.bytes
  have hr := B.returns
  have hts := atoms_spec (ws := Cond.code yX4_scale cX4_scale 12 (some .boolean) :: bg) B.pre
  have hown : s.vm.findClass RX4 = some m.cls := findClass_of_methodNamed B.named
  have hlocks := B.notSynchronized
  subst hsz
  have hD := hD0.self (sz := s.heap.size)
  generalize hAe : va_A (dw ad tc dg pl vl th cu mx us so rr fw ff) s.heap.size = A at hD ⊢
  have hA : ∀ q : Nat, s.heap.size ≤ q → A q := fun q h => by rw [← hAe]; exact Or.inr h
  have hS : va_S A s.heap s.heap [] := va_S.rf
  have hl := lv_entry ([.ref (ad 0), .int x, .long v, .long v2]) (n := 12) (Nat.le_of_ble_eq_true rfl)
  rw [lg_entry_eq]
  generalize (lg_sl ([.ref (ad 0), .int x, .long v, .long v2]) ++ List.replicate (12 - (lg_sl ([.ref (ad 0), .int x, .long v, .long v2])).length) Slot.unset).toArray = ls at hl ⊢
  replace hl : lv_has ls 12 [(0, .ref (ad 0)), (1, .int x), (2, .long v), (4, .long v2)] := hl
  refine lv_aload_n hx hb dX4_scale_0 rfl (lv_at hl 0 rfl) ?_
  refine lv_iload_n hx hb dX4_scale_1 rfl (lv_at hl 1 rfl) ?_
  refine va_csq (va_runV (As := [.int x]) (rest := []) ⟨hx, hb, hml, hown, hts⟩ (k_X4_splitOrNull l D x) (sd_cwV hts wd_X4_splitOrNull wn_X4 wm_X4_41 wi_X4_splitOrNull ws_X4_splitOrNull nq_X4_splitOrNull rfl rfl ⟨Nat.le_of_ble_eq_true rfl, Nat.le_of_ble_eq_true rfl⟩) (sd_preVR hP hK (ci := 4) (q0 := 0) rfl rfl dw_desk) rfl rfl hl.1 rfl (lv_room (Nat.le_of_ble_eq_true rfl)) dX4_scale_2 ⟨Nat.zero_le _, Nat.zero_le _⟩).run (fun r1 hr1 => ?_)
  subst hr1
  rcases hixq : sd_ix x with _ | q
  · refine sd_top (v2 := .null) rfl ?_
    refine lv_astoreN (lv' := [(6, .null), (0, .ref (ad 0)), (1, .int x), (2, .long v), (4, .long v2)]) hx hb dX4_scale_5 hl (by decide) rfl (fun ls hl => ?_)
    refine lv_aloadN hx hb dX4_scale_7 (lv_at hl 0 rfl) ?_
    refine lv_ifnonnullN hx hb dX4_scale_9 ?_
    refine lv_iconst (v := nI 0) hx hb dX4_scale_12 (by decide) ?_
    exact W.zret hx hb hr rfl (fun T9 hT9 hW => ⟨⟨_, (dg, pl, vl, th, cu, mx, us, so, rr, fw, ff), rfl, Or.inr ⟨fun ⟨q, h1, h2⟩ => sd_ix_none hixq h1 h2, rfl, ⟨rfl, rfl, rfl, rfl, rfl, rfl, rfl⟩⟩, by rw [hT9]; exact hP, va_K.moved hW.alike hK, hD⟩, hS.F hT9⟩) hS.2.2 dX4_scale_13
  · obtain ⟨hq, hxq⟩ := sd_ix_some hixq
    refine sd_top (v2 := .ref (ad (14 + 3 * q))) rfl ?_
    refine lv_astore (lv' := [(6, .ref (ad (14 + 3 * q))), (0, .ref (ad 0)), (1, .int x), (2, .long v), (4, .long v2)]) hx hb dX4_scale_5 hl (by decide) rfl (fun ls hl => ?_)
    refine lv_aload hx hb dX4_scale_7 (lv_at hl 0 rfl) ?_
    refine lv_ifnonnull (tgt := 14) hx hb dX4_scale_9 (by decide) ?_
    refine lv_lload_n hx hb dX4_scale_14 rfl (lv_at hl 3 rfl) ?_
    refine sd_rl (va_runS (As := [.long v]) (rest := []) ⟨hx, hb, hml, hown, hts⟩ (k_X2_of l v) (sd_cwS hts wd_X2_of wn_X2 wm_X4_45 wi_X2_of nq_X2_of rfl rfl ⟨Nat.le_of_ble_eq_true rfl, Nat.le_of_ble_eq_true rfl⟩) sd_preN rfl rfl hl.1 rfl (lv_room (Nat.le_of_ble_eq_true rfl)) dX4_scale_15 ⟨Nat.zero_le _, Nat.zero_le _⟩) (fun r4 hr4 => ?_)
    subst hr4
    refine lv_lstore (lv' := [(7, .long (sd_L (sd_of v))), (6, .ref (ad (14 + 3 * q))), (0, .ref (ad 0)), (1, .int x), (2, .long v), (4, .long v2)]) hx hb dX4_scale_18 hl (by decide) rfl (fun ls hl => ?_)
    refine lv_lload hx hb dX4_scale_20 (lv_at hl 5 rfl) ?_
    refine sd_rl (va_runS (As := [.long v2]) (rest := []) ⟨hx, hb, hml, hown, hts⟩ (k_X2_of l v2) (sd_cwS hts wd_X2_of wn_X2 wm_X4_45 wi_X2_of nq_X2_of rfl rfl ⟨Nat.le_of_ble_eq_true rfl, Nat.le_of_ble_eq_true rfl⟩) sd_preN rfl rfl hl.1 rfl (lv_room (Nat.le_of_ble_eq_true rfl)) dX4_scale_22 ⟨Nat.zero_le _, Nat.zero_le _⟩) (fun r5 hr5 => ?_)
    subst hr5
    have hokq := hok q hq
    refine lv_lstore (lv' := [(9, .long (sd_L (sd_of v2))), (7, .long (sd_L (sd_of v))), (6, .ref (ad (14 + 3 * q))), (0, .ref (ad 0)), (1, .int x), (2, .long v), (4, .long v2)]) hx hb dX4_scale_25 hl (by decide) rfl (fun ls hl => ?_)
    refine lv_iconst (v := nI 1) hx hb dX4_scale_27 (by decide) ?_
    refine lv_istore (lv' := [(11, .int (nI 1)), (9, .long (sd_L (sd_of v2))), (7, .long (sd_L (sd_of v))), (6, .ref (ad (14 + 3 * q))), (0, .ref (ad 0)), (1, .int x), (2, .long v), (4, .long v2)]) hx hb dX4_scale_28 hl (by decide) rfl (fun ls hl => ?_)
    obtain ⟨H, hH9⟩ : ∃ H : Heap, H = s.heap := ⟨_, rfl⟩
    obtain ⟨locs, hl9⟩ : ∃ x : List Loc, x = [] := ⟨_, rfl⟩
    rw [← hH9, ← hl9]
    have hS : va_S A s.heap H locs := by rw [hH9, hl9]; exact va_S.rf
    have hP : va_P D vwCl (dw ad tc dg pl vl th cu mx us so rr fw ff) H := by rw [hH9]; exact hP
    clear hH9 hl9
    obtain ⟨k, v1, t1, hk, hI, hP9, hD9, hl9⟩ : ∃ (k : Nat) (v1 : Nat → Nat → FP) (t1 : Nat → Nat → Bool), (1 ≤ k ∧ k ≤ pl q + 1) ∧ ((∀ i j, i ≠ q → v1 i j = vl i j) ∧ (∀ j, k ≤ j → v1 q j = vl q j) ∧ (∀ i j, t1 i j = th i j) ∧ ∀ j, 1 ≤ j → j < k → th q j = true → v1 q j = vl q j * sd_of v + sd_of v2) ∧ va_P D vwCl (dw ad tc dg pl v1 t1 cu mx us so rr fw ff) H ∧ va_D A (dw ad tc dg pl v1 t1 cu mx us so rr fw ff) ∧ lv_has ls 12 [(11, .int (nI k)), (6, .ref (ad (14 + 3 * q))), (7, .long (sd_L (sd_of v))), (9, .long (sd_L (sd_of v2)))] := ⟨1, vl, th, ⟨Nat.le_refl 1, by omega⟩, ⟨fun _ _ _ => rfl, fun _ _ => rfl, fun _ _ => rfl, fun j h1 h2 => absurd h2 (by omega)⟩, hP, hD, (lv_sub hl [0, 3, 2, 1] rfl)⟩
    replace hl := hl9
    clear hl9
    replace hP := hP9
    replace hD := hD9
    clear hP9 hD9
    obtain ⟨k9, hk9⟩ : ∃ k9 : Nat, pl q + 1 < k + k9 := ⟨pl q + 1, by omega⟩
    induction k9 generalizing k v1 t1 ls H locs with
    | zero => exact absurd hk9 (by omega)
    | succ k9 ih =>
      refine lv_iload hx hb dX4_scale_30 (lv_at hl 0 rfl) ?_
      refine lv_aload hx hb dX4_scale_32 (lv_at hl 1 rfl) ?_
      refine va_get (D := D) (ci := 3) (v := .int (nI (pl q))) (C := RX3) (T := TX3) (N := 4) hx hb hts (fun w h => mm (inX3 w h)) hown hK hP (14 + 3 * q) (dw_sp hq) rfl 3 (by decide) (hts _ (mm wf_X4_87)) (fun _ h9 => h9) rfl dX4_scale_34 ?_
      refine sd_icmp_gt (tgt := 81) hx hb (by omega) (by omega) dX4_scale_37 (by decide) (fun c1 => ?_) (fun c1 => ?_)
      · refine lv_iconst (v := nI 1) hx hb dX4_scale_81 (by decide) ?_
        exact W.zret hx hb hr rfl (fun T9 hT9 hW => ⟨⟨_, (dg, pl, v1, t1, cu, mx, us, so, rr, fw, ff), rfl, Or.inl ⟨q, hq, hxq, rfl, rfl, rfl, funext fun i => funext fun j => hI.2.2.1 i j, ⟨rfl, rfl, rfl⟩, hI.1, fun j h1 h2 h3 => hI.2.2.2 j h1 (by have h2 : j ≤ pl q := h2; omega) h3⟩, by rw [hT9]; exact hP, va_K.moved hW.alike hK, hD⟩, hS.F hT9⟩) hS.2.2 dX4_scale_82
      · refine lv_aload hx hb dX4_scale_40 (lv_at hl 1 rfl) ?_
        refine lv_iload hx hb dX4_scale_42 (lv_at hl 0 rfl) ?_
        refine sd_ri (va_runV (As := [.int (nI k)]) (rest := []) ⟨hx, hb, hml, hown, hts⟩ (k_X3_hasShare l D q (nI k) hq hokq.2) (sd_cwV hts wd_X3_hasShare wn_X3 wm_X4_71 wi_X3_hasShare ws_X3_hasShare nq_X3_hasShare rfl rfl ⟨Nat.le_of_ble_eq_true rfl, Nat.le_of_ble_eq_true rfl⟩) (sd_preVR hP hK (ci := 3) (q0 := (14 + 3 * q)) rfl rfl (dw_sp hq)) rfl rfl hl.1 rfl (lv_room (Nat.le_of_ble_eq_true rfl)) dX4_scale_44 ⟨Nat.zero_le _, Nat.zero_le _⟩) (fun r6 hr6 => ?_)
        subst hr6
        refine sd_if_eqB (tgt := 75) hx hb dX4_scale_47 (by decide) (fun c2 => ?_) (fun c2 => ?_)
        · rw [sd_hs_nI _ (by omega) hk.1 (by omega), hI.2.2.1] at c2
          refine lv_iinc (v := nI (k + 1)) (lv' := [(11, .int (nI (k + 1))), (6, .ref (ad (14 + 3 * q))), (7, .long (sd_L (sd_of v))), (9, .long (sd_L (sd_of v2)))]) hx hb dX4_scale_75 hl (k := 0) rfl (nI_1 _) (by decide) rfl (fun ls hl => ?_)
          refine lv_goto (tgt := 30) hx hb dX4_scale_78 (by decide) ?_
          exact ih (k := k + 1) (v1 := v1) (t1 := t1) (hk := by omega) (hI := ⟨hI.1, fun j h1 => hI.2.1 j (by omega), hI.2.2.1, fun j h1 h2 h3 => (Classical.em (j = k)).elim (fun ej => absurd h3 (by rw [ej, c2]; decide)) (fun ej => hI.2.2.2 j h1 (by omega) h3)⟩) (H := H) (locs := locs) (hP := hP) (hD := hD) (hS := hS) (ls := ls) (hl := (lv_sub hl [0, 1, 2, 3] rfl)) (hk9 := by omega)
        · rw [sd_hs_nI _ (by omega) hk.1 (by omega), hI.2.2.1] at c2
          refine lv_aload hx hb dX4_scale_50 (lv_at hl 1 rfl) ?_
          refine lv_iload hx hb dX4_scale_52 (lv_at hl 0 rfl) ?_
          refine lv_aload hx hb dX4_scale_54 (lv_at hl 1 rfl) ?_
          refine va_get (D := D) (ci := 3) (v := .ref (ad (15 + 3 * q))) (C := RX3) (T := TX3) (N := 4) hx hb hts (fun w h => mm (inX3 w h)) hown hK hP (14 + 3 * q) (dw_sp hq) rfl 0 (by decide) (hts _ (mm wf_X4_93)) (fun _ h9 => h9) rfl dX4_scale_56 ?_
          refine lv_iload hx hb dX4_scale_59 (lv_at hl 0 rfl) ?_
          refine sd_lald hx hb hK hP (15 + 3 * q) 0 (dw_vl hq) rfl (k := k) (by omega) (by decide) dX4_scale_61 ?_
          refine lv_lload hx hb dX4_scale_62 (lv_at hl 2 rfl) ?_
          refine sd_rl (va_runS (As := [.long (sd_L ((v1 q) k)), .long (sd_L (sd_of v))]) (rest := [.int (nI k), .ref (ad (14 + 3 * q))]) ⟨hx, hb, hml, hown, hts⟩ (k_X2_times l (v1 q k) (sd_of v)) (sd_cwS hts wd_X2_times wn_X2 wm_X4_101 wi_X2_times nq_X2_times rfl rfl ⟨Nat.le_of_ble_eq_true rfl, Nat.le_of_ble_eq_true rfl⟩) sd_preN rfl rfl hl.1 rfl (lv_room (Nat.le_of_ble_eq_true rfl)) dX4_scale_64 ⟨Nat.zero_le _, Nat.zero_le _⟩) (fun r7 hr7 => ?_)
          subst hr7
          refine lv_lload hx hb dX4_scale_67 (lv_at hl 3 rfl) ?_
          refine sd_rl (va_runS (As := [.long (sd_L (v1 q k * sd_of v)), .long (sd_L (sd_of v2))]) (rest := [.int (nI k), .ref (ad (14 + 3 * q))]) ⟨hx, hb, hml, hown, hts⟩ (k_X2_plus l (v1 q k * sd_of v) (sd_of v2)) (sd_cwS hts wd_X2_plus wn_X2 wm_X4_105 wi_X2_plus nq_X2_plus rfl rfl ⟨Nat.le_of_ble_eq_true rfl, Nat.le_of_ble_eq_true rfl⟩) sd_preN rfl rfl hl.1 rfl (lv_room (Nat.le_of_ble_eq_true rfl)) dX4_scale_69 ⟨Nat.zero_le _, Nat.zero_le _⟩) (fun r8 hr8 => ?_)
          subst hr8
          refine sd_wv (va_runV (As := [.int (nI k), .long (sd_L (v1 q k * sd_of v + sd_of v2))]) (rest := []) ⟨hx, hb, hml, hown, hts⟩ (k_X3_keep l D _ q k (v1 q k * sd_of v + sd_of v2) hq (by omega)) (sd_cwV hts wd_X3_keep wn_X3 wm_X4_67 wi_X3_keep ws_X3_keep nq_X3_keep rfl rfl ⟨Nat.le_of_ble_eq_true rfl, Nat.le_of_ble_eq_true rfl⟩) (sd_preVW hP hK hD (ci := 3) (q0 := (14 + 3 * q)) rfl rfl (dw_sp hq)) rfl rfl hl.1 rfl (lv_room (Nat.le_of_ble_eq_true rfl)) dX4_scale_72 ⟨Nat.zero_le _, Nat.zero_le _⟩) hD hS hA (fun u10 H locs hu10 hP hD hS => ?_)
          replace hP : va_P D vwCl (dw ad tc dg pl (sd_up v1 q (sd_up (v1 q) k (v1 q k * sd_of v + sd_of v2))) (sd_up t1 q (sd_up (t1 q) k true)) cu mx us so rr fw ff) H := hP
          replace hD : va_D A (dw ad tc dg pl (sd_up v1 q (sd_up (v1 q) k (v1 q k * sd_of v + sd_of v2))) (sd_up t1 q (sd_up (t1 q) k true)) cu mx us so rr fw ff) := hD
          refine lv_iinc (v := nI (k + 1)) (lv' := [(11, .int (nI (k + 1))), (6, .ref (ad (14 + 3 * q))), (7, .long (sd_L (sd_of v))), (9, .long (sd_L (sd_of v2)))]) hx hb dX4_scale_75 hl (k := 0) rfl (nI_1 _) (by decide) rfl (fun ls hl => ?_)
          refine lv_goto (tgt := 30) hx hb dX4_scale_78 (by decide) ?_
          exact ih (k := k + 1) (v1 := sd_up v1 q (sd_up (v1 q) k (v1 q k * sd_of v + sd_of v2))) (t1 := sd_up t1 q (sd_up (t1 q) k true)) (hk := by omega) (hI := ⟨fun i j hi => by rw [sd_up_n _ _ hi]; exact hI.1 i j hi, fun j h1 => by rw [sd_up2, if_neg (by omega)]; exact hI.2.1 j (by omega), fun i j => by rw [sd_up2, hI.2.2.1]; exact (Classical.em (i = q ∧ j = k)).elim (fun z => by rw [if_pos z, z.1, z.2, c2]) (fun z => by rw [if_neg z]), fun j h1 h2 h3 => by rw [sd_up2]; exact (Classical.em (j = k)).elim (fun ej => by rw [if_pos ⟨rfl, ej⟩, hI.2.1 k (Nat.le_refl k), ej]) (fun ej => by rw [if_neg (fun z => ej z.2)]; exact hI.2.2.2 j h1 (by omega) h3)⟩) (H := H) (locs := locs) (hP := hP) (hD := hD) (hS := hS) (ls := ls) (hl := (lv_sub hl [0, 1, 2, 3] rfl)) (hk9 := by omega)

set_option maxHeartbeats 1000000 in
set_option maxRecDepth 100000 in
theorem k_X4_renew (l : Launch) (D : va_G) {ad : Nat → Nat} {tc : Nat → ClassId} {dg pl : Nat → Nat} {vl : Nat → Nat → FP} {th : Nat → Nat → Bool} {cu mx : Nat → Nat → FP} {us : Nat → Bool} {so : Nat → FP} {rr : Nat → Int32} {fw : Nat → Bool} {ff : Int32} (sz : Nat) (x : Int32) (seed : Int64) (hok : ∀ q, q < 8 → dg q ≤ 8 ∧ pl q ≤ 16) : Met l yX4_renew (Cond.code yX4_renew cX4_renew 6 (some .boolean) :: bg) { frames := 2, cells := 0, slots := 0, locals := 60 } (sd_Wr D vwCl (ty5 tc) (dw ad tc dg pl vl th cu mx us so rr fw ff) sz [.ref (ad 0), .int x, .long seed]) (va_Qi (S := DS) (fun r u => P_renew x seed (dg, pl, vl, th, cu, mx, us, so, rr, fw, ff) r u) (sd_B D vwCl (ty5 tc) (va_A (dw ad tc dg pl vl th cu mx us so rr fw ff) sz) (fun u => dwt ad tc u)) (va_A (dw ad tc dg pl vl th cu mx us so rr fw ff) sz)) 0 0 (va_A (dw ad tc dg pl vl th cu mx us so rr fw ff) sz) := by
  refine Met.ofW (cc := cX4_renew) (maxL := 6) (ret := some .boolean) (by decide) rfl ?_
  intro p e s m args below meth c s₁ B hml hv
  obtain ⟨rfl, hsz, hP, hK, hD0⟩ := hv
  have hx := B.exec
  have hb := B.bytes
  have hr := B.returns
  have hts := atoms_spec (ws := Cond.code yX4_renew cX4_renew 6 (some .boolean) :: bg) B.pre
  have hown : s.vm.findClass RX4 = some m.cls := findClass_of_methodNamed B.named
  have hlocks := B.notSynchronized
  subst hsz
  have hD := hD0.self (sz := s.heap.size)
  generalize hAe : va_A (dw ad tc dg pl vl th cu mx us so rr fw ff) s.heap.size = A at hD ⊢
  have hA : ∀ q : Nat, s.heap.size ≤ q → A q := fun q h => by rw [← hAe]; exact Or.inr h
  have hS : va_S A s.heap s.heap [] := va_S.rf
  have hl := lv_entry ([.ref (ad 0), .int x, .long seed]) (n := 6) (Nat.le_of_ble_eq_true rfl)
  rw [lg_entry_eq]
  generalize (lg_sl ([.ref (ad 0), .int x, .long seed]) ++ List.replicate (6 - (lg_sl ([.ref (ad 0), .int x, .long seed])).length) Slot.unset).toArray = ls at hl ⊢
  replace hl : lv_has ls 6 [(0, .ref (ad 0)), (1, .int x), (2, .long seed)] := hl
  refine lv_aload_n hx hb dX4_renew_0 rfl (lv_at hl 0 rfl) ?_
  refine lv_iload_n hx hb dX4_renew_1 rfl (lv_at hl 1 rfl) ?_
  refine va_csq (va_runV (As := [.int x]) (rest := []) ⟨hx, hb, hml, hown, hts⟩ (k_X4_splitOrNull l D x) (sd_cwV hts wd_X4_splitOrNull wn_X4 wm_X4_41 wi_X4_splitOrNull ws_X4_splitOrNull nq_X4_splitOrNull rfl rfl ⟨Nat.le_of_ble_eq_true rfl, Nat.le_of_ble_eq_true rfl⟩) (sd_preVR hP hK (ci := 4) (q0 := 0) rfl rfl dw_desk) rfl rfl hl.1 rfl (lv_room (Nat.le_of_ble_eq_true rfl)) dX4_renew_2 ⟨Nat.zero_le _, Nat.zero_le _⟩).run (fun r1 hr1 => ?_)
  subst hr1
  rcases hixq : sd_ix x with _ | q
  · refine sd_top (v2 := .null) rfl ?_
    refine lv_astoreN (lv' := [(4, .null), (0, .ref (ad 0)), (1, .int x), (2, .long seed)]) hx hb dX4_renew_5 hl (by decide) rfl (fun ls hl => ?_)
    refine lv_aloadN hx hb dX4_renew_7 (lv_at hl 0 rfl) ?_
    refine lv_ifnonnullN hx hb dX4_renew_9 ?_
    refine lv_iconst (v := nI 0) hx hb dX4_renew_12 (by decide) ?_
    exact W.zret hx hb hr rfl (fun T9 hT9 hW => ⟨⟨_, (dg, pl, vl, th, cu, mx, us, so, rr, fw, ff), rfl, Or.inr ⟨fun ⟨q, h1, h2⟩ => sd_ix_none hixq h1 h2, rfl, ⟨rfl, rfl, rfl, rfl, rfl, rfl, rfl⟩⟩, by rw [hT9]; exact hP, va_K.moved hW.alike hK, hD⟩, hS.F hT9⟩) hS.2.2 dX4_renew_13
  · obtain ⟨hq, hxq⟩ := sd_ix_some hixq
    refine sd_top (v2 := .ref (ad (14 + 3 * q))) rfl ?_
    have hokq := hok q hq
    refine lv_astore (lv' := [(4, .ref (ad (14 + 3 * q))), (0, .ref (ad 0)), (1, .int x), (2, .long seed)]) hx hb dX4_renew_5 hl (by decide) rfl (fun ls hl => ?_)
    refine lv_aload hx hb dX4_renew_7 (lv_at hl 0 rfl) ?_
    refine lv_ifnonnull (tgt := 14) hx hb dX4_renew_9 (by decide) ?_
    refine lv_aload_n hx hb dX4_renew_14 rfl (lv_at hl 1 rfl) ?_
    refine va_get (D := D) (ci := 4) (v := .ref (ad 2)) (C := RX4) (T := TX4) (N := 6) hx hb hts (fun w h => mm (inX4 w h)) hown hK hP 0 dw_desk rfl 1 (by decide) (hts _ (mm wf_X4_18)) (fun _ h9 => h9) rfl dX4_renew_15 ?_
    refine lv_lconst (v := 0) hx hb dX4_renew_18 (by decide) ?_
    refine sd_tol (y := sd_L 0) sd_L_0.symm ?_
    refine lv_aload hx hb dX4_renew_19 (lv_at hl 0 rfl) ?_
    refine va_get (D := D) (ci := 3) (v := .int (nI (dg q))) (C := RX3) (T := TX3) (N := 4) hx hb hts (fun w h => mm (inX3 w h)) hown hK hP (14 + 3 * q) (dw_sp hq) rfl 2 (by decide) (hts _ (mm wf_X4_78)) (fun _ h9 => h9) rfl dX4_renew_21 ?_
    refine lv_lload_n hx hb dX4_renew_24 rfl (lv_at hl 3 rfl) ?_
    refine sd_wv (va_runV (As := [.long (sd_L 0), .int (nI (dg q)), .long seed]) (rest := []) ⟨hx, hb, hml, hown, hts⟩ (k_X0_draw l D _ 0 0 (dg q) seed (by decide) hokq.1) (sd_cwV hts wd_X0_draw wn_X0 wm_X4_51 wi_X0_draw ws_X0_draw nq_X0_draw rfl rfl ⟨Nat.le_of_ble_eq_true rfl, Nat.le_of_ble_eq_true rfl⟩) (sd_preVW hP hK hD (ci := 0) (q0 := 2) rfl rfl (dw_curve (c := 0) (by decide))) rfl rfl hl.1 rfl (lv_room (Nat.le_of_ble_eq_true rfl)) dX4_renew_25 ⟨Nat.zero_le _, Nat.zero_le _⟩) hD hS hA (fun c1 H locs hc1 hP hD hS => ?_)
    replace hP : va_P D vwCl (dw ad tc dg pl vl th c1 mx us so rr fw ff) H := hP
    replace hD : va_D A (dw ad tc dg pl vl th c1 mx us so rr fw ff) := hD
    have hev := sd_dr_ev hc1.2.1 hc1.2.2
    refine lv_iconst (v := nI 1) hx hb dX4_renew_28 (by decide) ?_
    refine lv_istore (lv' := [(5, .int (nI 1)), (4, .ref (ad (14 + 3 * q))), (0, .ref (ad 0)), (1, .int x), (2, .long seed)]) hx hb dX4_renew_29 hl (by decide) rfl (fun ls hl => ?_)
    obtain ⟨k, v1, t1, hk, hI, hP9, hD9, hl9⟩ : ∃ (k : Nat) (v1 : Nat → Nat → FP) (t1 : Nat → Nat → Bool), (1 ≤ k ∧ k ≤ pl q + 1) ∧ ((∀ i j, i ≠ q → v1 i j = vl i j) ∧ (∀ j, k ≤ j → v1 q j = vl q j) ∧ (∀ i j, t1 i j = th i j) ∧ ∀ j, 1 ≤ j → j < k → th q j = true → v1 q j = vl q j + sd_ev (sd_dr 0 (dg q) seed) (sd_N j)) ∧ va_P D vwCl (dw ad tc dg pl v1 t1 c1 mx us so rr fw ff) H ∧ va_D A (dw ad tc dg pl v1 t1 c1 mx us so rr fw ff) ∧ lv_has ls 6 [(5, .int (nI k)), (4, .ref (ad (14 + 3 * q))), (0, .ref (ad 0))] := ⟨1, vl, th, ⟨Nat.le_refl 1, by omega⟩, ⟨fun _ _ _ => rfl, fun _ _ => rfl, fun _ _ => rfl, fun j h1 h2 => absurd h2 (by omega)⟩, hP, hD, (lv_sub hl [0, 1, 2] rfl)⟩
    replace hl := hl9
    clear hl9
    replace hP := hP9
    replace hD := hD9
    clear hP9 hD9
    obtain ⟨k9, hk9⟩ : ∃ k9 : Nat, pl q + 1 < k + k9 := ⟨pl q + 1, by omega⟩
    induction k9 generalizing k v1 t1 ls H locs with
    | zero => exact absurd hk9 (by omega)
    | succ k9 ih =>
      refine lv_iload hx hb dX4_renew_31 (lv_at hl 0 rfl) ?_
      refine lv_aload hx hb dX4_renew_33 (lv_at hl 1 rfl) ?_
      refine va_get (D := D) (ci := 3) (v := .int (nI (pl q))) (C := RX3) (T := TX3) (N := 4) hx hb hts (fun w h => mm (inX3 w h)) hown hK hP (14 + 3 * q) (dw_sp hq) rfl 3 (by decide) (hts _ (mm wf_X4_87)) (fun _ h9 => h9) rfl dX4_renew_35 ?_
      refine sd_icmp_gt (tgt := 85) hx hb (by omega) (by omega) dX4_renew_38 (by decide) (fun b1 => ?_) (fun b1 => ?_)
      · refine lv_iconst (v := nI 1) hx hb dX4_renew_85 (by decide) ?_
        exact W.zret hx hb hr rfl (fun T9 hT9 hW => ⟨⟨_, (dg, pl, v1, t1, c1, mx, us, so, rr, fw, ff), rfl, Or.inl ⟨q, hq, hxq, rfl, rfl, rfl, funext fun i => funext fun j => hI.2.2.1 i j, ⟨hc1.1 2 (by decide), rfl, rfl⟩, hI.1, fun j h1 h2 h3 => hI.2.2.2 j h1 (by have h2 : j ≤ pl q := h2; omega) h3⟩, by rw [hT9]; exact hP, va_K.moved hW.alike hK, hD⟩, hS.F hT9⟩) hS.2.2 dX4_renew_86
      · refine lv_aload hx hb dX4_renew_41 (lv_at hl 1 rfl) ?_
        refine lv_iload hx hb dX4_renew_43 (lv_at hl 0 rfl) ?_
        refine sd_ri (va_runV (As := [.int (nI k)]) (rest := []) ⟨hx, hb, hml, hown, hts⟩ (k_X3_hasShare l D q (nI k) hq hokq.2) (sd_cwV hts wd_X3_hasShare wn_X3 wm_X4_71 wi_X3_hasShare ws_X3_hasShare nq_X3_hasShare rfl rfl ⟨Nat.le_of_ble_eq_true rfl, Nat.le_of_ble_eq_true rfl⟩) (sd_preVR hP hK (ci := 3) (q0 := (14 + 3 * q)) rfl rfl (dw_sp hq)) rfl rfl hl.1 rfl (lv_room (Nat.le_of_ble_eq_true rfl)) dX4_renew_45 ⟨Nat.zero_le _, Nat.zero_le _⟩) (fun r5 hr5 => ?_)
        subst hr5
        refine sd_if_eqB (tgt := 79) hx hb dX4_renew_48 (by decide) (fun b2 => ?_) (fun b2 => ?_)
        · rw [sd_hs_nI _ (by omega) hk.1 (by omega), hI.2.2.1] at b2
          refine lv_iinc (v := nI (k + 1)) (lv' := [(5, .int (nI (k + 1))), (4, .ref (ad (14 + 3 * q))), (0, .ref (ad 0))]) hx hb dX4_renew_79 hl (k := 0) rfl (nI_1 _) (by decide) rfl (fun ls hl => ?_)
          refine lv_goto (tgt := 31) hx hb dX4_renew_82 (by decide) ?_
          exact ih (k := k + 1) (v1 := v1) (t1 := t1) (hk := by omega) (hI := ⟨hI.1, fun j h1 => hI.2.1 j (by omega), hI.2.2.1, fun j h1 h2 h3 => (Classical.em (j = k)).elim (fun ej => absurd h3 (by rw [ej, b2]; decide)) (fun ej => hI.2.2.2 j h1 (by omega) h3)⟩) (H := H) (locs := locs) (hP := hP) (hD := hD) (hS := hS) (ls := ls) (hl := (lv_sub hl [0, 1, 2] rfl)) (hk9 := by omega)
        · rw [sd_hs_nI _ (by omega) hk.1 (by omega), hI.2.2.1] at b2
          refine lv_aload hx hb dX4_renew_51 (lv_at hl 1 rfl) ?_
          refine lv_iload hx hb dX4_renew_53 (lv_at hl 0 rfl) ?_
          refine lv_aload hx hb dX4_renew_55 (lv_at hl 1 rfl) ?_
          refine va_get (D := D) (ci := 3) (v := .ref (ad (15 + 3 * q))) (C := RX3) (T := TX3) (N := 4) hx hb hts (fun w h => mm (inX3 w h)) hown hK hP (14 + 3 * q) (dw_sp hq) rfl 0 (by decide) (hts _ (mm wf_X4_93)) (fun _ h9 => h9) rfl dX4_renew_57 ?_
          refine lv_iload hx hb dX4_renew_60 (lv_at hl 0 rfl) ?_
          refine sd_lald hx hb hK hP (15 + 3 * q) 0 (dw_vl hq) rfl (k := k) (by omega) (by decide) dX4_renew_62 ?_
          refine lv_aload_n hx hb dX4_renew_63 rfl (lv_at hl 2 rfl) ?_
          refine va_get (D := D) (ci := 4) (v := .ref (ad 2)) (C := RX4) (T := TX4) (N := 6) hx hb hts (fun w h => mm (inX4 w h)) hown hK hP 0 dw_desk rfl 1 (by decide) (hts _ (mm wf_X4_18)) (fun _ h9 => h9) rfl dX4_renew_64 ?_
          refine lv_iload hx hb dX4_renew_67 (lv_at hl 0 rfl) ?_
          refine lv_i2l (v := lN k) hx hb dX4_renew_69 (nI_l (by omega)) ?_
          refine sd_tol (y := sd_L (sd_N k)) ((sd_N_L (by omega)).symm) ?_
          refine sd_rl (va_runV (As := [.long (sd_L (sd_N k))]) (rest := [.long (sd_L ((v1 q) k)), .int (nI k), .ref (ad (14 + 3 * q))]) ⟨hx, hb, hml, hown, hts⟩ (k_X0_valueAt l D 0 (sd_N k) (by decide)) (sd_cwV hts wd_X0_valueAt wn_X0 wm_X4_108 wi_X0_valueAt ws_X0_valueAt nq_X0_valueAt rfl rfl ⟨Nat.le_of_ble_eq_true rfl, Nat.le_of_ble_eq_true rfl⟩) (sd_preVR hP hK (ci := 0) (q0 := 2) rfl rfl (dw_curve (c := 0) (by decide))) rfl rfl hl.1 rfl (lv_room (Nat.le_of_ble_eq_true rfl)) dX4_renew_70 ⟨Nat.zero_le _, Nat.zero_le _⟩) (fun r6 hr6 => ?_)
          subst hr6
          refine sd_rl (va_runS (As := [.long (sd_L ((v1 q) k)), .long (sd_L (sd_ev (c1 0) (sd_N k)))]) (rest := [.int (nI k), .ref (ad (14 + 3 * q))]) ⟨hx, hb, hml, hown, hts⟩ (k_X2_plus l (v1 q k) (sd_ev (c1 0) (sd_N k))) (sd_cwS hts wd_X2_plus wn_X2 wm_X4_105 wi_X2_plus nq_X2_plus rfl rfl ⟨Nat.le_of_ble_eq_true rfl, Nat.le_of_ble_eq_true rfl⟩) sd_preN rfl rfl hl.1 rfl (lv_room (Nat.le_of_ble_eq_true rfl)) dX4_renew_73 ⟨Nat.zero_le _, Nat.zero_le _⟩) (fun r7 hr7 => ?_)
          subst hr7
          refine sd_wv (va_runV (As := [.int (nI k), .long (sd_L (v1 q k + sd_ev (c1 0) (sd_N k)))]) (rest := []) ⟨hx, hb, hml, hown, hts⟩ (k_X3_keep l D _ q k (v1 q k + sd_ev (c1 0) (sd_N k)) hq (by omega)) (sd_cwV hts wd_X3_keep wn_X3 wm_X4_67 wi_X3_keep ws_X3_keep nq_X3_keep rfl rfl ⟨Nat.le_of_ble_eq_true rfl, Nat.le_of_ble_eq_true rfl⟩) (sd_preVW hP hK hD (ci := 3) (q0 := (14 + 3 * q)) rfl rfl (dw_sp hq)) rfl rfl hl.1 rfl (lv_room (Nat.le_of_ble_eq_true rfl)) dX4_renew_76 ⟨Nat.zero_le _, Nat.zero_le _⟩) hD hS hA (fun u9 H locs hu9 hP hD hS => ?_)
          replace hP : va_P D vwCl (dw ad tc dg pl (sd_up v1 q (sd_up (v1 q) k (v1 q k + sd_ev (c1 0) (sd_N k)))) (sd_up t1 q (sd_up (t1 q) k true)) c1 mx us so rr fw ff) H := hP
          replace hD : va_D A (dw ad tc dg pl (sd_up v1 q (sd_up (v1 q) k (v1 q k + sd_ev (c1 0) (sd_N k)))) (sd_up t1 q (sd_up (t1 q) k true)) c1 mx us so rr fw ff) := hD
          refine lv_iinc (v := nI (k + 1)) (lv' := [(5, .int (nI (k + 1))), (4, .ref (ad (14 + 3 * q))), (0, .ref (ad 0))]) hx hb dX4_renew_79 hl (k := 0) rfl (nI_1 _) (by decide) rfl (fun ls hl => ?_)
          refine lv_goto (tgt := 31) hx hb dX4_renew_82 (by decide) ?_
          exact ih (k := k + 1) (v1 := sd_up v1 q (sd_up (v1 q) k (v1 q k + sd_ev (c1 0) (sd_N k)))) (t1 := sd_up t1 q (sd_up (t1 q) k true)) (hk := by omega) (hI := ⟨fun i j hi => by rw [sd_up_n _ _ hi]; exact hI.1 i j hi, fun j h1 => by rw [sd_up2, if_neg (by omega)]; exact hI.2.1 j (by omega), fun i j => by rw [sd_up2, hI.2.2.1]; exact (Classical.em (i = q ∧ j = k)).elim (fun z => by rw [if_pos z, z.1, z.2, b2]) (fun z => by rw [if_neg z]), fun j h1 h2 h3 => by rw [sd_up2]; exact (Classical.em (j = k)).elim (fun ej => by rw [if_pos ⟨rfl, ej⟩, hI.2.1 k (Nat.le_refl k), ej, hev]) (fun ej => by rw [if_neg (fun z => ej z.2)]; exact hI.2.2.2 j h1 (by omega) h3)⟩) (H := H) (locs := locs) (hP := hP) (hD := hD) (hS := hS) (ls := ls) (hl := (lv_sub hl [0, 1, 2] rfl)) (hk9 := by omega)

set_option maxHeartbeats 1000000 in
set_option maxRecDepth 100000 in
theorem k_X4_deal (l : Launch) (D : va_G) {ad : Nat → Nat} {tc : Nat → ClassId} {dg pl : Nat → Nat} {vl : Nat → Nat → FP} {th : Nat → Nat → Bool} {cu mx : Nat → Nat → FP} {us : Nat → Bool} {so : Nat → FP} {rr : Nat → Int32} {fw : Nat → Bool} {ff : Int32} (sz : Nat) (x y z : Int32) (v seed : Int64) (hok : ∀ q, q < 8 → dg q ≤ 8 ∧ pl q ≤ 16) : Met l yX4_deal (Cond.code yX4_deal cX4_deal 9 (some .boolean) :: bg) { frames := 3, cells := 0, slots := 0, locals := 82 } (sd_Wr D vwCl (ty5 tc) (dw ad tc dg pl vl th cu mx us so rr fw ff) sz [.ref (ad 0), .int x, .int y, .int z, .long v, .long seed]) (va_Qi (S := DS) (fun r u => P_deal x y z v seed (dg, pl, vl, th, cu, mx, us, so, rr, fw, ff) r u) (sd_B D vwCl (ty5 tc) (va_A (dw ad tc dg pl vl th cu mx us so rr fw ff) sz) (fun u => dwt ad tc u)) (va_A (dw ad tc dg pl vl th cu mx us so rr fw ff) sz)) 0 0 (va_A (dw ad tc dg pl vl th cu mx us so rr fw ff) sz) := by
  refine Met.ofW (cc := cX4_deal) (maxL := 9) (ret := some .boolean) (by decide) rfl ?_
  intro p e s m args below meth c s₁ B hml hv
  obtain ⟨rfl, hsz, hP, hK, hD0⟩ := hv
  have hx := B.exec
  have hb := B.bytes
  have hr := B.returns
  have hts := atoms_spec (ws := Cond.code yX4_deal cX4_deal 9 (some .boolean) :: bg) B.pre
  have hown : s.vm.findClass RX4 = some m.cls := findClass_of_methodNamed B.named
  have hlocks := B.notSynchronized
  subst hsz
  have hD := hD0.self (sz := s.heap.size)
  generalize hAe : va_A (dw ad tc dg pl vl th cu mx us so rr fw ff) s.heap.size = A at hD ⊢
  have hA : ∀ q : Nat, s.heap.size ≤ q → A q := fun q h => by rw [← hAe]; exact Or.inr h
  have hS : va_S A s.heap s.heap [] := va_S.rf
  have hl := lv_entry ([.ref (ad 0), .int x, .int y, .int z, .long v, .long seed]) (n := 9) (Nat.le_of_ble_eq_true rfl)
  rw [lg_entry_eq]
  generalize (lg_sl ([.ref (ad 0), .int x, .int y, .int z, .long v, .long seed]) ++ List.replicate (9 - (lg_sl ([.ref (ad 0), .int x, .int y, .int z, .long v, .long seed])).length) Slot.unset).toArray = ls at hl ⊢
  replace hl : lv_has ls 9 [(0, .ref (ad 0)), (1, .int x), (2, .int y), (3, .int z), (4, .long v), (6, .long seed)] := hl
  refine lv_aload_n hx hb dX4_deal_0 rfl (lv_at hl 0 rfl) ?_
  refine lv_iload_n hx hb dX4_deal_1 rfl (lv_at hl 1 rfl) ?_
  refine va_csq (va_runV (As := [.int x]) (rest := []) ⟨hx, hb, hml, hown, hts⟩ (k_X4_splitOrNull l D x) (sd_cwV hts wd_X4_splitOrNull wn_X4 wm_X4_41 wi_X4_splitOrNull ws_X4_splitOrNull nq_X4_splitOrNull rfl rfl ⟨Nat.le_of_ble_eq_true rfl, Nat.le_of_ble_eq_true rfl⟩) (sd_preVR hP hK (ci := 4) (q0 := 0) rfl rfl dw_desk) rfl rfl hl.1 rfl (lv_room (Nat.le_of_ble_eq_true rfl)) dX4_deal_2 ⟨Nat.zero_le _, Nat.zero_le _⟩).run (fun r1 hr1 => ?_)
  subst hr1
  rcases hixq : sd_ix x with _ | q
  · refine sd_top (v2 := .null) rfl ?_
    refine lv_astoreN (lv' := [(8, .null), (0, .ref (ad 0)), (1, .int x), (2, .int y), (3, .int z), (4, .long v), (6, .long seed)]) hx hb dX4_deal_5 hl (by decide) rfl (fun ls hl => ?_)
    refine lv_aloadN hx hb dX4_deal_7 (lv_at hl 0 rfl) ?_
    refine lv_ifnullN (tgt := 35) hx hb dX4_deal_9 (by decide) ?_
    refine lv_iconst (v := nI 0) hx hb dX4_deal_35 (by decide) ?_
    exact W.zret hx hb hr rfl (fun T9 hT9 hW => ⟨⟨_, (dg, pl, vl, th, cu, mx, us, so, rr, fw, ff), rfl, Or.inr ⟨fun ⟨q2, t2, n2, h1, h2, h3, h4, h5, h6, h7⟩ => sd_ix_none hixq h1 h2, rfl, ⟨rfl, rfl, rfl, rfl, rfl, rfl, rfl⟩⟩, by rw [hT9]; exact hP, va_K.moved hW.alike hK, hD⟩, hS.F hT9⟩) hS.2.2 dX4_deal_36
  · obtain ⟨hq, hxq⟩ := sd_ix_some hixq
    refine sd_top (v2 := .ref (ad (14 + 3 * q))) rfl ?_
    refine lv_astore (lv' := [(8, .ref (ad (14 + 3 * q))), (0, .ref (ad 0)), (1, .int x), (2, .int y), (3, .int z), (4, .long v), (6, .long seed)]) hx hb dX4_deal_5 hl (by decide) rfl (fun ls hl => ?_)
    refine lv_aload hx hb dX4_deal_7 (lv_at hl 0 rfl) ?_
    refine lv_ifnull hx hb dX4_deal_9 ?_
    refine lv_iload_n hx hb dX4_deal_12 rfl (lv_at hl 3 rfl) ?_
    refine lv_if_lt (tgt := 35) hx hb dX4_deal_13 (by decide) (fun c1 => ?_) (fun c1 => ?_)
    · refine lv_iconst (v := nI 0) hx hb dX4_deal_35 (by decide) ?_
      exact W.zret hx hb hr rfl (fun T9 hT9 hW => ⟨⟨_, (dg, pl, vl, th, cu, mx, us, so, rr, fw, ff), rfl, Or.inr ⟨fun ⟨q2, t2, n2, h1, h2, h3, h4, h5, h6, h7⟩ => absurd c1 (by rw [h4]; exact nI_pos (by omega)), rfl, ⟨rfl, rfl, rfl, rfl, rfl, rfl, rfl⟩⟩, by rw [hT9]; exact hP, va_K.moved hW.alike hK, hD⟩, hS.F hT9⟩) hS.2.2 dX4_deal_36
    · obtain ⟨t, ht9, rfl⟩ := nI_of c1
      refine lv_iload_n hx hb dX4_deal_16 rfl (lv_at hl 3 rfl) ?_
      refine lv_bipush (v := nI 8) hx hb dX4_deal_17 (by decide) ?_
      refine sd_icmp_gt (tgt := 35) hx hb (by omega) (by omega) dX4_deal_19 (by decide) (fun c2 => ?_) (fun c2 => ?_)
      · refine lv_iconst (v := nI 0) hx hb dX4_deal_35 (by decide) ?_
        exact W.zret hx hb hr rfl (fun T9 hT9 hW => ⟨⟨_, (dg, pl, vl, th, cu, mx, us, so, rr, fw, ff), rfl, Or.inr ⟨fun ⟨q2, t2, n2, h1, h2, h3, h4, h5, h6, h7⟩ => (by have e9 := sd_nI_inj ht9 (by omega) h4; omega), rfl, ⟨rfl, rfl, rfl, rfl, rfl, rfl, rfl⟩⟩, by rw [hT9]; exact hP, va_K.moved hW.alike hK, hD⟩, hS.F hT9⟩) hS.2.2 dX4_deal_36
      · refine lv_iload_n hx hb dX4_deal_22 rfl (lv_at hl 4 rfl) ?_
        refine lv_iload_n hx hb dX4_deal_23 rfl (lv_at hl 3 rfl) ?_
        refine lv_iconst (v := nI 1) hx hb dX4_deal_24 (by decide) ?_
        refine sd_iadd hx hb dX4_deal_25 ?_
        refine lv_icmp_lt (tgt := 35) hx hb dX4_deal_26 (by decide) (fun c3 => ?_) (fun c3 => ?_)
        · refine lv_iconst (v := nI 0) hx hb dX4_deal_35 (by decide) ?_
          exact W.zret hx hb hr rfl (fun T9 hT9 hW => ⟨⟨_, (dg, pl, vl, th, cu, mx, us, so, rr, fw, ff), rfl, Or.inr ⟨fun ⟨q2, t2, n2, h1, h2, h3, h4, h5, h6, h7⟩ => (by have e9 := sd_nI_inj ht9 (by omega) h4; rw [h7] at c3; exact absurd c3 (nI_nlt (by omega) (by omega))), rfl, ⟨rfl, rfl, rfl, rfl, rfl, rfl, rfl⟩⟩, by rw [hT9]; exact hP, va_K.moved hW.alike hK, hD⟩, hS.F hT9⟩) hS.2.2 dX4_deal_36
        · have hz0 : ¬ z < 0 := fun q9 => c3 (Int32.lt_iff_toInt_lt.mpr (by rw [Int32.lt_iff_toInt_lt, Int32.toInt_zero] at q9; rw [nI_toInt (by omega)]; omega))
          obtain ⟨n, hn9, rfl⟩ := nI_of hz0
          have c3 : t + 1 ≤ n := Nat.not_lt.mp (fun q9 => c3 (nI_lt q9 (by omega)))
          refine lv_iload_n hx hb dX4_deal_29 rfl (lv_at hl 4 rfl) ?_
          refine lv_bipush (v := nI 16) hx hb dX4_deal_30 (by decide) ?_
          refine sd_icmp_le (tgt := 37) hx hb (by omega) (by omega) dX4_deal_32 (by decide) (fun c4 => ?_) (fun c4 => ?_)
          · refine lv_aload_n hx hb dX4_deal_37 rfl (lv_at hl 1 rfl) ?_
            refine va_get (D := D) (ci := 4) (v := .ref (ad 2)) (C := RX4) (T := TX4) (N := 6) hx hb hts (fun w h => mm (inX4 w h)) hown hK hP 0 dw_desk rfl 1 (by decide) (hts _ (mm wf_X4_18)) (fun _ h9 => h9) rfl dX4_deal_38 ?_
            refine lv_lload hx hb dX4_deal_41 (lv_at hl 5 rfl) ?_
            refine sd_rl (va_runS (As := [.long v]) (rest := [.ref (ad 2)]) ⟨hx, hb, hml, hown, hts⟩ (k_X2_of l v) (sd_cwS hts wd_X2_of wn_X2 wm_X4_45 wi_X2_of nq_X2_of rfl rfl ⟨Nat.le_of_ble_eq_true rfl, Nat.le_of_ble_eq_true rfl⟩) sd_preN rfl rfl hl.1 rfl (lv_room (Nat.le_of_ble_eq_true rfl)) dX4_deal_43 ⟨Nat.zero_le _, Nat.zero_le _⟩) (fun r4 hr4 => ?_)
            subst hr4
            refine lv_iload_n hx hb dX4_deal_46 rfl (lv_at hl 3 rfl) ?_
            refine lv_lload hx hb dX4_deal_47 (lv_at hl 6 rfl) ?_
            refine sd_wv (va_runV (As := [.long (sd_L (sd_of v)), .int (nI t), .long seed]) (rest := []) ⟨hx, hb, hml, hown, hts⟩ (k_X0_draw l D _ 0 (sd_of v) t seed (by decide) c2) (sd_cwV hts wd_X0_draw wn_X0 wm_X4_51 wi_X0_draw ws_X0_draw nq_X0_draw rfl rfl ⟨Nat.le_of_ble_eq_true rfl, Nat.le_of_ble_eq_true rfl⟩) (sd_preVW hP hK hD (ci := 0) (q0 := 2) rfl rfl (dw_curve (c := 0) (by decide))) rfl rfl hl.1 rfl (lv_room (Nat.le_of_ble_eq_true rfl)) dX4_deal_49 ⟨Nat.zero_le _, Nat.zero_le _⟩) hD hS hA (fun cA H locs hcA hP hD hS => ?_)
            replace hP : va_P D vwCl (dw ad tc dg pl vl th cA mx us so rr fw ff) H := hP
            replace hD : va_D A (dw ad tc dg pl vl th cA mx us so rr fw ff) := hD
            have hev := sd_dr_ev hcA.2.1 hcA.2.2
            refine lv_aload hx hb dX4_deal_52 (lv_at hl 0 rfl) ?_
            refine lv_iload_n hx hb dX4_deal_54 rfl (lv_at hl 3 rfl) ?_
            refine lv_iload_n hx hb dX4_deal_55 rfl (lv_at hl 4 rfl) ?_
            refine sd_wv (va_runV (As := [.int (nI t), .int (nI n)]) (rest := []) ⟨hx, hb, hml, hown, hts⟩ (k_X3_shape l D _ q t n hq) (sd_cwV hts wd_X3_shape wn_X3 wm_X4_55 wi_X3_shape ws_X3_shape nq_X3_shape rfl rfl ⟨Nat.le_of_ble_eq_true rfl, Nat.le_of_ble_eq_true rfl⟩) (sd_preVW hP hK hD (ci := 3) (q0 := (14 + 3 * q)) rfl rfl (dw_sp hq)) rfl rfl hl.1 rfl (lv_room (Nat.le_of_ble_eq_true rfl)) dX4_deal_56 ⟨Nat.zero_le _, Nat.zero_le _⟩) hD hS hA (fun u7 H locs hu7 hP hD hS => ?_)
            replace hP : va_P D vwCl (dw ad tc (sd_up dg q t) (sd_up pl q n) vl th cA mx us so rr fw ff) H := hP
            replace hD : va_D A (dw ad tc (sd_up dg q t) (sd_up pl q n) vl th cA mx us so rr fw ff) := hD
            refine lv_aload hx hb dX4_deal_59 (lv_at hl 0 rfl) ?_
            refine lv_aload_n hx hb dX4_deal_61 rfl (lv_at hl 1 rfl) ?_
            refine va_get (D := D) (ci := 4) (v := .ref (ad 2)) (C := RX4) (T := TX4) (N := 6) hx hb hts (fun w h => mm (inX4 w h)) hown hK hP 0 dw_desk rfl 1 (by decide) (hts _ (mm wf_X4_18)) (fun _ h9 => h9) rfl dX4_deal_62 ?_
            refine sd_wv (va_runV (As := [.ref (ad 2)]) (rest := []) ⟨hx, hb, hml, hown, hts⟩ (k_X3_fill l D _ q 0 hq (by decide) (by rw [sd_up_s]; exact c4)) (sd_cwV hts wd_X3_fill wn_X3 wm_X4_59 wi_X3_fill ws_X3_fill nq_X3_fill rfl rfl ⟨Nat.le_of_ble_eq_true rfl, Nat.le_of_ble_eq_true rfl⟩) (sd_preVW hP hK hD (ci := 3) (q0 := (14 + 3 * q)) rfl rfl (dw_sp hq)) rfl rfl hl.1 rfl (lv_room (Nat.le_of_ble_eq_true rfl)) dX4_deal_65 ⟨Nat.zero_le _, Nat.zero_le _⟩) hD hS hA (fun uf H locs huf hP hD hS => ?_)
            replace hP : va_P D vwCl (dw ad tc (sd_up dg q t) (sd_up pl q n) uf.1 uf.2 cA mx us so rr fw ff) H := hP
            replace hD : va_D A (dw ad tc (sd_up dg q t) (sd_up pl q n) uf.1 uf.2 cA mx us so rr fw ff) := hD
            refine lv_iconst (v := nI 1) hx hb dX4_deal_68 (by decide) ?_
            simp only [sd_up_s, hev] at huf
            exact W.zret hx hb hr rfl (fun T9 hT9 hW => ⟨⟨_, (sd_up dg q t, sd_up pl q n, uf.1, uf.2, cA, mx, us, so, rr, fw, ff), rfl, Or.inl ⟨q, t, n, ⟨hq, hxq, c2, rfl, c3, c4, rfl⟩, rfl, rfl, rfl, ⟨hcA.1 2 (by decide), rfl, rfl⟩, huf⟩, by rw [hT9]; exact hP, va_K.moved hW.alike hK, hD⟩, hS.F hT9⟩) hS.2.2 dX4_deal_69
          · refine lv_iconst (v := nI 0) hx hb dX4_deal_35 (by decide) ?_
            exact W.zret hx hb hr rfl (fun T9 hT9 hW => ⟨⟨_, (dg, pl, vl, th, cu, mx, us, so, rr, fw, ff), rfl, Or.inr ⟨fun ⟨q2, t2, n2, h1, h2, h3, h4, h5, h6, h7⟩ => (by have e9 := sd_nI_inj hn9 (by omega) h7; omega), rfl, ⟨rfl, rfl, rfl, rfl, rfl, rfl, rfl⟩⟩, by rw [hT9]; exact hP, va_K.moved hW.alike hK, hD⟩, hS.F hT9⟩) hS.2.2 dX4_deal_36

set_option maxHeartbeats 1000000 in
set_option maxRecDepth 100000 in
theorem k_X4_mend (l : Launch) (D : va_G) {ad : Nat → Nat} {tc : Nat → ClassId} {dg pl : Nat → Nat} {vl : Nat → Nat → FP} {th : Nat → Nat → Bool} {cu mx : Nat → Nat → FP} {us : Nat → Bool} {so : Nat → FP} {rr : Nat → Int32} {fw : Nat → Bool} {ff : Int32} (sz : Nat)  (hok : ∀ q, q < 8 → dg q ≤ 8 ∧ pl q ≤ 16) : Met l yX4_mend (Cond.code yX4_mend cX4_mend 2 (some .boolean) :: bg) { frames := 3, cells := 0, slots := 0, locals := 82 } (sd_Wr D vwCl (ty5 tc) (dw ad tc dg pl vl th cu mx us so rr fw ff) sz [.ref (ad 0)]) (va_Qi (S := DS) (fun r u => P_mend (dg, pl, vl, th, cu, mx, us, so, rr, fw, ff) r u) (sd_B D vwCl (ty5 tc) (va_A (dw ad tc dg pl vl th cu mx us so rr fw ff) sz) (fun u => dwt ad tc u)) (va_A (dw ad tc dg pl vl th cu mx us so rr fw ff) sz)) 0 0 (va_A (dw ad tc dg pl vl th cu mx us so rr fw ff) sz) := by
  refine Met.ofW (cc := cX4_mend) (maxL := 2) (ret := some .boolean) (by decide) rfl ?_
  intro p e s m args below meth c s₁ B hml hv
  obtain ⟨rfl, hsz, hP, hK, hD0⟩ := hv
  have hx := B.exec
  have hb := B.bytes
  have hr := B.returns
  have hts := atoms_spec (ws := Cond.code yX4_mend cX4_mend 2 (some .boolean) :: bg) B.pre
  have hown : s.vm.findClass RX4 = some m.cls := findClass_of_methodNamed B.named
  have hlocks := B.notSynchronized
  subst hsz
  have hD := hD0.self (sz := s.heap.size)
  generalize hAe : va_A (dw ad tc dg pl vl th cu mx us so rr fw ff) s.heap.size = A at hD ⊢
  have hA : ∀ q : Nat, s.heap.size ≤ q → A q := fun q h => by rw [← hAe]; exact Or.inr h
  have hS : va_S A s.heap s.heap [] := va_S.rf
  have hl := lv_entry ([.ref (ad 0)]) (n := 2) (Nat.le_of_ble_eq_true rfl)
  rw [lg_entry_eq]
  generalize (lg_sl ([.ref (ad 0)]) ++ List.replicate (2 - (lg_sl ([.ref (ad 0)])).length) Slot.unset).toArray = ls at hl ⊢
  replace hl : lv_has ls 2 [(0, .ref (ad 0))] := hl
  refine lv_aload_n hx hb dX4_mend_0 rfl (lv_at hl 0 rfl) ?_
  refine lv_aload_n hx hb dX4_mend_1 rfl (lv_at hl 0 rfl) ?_
  refine va_get (D := D) (ci := 4) (v := .int ff) (C := RX4) (T := TX4) (N := 6) hx hb hts (fun w h => mm (inX4 w h)) hown hK hP 0 dw_desk rfl 5 (by decide) (hts _ (mm wf_X4_36)) (fun _ h9 => h9) rfl dX4_mend_2 ?_
  refine va_csq (va_runV (As := [.int ff]) (rest := []) ⟨hx, hb, hml, hown, hts⟩ (k_X4_splitOrNull l D ff) (sd_cwV hts wd_X4_splitOrNull wn_X4 wm_X4_41 wi_X4_splitOrNull ws_X4_splitOrNull nq_X4_splitOrNull rfl rfl ⟨Nat.le_of_ble_eq_true rfl, Nat.le_of_ble_eq_true rfl⟩) (sd_preVR hP hK (ci := 4) (q0 := 0) rfl rfl dw_desk) rfl rfl hl.1 rfl (lv_room (Nat.le_of_ble_eq_true rfl)) dX4_mend_5 ⟨Nat.zero_le _, Nat.zero_le _⟩).run (fun r1 hr1 => ?_)
  subst hr1
  rcases hixq : sd_ix ff with _ | q
  · refine sd_top (v2 := .null) rfl ?_
    refine lv_astore_nN (lv' := [(1, .null), (0, .ref (ad 0))]) hx hb dX4_mend_8 rfl hl (by decide) rfl (fun ls hl => ?_)
    refine lv_aload_nN hx hb dX4_mend_9 rfl (lv_at hl 0 rfl) ?_
    refine lv_ifnonnullN hx hb dX4_mend_10 ?_
    refine lv_iconst (v := nI 0) hx hb dX4_mend_13 (by decide) ?_
    exact W.zret hx hb hr rfl (fun T9 hT9 hW => ⟨⟨_, (dg, pl, vl, th, cu, mx, us, so, rr, fw, ff), rfl, Or.inr ⟨fun ⟨q, h1, h2⟩ => sd_ix_none hixq h1 h2, rfl, ⟨rfl, rfl, rfl, rfl, rfl, rfl, rfl⟩⟩, by rw [hT9]; exact hP, va_K.moved hW.alike hK, hD⟩, hS.F hT9⟩) hS.2.2 dX4_mend_14
  · obtain ⟨hq, hxq⟩ := sd_ix_some hixq
    refine sd_top (v2 := .ref (ad (14 + 3 * q))) rfl ?_
    refine lv_astore_n (lv' := [(1, .ref (ad (14 + 3 * q))), (0, .ref (ad 0))]) hx hb dX4_mend_8 rfl hl (by decide) rfl (fun ls hl => ?_)
    refine lv_aload_n hx hb dX4_mend_9 rfl (lv_at hl 0 rfl) ?_
    refine lv_ifnonnull (tgt := 15) hx hb dX4_mend_10 (by decide) ?_
    refine lv_aload_n hx hb dX4_mend_15 rfl (lv_at hl 0 rfl) ?_
    refine lv_aload_n hx hb dX4_mend_16 rfl (lv_at hl 1 rfl) ?_
    refine va_get (D := D) (ci := 4) (v := .ref (ad 6)) (C := RX4) (T := TX4) (N := 6) hx hb hts (fun w h => mm (inX4 w h)) hown hK hP 0 dw_desk rfl 3 (by decide) (hts _ (mm wf_X4_29)) (fun _ h9 => h9) rfl dX4_mend_17 ?_
    refine sd_wv (va_runV (As := [.ref (ad 6)]) (rest := []) ⟨hx, hb, hml, hown, hts⟩ (k_X3_fill l D _ q 2 hq (by decide) (hok q hq).2) (sd_cwV hts wd_X3_fill wn_X3 wm_X4_59 wi_X3_fill ws_X3_fill nq_X3_fill rfl rfl ⟨Nat.le_of_ble_eq_true rfl, Nat.le_of_ble_eq_true rfl⟩) (sd_preVW hP hK hD (ci := 3) (q0 := (14 + 3 * q)) rfl rfl (dw_sp hq)) rfl rfl hl.1 rfl (lv_room (Nat.le_of_ble_eq_true rfl)) dX4_mend_20 ⟨Nat.zero_le _, Nat.zero_le _⟩) hD hS hA (fun uf H locs huf hP hD hS => ?_)
    replace hP : va_P D vwCl (dw ad tc dg pl uf.1 uf.2 cu mx us so rr fw ff) H := hP
    replace hD : va_D A (dw ad tc dg pl uf.1 uf.2 cu mx us so rr fw ff) := hD
    refine lv_iconst (v := nI 1) hx hb dX4_mend_23 (by decide) ?_
    exact W.zret hx hb hr rfl (fun T9 hT9 hW => ⟨⟨_, (dg, pl, uf.1, uf.2, cu, mx, us, so, rr, fw, ff), rfl, Or.inl ⟨q, hq, hxq, rfl, rfl, rfl, ⟨rfl, rfl, rfl⟩, huf⟩, by rw [hT9]; exact hP, va_K.moved hW.alike hK, hD⟩, hS.F hT9⟩) hS.2.2 dX4_mend_24

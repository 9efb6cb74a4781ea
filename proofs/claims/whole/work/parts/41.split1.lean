/-! pure words for curves and splits -/
theorem sd_up2 {α : Type} (f : Nat → Nat → α) (q k : Nat) (x : α) (i j : Nat) : sd_up f q (sd_up (f q) k x) i j = if i = q ∧ j = k then x else f i j := by
  by_cases h : i = q
  · subst h
    by_cases h2 : j = k
    · subst h2
      rw [sd_up_s, sd_up_s, if_pos ⟨rfl, rfl⟩]
    · rw [sd_up_s, sd_up_n _ _ h2, if_neg (fun z => h2 z.2)]
  · rw [sd_up_n _ _ h, if_neg (fun z => h z.1)]
/-- the generator's states, and what a state tells -/
def sd_gs (seed : Int64) : Nat → Int64
  | 0 => seed
  | k + 1 => sd_gs seed k * 6364136223846793005 + 1442695040888963407
def sd_nx (x : Int64) : FP := Fin.ofNat 2305843009213693951 (x.toBitVec.toNat / 8)
theorem sd_ush3 (x : Int64) : (x.toUInt64 >>> ((nI 3).toInt64.toUInt64 &&& Int64.toUInt64 63)).toInt64 = lN (x.toBitVec.toNat / 8) := by
  obtain ⟨n, hn, rfl⟩ := wb_of x
  rw [wb_shr hn (by decide), wb_tn hn]
theorem sd_nx_L (x : Int64) : lN (x.toBitVec.toNat / 8 % 2305843009213693951) = sd_L (sd_nx x) := rfl
theorem sd_m1 : nI 0 + (-1) = -1 := by decide
def sd_hp (n : Nat) (x : Int32) : Bool := decide (1 ≤ x.toInt ∧ x.toInt ≤ (n : Int))
theorem sd_hp_lt {x : Int32} (n : Nat) (h : x < nI 1) : sd_hp n x = false := by
  rw [Int32.lt_iff_toInt_lt, nI_toInt (by decide)] at h
  exact decide_eq_false (by omega)
theorem sd_hp_gt {x : Int32} {n : Nat} (hn : n < 2 ^ 31) (h : nI n < x) : sd_hp n x = false := by
  rw [Int32.lt_iff_toInt_lt, nI_toInt hn] at h
  exact decide_eq_false (by omega)
theorem sd_hp_in {x : Int32} {n : Nat} (hn : n < 2 ^ 31) (h1 : ¬ x < nI 1) (h2 : ¬ nI n < x) : sd_hp n x = true := by
  rw [Int32.lt_iff_toInt_lt, nI_toInt (by decide)] at h1
  rw [Int32.lt_iff_toInt_lt, nI_toInt hn] at h2
  exact decide_eq_true (by omega)
theorem sd_hp_of {x : Int32} {n : Nat} (hn : n < 2 ^ 31) (h : sd_hp n x = true) : ∃ j : Nat, 1 ≤ j ∧ j ≤ n ∧ x = nI j := by
  have h := of_decide_eq_true h
  refine ⟨x.toInt.toNat, by omega, by omega, ?_⟩
  apply Int32.toInt_inj.mp
  rw [nI_toInt (by omega)]
  omega
theorem sd_hp_nI {n k : Nat} (hk : k < 2 ^ 31) : sd_hp n (nI k) = decide (1 ≤ k ∧ k ≤ n) := by
  unfold sd_hp
  rw [nI_toInt hk]
  exact decide_eq_decide.mpr (by omega)
/-- a share is there -/
def sd_hs (n : Nat) (t : Nat → Bool) (x : Int32) : Bool := sd_hp n x && t x.toInt.toNat
theorem sd_hs_nI {n k : Nat} (t : Nat → Bool) (hk : k < 2 ^ 31) (h1 : 1 ≤ k) (h2 : k ≤ n) : sd_hs n t (nI k) = t k := by
  unfold sd_hs
  rw [sd_hp_nI hk, decide_eq_true ⟨h1, h2⟩, nI_toInt hk, Bool.true_and]
  rfl
theorem sd_hs_f {n : Nat} (t : Nat → Bool) {x : Int32} (h : sd_hp n x = false) : sd_hs n t x = false := by
  unfold sd_hs
  rw [h, Bool.false_and]
theorem sd_hs_of {n : Nat} {t : Nat → Bool} {x : Int32} (hn : n < 2 ^ 31) (h : sd_hs n t x = true) : ∃ j : Nat, 1 ≤ j ∧ j ≤ n ∧ t j = true ∧ x = nI j := by
  unfold sd_hs at h
  rw [Bool.and_eq_true] at h
  obtain ⟨j, h1, h2, rfl⟩ := sd_hp_of hn h.1
  refine ⟨j, h1, h2, ?_, rfl⟩
  have := h.2
  rw [nI_toInt (by omega)] at this
  exact this

set_option maxHeartbeats 4000000 in
set_option maxRecDepth 100000 in
theorem k_X0_valueAt (l : Launch) (D : va_G) {ad : Nat → Nat} {tc : Nat → ClassId} {dg pl : Nat → Nat} {vl : Nat → Nat → FP} {th : Nat → Nat → Bool} {cu mx : Nat → Nat → FP} {us : Nat → Bool} {so : Nat → FP} {rr : Nat → Int32} {fw : Nat → Bool} {ff : Int32} (cv : Nat) (x : FP) (hcv : cv < 3) : Met l yX0_valueAt (Cond.code yX0_valueAt cX0_valueAt 6 (some .long) :: bg) { frames := 1, cells := 0, slots := 0, locals := 35 } (sd_R D vwCl (ty5 tc) (dw ad tc dg pl vl th cu mx us so rr fw ff) [.ref (ad (2 + 2 * cv)), .long (sd_L x)]) (vp_Sl (fun r => r = sd_L (sd_ev (cu cv) x))) 0 0 (fun _ => False) := by
  refine Met.ofW (cc := cX0_valueAt) (maxL := 6) (ret := some .long) (by decide) rfl ?_
  intro p e s m args below meth c s₁ B hml hv
  obtain ⟨rfl, hP, hK⟩ := hv
  have hx := B.exec
  have hb := B.bytes
  have hr := B.returns
  have hts := atoms_spec (ws := Cond.code yX0_valueAt cX0_valueAt 6 (some .long) :: bg) B.pre
  have hown : s.vm.findClass RX0 = some m.cls := findClass_of_methodNamed B.named
  have hlocks := B.notSynchronized
  have hl := lv_entry ([.ref (ad (2 + 2 * cv)), .long (sd_L x)]) (n := 6) (Nat.le_of_ble_eq_true rfl)
  rw [lg_entry_eq]
  generalize (lg_sl ([.ref (ad (2 + 2 * cv)), .long (sd_L x)]) ++ List.replicate (6 - (lg_sl ([.ref (ad (2 + 2 * cv)), .long (sd_L x)])).length) Slot.unset).toArray = ls at hl ⊢
  replace hl : lv_has ls 6 [(0, .ref (ad (2 + 2 * cv))), (1, .long (sd_L x))] := hl
  refine lv_lconst (v := 0) hx hb dX0_valueAt_0 (by decide) ?_
  refine sd_tol (y := sd_L 0) sd_L_0.symm ?_
  refine lv_lstore_n (lv' := [(3, .long (sd_L 0)), (0, .ref (ad (2 + 2 * cv))), (1, .long (sd_L x))]) hx hb dX0_valueAt_1 rfl hl (by decide) rfl (fun ls hl => ?_)
  refine lv_bipush (v := nI 8) hx hb dX0_valueAt_2 (by decide) ?_
  refine lv_istore (lv' := [(5, .int (nI 8)), (3, .long (sd_L 0)), (0, .ref (ad (2 + 2 * cv))), (1, .long (sd_L x))]) hx hb dX0_valueAt_4 hl (by decide) rfl (fun ls hl => ?_)
  obtain ⟨K, y, hK9, hy, hl9⟩ : ∃ (K : Nat) (y : FP), (K ≤ 9) ∧ (y = sd_pv (cu cv) x K (9 - K)) ∧ lv_has ls 6 [(5, .int (nI K + (-1))), (3, .long (sd_L y)), (0, .ref (ad (2 + 2 * cv))), (1, .long (sd_L x))] := ⟨9, 0, by decide, rfl, (lv_sub hl [0, 1, 2, 3] rfl)⟩
  replace hl := hl9
  clear hl9
  obtain ⟨k9, hk9⟩ : ∃ k9 : Nat, K < k9 := ⟨10, by omega⟩
  induction k9 generalizing K y ls with
  | zero => exact absurd hk9 (by omega)
  | succ k9 ih =>
    rcases K with _ | K
    · rw [sd_m1] at hl
      refine lv_iload hx hb dX0_valueAt_6 (lv_at hl 0 rfl) ?_
      refine lv_if_lt (tgt := 33) hx hb dX0_valueAt_8 (by decide) (fun c1 => ?_) (fun c1 => ?_)
      · refine lv_lload_n hx hb dX0_valueAt_33 rfl (lv_at hl 1 rfl) ?_
        exact W.lret hx hb hr (fun t ht hW => ⟨_, rfl, by rw [hy]; rfl, ht⟩) (fun q h => nomatch h) dX0_valueAt_34
      · exact absurd (by decide) c1
    · rw [pk_m1] at hl
      refine lv_iload hx hb dX0_valueAt_6 (lv_at hl 0 rfl) ?_
      refine lv_if_lt (tgt := 33) hx hb dX0_valueAt_8 (by decide) (fun c1 => ?_) (fun c1 => ?_)
      · exact absurd c1 (nI_pos (by omega))
      · refine lv_lload_n hx hb dX0_valueAt_11 rfl (lv_at hl 1 rfl) ?_
        refine lv_lload_n hx hb dX0_valueAt_12 rfl (lv_at hl 3 rfl) ?_
        refine sd_rl (va_runS (As := [.long (sd_L y), .long (sd_L x)]) (rest := []) ⟨hx, hb, hml, hown, hts⟩ (k_X2_times l y x) (sd_cwS hts wd_X2_times wn_X2 wm_X0_21 wi_X2_times nq_X2_times rfl rfl ⟨Nat.le_of_ble_eq_true rfl, Nat.le_of_ble_eq_true rfl⟩) sd_preN rfl rfl hl.1 rfl (lv_room (Nat.le_of_ble_eq_true rfl)) dX0_valueAt_13 ⟨Nat.zero_le _, Nat.zero_le _⟩) (fun r1 hr1 => ?_)
        subst hr1
        refine lv_aload_n hx hb dX0_valueAt_16 rfl (lv_at hl 2 rfl) ?_
        refine va_get (D := D) (ci := 0) (v := .ref (ad (3 + 2 * cv))) (C := RX0) (T := TX0) (N := 1) hx hb hts (fun w h => mm (inX0 w h)) hown hK hP (2 + 2 * cv) (dw_curve hcv) rfl 0 (by decide) (hts _ (mm wf_X0_9)) (fun _ h9 => h9) rfl dX0_valueAt_17 ?_
        refine lv_iload hx hb dX0_valueAt_20 (lv_at hl 0 rfl) ?_
        refine sd_lald hx hb hK hP (3 + 2 * cv) 0 (dw_parts hcv) rfl (k := K) (by omega) (by decide) dX0_valueAt_22 ?_
        refine sd_rl (va_runS (As := [.long (sd_L (y * x)), .long (sd_L ((cu cv) K))]) (rest := []) ⟨hx, hb, hml, hown, hts⟩ (k_X2_plus l (y * x) (cu cv K)) (sd_cwS hts wd_X2_plus wn_X2 wm_X0_27 wi_X2_plus nq_X2_plus rfl rfl ⟨Nat.le_of_ble_eq_true rfl, Nat.le_of_ble_eq_true rfl⟩) sd_preN rfl rfl hl.1 rfl (lv_room (Nat.le_of_ble_eq_true rfl)) dX0_valueAt_23 ⟨Nat.zero_le _, Nat.zero_le _⟩) (fun r2 hr2 => ?_)
        subst hr2
        refine lv_lstore_n (lv' := [(3, .long (sd_L (y * x + cu cv K))), (5, .int (nI K)), (0, .ref (ad (2 + 2 * cv))), (1, .long (sd_L x))]) hx hb dX0_valueAt_26 rfl hl (by decide) rfl (fun ls hl => ?_)
        refine lv_iinc (v := nI K + (-1)) (lv' := [(5, .int (nI K + (-1))), (3, .long (sd_L (y * x + cu cv K))), (0, .ref (ad (2 + 2 * cv))), (1, .long (sd_L x))]) hx hb dX0_valueAt_27 hl (k := 1) rfl (by rw [show Int32.ofInt (-1) = -1 by decide]) (by decide) rfl (fun ls hl => ?_)
        refine lv_goto (tgt := 6) hx hb dX0_valueAt_30 (by decide) ?_
        exact ih (K := K) (y := y * x + cu cv K) (hK9 := by omega) (hy := by rw [show 9 - K = (9 - (K + 1)) + 1 by omega, sd_pv_s, hy]; grind) (ls := ls) (hl := (lv_sub hl [0, 1, 2, 3] rfl)) (hk9 := by omega)

set_option maxHeartbeats 4000000 in
set_option maxRecDepth 100000 in
theorem k_X0_draw (l : Launch) (D : va_G) {ad : Nat → Nat} {tc : Nat → ClassId} {dg pl : Nat → Nat} {vl : Nat → Nat → FP} {th : Nat → Nat → Bool} {cu mx : Nat → Nat → FP} {us : Nat → Bool} {so : Nat → FP} {rr : Nat → Int32} {fw : Nat → Bool} {ff : Int32} (sz : Nat) (cv : Nat) (c0 : FP) (t : Nat) (seed : Int64) (hcv : cv < 3) (ht8 : t ≤ 8) : Met l yX0_draw (Cond.code yX0_draw cX0_draw 9 none :: bg) { frames := 0, cells := 0, slots := 0, locals := 0 } (sd_Wr D vwCl (ty5 tc) (dw ad tc dg pl vl th cu mx us so rr fw ff) sz [.ref (ad (2 + 2 * cv)), .long (sd_L c0), .int (nI t), .long seed]) (va_Qv (S := Nat → Nat → FP) (fun u : Nat → Nat → FP => (∀ i, i ≠ cv → u i = cu i) ∧ u cv 0 = c0 ∧ ∀ k, 1 ≤ k → k ≤ 8 → u cv k = (if k ≤ t then sd_nx (sd_gs seed k) else 0)) (sd_B D vwCl (ty5 tc) (va_A (dw ad tc dg pl vl th cu mx us so rr fw ff) sz) (fun u => dw ad tc dg pl vl th u mx us so rr fw ff)) (va_A (dw ad tc dg pl vl th cu mx us so rr fw ff) sz)) 0 0 (va_A (dw ad tc dg pl vl th cu mx us so rr fw ff) sz) := by
  refine Met.ofW (cc := cX0_draw) (maxL := 9) (ret := none) (by decide) rfl ?_
  intro p e s m args below meth c s₁ B hml hv
  obtain ⟨rfl, hsz, hP, hK, hD0⟩ := hv
  have hx := B.exec
  have hb := B.bytes
  have hr := B.returns
  have hts := atoms_spec (ws := Cond.code yX0_draw cX0_draw 9 none :: bg) B.pre
  have hown : s.vm.findClass RX0 = some m.cls := findClass_of_methodNamed B.named
  have hlocks := B.notSynchronized
  subst hsz
  have hD := hD0.self (sz := s.heap.size)
  generalize hAe : va_A (dw ad tc dg pl vl th cu mx us so rr fw ff) s.heap.size = A at hD ⊢
  have hA : ∀ q : Nat, s.heap.size ≤ q → A q := fun q h => by rw [← hAe]; exact Or.inr h
  have hS : va_S A s.heap s.heap [] := va_S.rf
  have hl := lv_entry ([.ref (ad (2 + 2 * cv)), .long (sd_L c0), .int (nI t), .long seed]) (n := 9) (Nat.le_of_ble_eq_true rfl)
  rw [lg_entry_eq]
  generalize (lg_sl ([.ref (ad (2 + 2 * cv)), .long (sd_L c0), .int (nI t), .long seed]) ++ List.replicate (9 - (lg_sl ([.ref (ad (2 + 2 * cv)), .long (sd_L c0), .int (nI t), .long seed])).length) Slot.unset).toArray = ls at hl ⊢
  replace hl : lv_has ls 9 [(0, .ref (ad (2 + 2 * cv))), (1, .long (sd_L c0)), (3, .int (nI t)), (4, .long seed)] := hl
  refine lv_lload hx hb dX0_draw_0 (lv_at hl 3 rfl) ?_
  refine lv_lstore (lv' := [(6, .long seed), (0, .ref (ad (2 + 2 * cv))), (1, .long (sd_L c0)), (3, .int (nI t)), (4, .long seed)]) hx hb dX0_draw_2 hl (by decide) rfl (fun ls hl => ?_)
  refine lv_aload_n hx hb dX0_draw_4 rfl (lv_at hl 1 rfl) ?_
  refine va_get (D := D) (ci := 0) (v := .ref (ad (3 + 2 * cv))) (C := RX0) (T := TX0) (N := 1) hx hb hts (fun w h => mm (inX0 w h)) hown hK hP (2 + 2 * cv) (dw_curve hcv) rfl 0 (by decide) (hts _ (mm wf_X0_9)) (fun _ h9 => h9) rfl dX0_draw_5 ?_
  refine lv_iconst (v := nI 0) hx hb dX0_draw_8 (by decide) ?_
  refine lv_lload_n hx hb dX0_draw_9 rfl (lv_at hl 2 rfl) ?_
  refine sd_last hx hb hK hP hD hS (3 + 2 * cv) 0 (dw_parts hcv) rfl (k := 0) (by omega) (by decide) (ws2 := dw ad tc dg pl vl th (sd_up cu cv (sd_up (cu cv) 0 c0)) mx us so rr fw ff) (by rw [sd_stL]; exact dws_parts hcv _) dX0_draw_10 (fun H locs hP hD hS => ?_)
  refine lv_iconst (v := nI 1) hx hb dX0_draw_11 (by decide) ?_
  refine lv_istore (lv' := [(8, .int (nI 1)), (6, .long seed), (0, .ref (ad (2 + 2 * cv))), (1, .long (sd_L c0)), (3, .int (nI t)), (4, .long seed)]) hx hb dX0_draw_12 hl (by decide) rfl (fun ls hl => ?_)
  obtain ⟨k, c1, hk, hI, hP9, hD9, hl9⟩ : ∃ (k : Nat) (c1 : Nat → Nat → FP), (1 ≤ k ∧ k ≤ 9) ∧ ((∀ i, i ≠ cv → c1 i = cu i) ∧ c1 cv 0 = c0 ∧ ∀ j, 1 ≤ j → j < k → c1 cv j = (if j ≤ t then sd_nx (sd_gs seed j) else 0)) ∧ va_P D vwCl (dw ad tc dg pl vl th c1 mx us so rr fw ff) H ∧ va_D A (dw ad tc dg pl vl th c1 mx us so rr fw ff) ∧ lv_has ls 9 [(8, .int (nI k)), (6, .long (sd_gs seed (k - 1))), (0, .ref (ad (2 + 2 * cv))), (3, .int (nI t))] := ⟨1, sd_up cu cv (sd_up (cu cv) 0 c0), by decide, ⟨fun i hi => sd_up_n _ _ hi, by rw [sd_up_s, sd_up_s], fun j h1 h2 => absurd h2 (by omega)⟩, hP, hD, (lv_sub hl [0, 1, 2, 4] rfl)⟩
  replace hl := hl9
  clear hl9
  replace hP := hP9
  replace hD := hD9
  clear hP9 hD9
  obtain ⟨k9, hk9⟩ : ∃ k9 : Nat, 9 < k + k9 := ⟨9, by omega⟩
  induction k9 generalizing k c1 ls H locs with
  | zero => exact absurd hk9 (by omega)
  | succ k9 ih =>
    refine lv_iload hx hb dX0_draw_14 (lv_at hl 0 rfl) ?_
    refine lv_bipush (v := nI 8) hx hb dX0_draw_16 (by decide) ?_
    refine sd_icmp_gt (tgt := 64) hx hb (by omega) (by omega) dX0_draw_18 (by decide) (fun c2 => ?_) (fun c2 => ?_)
    · exact W.vret hx hb hr (fun t ht hW => ⟨⟨c1, rfl, ⟨hI.1, hI.2.1, fun j h1 h2 => hI.2.2 j h1 (by omega)⟩, by rw [ht]; exact hP, va_K.moved hW.alike hK, hD⟩, hS.F ht⟩) hS.2.2 dX0_draw_64
    · refine lv_lload hx hb dX0_draw_21 (lv_at hl 1 rfl) ?_
      refine lv_ldc2 (v := 6364136223846793005) hx hb hown (hts _ (mm wl_X0_15)) dX0_draw_23 ?_
      refine lv_lmul hx hb dX0_draw_26 ?_
      refine lv_ldc2 (v := 1442695040888963407) hx hb hown (hts _ (mm wl_X0_17)) dX0_draw_27 ?_
      refine lv_ladd hx hb dX0_draw_30 ?_
      refine sd_tol (y := sd_gs seed k) (by rw [show k = (k - 1) + 1 by omega]; rfl) ?_
      refine lv_lstore (lv' := [(6, .long (sd_gs seed k)), (8, .int (nI k)), (0, .ref (ad (2 + 2 * cv))), (3, .int (nI t))]) hx hb dX0_draw_31 hl (by decide) rfl (fun ls hl => ?_)
      refine lv_aload_n hx hb dX0_draw_33 rfl (lv_at hl 2 rfl) ?_
      refine va_get (D := D) (ci := 0) (v := .ref (ad (3 + 2 * cv))) (C := RX0) (T := TX0) (N := 1) hx hb hts (fun w h => mm (inX0 w h)) hown hK hP (2 + 2 * cv) (dw_curve hcv) rfl 0 (by decide) (hts _ (mm wf_X0_9)) (fun _ h9 => h9) rfl dX0_draw_34 ?_
      refine lv_iload hx hb dX0_draw_37 (lv_at hl 1 rfl) ?_
      refine lv_iload hx hb dX0_draw_39 (lv_at hl 1 rfl) ?_
      refine lv_iload_n hx hb dX0_draw_41 rfl (lv_at hl 3 rfl) ?_
      refine sd_icmp_gt (tgt := 56) hx hb (by omega) (by omega) dX0_draw_42 (by decide) (fun c3 => ?_) (fun c3 => ?_)
      · refine lv_lconst (v := 0) hx hb dX0_draw_56 (by decide) ?_
        refine sd_tol (y := sd_L 0) sd_L_0.symm ?_
        refine sd_last hx hb hK hP hD hS (3 + 2 * cv) 0 (dw_parts hcv) rfl (k := k) (by omega) (by decide) (ws2 := dw ad tc dg pl vl th (sd_up c1 cv (sd_up (c1 cv) k 0)) mx us so rr fw ff) (by rw [sd_stL]; exact dws_parts hcv _) dX0_draw_57 (fun H locs hP hD hS => ?_)
        refine lv_iinc (v := nI (k + 1)) (lv' := [(8, .int (nI (k + 1))), (6, .long (sd_gs seed k)), (0, .ref (ad (2 + 2 * cv))), (3, .int (nI t))]) hx hb dX0_draw_58 hl (k := 1) rfl (nI_1 _) (by decide) rfl (fun ls hl => ?_)
        refine lv_goto (tgt := 14) hx hb dX0_draw_61 (by decide) ?_
        exact ih (k := k + 1) (c1 := sd_up c1 cv (sd_up (c1 cv) k 0)) (hk := by omega) (hI := ⟨fun i hi => by rw [sd_up_n _ _ hi]; exact hI.1 i hi, by rw [sd_up2, if_neg (by omega)]; exact hI.2.1, fun j h1 h2 => by rw [sd_up2]; exact (Classical.em (j = k)).elim (fun e9 => by rw [if_pos ⟨rfl, e9⟩, if_neg (by omega)]) (fun e9 => by rw [if_neg (fun z => e9 z.2)]; exact hI.2.2 j h1 (by omega))⟩) (H := H) (locs := locs) (hP := hP) (hD := hD) (hS := hS) (ls := ls) (hl := (lv_sub hl [0, 1, 2, 3] rfl)) (hk9 := by omega)
      · refine lv_lload hx hb dX0_draw_45 (lv_at hl 0 rfl) ?_
        refine lv_iconst (v := nI 3) hx hb dX0_draw_47 (by decide) ?_
        refine lv_lushr (v := lN ((sd_gs seed k).toBitVec.toNat / 8)) hx hb dX0_draw_48 (sd_ush3 _) ?_
        have hbv : (sd_gs seed k).toBitVec.toNat < 2 ^ 64 := (sd_gs seed k).toBitVec.isLt
        refine lv_ldc2 (v := lN 2305843009213693951) hx hb hown (hts _ (mm wl_X0_19)) dX0_draw_49 ?_
        refine sd_lrem hx hb (by omega) (by omega) (by omega) dX0_draw_52 ?_
        refine sd_tol (y := sd_L (sd_nx (sd_gs seed k))) (sd_nx_L _) ?_
        refine lv_goto (tgt := 57) hx hb dX0_draw_53 (by decide) ?_
        refine sd_last hx hb hK hP hD hS (3 + 2 * cv) 0 (dw_parts hcv) rfl (k := k) (by omega) (by decide) (ws2 := dw ad tc dg pl vl th (sd_up c1 cv (sd_up (c1 cv) k (sd_nx (sd_gs seed k)))) mx us so rr fw ff) (by rw [sd_stL]; exact dws_parts hcv _) dX0_draw_57 (fun H locs hP hD hS => ?_)
        refine lv_iinc (v := nI (k + 1)) (lv' := [(8, .int (nI (k + 1))), (6, .long (sd_gs seed k)), (0, .ref (ad (2 + 2 * cv))), (3, .int (nI t))]) hx hb dX0_draw_58 hl (k := 1) rfl (nI_1 _) (by decide) rfl (fun ls hl => ?_)
        refine lv_goto (tgt := 14) hx hb dX0_draw_61 (by decide) ?_
        exact ih (k := k + 1) (c1 := sd_up c1 cv (sd_up (c1 cv) k (sd_nx (sd_gs seed k)))) (hk := by omega) (hI := ⟨fun i hi => by rw [sd_up_n _ _ hi]; exact hI.1 i hi, by rw [sd_up2, if_neg (by omega)]; exact hI.2.1, fun j h1 h2 => by rw [sd_up2]; exact (Classical.em (j = k)).elim (fun e9 => by rw [if_pos ⟨rfl, e9⟩, if_pos (by omega), e9]) (fun e9 => by rw [if_neg (fun z => e9 z.2)]; exact hI.2.2 j h1 (by omega))⟩) (H := H) (locs := locs) (hP := hP) (hD := hD) (hS := hS) (ls := ls) (hl := (lv_sub hl [0, 1, 2, 3] rfl)) (hk9 := by omega)

set_option maxHeartbeats 4000000 in
set_option maxRecDepth 100000 in
theorem k_X3_shape (l : Launch) (D : va_G) {ad : Nat → Nat} {tc : Nat → ClassId} {dg pl : Nat → Nat} {vl : Nat → Nat → FP} {th : Nat → Nat → Bool} {cu mx : Nat → Nat → FP} {us : Nat → Bool} {so : Nat → FP} {rr : Nat → Int32} {fw : Nat → Bool} {ff : Int32} (sz : Nat) (q t n : Nat) (hq : q < 8) : Met l yX3_shape (Cond.code yX3_shape cX3_shape 3 none :: bg) { frames := 0, cells := 0, slots := 0, locals := 0 } (sd_Wr D vwCl (ty5 tc) (dw ad tc dg pl vl th cu mx us so rr fw ff) sz [.ref (ad (14 + 3 * q)), .int (nI t), .int (nI n)]) (va_Qv (S := Unit) (fun _ : Unit => True) (sd_B D vwCl (ty5 tc) (va_A (dw ad tc dg pl vl th cu mx us so rr fw ff) sz) (fun _ => dw ad tc (sd_up dg q t) (sd_up pl q n) vl th cu mx us so rr fw ff)) (va_A (dw ad tc dg pl vl th cu mx us so rr fw ff) sz)) 0 0 (va_A (dw ad tc dg pl vl th cu mx us so rr fw ff) sz) := by
  refine Met.ofW (cc := cX3_shape) (maxL := 3) (ret := none) (by decide) rfl ?_
  intro p e s m args below meth c s₁ B hml hv
  obtain ⟨rfl, hsz, hP, hK, hD0⟩ := hv
  have hx := B.exec
  have hb := B.bytes
  have hr := B.returns
  have hts := atoms_spec (ws := Cond.code yX3_shape cX3_shape 3 none :: bg) B.pre
  have hown : s.vm.findClass RX3 = some m.cls := findClass_of_methodNamed B.named
  have hlocks := B.notSynchronized
  subst hsz
  have hD := hD0.self (sz := s.heap.size)
  generalize hAe : va_A (dw ad tc dg pl vl th cu mx us so rr fw ff) s.heap.size = A at hD ⊢
  have hA : ∀ q : Nat, s.heap.size ≤ q → A q := fun q h => by rw [← hAe]; exact Or.inr h
  have hS : va_S A s.heap s.heap [] := va_S.rf
  have hl := lv_entry ([.ref (ad (14 + 3 * q)), .int (nI t), .int (nI n)]) (n := 3) (Nat.le_of_ble_eq_true rfl)
  rw [lg_entry_eq]
  generalize (lg_sl ([.ref (ad (14 + 3 * q)), .int (nI t), .int (nI n)]) ++ List.replicate (3 - (lg_sl ([.ref (ad (14 + 3 * q)), .int (nI t), .int (nI n)])).length) Slot.unset).toArray = ls at hl ⊢
  replace hl : lv_has ls 3 [(0, .ref (ad (14 + 3 * q))), (1, .int (nI t)), (2, .int (nI n))] := hl
  refine lv_aload_n hx hb dX3_shape_0 rfl (lv_at hl 0 rfl) ?_
  refine lv_iload_n hx hb dX3_shape_1 rfl (lv_at hl 1 rfl) ?_
  refine sd_put (ci := 3) (C := RX3) (T := TX3) (N := 4) hx hb hts (fun w h => mm (inX3 w h)) tyX3 tyX3_ok nmX3 hown hK hP hD hS (14 + 3 * q) (dw_sp hq) rfl 2 (by decide) (hts _ (mm wf_X3_19)) rfl rfl rfl rfl (Nat.le_of_ble_eq_true rfl) rfl (ws2 := dw ad tc (sd_up dg q t) pl vl th cu mx us so rr fw ff) (dws_dg hq _) dX3_shape_2 (fun H locs hP hD hS => ?_)
  refine lv_aload_n hx hb dX3_shape_5 rfl (lv_at hl 0 rfl) ?_
  refine lv_iload_n hx hb dX3_shape_6 rfl (lv_at hl 2 rfl) ?_
  refine sd_put (ci := 3) (C := RX3) (T := TX3) (N := 4) hx hb hts (fun w h => mm (inX3 w h)) tyX3 tyX3_ok nmX3 hown hK hP hD hS (14 + 3 * q) (dw_sp hq) rfl 3 (by decide) (hts _ (mm wf_X3_23)) rfl rfl rfl rfl (Nat.le_of_ble_eq_true rfl) rfl (ws2 := dw ad tc (sd_up dg q t) (sd_up pl q n) vl th cu mx us so rr fw ff) (dws_pl hq _) dX3_shape_7 (fun H locs hP hD hS => ?_)
  exact W.vret hx hb hr (fun t ht hW => ⟨⟨(), rfl, trivial, by rw [ht]; exact hP, va_K.moved hW.alike hK, hD⟩, hS.F ht⟩) hS.2.2 dX3_shape_10

set_option maxHeartbeats 4000000 in
set_option maxRecDepth 100000 in
theorem k_X3_hasPlace (l : Launch) (D : va_G) {ad : Nat → Nat} {tc : Nat → ClassId} {dg pl : Nat → Nat} {vl : Nat → Nat → FP} {th : Nat → Nat → Bool} {cu mx : Nat → Nat → FP} {us : Nat → Bool} {so : Nat → FP} {rr : Nat → Int32} {fw : Nat → Bool} {ff : Int32} (q : Nat) (x : Int32) (hq : q < 8) (hpl : pl q ≤ 16) : Met l yX3_hasPlace (Cond.code yX3_hasPlace cX3_hasPlace 2 (some .boolean) :: bg) { frames := 0, cells := 0, slots := 0, locals := 0 } (sd_R D vwCl (ty5 tc) (dw ad tc dg pl vl th cu mx us so rr fw ff) [.ref (ad (14 + 3 * q)), .int x]) (vp_Si (fun r => r = bI (sd_hp (pl q) x))) 0 0 (fun _ => False) := by
  refine Met.ofW (cc := cX3_hasPlace) (maxL := 2) (ret := some .boolean) (by decide) rfl ?_
  intro p e s m args below meth c s₁ B hml hv
  obtain ⟨rfl, hP, hK⟩ := hv
  have hx := B.exec
  have hb := B.bytes
  have hr := B.returns
  have hts := atoms_spec (ws := Cond.code yX3_hasPlace cX3_hasPlace 2 (some .boolean) :: bg) B.pre
  have hown : s.vm.findClass RX3 = some m.cls := findClass_of_methodNamed B.named
  have hlocks := B.notSynchronized
  have hl := lv_entry ([.ref (ad (14 + 3 * q)), .int x]) (n := 2) (Nat.le_of_ble_eq_true rfl)
  rw [lg_entry_eq]
  generalize (lg_sl ([.ref (ad (14 + 3 * q)), .int x]) ++ List.replicate (2 - (lg_sl ([.ref (ad (14 + 3 * q)), .int x])).length) Slot.unset).toArray = ls at hl ⊢
  replace hl : lv_has ls 2 [(0, .ref (ad (14 + 3 * q))), (1, .int x)] := hl
  refine lv_iload_n hx hb dX3_hasPlace_0 rfl (lv_at hl 1 rfl) ?_
  refine lv_iconst (v := nI 1) hx hb dX3_hasPlace_1 (by decide) ?_
  refine lv_icmp_lt (tgt := 17) hx hb dX3_hasPlace_2 (by decide) (fun c1 => ?_) (fun c1 => ?_)
  · refine lv_iconst (v := nI 0) hx hb dX3_hasPlace_17 (by decide) ?_
    exact W.zret hx hb hr rfl (fun t ht hW => ⟨_, rfl, by rw [sd_hp_lt _ c1]; rfl, ht⟩) (fun q h => nomatch h) dX3_hasPlace_18
  · refine lv_iload_n hx hb dX3_hasPlace_5 rfl (lv_at hl 1 rfl) ?_
    refine lv_aload_n hx hb dX3_hasPlace_6 rfl (lv_at hl 0 rfl) ?_
    refine va_get (D := D) (ci := 3) (v := .int (nI (pl q))) (C := RX3) (T := TX3) (N := 4) hx hb hts (fun w h => mm (inX3 w h)) hown hK hP (14 + 3 * q) (dw_sp hq) rfl 3 (by decide) (hts _ (mm wf_X3_23)) (fun _ h9 => h9) rfl dX3_hasPlace_7 ?_
    refine lv_icmp_gt (tgt := 17) hx hb dX3_hasPlace_10 (by decide) (fun c2 => ?_) (fun c2 => ?_)
    · refine lv_iconst (v := nI 0) hx hb dX3_hasPlace_17 (by decide) ?_
      exact W.zret hx hb hr rfl (fun t ht hW => ⟨_, rfl, by rw [sd_hp_gt (by omega) c2]; rfl, ht⟩) (fun q h => nomatch h) dX3_hasPlace_18
    · refine lv_iconst (v := nI 1) hx hb dX3_hasPlace_13 (by decide) ?_
      refine lv_goto (tgt := 18) hx hb dX3_hasPlace_14 (by decide) ?_
      exact W.zret hx hb hr rfl (fun t ht hW => ⟨_, rfl, by rw [sd_hp_in (by omega) c1 c2]; rfl, ht⟩) (fun q h => nomatch h) dX3_hasPlace_18

set_option maxHeartbeats 4000000 in
set_option maxRecDepth 100000 in
theorem k_X3_hasShare (l : Launch) (D : va_G) {ad : Nat → Nat} {tc : Nat → ClassId} {dg pl : Nat → Nat} {vl : Nat → Nat → FP} {th : Nat → Nat → Bool} {cu mx : Nat → Nat → FP} {us : Nat → Bool} {so : Nat → FP} {rr : Nat → Int32} {fw : Nat → Bool} {ff : Int32} (q : Nat) (x : Int32) (hq : q < 8) (hpl : pl q ≤ 16) : Met l yX3_hasShare (Cond.code yX3_hasShare cX3_hasShare 2 (some .boolean) :: bg) { frames := 1, cells := 0, slots := 0, locals := 21 } (sd_R D vwCl (ty5 tc) (dw ad tc dg pl vl th cu mx us so rr fw ff) [.ref (ad (14 + 3 * q)), .int x]) (vp_Si (fun r => r = bI (sd_hs (pl q) (th q) x))) 0 0 (fun _ => False) := by
  refine Met.ofW (cc := cX3_hasShare) (maxL := 2) (ret := some .boolean) (by decide) rfl ?_
  intro p e s m args below meth c s₁ B hml hv
  obtain ⟨rfl, hP, hK⟩ := hv
  have hx := B.exec
  have hb := B.bytes
  have hr := B.returns
  have hts := atoms_spec (ws := Cond.code yX3_hasShare cX3_hasShare 2 (some .boolean) :: bg) B.pre
  have hown : s.vm.findClass RX3 = some m.cls := findClass_of_methodNamed B.named
  have hlocks := B.notSynchronized
  have hl := lv_entry ([.ref (ad (14 + 3 * q)), .int x]) (n := 2) (Nat.le_of_ble_eq_true rfl)
  rw [lg_entry_eq]
  generalize (lg_sl ([.ref (ad (14 + 3 * q)), .int x]) ++ List.replicate (2 - (lg_sl ([.ref (ad (14 + 3 * q)), .int x])).length) Slot.unset).toArray = ls at hl ⊢
  replace hl : lv_has ls 2 [(0, .ref (ad (14 + 3 * q))), (1, .int x)] := hl
  refine lv_aload_n hx hb dX3_hasShare_0 rfl (lv_at hl 0 rfl) ?_
  refine lv_iload_n hx hb dX3_hasShare_1 rfl (lv_at hl 1 rfl) ?_
  refine sd_ri (va_runV (As := [.int x]) (rest := []) ⟨hx, hb, hml, hown, hts⟩ (k_X3_hasPlace l D q x hq hpl) (sd_cwV hts wd_X3_hasPlace wn_X3 wm_X3_26 wi_X3_hasPlace ws_X3_hasPlace nq_X3_hasPlace rfl rfl ⟨Nat.le_of_ble_eq_true rfl, Nat.le_of_ble_eq_true rfl⟩) (sd_preVR hP hK (ci := 3) (q0 := (14 + 3 * q)) rfl rfl (dw_sp hq)) rfl rfl hl.1 rfl (lv_room (Nat.le_of_ble_eq_true rfl)) dX3_hasShare_2 ⟨Nat.zero_le _, Nat.zero_le _⟩) (fun r1 hr1 => ?_)
  subst hr1
  refine sd_if_eqB (tgt := 21) hx hb dX3_hasShare_5 (by decide) (fun c1 => ?_) (fun c1 => ?_)
  · refine lv_iconst (v := nI 0) hx hb dX3_hasShare_21 (by decide) ?_
    exact W.zret hx hb hr rfl (fun t ht hW => ⟨_, rfl, by rw [sd_hs_f _ c1]; rfl, ht⟩) (fun q h => nomatch h) dX3_hasShare_22
  · obtain ⟨j, hj1, hj2, rfl⟩ := sd_hp_of (by omega) c1
    refine lv_aload_n hx hb dX3_hasShare_8 rfl (lv_at hl 0 rfl) ?_
    refine va_get (D := D) (ci := 3) (v := .ref (ad (16 + 3 * q))) (C := RX3) (T := TX3) (N := 4) hx hb hts (fun w h => mm (inX3 w h)) hown hK hP (14 + 3 * q) (dw_sp hq) rfl 1 (by decide) (hts _ (mm wf_X3_15)) (fun _ h9 => h9) rfl dX3_hasShare_9 ?_
    refine lv_iload_n hx hb dX3_hasShare_12 rfl (lv_at hl 1 rfl) ?_
    refine sd_zald hx hb hK hP (16 + 3 * q) 1 (dw_th hq) rfl (k := j) (by omega) (by decide) dX3_hasShare_13 ?_
    refine sd_if_eqB (tgt := 21) hx hb dX3_hasShare_14 (by decide) (fun c2 => ?_) (fun c2 => ?_)
    · refine lv_iconst (v := nI 0) hx hb dX3_hasShare_21 (by decide) ?_
      exact W.zret hx hb hr rfl (fun t ht hW => ⟨_, rfl, by rw [sd_hs_nI _ (by omega) hj1 hj2, c2]; rfl, ht⟩) (fun q h => nomatch h) dX3_hasShare_22
    · refine lv_iconst (v := nI 1) hx hb dX3_hasShare_17 (by decide) ?_
      refine lv_goto (tgt := 22) hx hb dX3_hasShare_18 (by decide) ?_
      exact W.zret hx hb hr rfl (fun t ht hW => ⟨_, rfl, by rw [sd_hs_nI _ (by omega) hj1 hj2, c2]; rfl, ht⟩) (fun q h => nomatch h) dX3_hasShare_22

set_option maxHeartbeats 4000000 in
set_option maxRecDepth 100000 in
theorem k_X3_keep (l : Launch) (D : va_G) {ad : Nat → Nat} {tc : Nat → ClassId} {dg pl : Nat → Nat} {vl : Nat → Nat → FP} {th : Nat → Nat → Bool} {cu mx : Nat → Nat → FP} {us : Nat → Bool} {so : Nat → FP} {rr : Nat → Int32} {fw : Nat → Bool} {ff : Int32} (sz : Nat) (q k : Nat) (v : FP) (hq : q < 8) (hk : k < 17) : Met l yX3_keep (Cond.code yX3_keep cX3_keep 4 none :: bg) { frames := 0, cells := 0, slots := 0, locals := 0 } (sd_Wr D vwCl (ty5 tc) (dw ad tc dg pl vl th cu mx us so rr fw ff) sz [.ref (ad (14 + 3 * q)), .int (nI k), .long (sd_L v)]) (va_Qv (S := Unit) (fun _ : Unit => True) (sd_B D vwCl (ty5 tc) (va_A (dw ad tc dg pl vl th cu mx us so rr fw ff) sz) (fun _ => dw ad tc dg pl (sd_up vl q (sd_up (vl q) k v)) (sd_up th q (sd_up (th q) k true)) cu mx us so rr fw ff)) (va_A (dw ad tc dg pl vl th cu mx us so rr fw ff) sz)) 0 0 (va_A (dw ad tc dg pl vl th cu mx us so rr fw ff) sz) := by
  refine Met.ofW (cc := cX3_keep) (maxL := 4) (ret := none) (by decide) rfl ?_
  intro p e s m args below meth c s₁ B hml hv
  obtain ⟨rfl, hsz, hP, hK, hD0⟩ := hv
  have hx := B.exec
  have hb := B.bytes
  have hr := B.returns
  have hts := atoms_spec (ws := Cond.code yX3_keep cX3_keep 4 none :: bg) B.pre
  have hown : s.vm.findClass RX3 = some m.cls := findClass_of_methodNamed B.named
  have hlocks := B.notSynchronized
  subst hsz
  have hD := hD0.self (sz := s.heap.size)
  generalize hAe : va_A (dw ad tc dg pl vl th cu mx us so rr fw ff) s.heap.size = A at hD ⊢
  have hA : ∀ q : Nat, s.heap.size ≤ q → A q := fun q h => by rw [← hAe]; exact Or.inr h
  have hS : va_S A s.heap s.heap [] := va_S.rf
  have hl := lv_entry ([.ref (ad (14 + 3 * q)), .int (nI k), .long (sd_L v)]) (n := 4) (Nat.le_of_ble_eq_true rfl)
  rw [lg_entry_eq]
  generalize (lg_sl ([.ref (ad (14 + 3 * q)), .int (nI k), .long (sd_L v)]) ++ List.replicate (4 - (lg_sl ([.ref (ad (14 + 3 * q)), .int (nI k), .long (sd_L v)])).length) Slot.unset).toArray = ls at hl ⊢
  replace hl : lv_has ls 4 [(0, .ref (ad (14 + 3 * q))), (1, .int (nI k)), (2, .long (sd_L v))] := hl
  refine lv_aload_n hx hb dX3_keep_0 rfl (lv_at hl 0 rfl) ?_
  refine va_get (D := D) (ci := 3) (v := .ref (ad (15 + 3 * q))) (C := RX3) (T := TX3) (N := 4) hx hb hts (fun w h => mm (inX3 w h)) hown hK hP (14 + 3 * q) (dw_sp hq) rfl 0 (by decide) (hts _ (mm wf_X3_9)) (fun _ h9 => h9) rfl dX3_keep_1 ?_
  refine lv_iload_n hx hb dX3_keep_4 rfl (lv_at hl 1 rfl) ?_
  refine lv_lload_n hx hb dX3_keep_5 rfl (lv_at hl 2 rfl) ?_
  refine sd_last hx hb hK hP hD hS (15 + 3 * q) 0 (dw_vl hq) rfl (k := k) (by omega) (by decide) (ws2 := dw ad tc dg pl (sd_up vl q (sd_up (vl q) k v)) th cu mx us so rr fw ff) (by rw [sd_stL]; exact dws_vl hq _) dX3_keep_6 (fun H locs hP hD hS => ?_)
  refine lv_aload_n hx hb dX3_keep_7 rfl (lv_at hl 0 rfl) ?_
  refine va_get (D := D) (ci := 3) (v := .ref (ad (16 + 3 * q))) (C := RX3) (T := TX3) (N := 4) hx hb hts (fun w h => mm (inX3 w h)) hown hK hP (14 + 3 * q) (dw_sp hq) rfl 1 (by decide) (hts _ (mm wf_X3_15)) (fun _ h9 => h9) rfl dX3_keep_8 ?_
  refine lv_iload_n hx hb dX3_keep_11 rfl (lv_at hl 1 rfl) ?_
  refine lv_iconst (v := nI 1) hx hb dX3_keep_12 (by decide) ?_
  refine sd_tob (b := true) rfl ?_
  refine sd_zast hx hb hK hP hD hS (16 + 3 * q) 1 (dw_th hq) rfl (k := k) (by omega) (by decide) (ws2 := dw ad tc dg pl (sd_up vl q (sd_up (vl q) k v)) (sd_up th q (sd_up (th q) k true)) cu mx us so rr fw ff) (by rw [sd_stZ]; exact dws_th hq _) dX3_keep_13 (fun H locs hP hD hS => ?_)
  exact W.vret hx hb hr (fun t ht hW => ⟨⟨(), rfl, trivial, by rw [ht]; exact hP, va_K.moved hW.alike hK, hD⟩, hS.F ht⟩) hS.2.2 dX3_keep_14

set_option maxHeartbeats 4000000 in
set_option maxRecDepth 100000 in
theorem k_X3_drop (l : Launch) (D : va_G) {ad : Nat → Nat} {tc : Nat → ClassId} {dg pl : Nat → Nat} {vl : Nat → Nat → FP} {th : Nat → Nat → Bool} {cu mx : Nat → Nat → FP} {us : Nat → Bool} {so : Nat → FP} {rr : Nat → Int32} {fw : Nat → Bool} {ff : Int32} (sz : Nat) (q k : Nat) (hq : q < 8) (hk : k < 17) : Met l yX3_drop (Cond.code yX3_drop cX3_drop 2 none :: bg) { frames := 0, cells := 0, slots := 0, locals := 0 } (sd_Wr D vwCl (ty5 tc) (dw ad tc dg pl vl th cu mx us so rr fw ff) sz [.ref (ad (14 + 3 * q)), .int (nI k)]) (va_Qv (S := Unit) (fun _ : Unit => True) (sd_B D vwCl (ty5 tc) (va_A (dw ad tc dg pl vl th cu mx us so rr fw ff) sz) (fun _ => dw ad tc dg pl vl (sd_up th q (sd_up (th q) k false)) cu mx us so rr fw ff)) (va_A (dw ad tc dg pl vl th cu mx us so rr fw ff) sz)) 0 0 (va_A (dw ad tc dg pl vl th cu mx us so rr fw ff) sz) := by
  refine Met.ofW (cc := cX3_drop) (maxL := 2) (ret := none) (by decide) rfl ?_
  intro p e s m args below meth c s₁ B hml hv
  obtain ⟨rfl, hsz, hP, hK, hD0⟩ := hv
  have hx := B.exec
  have hb := B.bytes
  have hr := B.returns
  have hts := atoms_spec (ws := Cond.code yX3_drop cX3_drop 2 none :: bg) B.pre
  have hown : s.vm.findClass RX3 = some m.cls := findClass_of_methodNamed B.named
  have hlocks := B.notSynchronized
  subst hsz
  have hD := hD0.self (sz := s.heap.size)
  generalize hAe : va_A (dw ad tc dg pl vl th cu mx us so rr fw ff) s.heap.size = A at hD ⊢
  have hA : ∀ q : Nat, s.heap.size ≤ q → A q := fun q h => by rw [← hAe]; exact Or.inr h
  have hS : va_S A s.heap s.heap [] := va_S.rf
  have hl := lv_entry ([.ref (ad (14 + 3 * q)), .int (nI k)]) (n := 2) (Nat.le_of_ble_eq_true rfl)
  rw [lg_entry_eq]
  generalize (lg_sl ([.ref (ad (14 + 3 * q)), .int (nI k)]) ++ List.replicate (2 - (lg_sl ([.ref (ad (14 + 3 * q)), .int (nI k)])).length) Slot.unset).toArray = ls at hl ⊢
  replace hl : lv_has ls 2 [(0, .ref (ad (14 + 3 * q))), (1, .int (nI k))] := hl
  refine lv_aload_n hx hb dX3_drop_0 rfl (lv_at hl 0 rfl) ?_
  refine va_get (D := D) (ci := 3) (v := .ref (ad (16 + 3 * q))) (C := RX3) (T := TX3) (N := 4) hx hb hts (fun w h => mm (inX3 w h)) hown hK hP (14 + 3 * q) (dw_sp hq) rfl 1 (by decide) (hts _ (mm wf_X3_15)) (fun _ h9 => h9) rfl dX3_drop_1 ?_
  refine lv_iload_n hx hb dX3_drop_4 rfl (lv_at hl 1 rfl) ?_
  refine lv_iconst (v := nI 0) hx hb dX3_drop_5 (by decide) ?_
  refine sd_tob (b := false) rfl ?_
  refine sd_zast hx hb hK hP hD hS (16 + 3 * q) 1 (dw_th hq) rfl (k := k) (by omega) (by decide) (ws2 := dw ad tc dg pl vl (sd_up th q (sd_up (th q) k false)) cu mx us so rr fw ff) (by rw [sd_stZ]; exact dws_th hq _) dX3_drop_6 (fun H locs hP hD hS => ?_)
  exact W.vret hx hb hr (fun t ht hW => ⟨⟨(), rfl, trivial, by rw [ht]; exact hP, va_K.moved hW.alike hK, hD⟩, hS.F ht⟩) hS.2.2 dX3_drop_7

/-! the reference: numbers -/
set_option maxHeartbeats 1000000 in
set_option maxRecDepth 100000 in
theorem k_X5_reduced (l : Launch)  (n : Nat) (hn : n < 2 ^ 64) : Met l yX5_reduced (Cond.code yX5_reduced cX5_reduced 4 (some .long) :: bg) { frames := 0, cells := 0, slots := 0, locals := 0 } (sd_N0 [.long (lN n)]) (vp_Sl (fun r => r = sd_L (sd_N n))) 0 0 (fun _ => False) := by
  refine Met.ofW (cc := cX5_reduced) (maxL := 4) (ret := some .long) (by decide) rfl ?_
  intro p e s m args below meth c s₁ B hml hv
  obtain ⟨rfl, -⟩ := hv
  have hx := B.exec
  have hb := B.bytes
  have hr := B.returns
  have hts := atoms_spec (ws := Cond.code yX5_reduced cX5_reduced 4 (some .long) :: bg) B.pre
  have hown : s.vm.findClass RX5 = some m.cls := findClass_of_methodNamed B.named
  have hlocks := B.notSynchronized
  have hl := lv_entry ([.long (lN n)]) (n := 4) (Nat.le_of_ble_eq_true rfl)
  rw [lg_entry_eq]
  generalize (lg_sl ([.long (lN n)]) ++ List.replicate (4 - (lg_sl ([.long (lN n)])).length) Slot.unset).toArray = ls at hl ⊢
  replace hl : lv_has ls 4 [(0, .long (lN n))] := hl
  have hrd := sd_red hn
  refine lv_lload_n hx hb dX5_reduced_0 rfl (lv_at hl 0 rfl) ?_
  refine lv_ldc2 (v := lN 2305843009213693951) hx hb hown (hts _ (mm wl_X5_55)) dX5_reduced_1 ?_
  refine sd_land hx hb (k := 61) (by omega) (by decide) (by decide) (v := n % 2305843009213693952) rfl dX5_reduced_4 ?_
  refine lv_lload_n hx hb dX5_reduced_5 rfl (lv_at hl 0 rfl) ?_
  refine lv_bipush (v := nI 61) hx hb dX5_reduced_6 (by decide) ?_
  refine sd_lushr hx hb (by omega) (by decide) (v := n / 2305843009213693952) rfl dX5_reduced_8 ?_
  refine sd_ladd hx hb dX5_reduced_9 ?_
  refine lv_lstore_n (lv' := [(2, .long (lN ((n % 2305843009213693952) + (n / 2305843009213693952)))), (0, .long (lN n))]) hx hb dX5_reduced_10 rfl hl (by decide) rfl (fun ls hl => ?_)
  refine lv_lload_n hx hb dX5_reduced_11 rfl (lv_at hl 0 rfl) ?_
  refine lv_ldc2 (v := lN 2305843009213693951) hx hb hown (hts _ (mm wl_X5_55)) dX5_reduced_12 ?_
  refine W.lcmp hx hb dX5_reduced_15 ?_
  refine lv_if_lt (tgt := 27) hx hb dX5_reduced_16 (by decide) (fun c1 => ?_) (fun c1 => ?_)
  · have c1 : (lN ((n % 2305843009213693952) + (n / 2305843009213693952))) < (lN 2305843009213693951) := (lg_cmp_lt _ _).mp c1
    have c2 := (pk_lLT (by omega) (by decide)).mp c1
    refine lv_lload_n hx hb dX5_reduced_27 rfl (lv_at hl 0 rfl) ?_
    exact W.lret hx hb hr (fun T9 hT9 hW => ⟨_, rfl, (congrArg lN (hrd.2 (by omega))).trans (sd_N_red n), hT9⟩) (fun q h => nomatch h) dX5_reduced_28
  · have c1 : ¬ (lN ((n % 2305843009213693952) + (n / 2305843009213693952))) < (lN 2305843009213693951) := fun q => c1 ((lg_cmp_lt _ _).mpr q)
    have c2 : ¬ n % 2305843009213693952 + n / 2305843009213693952 < 2305843009213693951 := fun q => c1 ((pk_lLT (by omega) (by decide)).mpr q)
    refine lv_lload_n hx hb dX5_reduced_19 rfl (lv_at hl 0 rfl) ?_
    refine lv_ldc2 (v := lN 2305843009213693951) hx hb hown (hts _ (mm wl_X5_55)) dX5_reduced_20 ?_
    refine sd_lsub hx hb (by omega) dX5_reduced_23 ?_
    refine lv_goto (tgt := 28) hx hb dX5_reduced_24 (by decide) ?_
    exact W.lret hx hb hr (fun T9 hT9 hW => ⟨_, rfl, (congrArg lN (hrd.1 (by omega))).trans (sd_N_red n), hT9⟩) (fun q h => nomatch h) dX5_reduced_28

set_option maxHeartbeats 1000000 in
set_option maxRecDepth 100000 in
theorem k_X5_modulo (l : Launch)  (x : Int64)  : Met l yX5_modulo (Cond.code yX5_modulo cX5_modulo 4 (some .long) :: bg) { frames := 0, cells := 0, slots := 0, locals := 0 } (sd_N0 [.long x]) (vp_Sl (fun r => r = sd_L (sd_of x))) 0 0 (fun _ => False) := by
  refine Met.ofW (cc := cX5_modulo) (maxL := 4) (ret := some .long) (by decide) rfl ?_
  intro p e s m args below meth c s₁ B hml hv
  obtain ⟨rfl, -⟩ := hv
  have hx := B.exec
  have hb := B.bytes
  have hr := B.returns
  have hts := atoms_spec (ws := Cond.code yX5_modulo cX5_modulo 4 (some .long) :: bg) B.pre
  have hown : s.vm.findClass RX5 = some m.cls := findClass_of_methodNamed B.named
  have hlocks := B.notSynchronized
  have hl := lv_entry ([.long x]) (n := 4) (Nat.le_of_ble_eq_true rfl)
  rw [lg_entry_eq]
  generalize (lg_sl ([.long x]) ++ List.replicate (4 - (lg_sl ([.long x])).length) Slot.unset).toArray = ls at hl ⊢
  replace hl : lv_has ls 4 [(0, .long x)] := hl
  refine lv_lload_n hx hb dX5_modulo_0 rfl (lv_at hl 0 rfl) ?_
  refine lv_ldc2 (v := 2305843009213693951) hx hb hown (hts _ (mm wl_X5_55)) dX5_modulo_1 ?_
  refine lv_lrem hx hb dX5_modulo_4 (by decide) ?_
  refine lv_lstore_n (lv' := [(2, .long (x - x / 2305843009213693951 * 2305843009213693951)), (0, .long x)]) hx hb dX5_modulo_5 rfl hl (by decide) rfl (fun ls hl => ?_)
  refine lv_lload_n hx hb dX5_modulo_6 rfl (lv_at hl 0 rfl) ?_
  refine lv_lconst (v := 0) hx hb dX5_modulo_7 (by decide) ?_
  refine W.lcmp hx hb dX5_modulo_8 ?_
  refine lv_if_ge (tgt := 20) hx hb dX5_modulo_9 (by decide) (fun c1 => ?_) (fun c1 => ?_)
  · have c1 : 0 ≤ (x - x / 2305843009213693951 * 2305843009213693951) := (lg_cmp_ge _ _).mp c1
    refine lv_lload_n hx hb dX5_modulo_20 rfl (lv_at hl 0 rfl) ?_
    exact W.lret hx hb hr (fun T9 hT9 hW => ⟨_, rfl, sd_mo_0 (lg_le_not_lt c1), hT9⟩) (fun q h => nomatch h) dX5_modulo_21
  · have c1 : ¬ 0 ≤ (x - x / 2305843009213693951 * 2305843009213693951) := fun q => c1 ((lg_cmp_ge _ _).mpr q)
    refine lv_lload_n hx hb dX5_modulo_12 rfl (lv_at hl 0 rfl) ?_
    refine lv_ldc2 (v := 2305843009213693951) hx hb hown (hts _ (mm wl_X5_55)) dX5_modulo_13 ?_
    refine lv_ladd hx hb dX5_modulo_16 ?_
    refine lv_goto (tgt := 21) hx hb dX5_modulo_17 (by decide) ?_
    exact W.lret hx hb hr (fun T9 hT9 hW => ⟨_, rfl, sd_mo_n ((lg_tri _ _).elim id (fun q => absurd (q.elim (fun z => by rw [z]; exact Int64.le_refl _) (fun z => Int64.le_of_lt z)) c1)), hT9⟩) (fun q h => nomatch h) dX5_modulo_21

set_option maxHeartbeats 1000000 in
set_option maxRecDepth 100000 in
theorem k_X5_plus (l : Launch)  (a b : FP)  : Met l yX5_plus (Cond.code yX5_plus cX5_plus 4 (some .long) :: bg) { frames := 1, cells := 0, slots := 0, locals := 27 } (sd_N0 [.long (sd_L a), .long (sd_L b)]) (vp_Sl (fun r => r = sd_L (a + b))) 0 0 (fun _ => False) := by
  refine Met.ofW (cc := cX5_plus) (maxL := 4) (ret := some .long) (by decide) rfl ?_
  intro p e s m args below meth c s₁ B hml hv
  obtain ⟨rfl, -⟩ := hv
  have hx := B.exec
  have hb := B.bytes
  have hr := B.returns
  have hts := atoms_spec (ws := Cond.code yX5_plus cX5_plus 4 (some .long) :: bg) B.pre
  have hown : s.vm.findClass RX5 = some m.cls := findClass_of_methodNamed B.named
  have hlocks := B.notSynchronized
  have hl := lv_entry ([.long (sd_L a), .long (sd_L b)]) (n := 4) (Nat.le_of_ble_eq_true rfl)
  rw [lg_entry_eq]
  generalize (lg_sl ([.long (sd_L a), .long (sd_L b)]) ++ List.replicate (4 - (lg_sl ([.long (sd_L a), .long (sd_L b)])).length) Slot.unset).toArray = ls at hl ⊢
  replace hl : lv_has ls 4 [(0, .long (sd_L a)), (2, .long (sd_L b))] := hl
  have ha := a.isLt
  have hb2 := b.isLt
  replace hl : lv_has ls 4 [(0, .long (lN a.val)), (2, .long (lN b.val))] := hl
  refine lv_lload_n hx hb dX5_plus_0 rfl (lv_at hl 0 rfl) ?_
  refine lv_lload_n hx hb dX5_plus_1 rfl (lv_at hl 1 rfl) ?_
  refine sd_ladd hx hb dX5_plus_2 ?_
  refine sd_rl (va_runS (As := [.long (lN (a.val + b.val))]) (rest := []) ⟨hx, hb, hml, hown, hts⟩ (k_X5_reduced l (a.val + b.val) (by omega)) (sd_cwS hts wd_X5_reduced wn_X5 wm_X5_57 wi_X5_reduced nq_X5_reduced rfl rfl ⟨Nat.le_of_ble_eq_true rfl, Nat.le_of_ble_eq_true rfl⟩) sd_preN rfl rfl hl.1 rfl (lv_room (Nat.le_of_ble_eq_true rfl)) dX5_plus_3 ⟨Nat.zero_le _, Nat.zero_le _⟩) (fun r1 hr1 => ?_)
  subst hr1
  exact W.lret hx hb hr (fun T9 hT9 hW => ⟨_, rfl, by rw [sd_N_plus], hT9⟩) (fun q h => nomatch h) dX5_plus_6

set_option maxHeartbeats 1000000 in
set_option maxRecDepth 100000 in
theorem k_X5_minus (l : Launch)  (a b : FP)  : Met l yX5_minus (Cond.code yX5_minus cX5_minus 4 (some .long) :: bg) { frames := 1, cells := 0, slots := 0, locals := 27 } (sd_N0 [.long (sd_L a), .long (sd_L b)]) (vp_Sl (fun r => r = sd_L (a - b))) 0 0 (fun _ => False) := by
  refine Met.ofW (cc := cX5_minus) (maxL := 4) (ret := some .long) (by decide) rfl ?_
  intro p e s m args below meth c s₁ B hml hv
  obtain ⟨rfl, -⟩ := hv
  have hx := B.exec
  have hb := B.bytes
  have hr := B.returns
  have hts := atoms_spec (ws := Cond.code yX5_minus cX5_minus 4 (some .long) :: bg) B.pre
  have hown : s.vm.findClass RX5 = some m.cls := findClass_of_methodNamed B.named
  have hlocks := B.notSynchronized
  have hl := lv_entry ([.long (sd_L a), .long (sd_L b)]) (n := 4) (Nat.le_of_ble_eq_true rfl)
  rw [lg_entry_eq]
  generalize (lg_sl ([.long (sd_L a), .long (sd_L b)]) ++ List.replicate (4 - (lg_sl ([.long (sd_L a), .long (sd_L b)])).length) Slot.unset).toArray = ls at hl ⊢
  replace hl : lv_has ls 4 [(0, .long (sd_L a)), (2, .long (sd_L b))] := hl
  have ha := a.isLt
  have hb2 := b.isLt
  replace hl : lv_has ls 4 [(0, .long (lN a.val)), (2, .long (lN b.val))] := hl
  refine lv_lload_n hx hb dX5_minus_0 rfl (lv_at hl 0 rfl) ?_
  refine lv_ldc2 (v := lN 2305843009213693951) hx hb hown (hts _ (mm wl_X5_55)) dX5_minus_1 ?_
  refine sd_ladd hx hb dX5_minus_4 ?_
  refine lv_lload_n hx hb dX5_minus_5 rfl (lv_at hl 1 rfl) ?_
  refine sd_lsub hx hb (by omega) dX5_minus_6 ?_
  refine sd_rl (va_runS (As := [.long (lN ((a.val + 2305843009213693951) - b.val))]) (rest := []) ⟨hx, hb, hml, hown, hts⟩ (k_X5_reduced l (a.val + 2305843009213693951 - b.val) (by omega)) (sd_cwS hts wd_X5_reduced wn_X5 wm_X5_57 wi_X5_reduced nq_X5_reduced rfl rfl ⟨Nat.le_of_ble_eq_true rfl, Nat.le_of_ble_eq_true rfl⟩) sd_preN rfl rfl hl.1 rfl (lv_room (Nat.le_of_ble_eq_true rfl)) dX5_minus_7 ⟨Nat.zero_le _, Nat.zero_le _⟩) (fun r1 hr1 => ?_)
  subst hr1
  exact W.lret hx hb hr (fun T9 hT9 hW => ⟨_, rfl, by rw [sd_N_minus], hT9⟩) (fun q h => nomatch h) dX5_minus_10

set_option maxHeartbeats 1000000 in
set_option maxRecDepth 100000 in
theorem k_X5_times (l : Launch)  (a b : FP)  : Met l yX5_times (Cond.code yX5_times cX5_times 16 (some .long) :: bg) { frames := 2, cells := 0, slots := 0, locals := 54 } (sd_N0 [.long (sd_L a), .long (sd_L b)]) (vp_Sl (fun r => r = sd_L (a * b))) 0 0 (fun _ => False) := by
  refine Met.ofW (cc := cX5_times) (maxL := 16) (ret := some .long) (by decide) rfl ?_
  intro p e s m args below meth c s₁ B hml hv
  obtain ⟨rfl, -⟩ := hv
  have hx := B.exec
  have hb := B.bytes
  have hr := B.returns
  have hts := atoms_spec (ws := Cond.code yX5_times cX5_times 16 (some .long) :: bg) B.pre
  have hown : s.vm.findClass RX5 = some m.cls := findClass_of_methodNamed B.named
  have hlocks := B.notSynchronized
  have hl := lv_entry ([.long (sd_L a), .long (sd_L b)]) (n := 16) (Nat.le_of_ble_eq_true rfl)
  rw [lg_entry_eq]
  generalize (lg_sl ([.long (sd_L a), .long (sd_L b)]) ++ List.replicate (16 - (lg_sl ([.long (sd_L a), .long (sd_L b)])).length) Slot.unset).toArray = ls at hl ⊢
  replace hl : lv_has ls 16 [(0, .long (sd_L a)), (2, .long (sd_L b))] := hl
  have ha := a.isLt
  have hb2 := b.isLt
  have hTT := sd_times_nat ha hb2
  have g1 : a.val / 2147483648 < 1073741824 := by omega
  have g2 : b.val / 2147483648 < 1073741824 := by omega
  have g3 : a.val % 2147483648 < 2147483648 := by omega
  have g4 : b.val % 2147483648 < 2147483648 := by omega
  replace hl : lv_has ls 16 [(0, .long (lN a.val)), (2, .long (lN b.val))] := hl
  have m3 : 2 * (a.val / 2147483648) * (b.val / 2147483648) < 2 ^ 63 := by omega
  have m4 : (a.val % 2147483648) * (b.val % 2147483648) < 2 ^ 63 := by omega
  refine lv_lload_n hx hb dX5_times_0 rfl (lv_at hl 0 rfl) ?_
  refine lv_ldc2 (v := lN 2147483647) hx hb hown (hts _ (mm wl_X5_61)) dX5_times_1 ?_
  refine sd_land hx hb (k := 31) (by omega) (by decide) (by decide) (v := a.val % 2147483648) rfl dX5_times_4 ?_
  refine lv_lstore (lv' := [(4, .long (lN (a.val % 2147483648))), (0, .long (lN a.val)), (2, .long (lN b.val))]) hx hb dX5_times_5 hl (by decide) rfl (fun ls hl => ?_)
  refine lv_lload_n hx hb dX5_times_7 rfl (lv_at hl 1 rfl) ?_
  refine lv_bipush (v := nI 31) hx hb dX5_times_8 (by decide) ?_
  refine sd_lushr hx hb (by omega) (by decide) (v := a.val / 2147483648) rfl dX5_times_10 ?_
  refine lv_lstore (lv' := [(6, .long (lN (a.val / 2147483648))), (4, .long (lN (a.val % 2147483648))), (0, .long (lN a.val)), (2, .long (lN b.val))]) hx hb dX5_times_11 hl (by decide) rfl (fun ls hl => ?_)
  refine lv_lload_n hx hb dX5_times_13 rfl (lv_at hl 3 rfl) ?_
  refine lv_ldc2 (v := lN 2147483647) hx hb hown (hts _ (mm wl_X5_61)) dX5_times_14 ?_
  refine sd_land hx hb (k := 31) (by omega) (by decide) (by decide) (v := b.val % 2147483648) rfl dX5_times_17 ?_
  refine lv_lstore (lv' := [(8, .long (lN (b.val % 2147483648))), (6, .long (lN (a.val / 2147483648))), (4, .long (lN (a.val % 2147483648))), (0, .long (lN a.val)), (2, .long (lN b.val))]) hx hb dX5_times_18 hl (by decide) rfl (fun ls hl => ?_)
  refine lv_lload_n hx hb dX5_times_20 rfl (lv_at hl 4 rfl) ?_
  refine lv_bipush (v := nI 31) hx hb dX5_times_21 (by decide) ?_
  refine sd_lushr hx hb (by omega) (by decide) (v := b.val / 2147483648) rfl dX5_times_23 ?_
  refine lv_lstore (lv' := [(10, .long (lN (b.val / 2147483648))), (8, .long (lN (b.val % 2147483648))), (6, .long (lN (a.val / 2147483648))), (4, .long (lN (a.val % 2147483648))), (0, .long (lN a.val)), (2, .long (lN b.val))]) hx hb dX5_times_24 hl (by decide) rfl (fun ls hl => ?_)
  refine lv_lload hx hb dX5_times_26 (lv_at hl 2 rfl) ?_
  refine lv_lload hx hb dX5_times_28 (lv_at hl 1 rfl) ?_
  refine sd_lmul hx hb dX5_times_30 ?_
  refine lv_lload hx hb dX5_times_31 (lv_at hl 3 rfl) ?_
  refine lv_lload hx hb dX5_times_33 (lv_at hl 0 rfl) ?_
  refine sd_lmul hx hb dX5_times_35 ?_
  refine sd_ladd hx hb dX5_times_36 ?_
  refine lv_lstore (lv' := [(12, .long (lN (((a.val / 2147483648) * (b.val % 2147483648)) + ((a.val % 2147483648) * (b.val / 2147483648))))), (10, .long (lN (b.val / 2147483648))), (8, .long (lN (b.val % 2147483648))), (6, .long (lN (a.val / 2147483648))), (4, .long (lN (a.val % 2147483648))), (0, .long (lN a.val)), (2, .long (lN b.val))]) hx hb dX5_times_37 hl (by decide) rfl (fun ls hl => ?_)
  refine lv_ldc2 (v := lN 2) hx hb hown (hts _ (mm wl_X5_63)) dX5_times_39 ?_
  refine lv_lload hx hb dX5_times_42 (lv_at hl 3 rfl) ?_
  refine sd_lmul hx hb dX5_times_44 ?_
  refine lv_lload hx hb dX5_times_45 (lv_at hl 1 rfl) ?_
  refine sd_lmul hx hb dX5_times_47 ?_
  refine sd_rl (va_runS (As := [.long (lN ((2 * (a.val / 2147483648)) * (b.val / 2147483648)))]) (rest := []) ⟨hx, hb, hml, hown, hts⟩ (k_X5_reduced l ((2 * (a.val / 2147483648)) * (b.val / 2147483648)) (by omega)) (sd_cwS hts wd_X5_reduced wn_X5 wm_X5_57 wi_X5_reduced nq_X5_reduced rfl rfl ⟨Nat.le_of_ble_eq_true rfl, Nat.le_of_ble_eq_true rfl⟩) sd_preN rfl rfl hl.1 rfl (lv_room (Nat.le_of_ble_eq_true rfl)) dX5_times_48 ⟨Nat.zero_le _, Nat.zero_le _⟩) (fun r1 hr1 => ?_)
  subst hr1
  refine lv_lload hx hb dX5_times_51 (lv_at hl 0 rfl) ?_
  refine lv_bipush (v := nI 30) hx hb dX5_times_53 (by decide) ?_
  refine sd_lushr hx hb (by omega) (by decide) (v := (((a.val / 2147483648) * (b.val % 2147483648)) + ((a.val % 2147483648) * (b.val / 2147483648))) / 1073741824) rfl dX5_times_55 ?_
  refine sd_tol (y := sd_L (sd_N ((((a.val / 2147483648) * (b.val % 2147483648)) + ((a.val % 2147483648) * (b.val / 2147483648))) / 1073741824))) ((sd_N_L (by omega)).symm) ?_
  refine sd_rl (va_runS (As := [.long (sd_L (sd_N ((2 * (a.val / 2147483648)) * (b.val / 2147483648)))), .long (sd_L (sd_N ((((a.val / 2147483648) * (b.val % 2147483648)) + ((a.val % 2147483648) * (b.val / 2147483648))) / 1073741824)))]) (rest := []) ⟨hx, hb, hml, hown, hts⟩ (k_X5_plus l (sd_N ((2 * (a.val / 2147483648)) * (b.val / 2147483648))) (sd_N ((((a.val / 2147483648) * (b.val % 2147483648)) + ((a.val % 2147483648) * (b.val / 2147483648))) / 1073741824))) (sd_cwS hts wd_X5_plus wn_X5 wm_X5_65 wi_X5_plus nq_X5_plus rfl rfl ⟨Nat.le_of_ble_eq_true rfl, Nat.le_of_ble_eq_true rfl⟩) sd_preN rfl rfl hl.1 rfl (lv_room (Nat.le_of_ble_eq_true rfl)) dX5_times_56 ⟨Nat.zero_le _, Nat.zero_le _⟩) (fun r2 hr2 => ?_)
  subst hr2
  refine lv_lstore (lv' := [(14, .long (sd_L ((sd_N ((2 * (a.val / 2147483648)) * (b.val / 2147483648))) + (sd_N ((((a.val / 2147483648) * (b.val % 2147483648)) + ((a.val % 2147483648) * (b.val / 2147483648))) / 1073741824))))), (12, .long (lN (((a.val / 2147483648) * (b.val % 2147483648)) + ((a.val % 2147483648) * (b.val / 2147483648))))), (10, .long (lN (b.val / 2147483648))), (8, .long (lN (b.val % 2147483648))), (6, .long (lN (a.val / 2147483648))), (4, .long (lN (a.val % 2147483648))), (0, .long (lN a.val)), (2, .long (lN b.val))]) hx hb dX5_times_59 hl (by decide) rfl (fun ls hl => ?_)
  refine lv_lload hx hb dX5_times_61 (lv_at hl 0 rfl) ?_
  refine lv_lload hx hb dX5_times_63 (lv_at hl 1 rfl) ?_
  refine lv_ldc2 (v := lN 1073741823) hx hb hown (hts _ (mm wl_X5_68)) dX5_times_65 ?_
  refine sd_land hx hb (k := 30) (by omega) (by decide) (by decide) (v := (((a.val / 2147483648) * (b.val % 2147483648)) + ((a.val % 2147483648) * (b.val / 2147483648))) % 1073741824) rfl dX5_times_68 ?_
  refine lv_bipush (v := nI 31) hx hb dX5_times_69 (by decide) ?_
  refine sd_lshl hx hb (by decide) (v := ((((a.val / 2147483648) * (b.val % 2147483648)) + ((a.val % 2147483648) * (b.val / 2147483648))) % 1073741824) * 2147483648) rfl dX5_times_71 ?_
  refine sd_rl (va_runS (As := [.long (lN (((((a.val / 2147483648) * (b.val % 2147483648)) + ((a.val % 2147483648) * (b.val / 2147483648))) % 1073741824) * 2147483648))]) (rest := [.long (sd_L ((sd_N ((2 * (a.val / 2147483648)) * (b.val / 2147483648))) + (sd_N ((((a.val / 2147483648) * (b.val % 2147483648)) + ((a.val % 2147483648) * (b.val / 2147483648))) / 1073741824))))]) ⟨hx, hb, hml, hown, hts⟩ (k_X5_reduced l (((((a.val / 2147483648) * (b.val % 2147483648)) + ((a.val % 2147483648) * (b.val / 2147483648))) % 1073741824) * 2147483648) (by omega)) (sd_cwS hts wd_X5_reduced wn_X5 wm_X5_57 wi_X5_reduced nq_X5_reduced rfl rfl ⟨Nat.le_of_ble_eq_true rfl, Nat.le_of_ble_eq_true rfl⟩) sd_preN rfl rfl hl.1 rfl (lv_room (Nat.le_of_ble_eq_true rfl)) dX5_times_72 ⟨Nat.zero_le _, Nat.zero_le _⟩) (fun r3 hr3 => ?_)
  subst hr3
  refine sd_rl (va_runS (As := [.long (sd_L ((sd_N ((2 * (a.val / 2147483648)) * (b.val / 2147483648))) + (sd_N ((((a.val / 2147483648) * (b.val % 2147483648)) + ((a.val % 2147483648) * (b.val / 2147483648))) / 1073741824)))), .long (sd_L (sd_N (((((a.val / 2147483648) * (b.val % 2147483648)) + ((a.val % 2147483648) * (b.val / 2147483648))) % 1073741824) * 2147483648)))]) (rest := []) ⟨hx, hb, hml, hown, hts⟩ (k_X5_plus l ((sd_N ((2 * (a.val / 2147483648)) * (b.val / 2147483648))) + (sd_N ((((a.val / 2147483648) * (b.val % 2147483648)) + ((a.val % 2147483648) * (b.val / 2147483648))) / 1073741824))) (sd_N (((((a.val / 2147483648) * (b.val % 2147483648)) + ((a.val % 2147483648) * (b.val / 2147483648))) % 1073741824) * 2147483648))) (sd_cwS hts wd_X5_plus wn_X5 wm_X5_65 wi_X5_plus nq_X5_plus rfl rfl ⟨Nat.le_of_ble_eq_true rfl, Nat.le_of_ble_eq_true rfl⟩) sd_preN rfl rfl hl.1 rfl (lv_room (Nat.le_of_ble_eq_true rfl)) dX5_times_75 ⟨Nat.zero_le _, Nat.zero_le _⟩) (fun r4 hr4 => ?_)
  subst hr4
  refine lv_lstore (lv' := [(14, .long (sd_L (((sd_N ((2 * (a.val / 2147483648)) * (b.val / 2147483648))) + (sd_N ((((a.val / 2147483648) * (b.val % 2147483648)) + ((a.val % 2147483648) * (b.val / 2147483648))) / 1073741824))) + (sd_N (((((a.val / 2147483648) * (b.val % 2147483648)) + ((a.val % 2147483648) * (b.val / 2147483648))) % 1073741824) * 2147483648))))), (12, .long (lN (((a.val / 2147483648) * (b.val % 2147483648)) + ((a.val % 2147483648) * (b.val / 2147483648))))), (10, .long (lN (b.val / 2147483648))), (8, .long (lN (b.val % 2147483648))), (6, .long (lN (a.val / 2147483648))), (4, .long (lN (a.val % 2147483648))), (0, .long (lN a.val)), (2, .long (lN b.val))]) hx hb dX5_times_78 hl (by decide) rfl (fun ls hl => ?_)
  refine lv_lload hx hb dX5_times_80 (lv_at hl 0 rfl) ?_
  refine lv_lload hx hb dX5_times_82 (lv_at hl 5 rfl) ?_
  refine lv_lload hx hb dX5_times_84 (lv_at hl 3 rfl) ?_
  refine sd_lmul hx hb dX5_times_86 ?_
  refine sd_rl (va_runS (As := [.long (lN ((a.val % 2147483648) * (b.val % 2147483648)))]) (rest := [.long (sd_L (((sd_N ((2 * (a.val / 2147483648)) * (b.val / 2147483648))) + (sd_N ((((a.val / 2147483648) * (b.val % 2147483648)) + ((a.val % 2147483648) * (b.val / 2147483648))) / 1073741824))) + (sd_N (((((a.val / 2147483648) * (b.val % 2147483648)) + ((a.val % 2147483648) * (b.val / 2147483648))) % 1073741824) * 2147483648))))]) ⟨hx, hb, hml, hown, hts⟩ (k_X5_reduced l ((a.val % 2147483648) * (b.val % 2147483648)) (by omega)) (sd_cwS hts wd_X5_reduced wn_X5 wm_X5_57 wi_X5_reduced nq_X5_reduced rfl rfl ⟨Nat.le_of_ble_eq_true rfl, Nat.le_of_ble_eq_true rfl⟩) sd_preN rfl rfl hl.1 rfl (lv_room (Nat.le_of_ble_eq_true rfl)) dX5_times_87 ⟨Nat.zero_le _, Nat.zero_le _⟩) (fun r5 hr5 => ?_)
  subst hr5
  refine sd_rl (va_runS (As := [.long (sd_L (((sd_N ((2 * (a.val / 2147483648)) * (b.val / 2147483648))) + (sd_N ((((a.val / 2147483648) * (b.val % 2147483648)) + ((a.val % 2147483648) * (b.val / 2147483648))) / 1073741824))) + (sd_N (((((a.val / 2147483648) * (b.val % 2147483648)) + ((a.val % 2147483648) * (b.val / 2147483648))) % 1073741824) * 2147483648)))), .long (sd_L (sd_N ((a.val % 2147483648) * (b.val % 2147483648))))]) (rest := []) ⟨hx, hb, hml, hown, hts⟩ (k_X5_plus l (((sd_N ((2 * (a.val / 2147483648)) * (b.val / 2147483648))) + (sd_N ((((a.val / 2147483648) * (b.val % 2147483648)) + ((a.val % 2147483648) * (b.val / 2147483648))) / 1073741824))) + (sd_N (((((a.val / 2147483648) * (b.val % 2147483648)) + ((a.val % 2147483648) * (b.val / 2147483648))) % 1073741824) * 2147483648))) (sd_N ((a.val % 2147483648) * (b.val % 2147483648)))) (sd_cwS hts wd_X5_plus wn_X5 wm_X5_65 wi_X5_plus nq_X5_plus rfl rfl ⟨Nat.le_of_ble_eq_true rfl, Nat.le_of_ble_eq_true rfl⟩) sd_preN rfl rfl hl.1 rfl (lv_room (Nat.le_of_ble_eq_true rfl)) dX5_times_90 ⟨Nat.zero_le _, Nat.zero_le _⟩) (fun r6 hr6 => ?_)
  subst hr6
  exact W.lret hx hb hr (fun T9 hT9 hW => ⟨_, rfl, by rw [sd_N_add, sd_N_add, sd_N_add, ← sd_N_times a b]; exact congrArg sd_L (sd_N_mod ((congrArg (fun z => z % 2305843009213693951) (by omega)).trans hTT.1)), hT9⟩) (fun q h => nomatch h) dX5_times_93

theorem sd_pow_sq (b : FP) : ∀ n, sd_pow (b * b) n = sd_pow b (2 * n) := by
  intro n
  induction n with
  | zero => rfl
  | succ n ih =>
    rw [sd_pow_s, ih, show 2 * (n + 1) = 2 * n + 1 + 1 by omega, sd_pow_s, sd_pow_s]
    grind
theorem sd_lshr1 {a : Nat} (h : a < 2 ^ 62) : lN a >>> ((nI 1).toInt64 &&& 63) = lN (a / 2) := by
  rw [pf_shr (d := 1) (by decide +kernel) h, Nat.pow_one]

set_option maxHeartbeats 1000000 in
set_option maxRecDepth 100000 in
theorem k_X5_power (l : Launch)  (x : FP) (n : Nat) (hn : n < 2 ^ 62) : Met l yX5_power (Cond.code yX5_power cX5_power 10 (some .long) :: bg) { frames := 3, cells := 0, slots := 0, locals := 89 } (sd_N0 [.long (sd_L x), .long (lN n)]) (vp_Sl (fun r => r = sd_L (sd_pow x n))) 0 0 (fun _ => False) := by
  refine Met.ofW (cc := cX5_power) (maxL := 10) (ret := some .long) (by decide) rfl ?_
  intro p e s m args below meth c s₁ B hml hv
  obtain ⟨rfl, -⟩ := hv
  have hx := B.exec
  have hb := B.bytes
  have hr := B.returns
  have hts := atoms_spec (ws := Cond.code yX5_power cX5_power 10 (some .long) :: bg) B.pre
  have hown : s.vm.findClass RX5 = some m.cls := findClass_of_methodNamed B.named
  have hlocks := B.notSynchronized
  have hl := lv_entry ([.long (sd_L x), .long (lN n)]) (n := 10) (Nat.le_of_ble_eq_true rfl)
  rw [lg_entry_eq]
  generalize (lg_sl ([.long (sd_L x), .long (lN n)]) ++ List.replicate (10 - (lg_sl ([.long (sd_L x), .long (lN n)])).length) Slot.unset).toArray = ls at hl ⊢
  replace hl : lv_has ls 10 [(0, .long (sd_L x)), (2, .long (lN n))] := hl
  refine lv_lconst (v := 1) hx hb dX5_power_0 (by decide) ?_
  refine sd_tol (y := sd_L 1) sd_L_1.symm ?_
  refine lv_lstore (lv' := [(4, .long (sd_L 1)), (0, .long (sd_L x)), (2, .long (lN n))]) hx hb dX5_power_1 hl (by decide) rfl (fun ls hl => ?_)
  refine lv_lload_n hx hb dX5_power_3 rfl (lv_at hl 1 rfl) ?_
  refine lv_lstore (lv' := [(6, .long (sd_L x)), (4, .long (sd_L 1)), (0, .long (sd_L x)), (2, .long (lN n))]) hx hb dX5_power_4 hl (by decide) rfl (fun ls hl => ?_)
  refine lv_lload_n hx hb dX5_power_6 rfl (lv_at hl 3 rfl) ?_
  refine lv_lstore (lv' := [(8, .long (lN n)), (6, .long (sd_L x)), (4, .long (sd_L 1)), (0, .long (sd_L x)), (2, .long (lN n))]) hx hb dX5_power_7 hl (by decide) rfl (fun ls hl => ?_)
  obtain ⟨e1, b, v, he, hI, hl9⟩ : ∃ (e1 : Nat) (b : FP) (v : FP), (e1 ≤ n) ∧ (v * sd_pow b e1 = sd_pow x n) ∧ lv_has ls 10 [(8, .long (lN e1)), (6, .long (sd_L b)), (4, .long (sd_L v))] := ⟨n, x, 1, Nat.le_refl n, by grind, (lv_sub hl [0, 1, 2] rfl)⟩
  replace hl := hl9
  clear hl9
  obtain ⟨k9, hk9⟩ : ∃ k9 : Nat, e1 < k9 := ⟨n + 1, by omega⟩
  induction k9 generalizing e1 b v ls with
  | zero => exact absurd hk9 (by omega)
  | succ k9 ih =>
    refine lv_lload hx hb dX5_power_9 (lv_at hl 0 rfl) ?_
    refine lv_lconst (v := 0) hx hb dX5_power_11 (by decide) ?_
    refine W.lcmp hx hb dX5_power_12 ?_
    refine lv_if_le (tgt := 52) hx hb dX5_power_13 (by decide) (fun c1 => ?_) (fun c1 => ?_)
    · have c1 : (lN e1) ≤ 0 := (lg_cmp_le _ _).mp c1
      have e0 : e1 = 0 := by have z := (pk_lLE (a := e1) (b := 0) (by omega) (by decide)).mp c1; omega
      subst e0
      refine lv_lload hx hb dX5_power_52 (lv_at hl 2 rfl) ?_
      exact W.lret hx hb hr (fun T9 hT9 hW => ⟨_, rfl, by rw [← hI, sd_pow_0]; exact congrArg sd_L (by grind), hT9⟩) (fun q h => nomatch h) dX5_power_54
    · have c1 : ¬ (lN e1) ≤ 0 := fun q => c1 ((lg_cmp_le _ _).mpr q)
      have e0 : e1 ≠ 0 := fun z => c1 (by rw [z]; exact Int64.le_refl _)
      refine lv_lload hx hb dX5_power_16 (lv_at hl 0 rfl) ?_
      refine lv_lconst (v := 1) hx hb dX5_power_18 (by decide) ?_
      refine sd_land hx hb (k := 1) (n := e1) (M := 1) (by omega) (by decide) rfl (v := e1 % 2) rfl dX5_power_19 ?_
      refine lv_lconst (v := 1) hx hb dX5_power_20 (by decide) ?_
      refine W.lcmp hx hb dX5_power_21 ?_
      refine lv_if_ne (tgt := 34) hx hb dX5_power_22 (by decide) (fun c2 => ?_) (fun c2 => ?_)
      · have c2 : ¬ (lN (e1 % 2)) = 1 := fun q => c2 ((lg_cmp_eq _ _).mpr q)
        have o1 : e1 % 2 = 0 := by
          rcases Nat.mod_two_eq_zero_or_one e1 with z | z
          · exact z
          · exact absurd (by rw [z]; rfl) c2
        refine lv_lload hx hb dX5_power_34 (lv_at hl 1 rfl) ?_
        refine lv_lload hx hb dX5_power_36 (lv_at hl 1 rfl) ?_
        refine sd_rl (va_runS (As := [.long (sd_L b), .long (sd_L b)]) (rest := []) ⟨hx, hb, hml, hown, hts⟩ (k_X5_times l b b) (sd_cwS hts wd_X5_times wn_X5 wm_X5_70 wi_X5_times nq_X5_times rfl rfl ⟨Nat.le_of_ble_eq_true rfl, Nat.le_of_ble_eq_true rfl⟩) sd_preN rfl rfl hl.1 rfl (lv_room (Nat.le_of_ble_eq_true rfl)) dX5_power_38 ⟨Nat.zero_le _, Nat.zero_le _⟩) (fun r1 hr1 => ?_)
        subst hr1
        refine lv_lstore (lv' := [(6, .long (sd_L (b * b))), (8, .long (lN e1)), (4, .long (sd_L v))]) hx hb dX5_power_41 hl (by decide) rfl (fun ls hl => ?_)
        refine lv_lload hx hb dX5_power_43 (lv_at hl 1 rfl) ?_
        refine lv_iconst (v := nI 1) hx hb dX5_power_45 (by decide) ?_
        refine lv_lshr (v := lN (e1 / 2)) hx hb dX5_power_46 (sd_lshr1 (by omega)) ?_
        refine lv_lstore (lv' := [(8, .long (lN (e1 / 2))), (6, .long (sd_L (b * b))), (4, .long (sd_L v))]) hx hb dX5_power_47 hl (by decide) rfl (fun ls hl => ?_)
        refine lv_goto (tgt := 9) hx hb dX5_power_49 (by decide) ?_
        exact ih (e1 := e1 / 2) (b := b * b) (v := v) (he := by omega) (hI := by rw [sd_pow_sq, show 2 * (e1 / 2) = e1 by omega]; exact hI) (ls := ls) (hl := (lv_sub hl [0, 1, 2] rfl)) (hk9 := by omega)
      · have c2 : (lN (e1 % 2)) = 1 := (lg_cmp_eq _ _).mp c2
        have o1 : e1 % 2 = 1 := (pk_lEQ (a := e1 % 2) (b := 1) (by omega) (by decide)).mp c2
        refine lv_lload hx hb dX5_power_25 (lv_at hl 2 rfl) ?_
        refine lv_lload hx hb dX5_power_27 (lv_at hl 1 rfl) ?_
        refine sd_rl (va_runS (As := [.long (sd_L v), .long (sd_L b)]) (rest := []) ⟨hx, hb, hml, hown, hts⟩ (k_X5_times l v b) (sd_cwS hts wd_X5_times wn_X5 wm_X5_70 wi_X5_times nq_X5_times rfl rfl ⟨Nat.le_of_ble_eq_true rfl, Nat.le_of_ble_eq_true rfl⟩) sd_preN rfl rfl hl.1 rfl (lv_room (Nat.le_of_ble_eq_true rfl)) dX5_power_29 ⟨Nat.zero_le _, Nat.zero_le _⟩) (fun r2 hr2 => ?_)
        subst hr2
        refine lv_lstore (lv' := [(4, .long (sd_L (v * b))), (8, .long (lN e1)), (6, .long (sd_L b))]) hx hb dX5_power_32 hl (by decide) rfl (fun ls hl => ?_)
        refine lv_lload hx hb dX5_power_34 (lv_at hl 2 rfl) ?_
        refine lv_lload hx hb dX5_power_36 (lv_at hl 2 rfl) ?_
        refine sd_rl (va_runS (As := [.long (sd_L b), .long (sd_L b)]) (rest := []) ⟨hx, hb, hml, hown, hts⟩ (k_X5_times l b b) (sd_cwS hts wd_X5_times wn_X5 wm_X5_70 wi_X5_times nq_X5_times rfl rfl ⟨Nat.le_of_ble_eq_true rfl, Nat.le_of_ble_eq_true rfl⟩) sd_preN rfl rfl hl.1 rfl (lv_room (Nat.le_of_ble_eq_true rfl)) dX5_power_38 ⟨Nat.zero_le _, Nat.zero_le _⟩) (fun r3 hr3 => ?_)
        subst hr3
        refine lv_lstore (lv' := [(6, .long (sd_L (b * b))), (4, .long (sd_L (v * b))), (8, .long (lN e1))]) hx hb dX5_power_41 hl (by decide) rfl (fun ls hl => ?_)
        refine lv_lload hx hb dX5_power_43 (lv_at hl 2 rfl) ?_
        refine lv_iconst (v := nI 1) hx hb dX5_power_45 (by decide) ?_
        refine lv_lshr (v := lN (e1 / 2)) hx hb dX5_power_46 (sd_lshr1 (by omega)) ?_
        refine lv_lstore (lv' := [(8, .long (lN (e1 / 2))), (6, .long (sd_L (b * b))), (4, .long (sd_L (v * b)))]) hx hb dX5_power_47 hl (by decide) rfl (fun ls hl => ?_)
        refine lv_goto (tgt := 9) hx hb dX5_power_49 (by decide) ?_
        exact ih (e1 := e1 / 2) (b := b * b) (v := v * b) (he := by omega) (hI := by rw [sd_pow_sq, ← hI, show e1 = 2 * (e1 / 2) + 1 by omega, sd_pow_s, show (2 * (e1 / 2) + 1) / 2 = e1 / 2 by omega]; grind) (ls := ls) (hl := (lv_sub hl [0, 1, 2] rfl)) (hk9 := by omega)

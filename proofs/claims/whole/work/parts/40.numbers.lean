set_option maxHeartbeats 4000000 in
set_option maxRecDepth 100000 in
/-- Math.floorMod of a long and P -/
theorem k_J9_floorMod (l : Launch)  (x : Int64)  : Met l yJ9_floorMod (Cond.code yJ9_floorMod cJ9_floorMod 6 (some .long) :: bg) { frames := 0, cells := 0, slots := 0, locals := 0 } (sd_N0 [.long x, .long 2305843009213693951]) (vp_Sl (fun r => r = sd_L (sd_of x))) 0 0 (fun _ => False) := by
  refine va_MetF (cc := cJ9_floorMod) (maxL := 6) (ret := some .long) (by decide +kernel) rfl ?_
  intro p e s m args below meth c s₁ B hml hv
  obtain ⟨rfl, -⟩ := hv
  have hx := B.exec
  have hb := B.bytes
  have hr := B.returns
  have hts := atoms_spec (ws := Cond.code yJ9_floorMod cJ9_floorMod 6 (some .long) :: bg) B.pre
  have hown : s.vm.findClass RJ9 = some m.cls := findClass_of_methodNamed B.named
  have hlocks := B.notSynchronized
  have hl := lv_entry ([.long x, .long 2305843009213693951]) (n := 6) (Nat.le_of_ble_eq_true rfl)
  rw [lg_entry_eq]
  generalize (lg_sl ([.long x, .long 2305843009213693951]) ++ List.replicate (6 - (lg_sl ([.long x, .long 2305843009213693951])).length) Slot.unset).toArray = ls at hl ⊢
  replace hl : lv_has ls 6 [(0, .long x), (2, .long 2305843009213693951)] := hl
  refine lv_lload_n hx hb dJ9_floorMod_0 rfl (lv_at hl 0 rfl) ?_
  refine lv_lload_n hx hb dJ9_floorMod_1 rfl (lv_at hl 1 rfl) ?_
  refine lv_lrem hx hb dJ9_floorMod_2 (by decide) ?_
  refine lv_lstore (lv' := [(4, .long (x - x / 2305843009213693951 * 2305843009213693951)), (0, .long x), (2, .long 2305843009213693951)]) hx hb dJ9_floorMod_3 hl (by decide) rfl (fun ls hl => ?_)
  refine lv_lload_n hx hb dJ9_floorMod_5 rfl (lv_at hl 1 rfl) ?_
  refine lv_lload_n hx hb dJ9_floorMod_6 rfl (lv_at hl 2 rfl) ?_
  refine lv_lxor hx hb dJ9_floorMod_7 ?_
  refine lv_lconst (v := 0) hx hb dJ9_floorMod_8 (by decide) ?_
  refine W.lcmp hx hb dJ9_floorMod_9 ?_
  refine lv_if_ge (tgt := 25) hx hb dJ9_floorMod_10 (by decide) (fun c1 => ?_) (fun c1 => ?_)
  · have c1 : 0 ≤ (x ^^^ 2305843009213693951) := (lg_cmp_ge _ _).mp c1
    refine lv_lload hx hb dJ9_floorMod_25 (lv_at hl 0 rfl) ?_
    exact W.lret hx hb hr (fun t ht hW => ⟨_, rfl, sd_fm_0 (fun q => absurd c1 (lg_lt_not_le ((sd_xorneg x).mpr q))), ht⟩) (fun q h => nomatch h) dJ9_floorMod_27
  · have c1 : ¬ 0 ≤ (x ^^^ 2305843009213693951) := fun q => c1 ((lg_cmp_ge _ _).mpr q)
    refine lv_lload hx hb dJ9_floorMod_13 (lv_at hl 0 rfl) ?_
    refine lv_lconst (v := 0) hx hb dJ9_floorMod_15 (by decide) ?_
    refine W.lcmp hx hb dJ9_floorMod_16 ?_
    refine lv_if_eq (tgt := 25) hx hb dJ9_floorMod_17 (by decide) (fun c2 => ?_) (fun c2 => ?_)
    · have c2 : (x - x / 2305843009213693951 * 2305843009213693951) = 0 := (lg_cmp_eq _ _).mp c2
      refine lv_lload hx hb dJ9_floorMod_25 (lv_at hl 0 rfl) ?_
      exact W.lret hx hb hr (fun t ht hW => ⟨_, rfl, sd_fm_z c2, ht⟩) (fun q h => nomatch h) dJ9_floorMod_27
    · have c2 : ¬ (x - x / 2305843009213693951 * 2305843009213693951) = 0 := fun q => c2 ((lg_cmp_eq _ _).mpr q)
      refine lv_lload hx hb dJ9_floorMod_20 (lv_at hl 0 rfl) ?_
      refine lv_lload_n hx hb dJ9_floorMod_22 rfl (lv_at hl 2 rfl) ?_
      refine lv_ladd hx hb dJ9_floorMod_23 ?_
      exact W.lret hx hb hr (fun t ht hW => ⟨_, rfl, sd_fm_n ((sd_xorneg x).mp (lg_tri _ _ |>.elim id (fun q => absurd (q.elim (fun z => by rw [z]; exact Int64.le_refl _) (fun z => Int64.le_of_lt z)) c1))) c2, ht⟩) (fun q h => nomatch h) dJ9_floorMod_24

set_option maxHeartbeats 4000000 in
set_option maxRecDepth 100000 in
/-- a long from outside -/
theorem k_X2_of (l : Launch)  (x : Int64)  : Met l yX2_of (Cond.code yX2_of cX2_of 2 (some .long) :: bg) { frames := 1, cells := 0, slots := 0, locals := 25 } (sd_N0 [.long x]) (vp_Sl (fun r => r = sd_L (sd_of x))) 0 0 (fun _ => False) := by
  refine Met.ofW (cc := cX2_of) (maxL := 2) (ret := some .long) (by decide) rfl ?_
  intro p e s m args below meth c s₁ B hml hv
  obtain ⟨rfl, -⟩ := hv
  have hx := B.exec
  have hb := B.bytes
  have hr := B.returns
  have hts := atoms_spec (ws := Cond.code yX2_of cX2_of 2 (some .long) :: bg) B.pre
  have hown : s.vm.findClass RX2 = some m.cls := findClass_of_methodNamed B.named
  have hlocks := B.notSynchronized
  have hl := lv_entry ([.long x]) (n := 2) (Nat.le_of_ble_eq_true rfl)
  rw [lg_entry_eq]
  generalize (lg_sl ([.long x]) ++ List.replicate (2 - (lg_sl ([.long x])).length) Slot.unset).toArray = ls at hl ⊢
  replace hl : lv_has ls 2 [(0, .long x)] := hl
  refine lv_lload_n hx hb dX2_of_0 rfl (lv_at hl 0 rfl) ?_
  refine lv_ldc2 (v := 2305843009213693951) hx hb hown (hts _ (mm wl_X2_11)) dX2_of_1 ?_
  refine sd_rl (va_runS (As := [.long x, .long 2305843009213693951]) (rest := []) ⟨hx, hb, hml, hown, hts⟩ (k_J9_floorMod l x) (sd_cwS hts wd_J9_floorMod wn_J9 wm_X2_13 wi_J9_floorMod nq_J9_floorMod rfl rfl ⟨Nat.le_of_ble_eq_true rfl, Nat.le_of_ble_eq_true rfl⟩) sd_preN rfl rfl hl.1 rfl (lv_room (Nat.le_of_ble_eq_true rfl)) dX2_of_4 ⟨Nat.zero_le _, Nat.zero_le _⟩) (fun r1 hr1 => ?_)
  subst hr1
  exact W.lret hx hb hr (fun t ht hW => ⟨_, rfl, rfl, ht⟩) (fun q h => nomatch h) dX2_of_7

set_option maxHeartbeats 4000000 in
set_option maxRecDepth 100000 in
theorem k_X2_plus (l : Launch)  (a b : FP)  : Met l yX2_plus (Cond.code yX2_plus cX2_plus 6 (some .long) :: bg) { frames := 0, cells := 0, slots := 0, locals := 0 } (sd_N0 [.long (sd_L a), .long (sd_L b)]) (vp_Sl (fun r => r = sd_L (a + b))) 0 0 (fun _ => False) := by
  refine Met.ofW (cc := cX2_plus) (maxL := 6) (ret := some .long) (by decide) rfl ?_
  intro p e s m args below meth c s₁ B hml hv
  obtain ⟨rfl, -⟩ := hv
  have hx := B.exec
  have hb := B.bytes
  have hr := B.returns
  have hts := atoms_spec (ws := Cond.code yX2_plus cX2_plus 6 (some .long) :: bg) B.pre
  have hown : s.vm.findClass RX2 = some m.cls := findClass_of_methodNamed B.named
  have hlocks := B.notSynchronized
  have hl := lv_entry ([.long (sd_L a), .long (sd_L b)]) (n := 6) (Nat.le_of_ble_eq_true rfl)
  rw [lg_entry_eq]
  generalize (lg_sl ([.long (sd_L a), .long (sd_L b)]) ++ List.replicate (6 - (lg_sl ([.long (sd_L a), .long (sd_L b)])).length) Slot.unset).toArray = ls at hl ⊢
  replace hl : lv_has ls 6 [(0, .long (sd_L a)), (2, .long (sd_L b))] := hl
  refine lv_lload_n hx hb dX2_plus_0 rfl (lv_at hl 0 rfl) ?_
  refine lv_lload_n hx hb dX2_plus_1 rfl (lv_at hl 1 rfl) ?_
  refine lv_ladd hx hb dX2_plus_2 ?_
  refine lv_lstore (lv' := [(4, .long ((sd_L a) + (sd_L b))), (0, .long (sd_L a)), (2, .long (sd_L b))]) hx hb dX2_plus_3 hl (by decide) rfl (fun ls hl => ?_)
  refine lv_lload hx hb dX2_plus_5 (lv_at hl 0 rfl) ?_
  refine lv_ldc2 (v := 2305843009213693951) hx hb hown (hts _ (mm wl_X2_11)) dX2_plus_7 ?_
  refine W.lcmp hx hb dX2_plus_10 ?_
  refine lv_if_lt (tgt := 23) hx hb dX2_plus_11 (by decide) (fun c1 => ?_) (fun c1 => ?_)
  · have c1 : ((sd_L a) + (sd_L b)) < 2305843009213693951 := (lg_cmp_lt _ _).mp c1
    refine lv_lload hx hb dX2_plus_23 (lv_at hl 0 rfl) ?_
    exact W.lret hx hb hr (fun t ht hW => ⟨_, rfl, sd_plus_lt (lg_lt_not_le c1), ht⟩) (fun q h => nomatch h) dX2_plus_25
  · have c1 : ¬ ((sd_L a) + (sd_L b)) < 2305843009213693951 := fun q => c1 ((lg_cmp_lt _ _).mpr q)
    refine lv_lload hx hb dX2_plus_14 (lv_at hl 0 rfl) ?_
    refine lv_ldc2 (v := 2305843009213693951) hx hb hown (hts _ (mm wl_X2_11)) dX2_plus_16 ?_
    refine lv_lsub hx hb dX2_plus_19 ?_
    refine lv_goto (tgt := 25) hx hb dX2_plus_20 (by decide) ?_
    exact W.lret hx hb hr (fun t ht hW => ⟨_, rfl, sd_plus_ge ((lg_tri _ _).elim (fun q => absurd q c1) (fun q => q.elim (fun z => by rw [z]; exact Int64.le_refl _) (fun z => Int64.le_of_lt z))), ht⟩) (fun q h => nomatch h) dX2_plus_25

set_option maxHeartbeats 4000000 in
set_option maxRecDepth 100000 in
theorem k_X2_minus (l : Launch)  (a b : FP)  : Met l yX2_minus (Cond.code yX2_minus cX2_minus 4 (some .long) :: bg) { frames := 0, cells := 0, slots := 0, locals := 0 } (sd_N0 [.long (sd_L a), .long (sd_L b)]) (vp_Sl (fun r => r = sd_L (a - b))) 0 0 (fun _ => False) := by
  refine Met.ofW (cc := cX2_minus) (maxL := 4) (ret := some .long) (by decide) rfl ?_
  intro p e s m args below meth c s₁ B hml hv
  obtain ⟨rfl, -⟩ := hv
  have hx := B.exec
  have hb := B.bytes
  have hr := B.returns
  have hts := atoms_spec (ws := Cond.code yX2_minus cX2_minus 4 (some .long) :: bg) B.pre
  have hown : s.vm.findClass RX2 = some m.cls := findClass_of_methodNamed B.named
  have hlocks := B.notSynchronized
  have hl := lv_entry ([.long (sd_L a), .long (sd_L b)]) (n := 4) (Nat.le_of_ble_eq_true rfl)
  rw [lg_entry_eq]
  generalize (lg_sl ([.long (sd_L a), .long (sd_L b)]) ++ List.replicate (4 - (lg_sl ([.long (sd_L a), .long (sd_L b)])).length) Slot.unset).toArray = ls at hl ⊢
  replace hl : lv_has ls 4 [(0, .long (sd_L a)), (2, .long (sd_L b))] := hl
  refine lv_lload_n hx hb dX2_minus_0 rfl (lv_at hl 0 rfl) ?_
  refine lv_lload_n hx hb dX2_minus_1 rfl (lv_at hl 1 rfl) ?_
  refine W.lcmp hx hb dX2_minus_2 ?_
  refine lv_if_lt (tgt := 12) hx hb dX2_minus_3 (by decide) (fun c1 => ?_) (fun c1 => ?_)
  · have c1 : (sd_L a) < (sd_L b) := (lg_cmp_lt _ _).mp c1
    refine lv_lload_n hx hb dX2_minus_12 rfl (lv_at hl 0 rfl) ?_
    refine lv_lload_n hx hb dX2_minus_13 rfl (lv_at hl 1 rfl) ?_
    refine lv_lsub hx hb dX2_minus_14 ?_
    refine lv_ldc2 (v := 2305843009213693951) hx hb hown (hts _ (mm wl_X2_11)) dX2_minus_15 ?_
    refine lv_ladd hx hb dX2_minus_18 ?_
    exact W.lret hx hb hr (fun t ht hW => ⟨_, rfl, sd_minus_lt (lg_lt_not_le c1), ht⟩) (fun q h => nomatch h) dX2_minus_19
  · have c1 : ¬ (sd_L a) < (sd_L b) := fun q => c1 ((lg_cmp_lt _ _).mpr q)
    refine lv_lload_n hx hb dX2_minus_6 rfl (lv_at hl 0 rfl) ?_
    refine lv_lload_n hx hb dX2_minus_7 rfl (lv_at hl 1 rfl) ?_
    refine lv_lsub hx hb dX2_minus_8 ?_
    refine lv_goto (tgt := 19) hx hb dX2_minus_9 (by decide) ?_
    exact W.lret hx hb hr (fun t ht hW => ⟨_, rfl, sd_minus_ge ((lg_tri _ _).elim (fun q => absurd q c1) (fun q => q.elim (fun z => by rw [z]; exact Int64.le_refl _) (fun z => Int64.le_of_lt z))), ht⟩) (fun q h => nomatch h) dX2_minus_19

set_option maxHeartbeats 4000000 in
set_option maxRecDepth 100000 in
theorem k_X2_times (l : Launch)  (a b : FP)  : Met l yX2_times (Cond.code yX2_times cX2_times 16 (some .long) :: bg) { frames := 0, cells := 0, slots := 0, locals := 0 } (sd_N0 [.long (sd_L a), .long (sd_L b)]) (vp_Sl (fun r => r = sd_L (a * b))) 0 0 (fun _ => False) := by
  refine Met.ofW (cc := cX2_times) (maxL := 16) (ret := some .long) (by decide) rfl ?_
  intro p e s m args below meth c s₁ B hml hv
  obtain ⟨rfl, -⟩ := hv
  have hx := B.exec
  have hb := B.bytes
  have hr := B.returns
  have hts := atoms_spec (ws := Cond.code yX2_times cX2_times 16 (some .long) :: bg) B.pre
  have hown : s.vm.findClass RX2 = some m.cls := findClass_of_methodNamed B.named
  have hlocks := B.notSynchronized
  have hl := lv_entry ([.long (sd_L a), .long (sd_L b)]) (n := 16) (Nat.le_of_ble_eq_true rfl)
  rw [lg_entry_eq]
  generalize (lg_sl ([.long (sd_L a), .long (sd_L b)]) ++ List.replicate (16 - (lg_sl ([.long (sd_L a), .long (sd_L b)])).length) Slot.unset).toArray = ls at hl ⊢
  replace hl : lv_has ls 16 [(0, .long (sd_L a)), (2, .long (sd_L b))] := hl
  replace hl : lv_has ls 16 [(0, .long (lN a.val)), (2, .long (lN b.val))] := hl
  have ha := a.isLt
  have hb2 := b.isLt
  have hT9 := sd_times_nat ha hb2
  refine lv_lload_n hx hb dX2_times_0 rfl (lv_at hl 0 rfl) ?_
  refine lv_bipush (v := nI 31) hx hb dX2_times_1 (by decide) ?_
  refine sd_lushr hx hb (by omega) (by decide) (v := a.val / 2147483648) rfl dX2_times_3 ?_
  refine lv_lstore (lv' := [(4, .long (lN (a.val / 2147483648))), (0, .long (lN a.val)), (2, .long (lN b.val))]) hx hb dX2_times_4 hl (by decide) rfl (fun ls hl => ?_)
  refine lv_lload_n hx hb dX2_times_6 rfl (lv_at hl 1 rfl) ?_
  refine lv_ldc2 (v := lN 2147483647) hx hb hown (hts _ (mm wl_X2_19)) dX2_times_7 ?_
  refine sd_land hx hb (k := 31) (by omega) (by decide) (by decide) (v := a.val % 2147483648) rfl dX2_times_10 ?_
  refine lv_lstore (lv' := [(6, .long (lN (a.val % 2147483648))), (4, .long (lN (a.val / 2147483648))), (0, .long (lN a.val)), (2, .long (lN b.val))]) hx hb dX2_times_11 hl (by decide) rfl (fun ls hl => ?_)
  refine lv_lload_n hx hb dX2_times_13 rfl (lv_at hl 3 rfl) ?_
  refine lv_bipush (v := nI 31) hx hb dX2_times_14 (by decide) ?_
  refine sd_lushr hx hb (by omega) (by decide) (v := b.val / 2147483648) rfl dX2_times_16 ?_
  refine lv_lstore (lv' := [(8, .long (lN (b.val / 2147483648))), (6, .long (lN (a.val % 2147483648))), (4, .long (lN (a.val / 2147483648))), (0, .long (lN a.val)), (2, .long (lN b.val))]) hx hb dX2_times_17 hl (by decide) rfl (fun ls hl => ?_)
  refine lv_lload_n hx hb dX2_times_19 rfl (lv_at hl 4 rfl) ?_
  refine lv_ldc2 (v := lN 2147483647) hx hb hown (hts _ (mm wl_X2_19)) dX2_times_20 ?_
  refine sd_land hx hb (k := 31) (by omega) (by decide) (by decide) (v := b.val % 2147483648) rfl dX2_times_23 ?_
  refine lv_lstore (lv' := [(10, .long (lN (b.val % 2147483648))), (8, .long (lN (b.val / 2147483648))), (6, .long (lN (a.val % 2147483648))), (4, .long (lN (a.val / 2147483648))), (0, .long (lN a.val)), (2, .long (lN b.val))]) hx hb dX2_times_24 hl (by decide) rfl (fun ls hl => ?_)
  refine lv_lload hx hb dX2_times_26 (lv_at hl 3 rfl) ?_
  refine lv_lload hx hb dX2_times_28 (lv_at hl 0 rfl) ?_
  refine sd_lmul hx hb dX2_times_30 ?_
  refine lv_lload hx hb dX2_times_31 (lv_at hl 2 rfl) ?_
  refine lv_lload hx hb dX2_times_33 (lv_at hl 1 rfl) ?_
  refine sd_lmul hx hb dX2_times_35 ?_
  refine sd_ladd hx hb dX2_times_36 ?_
  refine lv_lstore (lv' := [(12, .long (lN (((a.val / 2147483648) * (b.val % 2147483648)) + ((a.val % 2147483648) * (b.val / 2147483648))))), (10, .long (lN (b.val % 2147483648))), (8, .long (lN (b.val / 2147483648))), (6, .long (lN (a.val % 2147483648))), (4, .long (lN (a.val / 2147483648))), (0, .long (lN a.val)), (2, .long (lN b.val))]) hx hb dX2_times_37 hl (by decide) rfl (fun ls hl => ?_)
  refine lv_lload hx hb dX2_times_39 (lv_at hl 0 rfl) ?_
  refine lv_bipush (v := nI 30) hx hb dX2_times_41 (by decide) ?_
  refine sd_lushr hx hb (by omega) (by decide) (v := (((a.val / 2147483648) * (b.val % 2147483648)) + ((a.val % 2147483648) * (b.val / 2147483648))) / 1073741824) rfl dX2_times_43 ?_
  refine lv_lload hx hb dX2_times_44 (lv_at hl 0 rfl) ?_
  refine lv_ldc2 (v := lN 1073741823) hx hb hown (hts _ (mm wl_X2_21)) dX2_times_46 ?_
  refine sd_land hx hb (k := 30) (by omega) (by decide) (by decide) (v := (((a.val / 2147483648) * (b.val % 2147483648)) + ((a.val % 2147483648) * (b.val / 2147483648))) % 1073741824) rfl dX2_times_49 ?_
  refine lv_bipush (v := nI 31) hx hb dX2_times_50 (by decide) ?_
  refine sd_lshl hx hb (by decide) (v := ((((a.val / 2147483648) * (b.val % 2147483648)) + ((a.val % 2147483648) * (b.val / 2147483648))) % 1073741824) * 2147483648) rfl dX2_times_52 ?_
  refine sd_ladd hx hb dX2_times_53 ?_
  refine lv_lstore (lv' := [(14, .long (lN (((((a.val / 2147483648) * (b.val % 2147483648)) + ((a.val % 2147483648) * (b.val / 2147483648))) / 1073741824) + (((((a.val / 2147483648) * (b.val % 2147483648)) + ((a.val % 2147483648) * (b.val / 2147483648))) % 1073741824) * 2147483648)))), (12, .long (lN (((a.val / 2147483648) * (b.val % 2147483648)) + ((a.val % 2147483648) * (b.val / 2147483648))))), (10, .long (lN (b.val % 2147483648))), (8, .long (lN (b.val / 2147483648))), (6, .long (lN (a.val % 2147483648))), (4, .long (lN (a.val / 2147483648))), (0, .long (lN a.val)), (2, .long (lN b.val))]) hx hb dX2_times_54 hl (by decide) rfl (fun ls hl => ?_)
  refine lv_ldc2 (v := lN 2) hx hb hown (hts _ (mm wl_X2_23)) dX2_times_56 ?_
  refine lv_lload hx hb dX2_times_59 (lv_at hl 5 rfl) ?_
  refine sd_lmul hx hb dX2_times_61 ?_
  refine lv_lload hx hb dX2_times_62 (lv_at hl 3 rfl) ?_
  refine sd_lmul hx hb dX2_times_64 ?_
  refine lv_lload hx hb dX2_times_65 (lv_at hl 0 rfl) ?_
  refine sd_ladd hx hb dX2_times_67 ?_
  refine lv_lload hx hb dX2_times_68 (lv_at hl 4 rfl) ?_
  refine lv_lload hx hb dX2_times_70 (lv_at hl 2 rfl) ?_
  refine sd_lmul hx hb dX2_times_72 ?_
  refine sd_ladd hx hb dX2_times_73 ?_
  refine lv_ldc2 (v := lN 2305843009213693951) hx hb hown (hts _ (mm wl_X2_11)) dX2_times_74 ?_
  refine sd_lrem hx hb (by omega) (by omega) (by omega) dX2_times_77 ?_
  exact W.lret hx hb hr (fun t ht hW => ⟨_, rfl, (congrArg lN hT9.1).trans (by unfold sd_L; rw [sd_mul_val]), ht⟩) (fun q h => nomatch h) dX2_times_78

theorem sd_inv_end {a : FP} {i r : Nat} {x y : Int} (h : sd_EI a.val i r 0 x y) : a * sd_of (Int64.ofInt x) = 1 := by
  obtain ⟨⟨k, hk⟩, h1, h2⟩ := sd_EI_end h
  apply Fin.ext
  rw [Fin.val_mul]
  show a.val * ((Int64.ofInt x).toInt % 2305843009213693951).toNat % 2305843009213693951 = 1
  rw [Int64.toInt_ofInt_of_le (by omega) (by omega)]
  have hn := Int.emod_nonneg x (show (2305843009213693951 : Int) ≠ 0 by decide)
  have hd := Int.mul_ediv_add_emod x 2305843009213693951
  have ht : (((x % 2305843009213693951).toNat : Nat) : Int) = x % 2305843009213693951 := Int.toNat_of_nonneg hn
  have e : ((a.val * (x % 2305843009213693951).toNat : Nat) : Int) = 1 + 2305843009213693951 * (k - (a.val : Int) * (x / 2305843009213693951)) := by
    rw [Int.natCast_mul, ht]
    generalize (x % 2305843009213693951) = w at hd ⊢
    generalize (x / 2305843009213693951) = q at hd ⊢
    generalize (a.val : Int) = b at hk ⊢
    grind
  have e2 : ((a.val * (x % 2305843009213693951).toNat : Nat) : Int) % 2305843009213693951 = 1 := by
    rw [e, Int.add_mul_emod_self_left]
    decide
  omega

set_option maxHeartbeats 4000000 in
set_option maxRecDepth 100000 in
theorem k_X2_inverse (l : Launch)  (a : FP) (ha : a ≠ 0) : Met l yX2_inverse (Cond.code yX2_inverse cX2_inverse 17 (some .long) :: bg) { frames := 2, cells := 0, slots := 0, locals := 46 } (sd_N0 [.long (sd_L a)]) (vp_Sl (fun r => ∃ b : FP, r = sd_L b ∧ a * b = 1)) 0 0 (fun _ => False) := by
  refine Met.ofW (cc := cX2_inverse) (maxL := 17) (ret := some .long) (by decide) rfl ?_
  intro p e s m args below meth c s₁ B hml hv
  obtain ⟨rfl, -⟩ := hv
  have hx := B.exec
  have hb := B.bytes
  have hr := B.returns
  have hts := atoms_spec (ws := Cond.code yX2_inverse cX2_inverse 17 (some .long) :: bg) B.pre
  have hown : s.vm.findClass RX2 = some m.cls := findClass_of_methodNamed B.named
  have hlocks := B.notSynchronized
  have hl := lv_entry ([.long (sd_L a)]) (n := 17) (Nat.le_of_ble_eq_true rfl)
  rw [lg_entry_eq]
  generalize (lg_sl ([.long (sd_L a)]) ++ List.replicate (17 - (lg_sl ([.long (sd_L a)])).length) Slot.unset).toArray = ls at hl ⊢
  replace hl : lv_has ls 17 [(0, .long (sd_L a))] := hl
  have ha0 : 0 < a.val := by
    rcases Nat.eq_zero_or_pos a.val with e0 | e0
    · exact absurd (Fin.ext e0) ha
    · exact e0
  refine lv_ldc2 (v := lN 2305843009213693951) hx hb hown (hts _ (mm wl_X2_11)) dX2_inverse_0 ?_
  refine lv_lstore_n (lv' := [(2, .long (lN 2305843009213693951)), (0, .long (sd_L a))]) hx hb dX2_inverse_3 rfl hl (by decide) rfl (fun ls hl => ?_)
  refine lv_lconst (v := 0) hx hb dX2_inverse_4 (by decide) ?_
  refine lv_lstore (lv' := [(4, .long 0), (2, .long (lN 2305843009213693951)), (0, .long (sd_L a))]) hx hb dX2_inverse_5 hl (by decide) rfl (fun ls hl => ?_)
  refine lv_lload_n hx hb dX2_inverse_7 rfl (lv_at hl 2 rfl) ?_
  refine lv_lstore (lv' := [(6, .long (sd_L a)), (4, .long 0), (2, .long (lN 2305843009213693951)), (0, .long (sd_L a))]) hx hb dX2_inverse_8 hl (by decide) rfl (fun ls hl => ?_)
  refine lv_lconst (v := 1) hx hb dX2_inverse_10 (by decide) ?_
  refine lv_lstore (lv' := [(8, .long 1), (6, .long (sd_L a)), (4, .long 0), (2, .long (lN 2305843009213693951)), (0, .long (sd_L a))]) hx hb dX2_inverse_11 hl (by decide) rfl (fun ls hl => ?_)
  refine lv_iconst (v := nI 0) hx hb dX2_inverse_13 (by decide) ?_
  refine lv_istore (lv' := [(10, .int (nI 0)), (8, .long 1), (6, .long (sd_L a)), (4, .long 0), (2, .long (lN 2305843009213693951)), (0, .long (sd_L a))]) hx hb dX2_inverse_14 hl (by decide) rfl (fun ls hl => ?_)
  obtain ⟨i, r, n, x, y, hI, hi, hl9⟩ : ∃ (i : Nat) (r : Nat) (n : Nat) (x : Int) (y : Int), (sd_EI a.val i r n x y) ∧ (i ≤ 100) ∧ lv_has ls 17 [(10, .int (nI i)), (8, .long (Int64.ofInt y)), (6, .long (lN n)), (4, .long (Int64.ofInt x)), (2, .long (lN r))] := ⟨0, 2305843009213693951, a.val, 0, 1, sd_EI_0 ha0 a.isLt, by decide, (lv_sub hl [0, 1, 2, 3, 4] rfl)⟩
  replace hl := hl9
  clear hl9
  obtain ⟨k9, hk9⟩ : ∃ k9 : Nat, 100 < i + k9 := ⟨101, by omega⟩
  induction k9 generalizing i r n x y ls with
  | zero => exact absurd hk9 (by omega)
  | succ k9 ih =>
    refine lv_iload hx hb dX2_inverse_16 (lv_at hl 0 rfl) ?_
    refine lv_bipush (v := nI 100) hx hb dX2_inverse_18 (by decide) ?_
    refine sd_icmp_ge (tgt := 76) hx hb (by omega) (by omega) dX2_inverse_20 (by decide) (fun c1 => ?_) (fun c1 => ?_)
    · have ei : i = 100 := by omega
      subst ei
      have en := sd_EI_lim hI
      subst en
      refine lv_lload hx hb dX2_inverse_76 (lv_at hl 3 rfl) ?_
      refine sd_rl (va_runS (As := [.long (Int64.ofInt x)]) (rest := []) ⟨hx, hb, hml, hown, hts⟩ (k_X2_of l (Int64.ofInt x)) (sd_cwS hts wd_X2_of wn_X2 wm_X2_25 wi_X2_of nq_X2_of rfl rfl ⟨Nat.le_of_ble_eq_true rfl, Nat.le_of_ble_eq_true rfl⟩) sd_preN rfl rfl hl.1 rfl (lv_room (Nat.le_of_ble_eq_true rfl)) dX2_inverse_78 ⟨Nat.zero_le _, Nat.zero_le _⟩) (fun r1 hr1 => ?_)
      subst hr1
      exact W.lret hx hb hr (fun t ht hW => ⟨_, rfl, ⟨_, rfl, sd_inv_end hI⟩, ht⟩) (fun q h => nomatch h) dX2_inverse_81
    · refine lv_lload hx hb dX2_inverse_23 (lv_at hl 2 rfl) ?_
      refine lv_lconst (v := 0) hx hb dX2_inverse_25 (by decide) ?_
      refine W.lcmp hx hb dX2_inverse_26 ?_
      refine lv_if_eq (tgt := 76) hx hb dX2_inverse_27 (by decide) (fun c2 => ?_) (fun c2 => ?_)
      · have c2 : (lN n) = 0 := (lg_cmp_eq _ _).mp c2
        have hI2 := hI.1
        have hI3 := hI.2.1
        have en : n = 0 := (pk_lEQ (a := n) (b := 0) (by omega) (by decide)).mp c2
        subst en
        refine lv_lload hx hb dX2_inverse_76 (lv_at hl 3 rfl) ?_
        refine sd_rl (va_runS (As := [.long (Int64.ofInt x)]) (rest := []) ⟨hx, hb, hml, hown, hts⟩ (k_X2_of l (Int64.ofInt x)) (sd_cwS hts wd_X2_of wn_X2 wm_X2_25 wi_X2_of nq_X2_of rfl rfl ⟨Nat.le_of_ble_eq_true rfl, Nat.le_of_ble_eq_true rfl⟩) sd_preN rfl rfl hl.1 rfl (lv_room (Nat.le_of_ble_eq_true rfl)) dX2_inverse_78 ⟨Nat.zero_le _, Nat.zero_le _⟩) (fun r2 hr2 => ?_)
        subst hr2
        exact W.lret hx hb hr (fun t ht hW => ⟨_, rfl, ⟨_, rfl, sd_inv_end hI⟩, ht⟩) (fun q h => nomatch h) dX2_inverse_81
      · have c2 : ¬ (lN n) = 0 := fun q => c2 ((lg_cmp_eq _ _).mpr q)
        have hI2 := hI.1
        have hI3 := hI.2.1
        have en : n ≠ 0 := fun q => c2 (by rw [q]; rfl)
        have hq1 : r / n * n ≤ r := Nat.div_mul_le_self r n
        have hq2 : r - r / n * n = r % n := by have := Nat.div_add_mod r n; rw [Nat.mul_comm] at this; omega
        refine lv_lload_n hx hb dX2_inverse_30 rfl (lv_at hl 4 rfl) ?_
        refine lv_lload hx hb dX2_inverse_31 (lv_at hl 2 rfl) ?_
        refine sd_ldiv hx hb (by omega) (by omega) (by omega) dX2_inverse_33 ?_
        refine lv_lstore (lv' := [(11, .long (lN (r / n))), (10, .int (nI i)), (8, .long (Int64.ofInt y)), (6, .long (lN n)), (4, .long (Int64.ofInt x)), (2, .long (lN r))]) hx hb dX2_inverse_34 hl (by decide) rfl (fun ls hl => ?_)
        refine lv_lload_n hx hb dX2_inverse_36 rfl (lv_at hl 5 rfl) ?_
        refine lv_lload hx hb dX2_inverse_37 (lv_at hl 0 rfl) ?_
        refine lv_lload hx hb dX2_inverse_39 (lv_at hl 3 rfl) ?_
        refine sd_lmul hx hb dX2_inverse_41 ?_
        refine sd_lsub hx hb (by omega) dX2_inverse_42 ?_
        refine sd_tol (y := lN (r % n)) (congrArg lN hq2) ?_
        refine lv_lstore (lv' := [(13, .long (lN (r % n))), (11, .long (lN (r / n))), (10, .int (nI i)), (8, .long (Int64.ofInt y)), (6, .long (lN n)), (4, .long (Int64.ofInt x)), (2, .long (lN r))]) hx hb dX2_inverse_43 hl (by decide) rfl (fun ls hl => ?_)
        refine lv_lload hx hb dX2_inverse_45 (lv_at hl 5 rfl) ?_
        refine lv_lload hx hb dX2_inverse_47 (lv_at hl 1 rfl) ?_
        refine lv_lload hx hb dX2_inverse_49 (lv_at hl 3 rfl) ?_
        refine lv_lmul hx hb dX2_inverse_51 ?_
        refine lv_lsub hx hb dX2_inverse_52 ?_
        refine sd_tol (y := Int64.ofInt (x - ((r / n : Nat) : Int) * y)) (by rw [← sd_ofInt_lN, ← Int64.ofInt_mul, ← Int64.ofInt_sub]) ?_
        refine lv_lstore (lv' := [(15, .long (Int64.ofInt (x - ((r / n : Nat) : Int) * y))), (13, .long (lN (r % n))), (11, .long (lN (r / n))), (10, .int (nI i)), (8, .long (Int64.ofInt y)), (6, .long (lN n)), (4, .long (Int64.ofInt x)), (2, .long (lN r))]) hx hb dX2_inverse_53 hl (by decide) rfl (fun ls hl => ?_)
        refine lv_lload hx hb dX2_inverse_55 (lv_at hl 5 rfl) ?_
        refine lv_lstore_n (lv' := [(2, .long (lN n)), (15, .long (Int64.ofInt (x - ((r / n : Nat) : Int) * y))), (13, .long (lN (r % n))), (11, .long (lN (r / n))), (10, .int (nI i)), (8, .long (Int64.ofInt y)), (6, .long (lN n)), (4, .long (Int64.ofInt x))]) hx hb dX2_inverse_57 rfl hl (by decide) rfl (fun ls hl => ?_)
        refine lv_lload hx hb dX2_inverse_58 (lv_at hl 5 rfl) ?_
        refine lv_lstore (lv' := [(4, .long (Int64.ofInt y)), (2, .long (lN n)), (15, .long (Int64.ofInt (x - ((r / n : Nat) : Int) * y))), (13, .long (lN (r % n))), (11, .long (lN (r / n))), (10, .int (nI i)), (8, .long (Int64.ofInt y)), (6, .long (lN n))]) hx hb dX2_inverse_60 hl (by decide) rfl (fun ls hl => ?_)
        refine lv_lload hx hb dX2_inverse_62 (lv_at hl 3 rfl) ?_
        refine lv_lstore (lv' := [(6, .long (lN (r % n))), (4, .long (Int64.ofInt y)), (2, .long (lN n)), (15, .long (Int64.ofInt (x - ((r / n : Nat) : Int) * y))), (13, .long (lN (r % n))), (11, .long (lN (r / n))), (10, .int (nI i)), (8, .long (Int64.ofInt y))]) hx hb dX2_inverse_64 hl (by decide) rfl (fun ls hl => ?_)
        refine lv_lload hx hb dX2_inverse_66 (lv_at hl 3 rfl) ?_
        refine lv_lstore (lv' := [(8, .long (Int64.ofInt (x - ((r / n : Nat) : Int) * y))), (6, .long (lN (r % n))), (4, .long (Int64.ofInt y)), (2, .long (lN n)), (15, .long (Int64.ofInt (x - ((r / n : Nat) : Int) * y))), (13, .long (lN (r % n))), (11, .long (lN (r / n))), (10, .int (nI i))]) hx hb dX2_inverse_68 hl (by decide) rfl (fun ls hl => ?_)
        refine lv_iinc (v := nI (i + 1)) (lv' := [(10, .int (nI (i + 1))), (8, .long (Int64.ofInt (x - ((r / n : Nat) : Int) * y))), (6, .long (lN (r % n))), (4, .long (Int64.ofInt y)), (2, .long (lN n)), (15, .long (Int64.ofInt (x - ((r / n : Nat) : Int) * y))), (13, .long (lN (r % n))), (11, .long (lN (r / n)))]) hx hb dX2_inverse_70 hl (k := 7) rfl (nI_1 _) (by decide) rfl (fun ls hl => ?_)
        refine lv_goto (tgt := 16) hx hb dX2_inverse_73 (by decide) ?_
        exact ih (i := i + 1) (r := n) (n := r % n) (x := y) (y := x - ((r / n : Nat) : Int) * y) (hI := sd_EI_s hI en) (hi := by omega) (ls := ls) (hl := (lv_sub hl [0, 1, 2, 3, 4] rfl)) (hk9 := by omega)

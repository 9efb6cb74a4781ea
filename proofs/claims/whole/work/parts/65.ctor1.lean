/-! constructors: Curve, Split, Finder, SplitDesk -/

set_option maxHeartbeats 1000000 in
set_option maxRecDepth 100000 in
theorem k_X0_init (l : Launch) (D : va_G) {tc : Nat → ClassId} (sz b : Nat) : Met l yX0_init (Cond.code yX0_init cX0_init 1 none :: bg) { frames := 1, cells := 1, slots := 9, locals := 12 } (sd_Cr D vwCl (ty5 tc) [(b, .inr (0, [.null]))] sz [.ref b]) (va_Qv (S := Nat) (fun _ => True) (sd_B D vwCl (ty5 tc) (va_A [(b, .inr (0, [.null]))] sz) (fun v => [(b, .inr (0, [.ref v])), (v, aL (tc 0) 9 (fun _ => 0))])) (va_A [(b, .inr (0, [.null]))] sz)) 1 9 (va_A [(b, .inr (0, [.null]))] sz) := by
  refine Met.ofW (cc := cX0_init) (maxL := 1) (ret := none) (by decide) rfl ?_
  intro p e s m args below meth c s₁ B hml hv
  obtain ⟨rfl, hsz, hP, hK, hD0, hC⟩ := hv
  have hx := B.exec
  have hb := B.bytes
  have hr := B.returns
  have hts := atoms_spec (ws := Cond.code yX0_init cX0_init 1 none :: bg) B.pre
  have hown : s.vm.findClass RX0 = some m.cls := findClass_of_methodNamed B.named
  have hlocks := B.notSynchronized
  have hin : meth.name = "<init>" := (name_of_methodNamed B.named B.method).1
  subst hsz
  have hD := hD0.self (sz := s.heap.size)
  generalize hAe : va_A [(b, .inr (0, [.null]))] s.heap.size = A at hD ⊢
  have hA : ∀ q : Nat, s.heap.size ≤ q → A q := fun q h => by rw [← hAe]; exact Or.inr h
  have hS : va_S A s.heap s.heap [] := va_S.rf
  have hl := lv_entry ([.ref b]) (n := 1) (Nat.le_of_ble_eq_true rfl)
  rw [lg_entry_eq]
  generalize (lg_sl ([.ref b]) ++ List.replicate (1 - (lg_sl ([.ref b])).length) Slot.unset).toArray = ls at hl ⊢
  replace hl : lv_has ls 1 [(0, .ref b)] := hl
  refine lv_aload_n hx hb dX0_init_0 rfl (lv_at hl 0 rfl) ?_
  refine W.objInit hx hb hown (hts _ (mm wm_X0_3)) (hts _ (mm wi_obj)) (hts _ (mm wd_obj)) rfl (by rw [hml]; exact hl.1) rfl dX0_init_1 (Nat.le_of_ble_eq_true rfl) (Nat.le_of_ble_eq_true rfl) ?_
  refine W.eq (g2 := F0 m 4 ls []) rfl ?_
  refine lv_aload_n hx hb dX0_init_4 rfl (lv_at hl 0 rfl) ?_
  refine lv_bipush (v := nI 9) hx hb dX0_init_5 (by decide) ?_
  refine sd_newA (atype := .long) (n := 9) (a0 := (9, .inr (.inl (fun _ => sd_L 0)))) hx hb (hts _ (mm wk_long)) rfl hK hP hD hS hA 0 rfl sd_cl (by decide) (by decide) (Nat.le_of_ble_eq_true rfl) (Nat.le_of_ble_eq_true rfl) dX0_init_7 (fun q1 H hP hD hS => ?_)
  replace hP : va_P D vwCl [(b, .inr (0, [.null])), (q1, aL (tc 0) 9 (fun _ => 0))] H := hP
  replace hD : va_D A [(b, .inr (0, [.null])), (q1, aL (tc 0) 9 (fun _ => 0))] := hD
  refine sd_putF (ci := 0) (C := RX0) (T := TX0) (N := 1) hx hb hts (fun w h => mm (inX0 w h)) tyX0 tyX0_ok nmX0 hown hK hP hD hS 0 rfl rfl 0 (by decide) (hts _ (mm wf_X0_9)) rfl rfl hin rfl rfl (Nat.le_of_ble_eq_true rfl) rfl (ws2 := [(b, .inr (0, [.ref q1])), (q1, aL (tc 0) 9 (fun _ => 0))]) rfl dX0_init_9 (fun H locs hP hD hS => ?_)
  exact W.vret hx hb hr (fun T9 hT9 hW => ⟨⟨q1, rfl, trivial, by rw [hT9]; exact hP, va_K.moved hW.alike hK, hD⟩, hS.F hT9⟩) hS.2.2 dX0_init_12

set_option maxHeartbeats 1000000 in
set_option maxRecDepth 100000 in
theorem k_X3_init (l : Launch) (D : va_G) {tc : Nat → ClassId} (sz b : Nat) : Met l yX3_init (Cond.code yX3_init cX3_init 1 none :: bg) { frames := 1, cells := 2, slots := 34, locals := 12 } (sd_Cr D vwCl (ty5 tc) [(b, .inr (3, [.null, .null, .int 0, .int 0]))] sz [.ref b]) (va_Qv (S := Nat × Nat) (fun _ => True) (sd_B D vwCl (ty5 tc) (va_A [(b, .inr (3, [.null, .null, .int 0, .int 0]))] sz) (fun v => [(b, .inr (3, [.ref v.1, .ref v.2, .int (nI 0), .int (nI 0)])), (v.1, aL (tc 0) 17 (fun _ => 0)), (v.2, aZ (tc 1) 17 (fun _ => false))])) (va_A [(b, .inr (3, [.null, .null, .int 0, .int 0]))] sz)) 2 34 (va_A [(b, .inr (3, [.null, .null, .int 0, .int 0]))] sz) := by
  refine Met.ofW (cc := cX3_init) (maxL := 1) (ret := none) (by decide) rfl ?_
  intro p e s m args below meth c s₁ B hml hv
  obtain ⟨rfl, hsz, hP, hK, hD0, hC⟩ := hv
  have hx := B.exec
  have hb := B.bytes
  have hr := B.returns
  have hts := atoms_spec (ws := Cond.code yX3_init cX3_init 1 none :: bg) B.pre
  have hown : s.vm.findClass RX3 = some m.cls := findClass_of_methodNamed B.named
  have hlocks := B.notSynchronized
  have hin : meth.name = "<init>" := (name_of_methodNamed B.named B.method).1
  subst hsz
  have hD := hD0.self (sz := s.heap.size)
  generalize hAe : va_A [(b, .inr (3, [.null, .null, .int 0, .int 0]))] s.heap.size = A at hD ⊢
  have hA : ∀ q : Nat, s.heap.size ≤ q → A q := fun q h => by rw [← hAe]; exact Or.inr h
  have hS : va_S A s.heap s.heap [] := va_S.rf
  have hl := lv_entry ([.ref b]) (n := 1) (Nat.le_of_ble_eq_true rfl)
  rw [lg_entry_eq]
  generalize (lg_sl ([.ref b]) ++ List.replicate (1 - (lg_sl ([.ref b])).length) Slot.unset).toArray = ls at hl ⊢
  replace hl : lv_has ls 1 [(0, .ref b)] := hl
  refine lv_aload_n hx hb dX3_init_0 rfl (lv_at hl 0 rfl) ?_
  refine W.objInit hx hb hown (hts _ (mm wm_X3_3)) (hts _ (mm wi_obj)) (hts _ (mm wd_obj)) rfl (by rw [hml]; exact hl.1) rfl dX3_init_1 (Nat.le_of_ble_eq_true rfl) (Nat.le_of_ble_eq_true rfl) ?_
  refine W.eq (g2 := F0 m 4 ls []) rfl ?_
  refine lv_aload_n hx hb dX3_init_4 rfl (lv_at hl 0 rfl) ?_
  refine lv_bipush (v := nI 17) hx hb dX3_init_5 (by decide) ?_
  refine sd_newA (atype := .long) (n := 17) (a0 := (17, .inr (.inl (fun _ => sd_L 0)))) hx hb (hts _ (mm wk_long)) rfl hK hP hD hS hA 0 rfl sd_cl (by decide) (by decide) (Nat.le_of_ble_eq_true rfl) (Nat.le_of_ble_eq_true rfl) dX3_init_7 (fun q1 H hP hD hS => ?_)
  replace hP : va_P D vwCl [(b, .inr (3, [.null, .null, .int 0, .int 0])), (q1, aL (tc 0) 17 (fun _ => 0))] H := hP
  replace hD : va_D A [(b, .inr (3, [.null, .null, .int 0, .int 0])), (q1, aL (tc 0) 17 (fun _ => 0))] := hD
  refine sd_putF (ci := 3) (C := RX3) (T := TX3) (N := 4) hx hb hts (fun w h => mm (inX3 w h)) tyX3 tyX3_ok nmX3 hown hK hP hD hS 0 rfl rfl 0 (by decide) (hts _ (mm wf_X3_9)) rfl rfl hin rfl rfl (Nat.le_of_ble_eq_true rfl) rfl (ws2 := [(b, .inr (3, [.ref q1, .null, .int 0, .int 0])), (q1, aL (tc 0) 17 (fun _ => 0))]) rfl dX3_init_9 (fun H locs hP hD hS => ?_)
  refine lv_aload_n hx hb dX3_init_12 rfl (lv_at hl 0 rfl) ?_
  refine lv_bipush (v := nI 17) hx hb dX3_init_13 (by decide) ?_
  refine sd_newA (atype := .boolean) (n := 17) (a0 := (17, .inl (fun _ => bI false))) hx hb (hts _ (mm wk_boolean)) rfl hK hP hD hS hA 1 rfl sd_cz (by decide) (by decide) (Nat.le_of_ble_eq_true rfl) (Nat.le_of_ble_eq_true rfl) dX3_init_15 (fun q2 H hP hD hS => ?_)
  replace hP : va_P D vwCl [(b, .inr (3, [.ref q1, .null, .int 0, .int 0])), (q1, aL (tc 0) 17 (fun _ => 0)), (q2, aZ (tc 1) 17 (fun _ => false))] H := hP
  replace hD : va_D A [(b, .inr (3, [.ref q1, .null, .int 0, .int 0])), (q1, aL (tc 0) 17 (fun _ => 0)), (q2, aZ (tc 1) 17 (fun _ => false))] := hD
  refine sd_putF (ci := 3) (C := RX3) (T := TX3) (N := 4) hx hb hts (fun w h => mm (inX3 w h)) tyX3 tyX3_ok nmX3 hown hK hP hD hS 0 rfl rfl 1 (by decide) (hts _ (mm wf_X3_15)) rfl rfl hin rfl rfl (Nat.le_of_ble_eq_true rfl) rfl (ws2 := [(b, .inr (3, [.ref q1, .ref q2, .int 0, .int 0])), (q1, aL (tc 0) 17 (fun _ => 0)), (q2, aZ (tc 1) 17 (fun _ => false))]) rfl dX3_init_17 (fun H locs hP hD hS => ?_)
  refine lv_aload_n hx hb dX3_init_20 rfl (lv_at hl 0 rfl) ?_
  refine lv_iconst (v := nI 0) hx hb dX3_init_21 (by decide) ?_
  refine sd_put (ci := 3) (C := RX3) (T := TX3) (N := 4) hx hb hts (fun w h => mm (inX3 w h)) tyX3 tyX3_ok nmX3 hown hK hP hD hS 0 rfl rfl 2 (by decide) (hts _ (mm wf_X3_19)) rfl rfl rfl rfl (Nat.le_of_ble_eq_true rfl) rfl (ws2 := [(b, .inr (3, [.ref q1, .ref q2, .int (nI 0), .int 0])), (q1, aL (tc 0) 17 (fun _ => 0)), (q2, aZ (tc 1) 17 (fun _ => false))]) rfl dX3_init_22 (fun H locs hP hD hS => ?_)
  refine lv_aload_n hx hb dX3_init_25 rfl (lv_at hl 0 rfl) ?_
  refine lv_iconst (v := nI 0) hx hb dX3_init_26 (by decide) ?_
  refine sd_put (ci := 3) (C := RX3) (T := TX3) (N := 4) hx hb hts (fun w h => mm (inX3 w h)) tyX3 tyX3_ok nmX3 hown hK hP hD hS 0 rfl rfl 3 (by decide) (hts _ (mm wf_X3_23)) rfl rfl rfl rfl (Nat.le_of_ble_eq_true rfl) rfl (ws2 := [(b, .inr (3, [.ref q1, .ref q2, .int (nI 0), .int (nI 0)])), (q1, aL (tc 0) 17 (fun _ => 0)), (q2, aZ (tc 1) 17 (fun _ => false))]) rfl dX3_init_27 (fun H locs hP hD hS => ?_)
  exact W.vret hx hb hr (fun T9 hT9 hW => ⟨⟨(q1, q2), rfl, trivial, by rw [hT9]; exact hP, va_K.moved hW.alike hK, hD⟩, hS.F hT9⟩) hS.2.2 dX3_init_30

set_option maxHeartbeats 1000000 in
set_option maxRecDepth 100000 in
theorem k_X1_init (l : Launch) (D : va_G) {tc : Nat → ClassId} (sz b : Nat) : Met l yX1_init (Cond.code yX1_init cX1_init 1 none :: bg) { frames := 2, cells := 22, slots := 346, locals := 32 } (sd_Cr D vwCl (ty5 tc) [(b, .inr (1, [.null, .null, .null, .null, .null]))] sz [.ref b]) (va_Qv (S := Nat → Nat) (fun _ => True) (sd_B D vwCl (ty5 tc) (va_A [(b, .inr (1, [.null, .null, .null, .null, .null]))] sz) (fun v => [(b, .inr (1, [.ref (v 0), .ref (v 2), .ref (v 3), .ref (v 4), .ref (v 5)])), (v 0, .inr (0, [.ref (v 1)])), (v 1, aL (tc 0) 9 (fun _ => 0)), (v 2, aR (tc 4) 16 (fun i => some (v (i + 6)))), (v 6, aL (tc 0) 17 (fun _ => 0)), (v 7, aL (tc 0) 17 (fun _ => 0)), (v 8, aL (tc 0) 17 (fun _ => 0)), (v 9, aL (tc 0) 17 (fun _ => 0)), (v 10, aL (tc 0) 17 (fun _ => 0)), (v 11, aL (tc 0) 17 (fun _ => 0)), (v 12, aL (tc 0) 17 (fun _ => 0)), (v 13, aL (tc 0) 17 (fun _ => 0)), (v 14, aL (tc 0) 17 (fun _ => 0)), (v 15, aL (tc 0) 17 (fun _ => 0)), (v 16, aL (tc 0) 17 (fun _ => 0)), (v 17, aL (tc 0) 17 (fun _ => 0)), (v 18, aL (tc 0) 17 (fun _ => 0)), (v 19, aL (tc 0) 17 (fun _ => 0)), (v 20, aL (tc 0) 17 (fun _ => 0)), (v 21, aL (tc 0) 17 (fun _ => 0)), (v 3, aZ (tc 1) 16 (fun _ => false)), (v 4, aL (tc 0) 16 (fun _ => 0)), (v 5, aI (tc 2) 16 (fun _ => 0))])) (va_A [(b, .inr (1, [.null, .null, .null, .null, .null]))] sz)) 22 346 (va_A [(b, .inr (1, [.null, .null, .null, .null, .null]))] sz) := by
  refine Met.ofW (cc := cX1_init) (maxL := 1) (ret := none) (by decide) rfl ?_
  intro p e s m args below meth c s₁ B hml hv
  obtain ⟨rfl, hsz, hP, hK, hD0, hC⟩ := hv
  have hx := B.exec
  have hb := B.bytes
  have hr := B.returns
  have hts := atoms_spec (ws := Cond.code yX1_init cX1_init 1 none :: bg) B.pre
  have hown : s.vm.findClass RX1 = some m.cls := findClass_of_methodNamed B.named
  have hlocks := B.notSynchronized
  have hin : meth.name = "<init>" := (name_of_methodNamed B.named B.method).1
  subst hsz
  have hD := hD0.self (sz := s.heap.size)
  generalize hAe : va_A [(b, .inr (1, [.null, .null, .null, .null, .null]))] s.heap.size = A at hD ⊢
  have hA : ∀ q : Nat, s.heap.size ≤ q → A q := fun q h => by rw [← hAe]; exact Or.inr h
  have hS : va_S A s.heap s.heap [] := va_S.rf
  have hl := lv_entry ([.ref b]) (n := 1) (Nat.le_of_ble_eq_true rfl)
  rw [lg_entry_eq]
  generalize (lg_sl ([.ref b]) ++ List.replicate (1 - (lg_sl ([.ref b])).length) Slot.unset).toArray = ls at hl ⊢
  replace hl : lv_has ls 1 [(0, .ref b)] := hl
  refine lv_aload_n hx hb dX1_init_0 rfl (lv_at hl 0 rfl) ?_
  refine W.objInit hx hb hown (hts _ (mm wm_X1_3)) (hts _ (mm wi_obj)) (hts _ (mm wd_obj)) rfl (by rw [hml]; exact hl.1) rfl dX1_init_1 (Nat.le_of_ble_eq_true rfl) (Nat.le_of_ble_eq_true rfl) ?_
  refine W.eq (g2 := F0 m 4 ls []) rfl ?_
  refine lv_aload_n hx hb dX1_init_4 rfl (lv_at hl 0 rfl) ?_
  refine va_new (ci := 0) (fs := [.null]) (C := RX0) (T := TX0) (N := 1) hx hb hts (fun w h => mm (inX0 w h)) tyX0 tyX0_ok hown (hts _ (mm wc_X1_9)) (hts _ (mm wa_X0)) (hts _ (mm wn_X0)) hK hP hD hS hA rfl (fun j hj => by match j, hj with | 0, _ => rfl) (Nat.le_of_ble_eq_true rfl) (Nat.le_of_ble_eq_true rfl) dX1_init_5 (fun q1 H hP hD hS => ?_)
  replace hP : va_P D vwCl [(b, .inr (1, [.null, .null, .null, .null, .null])), (q1, .inr (0, [.null]))] H := hP
  replace hD : va_D A [(b, .inr (1, [.null, .null, .null, .null, .null])), (q1, .inr (0, [.null]))] := hD
  refine lv_dup hx hb dX1_init_8 rfl ?_
  replace hP : va_P D vwCl ([(b, .inr (1, [.null, .null, .null, .null, .null]))] ++ [(q1, .inr (0, [.null]))]) H := hP
  replace hD : va_D A ([(b, .inr (1, [.null, .null, .null, .null, .null]))] ++ [(q1, .inr (0, [.null]))]) := hD
  refine sd_ctor (va_runIN (As := []) (rest := [.ref q1, .ref b]) ⟨hx, hb, hml, hown, hts⟩ (k_X0_init l D _ q1) ⟨va_cnB 0 hts (sd_gi wd_X0_init) rfl rfl rfl hC.2.2.1 (hts _ (mm wn_X0)) nq_X0_init ⟨Nat.le_of_ble_eq_true rfl, Nat.le_of_ble_eq_true rfl⟩, rfl, hts _ (mm wi_X0_init)⟩ (sd_preC (sd_P_r hP) hK (sd_D_r hD) hC) rfl rfl hl.1 rfl (lv_room (Nat.le_of_ble_eq_true rfl)) dX1_init_9 ⟨Nat.le_of_ble_eq_true rfl, Nat.le_of_ble_eq_true rfl⟩) hP hD hS hA (fun u1 H locs _ hP hD hS => ?_)
  replace hP : va_P D vwCl [(b, .inr (1, [.null, .null, .null, .null, .null])), (q1, .inr (0, [.ref u1])), (u1, aL (tc 0) 9 (fun _ => 0))] H := hP
  replace hD : va_D A [(b, .inr (1, [.null, .null, .null, .null, .null])), (q1, .inr (0, [.ref u1])), (u1, aL (tc 0) 9 (fun _ => 0))] := hD
  refine sd_putF (ci := 1) (C := RX1) (T := TX1) (N := 5) hx hb hts (fun w h => mm (inX1 w h)) tyX1 tyX1_ok nmX1 hown hK hP hD hS 0 rfl rfl 0 (by decide) (hts _ (mm wf_X1_12)) rfl rfl hin rfl rfl (Nat.le_of_ble_eq_true rfl) rfl (ws2 := [(b, .inr (1, [.ref q1, .null, .null, .null, .null])), (q1, .inr (0, [.ref u1])), (u1, aL (tc 0) 9 (fun _ => 0))]) rfl dX1_init_12 (fun H locs hP hD hS => ?_)
  refine lv_aload_n hx hb dX1_init_15 rfl (lv_at hl 0 rfl) ?_
  refine lv_bipush (v := nI 16) hx hb dX1_init_16 (by decide) ?_
  refine lv_bipush (v := nI 17) hx hb dX1_init_18 (by decide) ?_
  replace hP : va_P D vwCl ([(b, .inr (1, [.ref q1, .null, .null, .null, .null])), (q1, .inr (0, [.ref u1])), (u1, aL (tc 0) 9 (fun _ => 0))] ++ va_pl [] (fun _ => .inr (0, []))) H := hP
  replace hD : va_D A ([(b, .inr (1, [.ref q1, .null, .null, .null, .null])), (q1, .inr (0, [.ref u1])), (u1, aL (tc 0) 9 (fun _ => 0))] ++ va_pl [] (fun _ => .inr (0, []))) := hD
  refine va_mna (N' := 16) (K' := 17) (ty := .long) (cy := tc 0) (z := (17, .inr (.inl (fun _ => sd_L 0)))) hx hb hown (hts _ (mm wc_X1_18)) hC.2.2.2.2.2 (hts _ (mm wk_long)) (hK.2 0 _ rfl).2 hK hP hD hS hA (by decide) (by decide) (by decide) (by decide) (by decide) (by decide) (by decide) rfl rfl (Nat.le_of_ble_eq_true rfl) (Nat.le_of_ble_eq_true rfl) (fun c9 => (arrV_new c9 17 (.long 0)).trans (sd_cl c9).symm) dX1_init_20 (fun q3 r cA H _ _ hK9 hP hD hS => ?_)
  rw [← vr_rows (L := []) (fun a _ h => absurd h List.not_mem_nil), sd_tyE (i := 4) hK9 rfl] at hP hD
  clear hK9
  replace hP : va_P D vwCl [(b, .inr (1, [.ref q1, .null, .null, .null, .null])), (q1, .inr (0, [.ref u1])), (u1, aL (tc 0) 9 (fun _ => 0)), (q3, aR (tc 4) 16 (fun i => if i < 16 then some (r i) else none)), (r 0, aL (tc 0) 17 (fun _ => 0)), (r 1, aL (tc 0) 17 (fun _ => 0)), (r 2, aL (tc 0) 17 (fun _ => 0)), (r 3, aL (tc 0) 17 (fun _ => 0)), (r 4, aL (tc 0) 17 (fun _ => 0)), (r 5, aL (tc 0) 17 (fun _ => 0)), (r 6, aL (tc 0) 17 (fun _ => 0)), (r 7, aL (tc 0) 17 (fun _ => 0)), (r 8, aL (tc 0) 17 (fun _ => 0)), (r 9, aL (tc 0) 17 (fun _ => 0)), (r 10, aL (tc 0) 17 (fun _ => 0)), (r 11, aL (tc 0) 17 (fun _ => 0)), (r 12, aL (tc 0) 17 (fun _ => 0)), (r 13, aL (tc 0) 17 (fun _ => 0)), (r 14, aL (tc 0) 17 (fun _ => 0)), (r 15, aL (tc 0) 17 (fun _ => 0))] H := hP
  replace hD : va_D A [(b, .inr (1, [.ref q1, .null, .null, .null, .null])), (q1, .inr (0, [.ref u1])), (u1, aL (tc 0) 9 (fun _ => 0)), (q3, aR (tc 4) 16 (fun i => if i < 16 then some (r i) else none)), (r 0, aL (tc 0) 17 (fun _ => 0)), (r 1, aL (tc 0) 17 (fun _ => 0)), (r 2, aL (tc 0) 17 (fun _ => 0)), (r 3, aL (tc 0) 17 (fun _ => 0)), (r 4, aL (tc 0) 17 (fun _ => 0)), (r 5, aL (tc 0) 17 (fun _ => 0)), (r 6, aL (tc 0) 17 (fun _ => 0)), (r 7, aL (tc 0) 17 (fun _ => 0)), (r 8, aL (tc 0) 17 (fun _ => 0)), (r 9, aL (tc 0) 17 (fun _ => 0)), (r 10, aL (tc 0) 17 (fun _ => 0)), (r 11, aL (tc 0) 17 (fun _ => 0)), (r 12, aL (tc 0) 17 (fun _ => 0)), (r 13, aL (tc 0) 17 (fun _ => 0)), (r 14, aL (tc 0) 17 (fun _ => 0)), (r 15, aL (tc 0) 17 (fun _ => 0))] := hD
  refine sd_putF (ci := 1) (C := RX1) (T := TX1) (N := 5) hx hb hts (fun w h => mm (inX1 w h)) tyX1 tyX1_ok nmX1 hown hK hP hD hS 0 rfl rfl 1 (by decide) (hts _ (mm wf_X1_20)) rfl rfl hin rfl rfl (Nat.le_of_ble_eq_true rfl) rfl (ws2 := [(b, .inr (1, [.ref q1, .ref q3, .null, .null, .null])), (q1, .inr (0, [.ref u1])), (u1, aL (tc 0) 9 (fun _ => 0)), (q3, aR (tc 4) 16 (fun i => if i < 16 then some (r i) else none)), (r 0, aL (tc 0) 17 (fun _ => 0)), (r 1, aL (tc 0) 17 (fun _ => 0)), (r 2, aL (tc 0) 17 (fun _ => 0)), (r 3, aL (tc 0) 17 (fun _ => 0)), (r 4, aL (tc 0) 17 (fun _ => 0)), (r 5, aL (tc 0) 17 (fun _ => 0)), (r 6, aL (tc 0) 17 (fun _ => 0)), (r 7, aL (tc 0) 17 (fun _ => 0)), (r 8, aL (tc 0) 17 (fun _ => 0)), (r 9, aL (tc 0) 17 (fun _ => 0)), (r 10, aL (tc 0) 17 (fun _ => 0)), (r 11, aL (tc 0) 17 (fun _ => 0)), (r 12, aL (tc 0) 17 (fun _ => 0)), (r 13, aL (tc 0) 17 (fun _ => 0)), (r 14, aL (tc 0) 17 (fun _ => 0)), (r 15, aL (tc 0) 17 (fun _ => 0))]) rfl dX1_init_24 (fun H locs hP hD hS => ?_)
  refine lv_aload_n hx hb dX1_init_27 rfl (lv_at hl 0 rfl) ?_
  refine lv_bipush (v := nI 16) hx hb dX1_init_28 (by decide) ?_
  refine sd_newA (atype := .boolean) (n := 16) (a0 := (16, .inl (fun _ => bI false))) hx hb (hts _ (mm wk_boolean)) rfl hK hP hD hS hA 1 rfl sd_cz (by decide) (by decide) (Nat.le_of_ble_eq_true rfl) (Nat.le_of_ble_eq_true rfl) dX1_init_30 (fun q4 H hP hD hS => ?_)
  replace hP : va_P D vwCl [(b, .inr (1, [.ref q1, .ref q3, .null, .null, .null])), (q1, .inr (0, [.ref u1])), (u1, aL (tc 0) 9 (fun _ => 0)), (q3, aR (tc 4) 16 (fun i => if i < 16 then some (r i) else none)), (r 0, aL (tc 0) 17 (fun _ => 0)), (r 1, aL (tc 0) 17 (fun _ => 0)), (r 2, aL (tc 0) 17 (fun _ => 0)), (r 3, aL (tc 0) 17 (fun _ => 0)), (r 4, aL (tc 0) 17 (fun _ => 0)), (r 5, aL (tc 0) 17 (fun _ => 0)), (r 6, aL (tc 0) 17 (fun _ => 0)), (r 7, aL (tc 0) 17 (fun _ => 0)), (r 8, aL (tc 0) 17 (fun _ => 0)), (r 9, aL (tc 0) 17 (fun _ => 0)), (r 10, aL (tc 0) 17 (fun _ => 0)), (r 11, aL (tc 0) 17 (fun _ => 0)), (r 12, aL (tc 0) 17 (fun _ => 0)), (r 13, aL (tc 0) 17 (fun _ => 0)), (r 14, aL (tc 0) 17 (fun _ => 0)), (r 15, aL (tc 0) 17 (fun _ => 0)), (q4, aZ (tc 1) 16 (fun _ => false))] H := hP
  replace hD : va_D A [(b, .inr (1, [.ref q1, .ref q3, .null, .null, .null])), (q1, .inr (0, [.ref u1])), (u1, aL (tc 0) 9 (fun _ => 0)), (q3, aR (tc 4) 16 (fun i => if i < 16 then some (r i) else none)), (r 0, aL (tc 0) 17 (fun _ => 0)), (r 1, aL (tc 0) 17 (fun _ => 0)), (r 2, aL (tc 0) 17 (fun _ => 0)), (r 3, aL (tc 0) 17 (fun _ => 0)), (r 4, aL (tc 0) 17 (fun _ => 0)), (r 5, aL (tc 0) 17 (fun _ => 0)), (r 6, aL (tc 0) 17 (fun _ => 0)), (r 7, aL (tc 0) 17 (fun _ => 0)), (r 8, aL (tc 0) 17 (fun _ => 0)), (r 9, aL (tc 0) 17 (fun _ => 0)), (r 10, aL (tc 0) 17 (fun _ => 0)), (r 11, aL (tc 0) 17 (fun _ => 0)), (r 12, aL (tc 0) 17 (fun _ => 0)), (r 13, aL (tc 0) 17 (fun _ => 0)), (r 14, aL (tc 0) 17 (fun _ => 0)), (r 15, aL (tc 0) 17 (fun _ => 0)), (q4, aZ (tc 1) 16 (fun _ => false))] := hD
  refine sd_putF (ci := 1) (C := RX1) (T := TX1) (N := 5) hx hb hts (fun w h => mm (inX1 w h)) tyX1 tyX1_ok nmX1 hown hK hP hD hS 0 rfl rfl 2 (by decide) (hts _ (mm wf_X1_23)) rfl rfl hin rfl rfl (Nat.le_of_ble_eq_true rfl) rfl (ws2 := [(b, .inr (1, [.ref q1, .ref q3, .ref q4, .null, .null])), (q1, .inr (0, [.ref u1])), (u1, aL (tc 0) 9 (fun _ => 0)), (q3, aR (tc 4) 16 (fun i => if i < 16 then some (r i) else none)), (r 0, aL (tc 0) 17 (fun _ => 0)), (r 1, aL (tc 0) 17 (fun _ => 0)), (r 2, aL (tc 0) 17 (fun _ => 0)), (r 3, aL (tc 0) 17 (fun _ => 0)), (r 4, aL (tc 0) 17 (fun _ => 0)), (r 5, aL (tc 0) 17 (fun _ => 0)), (r 6, aL (tc 0) 17 (fun _ => 0)), (r 7, aL (tc 0) 17 (fun _ => 0)), (r 8, aL (tc 0) 17 (fun _ => 0)), (r 9, aL (tc 0) 17 (fun _ => 0)), (r 10, aL (tc 0) 17 (fun _ => 0)), (r 11, aL (tc 0) 17 (fun _ => 0)), (r 12, aL (tc 0) 17 (fun _ => 0)), (r 13, aL (tc 0) 17 (fun _ => 0)), (r 14, aL (tc 0) 17 (fun _ => 0)), (r 15, aL (tc 0) 17 (fun _ => 0)), (q4, aZ (tc 1) 16 (fun _ => false))]) rfl dX1_init_32 (fun H locs hP hD hS => ?_)
  refine lv_aload_n hx hb dX1_init_35 rfl (lv_at hl 0 rfl) ?_
  refine lv_bipush (v := nI 16) hx hb dX1_init_36 (by decide) ?_
  refine sd_newA (atype := .long) (n := 16) (a0 := (16, .inr (.inl (fun _ => sd_L 0)))) hx hb (hts _ (mm wk_long)) rfl hK hP hD hS hA 0 rfl sd_cl (by decide) (by decide) (Nat.le_of_ble_eq_true rfl) (Nat.le_of_ble_eq_true rfl) dX1_init_38 (fun q5 H hP hD hS => ?_)
  replace hP : va_P D vwCl [(b, .inr (1, [.ref q1, .ref q3, .ref q4, .null, .null])), (q1, .inr (0, [.ref u1])), (u1, aL (tc 0) 9 (fun _ => 0)), (q3, aR (tc 4) 16 (fun i => if i < 16 then some (r i) else none)), (r 0, aL (tc 0) 17 (fun _ => 0)), (r 1, aL (tc 0) 17 (fun _ => 0)), (r 2, aL (tc 0) 17 (fun _ => 0)), (r 3, aL (tc 0) 17 (fun _ => 0)), (r 4, aL (tc 0) 17 (fun _ => 0)), (r 5, aL (tc 0) 17 (fun _ => 0)), (r 6, aL (tc 0) 17 (fun _ => 0)), (r 7, aL (tc 0) 17 (fun _ => 0)), (r 8, aL (tc 0) 17 (fun _ => 0)), (r 9, aL (tc 0) 17 (fun _ => 0)), (r 10, aL (tc 0) 17 (fun _ => 0)), (r 11, aL (tc 0) 17 (fun _ => 0)), (r 12, aL (tc 0) 17 (fun _ => 0)), (r 13, aL (tc 0) 17 (fun _ => 0)), (r 14, aL (tc 0) 17 (fun _ => 0)), (r 15, aL (tc 0) 17 (fun _ => 0)), (q4, aZ (tc 1) 16 (fun _ => false)), (q5, aL (tc 0) 16 (fun _ => 0))] H := hP
  replace hD : va_D A [(b, .inr (1, [.ref q1, .ref q3, .ref q4, .null, .null])), (q1, .inr (0, [.ref u1])), (u1, aL (tc 0) 9 (fun _ => 0)), (q3, aR (tc 4) 16 (fun i => if i < 16 then some (r i) else none)), (r 0, aL (tc 0) 17 (fun _ => 0)), (r 1, aL (tc 0) 17 (fun _ => 0)), (r 2, aL (tc 0) 17 (fun _ => 0)), (r 3, aL (tc 0) 17 (fun _ => 0)), (r 4, aL (tc 0) 17 (fun _ => 0)), (r 5, aL (tc 0) 17 (fun _ => 0)), (r 6, aL (tc 0) 17 (fun _ => 0)), (r 7, aL (tc 0) 17 (fun _ => 0)), (r 8, aL (tc 0) 17 (fun _ => 0)), (r 9, aL (tc 0) 17 (fun _ => 0)), (r 10, aL (tc 0) 17 (fun _ => 0)), (r 11, aL (tc 0) 17 (fun _ => 0)), (r 12, aL (tc 0) 17 (fun _ => 0)), (r 13, aL (tc 0) 17 (fun _ => 0)), (r 14, aL (tc 0) 17 (fun _ => 0)), (r 15, aL (tc 0) 17 (fun _ => 0)), (q4, aZ (tc 1) 16 (fun _ => false)), (q5, aL (tc 0) 16 (fun _ => 0))] := hD
  refine sd_putF (ci := 1) (C := RX1) (T := TX1) (N := 5) hx hb hts (fun w h => mm (inX1 w h)) tyX1 tyX1_ok nmX1 hown hK hP hD hS 0 rfl rfl 3 (by decide) (hts _ (mm wf_X1_27)) rfl rfl hin rfl rfl (Nat.le_of_ble_eq_true rfl) rfl (ws2 := [(b, .inr (1, [.ref q1, .ref q3, .ref q4, .ref q5, .null])), (q1, .inr (0, [.ref u1])), (u1, aL (tc 0) 9 (fun _ => 0)), (q3, aR (tc 4) 16 (fun i => if i < 16 then some (r i) else none)), (r 0, aL (tc 0) 17 (fun _ => 0)), (r 1, aL (tc 0) 17 (fun _ => 0)), (r 2, aL (tc 0) 17 (fun _ => 0)), (r 3, aL (tc 0) 17 (fun _ => 0)), (r 4, aL (tc 0) 17 (fun _ => 0)), (r 5, aL (tc 0) 17 (fun _ => 0)), (r 6, aL (tc 0) 17 (fun _ => 0)), (r 7, aL (tc 0) 17 (fun _ => 0)), (r 8, aL (tc 0) 17 (fun _ => 0)), (r 9, aL (tc 0) 17 (fun _ => 0)), (r 10, aL (tc 0) 17 (fun _ => 0)), (r 11, aL (tc 0) 17 (fun _ => 0)), (r 12, aL (tc 0) 17 (fun _ => 0)), (r 13, aL (tc 0) 17 (fun _ => 0)), (r 14, aL (tc 0) 17 (fun _ => 0)), (r 15, aL (tc 0) 17 (fun _ => 0)), (q4, aZ (tc 1) 16 (fun _ => false)), (q5, aL (tc 0) 16 (fun _ => 0))]) rfl dX1_init_40 (fun H locs hP hD hS => ?_)
  refine lv_aload_n hx hb dX1_init_43 rfl (lv_at hl 0 rfl) ?_
  refine lv_bipush (v := nI 16) hx hb dX1_init_44 (by decide) ?_
  refine sd_newA (atype := .int) (n := 16) (a0 := (16, .inl (fun _ => (0 : Int32)))) hx hb (hts _ (mm wk_int)) rfl hK hP hD hS hA 2 rfl sd_ci (by decide) (by decide) (Nat.le_of_ble_eq_true rfl) (Nat.le_of_ble_eq_true rfl) dX1_init_46 (fun q6 H hP hD hS => ?_)
  replace hP : va_P D vwCl [(b, .inr (1, [.ref q1, .ref q3, .ref q4, .ref q5, .null])), (q1, .inr (0, [.ref u1])), (u1, aL (tc 0) 9 (fun _ => 0)), (q3, aR (tc 4) 16 (fun i => if i < 16 then some (r i) else none)), (r 0, aL (tc 0) 17 (fun _ => 0)), (r 1, aL (tc 0) 17 (fun _ => 0)), (r 2, aL (tc 0) 17 (fun _ => 0)), (r 3, aL (tc 0) 17 (fun _ => 0)), (r 4, aL (tc 0) 17 (fun _ => 0)), (r 5, aL (tc 0) 17 (fun _ => 0)), (r 6, aL (tc 0) 17 (fun _ => 0)), (r 7, aL (tc 0) 17 (fun _ => 0)), (r 8, aL (tc 0) 17 (fun _ => 0)), (r 9, aL (tc 0) 17 (fun _ => 0)), (r 10, aL (tc 0) 17 (fun _ => 0)), (r 11, aL (tc 0) 17 (fun _ => 0)), (r 12, aL (tc 0) 17 (fun _ => 0)), (r 13, aL (tc 0) 17 (fun _ => 0)), (r 14, aL (tc 0) 17 (fun _ => 0)), (r 15, aL (tc 0) 17 (fun _ => 0)), (q4, aZ (tc 1) 16 (fun _ => false)), (q5, aL (tc 0) 16 (fun _ => 0)), (q6, aI (tc 2) 16 (fun _ => 0))] H := hP
  replace hD : va_D A [(b, .inr (1, [.ref q1, .ref q3, .ref q4, .ref q5, .null])), (q1, .inr (0, [.ref u1])), (u1, aL (tc 0) 9 (fun _ => 0)), (q3, aR (tc 4) 16 (fun i => if i < 16 then some (r i) else none)), (r 0, aL (tc 0) 17 (fun _ => 0)), (r 1, aL (tc 0) 17 (fun _ => 0)), (r 2, aL (tc 0) 17 (fun _ => 0)), (r 3, aL (tc 0) 17 (fun _ => 0)), (r 4, aL (tc 0) 17 (fun _ => 0)), (r 5, aL (tc 0) 17 (fun _ => 0)), (r 6, aL (tc 0) 17 (fun _ => 0)), (r 7, aL (tc 0) 17 (fun _ => 0)), (r 8, aL (tc 0) 17 (fun _ => 0)), (r 9, aL (tc 0) 17 (fun _ => 0)), (r 10, aL (tc 0) 17 (fun _ => 0)), (r 11, aL (tc 0) 17 (fun _ => 0)), (r 12, aL (tc 0) 17 (fun _ => 0)), (r 13, aL (tc 0) 17 (fun _ => 0)), (r 14, aL (tc 0) 17 (fun _ => 0)), (r 15, aL (tc 0) 17 (fun _ => 0)), (q4, aZ (tc 1) 16 (fun _ => false)), (q5, aL (tc 0) 16 (fun _ => 0)), (q6, aI (tc 2) 16 (fun _ => 0))] := hD
  refine sd_putF (ci := 1) (C := RX1) (T := TX1) (N := 5) hx hb hts (fun w h => mm (inX1 w h)) tyX1 tyX1_ok nmX1 hown hK hP hD hS 0 rfl rfl 4 (by decide) (hts _ (mm wf_X1_31)) rfl rfl hin rfl rfl (Nat.le_of_ble_eq_true rfl) rfl (ws2 := [(b, .inr (1, [.ref q1, .ref q3, .ref q4, .ref q5, .ref q6])), (q1, .inr (0, [.ref u1])), (u1, aL (tc 0) 9 (fun _ => 0)), (q3, aR (tc 4) 16 (fun i => if i < 16 then some (r i) else none)), (r 0, aL (tc 0) 17 (fun _ => 0)), (r 1, aL (tc 0) 17 (fun _ => 0)), (r 2, aL (tc 0) 17 (fun _ => 0)), (r 3, aL (tc 0) 17 (fun _ => 0)), (r 4, aL (tc 0) 17 (fun _ => 0)), (r 5, aL (tc 0) 17 (fun _ => 0)), (r 6, aL (tc 0) 17 (fun _ => 0)), (r 7, aL (tc 0) 17 (fun _ => 0)), (r 8, aL (tc 0) 17 (fun _ => 0)), (r 9, aL (tc 0) 17 (fun _ => 0)), (r 10, aL (tc 0) 17 (fun _ => 0)), (r 11, aL (tc 0) 17 (fun _ => 0)), (r 12, aL (tc 0) 17 (fun _ => 0)), (r 13, aL (tc 0) 17 (fun _ => 0)), (r 14, aL (tc 0) 17 (fun _ => 0)), (r 15, aL (tc 0) 17 (fun _ => 0)), (q4, aZ (tc 1) 16 (fun _ => false)), (q5, aL (tc 0) 16 (fun _ => 0)), (q6, aI (tc 2) 16 (fun _ => 0))]) rfl dX1_init_48 (fun H locs hP hD hS => ?_)
  obtain ⟨v, hv⟩ : ∃ v : Nat → Nat, v = fun i => match i with | 0 => q1 | 1 => u1 | 2 => q3 | 3 => q4 | 4 => q5 | 5 => q6 | n + 6 => r n := ⟨_, rfl⟩
  have hP9 := sd_Pq (g := fun i => some (v (i + 6))) (ws2 := [(b, .inr (1, [.ref q1, .ref q3, .ref q4, .ref q5, .ref q6])), (q1, .inr (0, [.ref u1])), (u1, aL (tc 0) 9 (fun _ => 0)), (q3, aR (tc 4) 16 (fun i => some (v (i + 6)))), (r 0, aL (tc 0) 17 (fun _ => 0)), (r 1, aL (tc 0) 17 (fun _ => 0)), (r 2, aL (tc 0) 17 (fun _ => 0)), (r 3, aL (tc 0) 17 (fun _ => 0)), (r 4, aL (tc 0) 17 (fun _ => 0)), (r 5, aL (tc 0) 17 (fun _ => 0)), (r 6, aL (tc 0) 17 (fun _ => 0)), (r 7, aL (tc 0) 17 (fun _ => 0)), (r 8, aL (tc 0) 17 (fun _ => 0)), (r 9, aL (tc 0) 17 (fun _ => 0)), (r 10, aL (tc 0) 17 (fun _ => 0)), (r 11, aL (tc 0) 17 (fun _ => 0)), (r 12, aL (tc 0) 17 (fun _ => 0)), (r 13, aL (tc 0) 17 (fun _ => 0)), (r 14, aL (tc 0) 17 (fun _ => 0)), (r 15, aL (tc 0) 17 (fun _ => 0)), (q4, aZ (tc 1) 16 (fun _ => false)), (q5, aL (tc 0) 16 (fun _ => 0)), (q6, aI (tc 2) 16 (fun _ => 0))]) hP (k := 3) rfl (fun j hj => by rw [if_pos hj, hv]) rfl
  have hD9 : va_D A [(b, .inr (1, [.ref q1, .ref q3, .ref q4, .ref q5, .ref q6])), (q1, .inr (0, [.ref u1])), (u1, aL (tc 0) 9 (fun _ => 0)), (q3, aR (tc 4) 16 (fun i => some (v (i + 6)))), (r 0, aL (tc 0) 17 (fun _ => 0)), (r 1, aL (tc 0) 17 (fun _ => 0)), (r 2, aL (tc 0) 17 (fun _ => 0)), (r 3, aL (tc 0) 17 (fun _ => 0)), (r 4, aL (tc 0) 17 (fun _ => 0)), (r 5, aL (tc 0) 17 (fun _ => 0)), (r 6, aL (tc 0) 17 (fun _ => 0)), (r 7, aL (tc 0) 17 (fun _ => 0)), (r 8, aL (tc 0) 17 (fun _ => 0)), (r 9, aL (tc 0) 17 (fun _ => 0)), (r 10, aL (tc 0) 17 (fun _ => 0)), (r 11, aL (tc 0) 17 (fun _ => 0)), (r 12, aL (tc 0) 17 (fun _ => 0)), (r 13, aL (tc 0) 17 (fun _ => 0)), (r 14, aL (tc 0) 17 (fun _ => 0)), (r 15, aL (tc 0) 17 (fun _ => 0)), (q4, aZ (tc 1) 16 (fun _ => false)), (q5, aL (tc 0) 16 (fun _ => 0)), (q6, aI (tc 2) 16 (fun _ => 0))] := hD.set (p := 3) (e := aR (tc 4) 16 (fun i => some (v (i + 6)))) rfl
  exact W.vret hx hb hr (fun T9 hT9 hW => ⟨⟨v, rfl, trivial, by rw [hT9]; exact (by subst hv; exact hP9), va_K.moved hW.alike hK, (by subst hv; exact hD9)⟩, hS.F hT9⟩) hS.2.2 dX1_init_51

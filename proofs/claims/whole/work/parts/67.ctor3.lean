/-! the constructor of the reference: its table of inverses -/
theorem sd_pow_val (x : FP) : ∀ e, (sd_pow x e).val = x.val ^ e % 2305843009213693951 := by
  intro e
  induction e with
  | zero => rfl
  | succ e ih => rw [sd_pow_s, sd_mul_val, ih, Nat.pow_succ, Nat.mod_mul_mod]
theorem sd_pinv_t : ∀ k, k < 17 → 1 ≤ k → sd_pw 2305843009213693951 61 k 2305843009213693950 = 1 := by decide +kernel
theorem sd_pinv {k : Nat} (h1 : 1 ≤ k) (h2 : k ≤ 16) : sd_N k * sd_pow (sd_N k) 2305843009213693949 = 1 := by
  apply Fin.ext
  rw [sd_mul_val, sd_pow_val, sd_N_val (by omega), Nat.mul_mod_mod, ← Nat.pow_succ']
  have e := sd_pw_eq 2305843009213693951 61 k 2305843009213693950 (by decide)
  rw [sd_pinv_t k (by omega) h1] at e
  exact e.symm

set_option maxHeartbeats 1000000 in
set_option maxRecDepth 100000 in
theorem k_X5_init (l : Launch) (D : va_G) {tc : Nat → ClassId} (sz b : Nat) : Met l yX5_init (Cond.code yX5_init cX5_init 2 none :: bg) { frames := 4, cells := 11, slots := 381, locals := 120 } (sd_Cr D vwCl (ty5 tc) [(b, .inr (5, [.int 0, .null, .null, .null, .null, .null, .int 0, .int 0, .null, .null, .null, .int 0, .null, .null, .null]))] sz [.ref b]) (va_Qv (S := (Nat → Nat) × (Nat → FP)) (fun v => v.1 0 = b ∧ ∀ k, 1 ≤ k → k ≤ 16 → sd_N k * v.2 k = 1) (sd_B D vwCl (ty5 tc) (va_A [(b, .inr (5, [.int 0, .null, .null, .null, .null, .null, .int 0, .int 0, .null, .null, .null, .int 0, .null, .null, .null]))] sz) (fun v => mw v.1 tc 0 (fun _ => 0) (fun _ => 0) (fun _ => 0) (fun _ => false) v.2 false 0 (fun _ => 0) (fun _ => false) (fun _ => 0) 0 (fun _ => 0) (fun _ => 0) (fun _ => 0))) (va_A [(b, .inr (5, [.int 0, .null, .null, .null, .null, .null, .int 0, .int 0, .null, .null, .null, .int 0, .null, .null, .null]))] sz)) 11 381 (va_A [(b, .inr (5, [.int 0, .null, .null, .null, .null, .null, .int 0, .int 0, .null, .null, .null, .int 0, .null, .null, .null]))] sz) := by
  refine Met.ofW (cc := cX5_init) (maxL := 2) (ret := none) (by decide) rfl ?_
  intro p e s m args below meth c s₁ B hml hv
  obtain ⟨rfl, hsz, hP, hK, hD0, hC⟩ := hv
  have hx := B.exec
  have hb := B.bytes
  have hr := B.returns
  have hts := atoms_spec (ws := Cond.code yX5_init cX5_init 2 none :: bg) B.pre
  have hown : s.vm.findClass RX5 = some m.cls := findClass_of_methodNamed B.named
  have hlocks := B.notSynchronized
  have hin : meth.name = "<init>" := (name_of_methodNamed B.named B.method).1
  subst hsz
  have hD := hD0.self (sz := s.heap.size)
  generalize hAe : va_A [(b, .inr (5, [.int 0, .null, .null, .null, .null, .null, .int 0, .int 0, .null, .null, .null, .int 0, .null, .null, .null]))] s.heap.size = A at hD ⊢
  have hA : ∀ q : Nat, s.heap.size ≤ q → A q := fun q h => by rw [← hAe]; exact Or.inr h
  have hS : va_S A s.heap s.heap [] := va_S.rf
  have hl := lv_entry ([.ref b]) (n := 2) (Nat.le_of_ble_eq_true rfl)
  rw [lg_entry_eq]
  generalize (lg_sl ([.ref b]) ++ List.replicate (2 - (lg_sl ([.ref b])).length) Slot.unset).toArray = ls at hl ⊢
  replace hl : lv_has ls 2 [(0, .ref b)] := hl
  refine lv_aload_n hx hb dX5_init_0 rfl (lv_at hl 0 rfl) ?_
  refine W.objInit hx hb hown (hts _ (mm wm_X5_1)) (hts _ (mm wi_obj)) (hts _ (mm wd_obj)) rfl (by rw [hml]; exact hl.1) rfl dX5_init_1 (Nat.le_of_ble_eq_true rfl) (Nat.le_of_ble_eq_true rfl) ?_
  refine W.eq (g2 := F0 m 4 ls []) rfl ?_
  refine lv_aload_n hx hb dX5_init_4 rfl (lv_at hl 0 rfl) ?_
  refine lv_bipush (v := nI 8) hx hb dX5_init_5 (by decide) ?_
  refine sd_newA (atype := .int) (n := 8) (a0 := (8, .inl (fun _ => nI 0))) hx hb (hts _ (mm wk_int)) rfl hK hP hD hS hA 2 rfl sd_cn (by decide) (by decide) (Nat.le_of_ble_eq_true rfl) (Nat.le_of_ble_eq_true rfl) dX5_init_7 (fun q1 H hP hD hS => ?_)
  replace hP : va_P D vwCl [(b, .inr (5, [.int 0, .null, .null, .null, .null, .null, .int 0, .int 0, .null, .null, .null, .int 0, .null, .null, .null])), (q1, aN (tc 2) 8 (fun _ => 0))] H := hP
  replace hD : va_D A [(b, .inr (5, [.int 0, .null, .null, .null, .null, .null, .int 0, .int 0, .null, .null, .null, .int 0, .null, .null, .null])), (q1, aN (tc 2) 8 (fun _ => 0))] := hD
  refine sd_putF (ci := 5) (C := RX5) (T := TX5) (N := 15) hx hb hts (fun w h => mm (inX5 w h)) tyX5 tyX5_ok nmX5 hown hK hP hD hS 0 rfl rfl 1 (by decide) (hts _ (mm wf_X5_7)) rfl rfl hin rfl rfl (Nat.le_of_ble_eq_true rfl) rfl (ws2 := [(b, .inr (5, [.int 0, .ref q1, .null, .null, .null, .null, .int 0, .int 0, .null, .null, .null, .int 0, .null, .null, .null])), (q1, aN (tc 2) 8 (fun _ => 0))]) rfl dX5_init_9 (fun H locs hP hD hS => ?_)
  refine lv_aload_n hx hb dX5_init_12 rfl (lv_at hl 0 rfl) ?_
  refine lv_bipush (v := nI 8) hx hb dX5_init_13 (by decide) ?_
  refine sd_newA (atype := .int) (n := 8) (a0 := (8, .inl (fun _ => nI 0))) hx hb (hts _ (mm wk_int)) rfl hK hP hD hS hA 2 rfl sd_cn (by decide) (by decide) (Nat.le_of_ble_eq_true rfl) (Nat.le_of_ble_eq_true rfl) dX5_init_15 (fun q2 H hP hD hS => ?_)
  replace hP : va_P D vwCl [(b, .inr (5, [.int 0, .ref q1, .null, .null, .null, .null, .int 0, .int 0, .null, .null, .null, .int 0, .null, .null, .null])), (q1, aN (tc 2) 8 (fun _ => 0)), (q2, aN (tc 2) 8 (fun _ => 0))] H := hP
  replace hD : va_D A [(b, .inr (5, [.int 0, .ref q1, .null, .null, .null, .null, .int 0, .int 0, .null, .null, .null, .int 0, .null, .null, .null])), (q1, aN (tc 2) 8 (fun _ => 0)), (q2, aN (tc 2) 8 (fun _ => 0))] := hD
  refine sd_putF (ci := 5) (C := RX5) (T := TX5) (N := 15) hx hb hts (fun w h => mm (inX5 w h)) tyX5 tyX5_ok nmX5 hown hK hP hD hS 0 rfl rfl 2 (by decide) (hts _ (mm wf_X5_13)) rfl rfl hin rfl rfl (Nat.le_of_ble_eq_true rfl) rfl (ws2 := [(b, .inr (5, [.int 0, .ref q1, .ref q2, .null, .null, .null, .int 0, .int 0, .null, .null, .null, .int 0, .null, .null, .null])), (q1, aN (tc 2) 8 (fun _ => 0)), (q2, aN (tc 2) 8 (fun _ => 0))]) rfl dX5_init_17 (fun H locs hP hD hS => ?_)
  refine lv_aload_n hx hb dX5_init_20 rfl (lv_at hl 0 rfl) ?_
  refine lv_sipush (v := nI 136) hx hb dX5_init_21 (by decide) ?_
  refine sd_newA (atype := .long) (n := 136) (a0 := (136, .inr (.inl (fun _ => sd_L 0)))) hx hb (hts _ (mm wk_long)) rfl hK hP hD hS hA 0 rfl sd_cl (by decide) (by decide) (Nat.le_of_ble_eq_true rfl) (Nat.le_of_ble_eq_true rfl) dX5_init_24 (fun q3 H hP hD hS => ?_)
  replace hP : va_P D vwCl [(b, .inr (5, [.int 0, .ref q1, .ref q2, .null, .null, .null, .int 0, .int 0, .null, .null, .null, .int 0, .null, .null, .null])), (q1, aN (tc 2) 8 (fun _ => 0)), (q2, aN (tc 2) 8 (fun _ => 0)), (q3, aL (tc 0) 136 (fun _ => 0))] H := hP
  replace hD : va_D A [(b, .inr (5, [.int 0, .ref q1, .ref q2, .null, .null, .null, .int 0, .int 0, .null, .null, .null, .int 0, .null, .null, .null])), (q1, aN (tc 2) 8 (fun _ => 0)), (q2, aN (tc 2) 8 (fun _ => 0)), (q3, aL (tc 0) 136 (fun _ => 0))] := hD
  refine sd_putF (ci := 5) (C := RX5) (T := TX5) (N := 15) hx hb hts (fun w h => mm (inX5 w h)) tyX5 tyX5_ok nmX5 hown hK hP hD hS 0 rfl rfl 3 (by decide) (hts _ (mm wf_X5_16)) rfl rfl hin rfl rfl (Nat.le_of_ble_eq_true rfl) rfl (ws2 := [(b, .inr (5, [.int 0, .ref q1, .ref q2, .ref q3, .null, .null, .int 0, .int 0, .null, .null, .null, .int 0, .null, .null, .null])), (q1, aN (tc 2) 8 (fun _ => 0)), (q2, aN (tc 2) 8 (fun _ => 0)), (q3, aL (tc 0) 136 (fun _ => 0))]) rfl dX5_init_26 (fun H locs hP hD hS => ?_)
  refine lv_aload_n hx hb dX5_init_29 rfl (lv_at hl 0 rfl) ?_
  refine lv_sipush (v := nI 136) hx hb dX5_init_30 (by decide) ?_
  refine sd_newA (atype := .boolean) (n := 136) (a0 := (136, .inl (fun _ => bI false))) hx hb (hts _ (mm wk_boolean)) rfl hK hP hD hS hA 1 rfl sd_cz (by decide) (by decide) (Nat.le_of_ble_eq_true rfl) (Nat.le_of_ble_eq_true rfl) dX5_init_33 (fun q4 H hP hD hS => ?_)
  replace hP : va_P D vwCl [(b, .inr (5, [.int 0, .ref q1, .ref q2, .ref q3, .null, .null, .int 0, .int 0, .null, .null, .null, .int 0, .null, .null, .null])), (q1, aN (tc 2) 8 (fun _ => 0)), (q2, aN (tc 2) 8 (fun _ => 0)), (q3, aL (tc 0) 136 (fun _ => 0)), (q4, aZ (tc 1) 136 (fun _ => false))] H := hP
  replace hD : va_D A [(b, .inr (5, [.int 0, .ref q1, .ref q2, .ref q3, .null, .null, .int 0, .int 0, .null, .null, .null, .int 0, .null, .null, .null])), (q1, aN (tc 2) 8 (fun _ => 0)), (q2, aN (tc 2) 8 (fun _ => 0)), (q3, aL (tc 0) 136 (fun _ => 0)), (q4, aZ (tc 1) 136 (fun _ => false))] := hD
  refine sd_putF (ci := 5) (C := RX5) (T := TX5) (N := 15) hx hb hts (fun w h => mm (inX5 w h)) tyX5 tyX5_ok nmX5 hown hK hP hD hS 0 rfl rfl 4 (by decide) (hts _ (mm wf_X5_20)) rfl rfl hin rfl rfl (Nat.le_of_ble_eq_true rfl) rfl (ws2 := [(b, .inr (5, [.int 0, .ref q1, .ref q2, .ref q3, .ref q4, .null, .int 0, .int 0, .null, .null, .null, .int 0, .null, .null, .null])), (q1, aN (tc 2) 8 (fun _ => 0)), (q2, aN (tc 2) 8 (fun _ => 0)), (q3, aL (tc 0) 136 (fun _ => 0)), (q4, aZ (tc 1) 136 (fun _ => false))]) rfl dX5_init_35 (fun H locs hP hD hS => ?_)
  refine lv_aload_n hx hb dX5_init_38 rfl (lv_at hl 0 rfl) ?_
  refine lv_bipush (v := nI 17) hx hb dX5_init_39 (by decide) ?_
  refine sd_newA (atype := .long) (n := 17) (a0 := (17, .inr (.inl (fun _ => sd_L 0)))) hx hb (hts _ (mm wk_long)) rfl hK hP hD hS hA 0 rfl sd_cl (by decide) (by decide) (Nat.le_of_ble_eq_true rfl) (Nat.le_of_ble_eq_true rfl) dX5_init_41 (fun q5 H hP hD hS => ?_)
  replace hP : va_P D vwCl [(b, .inr (5, [.int 0, .ref q1, .ref q2, .ref q3, .ref q4, .null, .int 0, .int 0, .null, .null, .null, .int 0, .null, .null, .null])), (q1, aN (tc 2) 8 (fun _ => 0)), (q2, aN (tc 2) 8 (fun _ => 0)), (q3, aL (tc 0) 136 (fun _ => 0)), (q4, aZ (tc 1) 136 (fun _ => false)), (q5, aL (tc 0) 17 (fun _ => 0))] H := hP
  replace hD : va_D A [(b, .inr (5, [.int 0, .ref q1, .ref q2, .ref q3, .ref q4, .null, .int 0, .int 0, .null, .null, .null, .int 0, .null, .null, .null])), (q1, aN (tc 2) 8 (fun _ => 0)), (q2, aN (tc 2) 8 (fun _ => 0)), (q3, aL (tc 0) 136 (fun _ => 0)), (q4, aZ (tc 1) 136 (fun _ => false)), (q5, aL (tc 0) 17 (fun _ => 0))] := hD
  refine sd_putF (ci := 5) (C := RX5) (T := TX5) (N := 15) hx hb hts (fun w h => mm (inX5 w h)) tyX5 tyX5_ok nmX5 hown hK hP hD hS 0 rfl rfl 5 (by decide) (hts _ (mm wf_X5_24)) rfl rfl hin rfl rfl (Nat.le_of_ble_eq_true rfl) rfl (ws2 := [(b, .inr (5, [.int 0, .ref q1, .ref q2, .ref q3, .ref q4, .ref q5, .int 0, .int 0, .null, .null, .null, .int 0, .null, .null, .null])), (q1, aN (tc 2) 8 (fun _ => 0)), (q2, aN (tc 2) 8 (fun _ => 0)), (q3, aL (tc 0) 136 (fun _ => 0)), (q4, aZ (tc 1) 136 (fun _ => false)), (q5, aL (tc 0) 17 (fun _ => 0))]) rfl dX5_init_43 (fun H locs hP hD hS => ?_)
  refine lv_aload_n hx hb dX5_init_46 rfl (lv_at hl 0 rfl) ?_
  refine lv_bipush (v := nI 9) hx hb dX5_init_47 (by decide) ?_
  refine sd_newA (atype := .long) (n := 9) (a0 := (9, .inr (.inl (fun _ => sd_L 0)))) hx hb (hts _ (mm wk_long)) rfl hK hP hD hS hA 0 rfl sd_cl (by decide) (by decide) (Nat.le_of_ble_eq_true rfl) (Nat.le_of_ble_eq_true rfl) dX5_init_49 (fun q6 H hP hD hS => ?_)
  replace hP : va_P D vwCl [(b, .inr (5, [.int 0, .ref q1, .ref q2, .ref q3, .ref q4, .ref q5, .int 0, .int 0, .null, .null, .null, .int 0, .null, .null, .null])), (q1, aN (tc 2) 8 (fun _ => 0)), (q2, aN (tc 2) 8 (fun _ => 0)), (q3, aL (tc 0) 136 (fun _ => 0)), (q4, aZ (tc 1) 136 (fun _ => false)), (q5, aL (tc 0) 17 (fun _ => 0)), (q6, aL (tc 0) 9 (fun _ => 0))] H := hP
  replace hD : va_D A [(b, .inr (5, [.int 0, .ref q1, .ref q2, .ref q3, .ref q4, .ref q5, .int 0, .int 0, .null, .null, .null, .int 0, .null, .null, .null])), (q1, aN (tc 2) 8 (fun _ => 0)), (q2, aN (tc 2) 8 (fun _ => 0)), (q3, aL (tc 0) 136 (fun _ => 0)), (q4, aZ (tc 1) 136 (fun _ => false)), (q5, aL (tc 0) 17 (fun _ => 0)), (q6, aL (tc 0) 9 (fun _ => 0))] := hD
  refine sd_putF (ci := 5) (C := RX5) (T := TX5) (N := 15) hx hb hts (fun w h => mm (inX5 w h)) tyX5 tyX5_ok nmX5 hown hK hP hD hS 0 rfl rfl 8 (by decide) (hts _ (mm wf_X5_27)) rfl rfl hin rfl rfl (Nat.le_of_ble_eq_true rfl) rfl (ws2 := [(b, .inr (5, [.int 0, .ref q1, .ref q2, .ref q3, .ref q4, .ref q5, .int 0, .int 0, .ref q6, .null, .null, .int 0, .null, .null, .null])), (q1, aN (tc 2) 8 (fun _ => 0)), (q2, aN (tc 2) 8 (fun _ => 0)), (q3, aL (tc 0) 136 (fun _ => 0)), (q4, aZ (tc 1) 136 (fun _ => false)), (q5, aL (tc 0) 17 (fun _ => 0)), (q6, aL (tc 0) 9 (fun _ => 0))]) rfl dX5_init_51 (fun H locs hP hD hS => ?_)
  refine lv_aload_n hx hb dX5_init_54 rfl (lv_at hl 0 rfl) ?_
  refine lv_bipush (v := nI 17) hx hb dX5_init_55 (by decide) ?_
  refine sd_newA (atype := .boolean) (n := 17) (a0 := (17, .inl (fun _ => bI false))) hx hb (hts _ (mm wk_boolean)) rfl hK hP hD hS hA 1 rfl sd_cz (by decide) (by decide) (Nat.le_of_ble_eq_true rfl) (Nat.le_of_ble_eq_true rfl) dX5_init_57 (fun q7 H hP hD hS => ?_)
  replace hP : va_P D vwCl [(b, .inr (5, [.int 0, .ref q1, .ref q2, .ref q3, .ref q4, .ref q5, .int 0, .int 0, .ref q6, .null, .null, .int 0, .null, .null, .null])), (q1, aN (tc 2) 8 (fun _ => 0)), (q2, aN (tc 2) 8 (fun _ => 0)), (q3, aL (tc 0) 136 (fun _ => 0)), (q4, aZ (tc 1) 136 (fun _ => false)), (q5, aL (tc 0) 17 (fun _ => 0)), (q6, aL (tc 0) 9 (fun _ => 0)), (q7, aZ (tc 1) 17 (fun _ => false))] H := hP
  replace hD : va_D A [(b, .inr (5, [.int 0, .ref q1, .ref q2, .ref q3, .ref q4, .ref q5, .int 0, .int 0, .ref q6, .null, .null, .int 0, .null, .null, .null])), (q1, aN (tc 2) 8 (fun _ => 0)), (q2, aN (tc 2) 8 (fun _ => 0)), (q3, aL (tc 0) 136 (fun _ => 0)), (q4, aZ (tc 1) 136 (fun _ => false)), (q5, aL (tc 0) 17 (fun _ => 0)), (q6, aL (tc 0) 9 (fun _ => 0)), (q7, aZ (tc 1) 17 (fun _ => false))] := hD
  refine sd_putF (ci := 5) (C := RX5) (T := TX5) (N := 15) hx hb hts (fun w h => mm (inX5 w h)) tyX5 tyX5_ok nmX5 hown hK hP hD hS 0 rfl rfl 9 (by decide) (hts _ (mm wf_X5_30)) rfl rfl hin rfl rfl (Nat.le_of_ble_eq_true rfl) rfl (ws2 := [(b, .inr (5, [.int 0, .ref q1, .ref q2, .ref q3, .ref q4, .ref q5, .int 0, .int 0, .ref q6, .ref q7, .null, .int 0, .null, .null, .null])), (q1, aN (tc 2) 8 (fun _ => 0)), (q2, aN (tc 2) 8 (fun _ => 0)), (q3, aL (tc 0) 136 (fun _ => 0)), (q4, aZ (tc 1) 136 (fun _ => false)), (q5, aL (tc 0) 17 (fun _ => 0)), (q6, aL (tc 0) 9 (fun _ => 0)), (q7, aZ (tc 1) 17 (fun _ => false))]) rfl dX5_init_59 (fun H locs hP hD hS => ?_)
  refine lv_aload_n hx hb dX5_init_62 rfl (lv_at hl 0 rfl) ?_
  refine lv_bipush (v := nI 16) hx hb dX5_init_63 (by decide) ?_
  refine sd_newA (atype := .int) (n := 16) (a0 := (16, .inl (fun _ => nI 0))) hx hb (hts _ (mm wk_int)) rfl hK hP hD hS hA 2 rfl sd_cn (by decide) (by decide) (Nat.le_of_ble_eq_true rfl) (Nat.le_of_ble_eq_true rfl) dX5_init_65 (fun q8 H hP hD hS => ?_)
  replace hP : va_P D vwCl [(b, .inr (5, [.int 0, .ref q1, .ref q2, .ref q3, .ref q4, .ref q5, .int 0, .int 0, .ref q6, .ref q7, .null, .int 0, .null, .null, .null])), (q1, aN (tc 2) 8 (fun _ => 0)), (q2, aN (tc 2) 8 (fun _ => 0)), (q3, aL (tc 0) 136 (fun _ => 0)), (q4, aZ (tc 1) 136 (fun _ => false)), (q5, aL (tc 0) 17 (fun _ => 0)), (q6, aL (tc 0) 9 (fun _ => 0)), (q7, aZ (tc 1) 17 (fun _ => false)), (q8, aN (tc 2) 16 (fun _ => 0))] H := hP
  replace hD : va_D A [(b, .inr (5, [.int 0, .ref q1, .ref q2, .ref q3, .ref q4, .ref q5, .int 0, .int 0, .ref q6, .ref q7, .null, .int 0, .null, .null, .null])), (q1, aN (tc 2) 8 (fun _ => 0)), (q2, aN (tc 2) 8 (fun _ => 0)), (q3, aL (tc 0) 136 (fun _ => 0)), (q4, aZ (tc 1) 136 (fun _ => false)), (q5, aL (tc 0) 17 (fun _ => 0)), (q6, aL (tc 0) 9 (fun _ => 0)), (q7, aZ (tc 1) 17 (fun _ => false)), (q8, aN (tc 2) 16 (fun _ => 0))] := hD
  refine sd_putF (ci := 5) (C := RX5) (T := TX5) (N := 15) hx hb hts (fun w h => mm (inX5 w h)) tyX5 tyX5_ok nmX5 hown hK hP hD hS 0 rfl rfl 10 (by decide) (hts _ (mm wf_X5_33)) rfl rfl hin rfl rfl (Nat.le_of_ble_eq_true rfl) rfl (ws2 := [(b, .inr (5, [.int 0, .ref q1, .ref q2, .ref q3, .ref q4, .ref q5, .int 0, .int 0, .ref q6, .ref q7, .ref q8, .int 0, .null, .null, .null])), (q1, aN (tc 2) 8 (fun _ => 0)), (q2, aN (tc 2) 8 (fun _ => 0)), (q3, aL (tc 0) 136 (fun _ => 0)), (q4, aZ (tc 1) 136 (fun _ => false)), (q5, aL (tc 0) 17 (fun _ => 0)), (q6, aL (tc 0) 9 (fun _ => 0)), (q7, aZ (tc 1) 17 (fun _ => false)), (q8, aN (tc 2) 16 (fun _ => 0))]) rfl dX5_init_67 (fun H locs hP hD hS => ?_)
  refine lv_aload_n hx hb dX5_init_70 rfl (lv_at hl 0 rfl) ?_
  refine lv_bipush (v := nI 16) hx hb dX5_init_71 (by decide) ?_
  refine sd_newA (atype := .int) (n := 16) (a0 := (16, .inl (fun _ => nI 0))) hx hb (hts _ (mm wk_int)) rfl hK hP hD hS hA 2 rfl sd_cn (by decide) (by decide) (Nat.le_of_ble_eq_true rfl) (Nat.le_of_ble_eq_true rfl) dX5_init_73 (fun q9 H hP hD hS => ?_)
  replace hP : va_P D vwCl [(b, .inr (5, [.int 0, .ref q1, .ref q2, .ref q3, .ref q4, .ref q5, .int 0, .int 0, .ref q6, .ref q7, .ref q8, .int 0, .null, .null, .null])), (q1, aN (tc 2) 8 (fun _ => 0)), (q2, aN (tc 2) 8 (fun _ => 0)), (q3, aL (tc 0) 136 (fun _ => 0)), (q4, aZ (tc 1) 136 (fun _ => false)), (q5, aL (tc 0) 17 (fun _ => 0)), (q6, aL (tc 0) 9 (fun _ => 0)), (q7, aZ (tc 1) 17 (fun _ => false)), (q8, aN (tc 2) 16 (fun _ => 0)), (q9, aN (tc 2) 16 (fun _ => 0))] H := hP
  replace hD : va_D A [(b, .inr (5, [.int 0, .ref q1, .ref q2, .ref q3, .ref q4, .ref q5, .int 0, .int 0, .ref q6, .ref q7, .ref q8, .int 0, .null, .null, .null])), (q1, aN (tc 2) 8 (fun _ => 0)), (q2, aN (tc 2) 8 (fun _ => 0)), (q3, aL (tc 0) 136 (fun _ => 0)), (q4, aZ (tc 1) 136 (fun _ => false)), (q5, aL (tc 0) 17 (fun _ => 0)), (q6, aL (tc 0) 9 (fun _ => 0)), (q7, aZ (tc 1) 17 (fun _ => false)), (q8, aN (tc 2) 16 (fun _ => 0)), (q9, aN (tc 2) 16 (fun _ => 0))] := hD
  refine sd_putF (ci := 5) (C := RX5) (T := TX5) (N := 15) hx hb hts (fun w h => mm (inX5 w h)) tyX5 tyX5_ok nmX5 hown hK hP hD hS 0 rfl rfl 12 (by decide) (hts _ (mm wf_X5_36)) rfl rfl hin rfl rfl (Nat.le_of_ble_eq_true rfl) rfl (ws2 := [(b, .inr (5, [.int 0, .ref q1, .ref q2, .ref q3, .ref q4, .ref q5, .int 0, .int 0, .ref q6, .ref q7, .ref q8, .int 0, .ref q9, .null, .null])), (q1, aN (tc 2) 8 (fun _ => 0)), (q2, aN (tc 2) 8 (fun _ => 0)), (q3, aL (tc 0) 136 (fun _ => 0)), (q4, aZ (tc 1) 136 (fun _ => false)), (q5, aL (tc 0) 17 (fun _ => 0)), (q6, aL (tc 0) 9 (fun _ => 0)), (q7, aZ (tc 1) 17 (fun _ => false)), (q8, aN (tc 2) 16 (fun _ => 0)), (q9, aN (tc 2) 16 (fun _ => 0))]) rfl dX5_init_75 (fun H locs hP hD hS => ?_)
  refine lv_aload_n hx hb dX5_init_78 rfl (lv_at hl 0 rfl) ?_
  refine lv_bipush (v := nI 9) hx hb dX5_init_79 (by decide) ?_
  refine sd_newA (atype := .long) (n := 9) (a0 := (9, .inr (.inl (fun _ => sd_L 0)))) hx hb (hts _ (mm wk_long)) rfl hK hP hD hS hA 0 rfl sd_cl (by decide) (by decide) (Nat.le_of_ble_eq_true rfl) (Nat.le_of_ble_eq_true rfl) dX5_init_81 (fun q10 H hP hD hS => ?_)
  replace hP : va_P D vwCl [(b, .inr (5, [.int 0, .ref q1, .ref q2, .ref q3, .ref q4, .ref q5, .int 0, .int 0, .ref q6, .ref q7, .ref q8, .int 0, .ref q9, .null, .null])), (q1, aN (tc 2) 8 (fun _ => 0)), (q2, aN (tc 2) 8 (fun _ => 0)), (q3, aL (tc 0) 136 (fun _ => 0)), (q4, aZ (tc 1) 136 (fun _ => false)), (q5, aL (tc 0) 17 (fun _ => 0)), (q6, aL (tc 0) 9 (fun _ => 0)), (q7, aZ (tc 1) 17 (fun _ => false)), (q8, aN (tc 2) 16 (fun _ => 0)), (q9, aN (tc 2) 16 (fun _ => 0)), (q10, aL (tc 0) 9 (fun _ => 0))] H := hP
  replace hD : va_D A [(b, .inr (5, [.int 0, .ref q1, .ref q2, .ref q3, .ref q4, .ref q5, .int 0, .int 0, .ref q6, .ref q7, .ref q8, .int 0, .ref q9, .null, .null])), (q1, aN (tc 2) 8 (fun _ => 0)), (q2, aN (tc 2) 8 (fun _ => 0)), (q3, aL (tc 0) 136 (fun _ => 0)), (q4, aZ (tc 1) 136 (fun _ => false)), (q5, aL (tc 0) 17 (fun _ => 0)), (q6, aL (tc 0) 9 (fun _ => 0)), (q7, aZ (tc 1) 17 (fun _ => false)), (q8, aN (tc 2) 16 (fun _ => 0)), (q9, aN (tc 2) 16 (fun _ => 0)), (q10, aL (tc 0) 9 (fun _ => 0))] := hD
  refine sd_putF (ci := 5) (C := RX5) (T := TX5) (N := 15) hx hb hts (fun w h => mm (inX5 w h)) tyX5 tyX5_ok nmX5 hown hK hP hD hS 0 rfl rfl 13 (by decide) (hts _ (mm wf_X5_39)) rfl rfl hin rfl rfl (Nat.le_of_ble_eq_true rfl) rfl (ws2 := [(b, .inr (5, [.int 0, .ref q1, .ref q2, .ref q3, .ref q4, .ref q5, .int 0, .int 0, .ref q6, .ref q7, .ref q8, .int 0, .ref q9, .ref q10, .null])), (q1, aN (tc 2) 8 (fun _ => 0)), (q2, aN (tc 2) 8 (fun _ => 0)), (q3, aL (tc 0) 136 (fun _ => 0)), (q4, aZ (tc 1) 136 (fun _ => false)), (q5, aL (tc 0) 17 (fun _ => 0)), (q6, aL (tc 0) 9 (fun _ => 0)), (q7, aZ (tc 1) 17 (fun _ => false)), (q8, aN (tc 2) 16 (fun _ => 0)), (q9, aN (tc 2) 16 (fun _ => 0)), (q10, aL (tc 0) 9 (fun _ => 0))]) rfl dX5_init_83 (fun H locs hP hD hS => ?_)
  refine lv_aload_n hx hb dX5_init_86 rfl (lv_at hl 0 rfl) ?_
  refine lv_bipush (v := nI 9) hx hb dX5_init_87 (by decide) ?_
  refine sd_newA (atype := .long) (n := 9) (a0 := (9, .inr (.inl (fun _ => sd_L 0)))) hx hb (hts _ (mm wk_long)) rfl hK hP hD hS hA 0 rfl sd_cl (by decide) (by decide) (Nat.le_of_ble_eq_true rfl) (Nat.le_of_ble_eq_true rfl) dX5_init_89 (fun q11 H hP hD hS => ?_)
  replace hP : va_P D vwCl [(b, .inr (5, [.int 0, .ref q1, .ref q2, .ref q3, .ref q4, .ref q5, .int 0, .int 0, .ref q6, .ref q7, .ref q8, .int 0, .ref q9, .ref q10, .null])), (q1, aN (tc 2) 8 (fun _ => 0)), (q2, aN (tc 2) 8 (fun _ => 0)), (q3, aL (tc 0) 136 (fun _ => 0)), (q4, aZ (tc 1) 136 (fun _ => false)), (q5, aL (tc 0) 17 (fun _ => 0)), (q6, aL (tc 0) 9 (fun _ => 0)), (q7, aZ (tc 1) 17 (fun _ => false)), (q8, aN (tc 2) 16 (fun _ => 0)), (q9, aN (tc 2) 16 (fun _ => 0)), (q10, aL (tc 0) 9 (fun _ => 0)), (q11, aL (tc 0) 9 (fun _ => 0))] H := hP
  replace hD : va_D A [(b, .inr (5, [.int 0, .ref q1, .ref q2, .ref q3, .ref q4, .ref q5, .int 0, .int 0, .ref q6, .ref q7, .ref q8, .int 0, .ref q9, .ref q10, .null])), (q1, aN (tc 2) 8 (fun _ => 0)), (q2, aN (tc 2) 8 (fun _ => 0)), (q3, aL (tc 0) 136 (fun _ => 0)), (q4, aZ (tc 1) 136 (fun _ => false)), (q5, aL (tc 0) 17 (fun _ => 0)), (q6, aL (tc 0) 9 (fun _ => 0)), (q7, aZ (tc 1) 17 (fun _ => false)), (q8, aN (tc 2) 16 (fun _ => 0)), (q9, aN (tc 2) 16 (fun _ => 0)), (q10, aL (tc 0) 9 (fun _ => 0)), (q11, aL (tc 0) 9 (fun _ => 0))] := hD
  refine sd_putF (ci := 5) (C := RX5) (T := TX5) (N := 15) hx hb hts (fun w h => mm (inX5 w h)) tyX5 tyX5_ok nmX5 hown hK hP hD hS 0 rfl rfl 14 (by decide) (hts _ (mm wf_X5_42)) rfl rfl hin rfl rfl (Nat.le_of_ble_eq_true rfl) rfl (ws2 := [(b, .inr (5, [.int 0, .ref q1, .ref q2, .ref q3, .ref q4, .ref q5, .int 0, .int 0, .ref q6, .ref q7, .ref q8, .int 0, .ref q9, .ref q10, .ref q11])), (q1, aN (tc 2) 8 (fun _ => 0)), (q2, aN (tc 2) 8 (fun _ => 0)), (q3, aL (tc 0) 136 (fun _ => 0)), (q4, aZ (tc 1) 136 (fun _ => false)), (q5, aL (tc 0) 17 (fun _ => 0)), (q6, aL (tc 0) 9 (fun _ => 0)), (q7, aZ (tc 1) 17 (fun _ => false)), (q8, aN (tc 2) 16 (fun _ => 0)), (q9, aN (tc 2) 16 (fun _ => 0)), (q10, aL (tc 0) 9 (fun _ => 0)), (q11, aL (tc 0) 9 (fun _ => 0))]) rfl dX5_init_91 (fun H locs hP hD hS => ?_)
  obtain ⟨am, ham⟩ : ∃ am : Nat → Nat, am = fun i => [b, q1, q2, q3, q4, q5, q6, q7, q8, q9, q10, q11].getD i 0 := ⟨_, rfl⟩
  replace hP : va_P D vwCl (mw am tc 0 (fun _ => 0) (fun _ => 0) (fun _ => 0) (fun _ => false) (fun _ => 0) false 0 (fun _ => 0) (fun _ => false) (fun _ => 0) 0 (fun _ => 0) (fun _ => 0) (fun _ => 0)) H := by subst ham; exact hP
  replace hD : va_D A (mw am tc 0 (fun _ => 0) (fun _ => 0) (fun _ => 0) (fun _ => false) (fun _ => 0) false 0 (fun _ => 0) (fun _ => false) (fun _ => 0) 0 (fun _ => 0) (fun _ => 0) (fun _ => 0)) := by subst ham; exact hD
  replace hl : lv_has ls 2 [(0, .ref (am 0))] := by subst ham; exact hl
  have hb0 : am 0 = b := by subst ham; rfl
  refine lv_iconst (v := nI 1) hx hb dX5_init_94 (by decide) ?_
  refine lv_istore_n (lv' := [(1, .int (nI 1)), (0, .ref (am 0))]) hx hb dX5_init_95 rfl hl (by decide) rfl (fun ls hl => ?_)
  obtain ⟨k, i1, hk, hI, hP9, hD9, hl9⟩ : ∃ (k : Nat) (i1 : Nat → FP), (1 ≤ k ∧ k ≤ 17) ∧ (∀ j, 1 ≤ j → j < k → sd_N j * i1 j = 1) ∧ va_P D vwCl (mw am tc 0 (fun _ => 0) (fun _ => 0) (fun _ => 0) (fun _ => false) i1 false 0 (fun _ => 0) (fun _ => false) (fun _ => 0) 0 (fun _ => 0) (fun _ => 0) (fun _ => 0)) H ∧ va_D A (mw am tc 0 (fun _ => 0) (fun _ => 0) (fun _ => 0) (fun _ => false) i1 false 0 (fun _ => 0) (fun _ => false) (fun _ => 0) 0 (fun _ => 0) (fun _ => 0) (fun _ => 0)) ∧ lv_has ls 2 [(1, .int (nI k)), (0, .ref (am 0))] := ⟨1, (fun _ => 0), by decide, fun j h1 h2 => absurd h1 (by omega), hP, hD, (lv_sub hl [0, 1] rfl)⟩
  replace hl := hl9
  clear hl9
  replace hP := hP9
  replace hD := hD9
  clear hP9 hD9
  obtain ⟨k9, hk9⟩ : ∃ k9 : Nat, 17 < k + k9 := ⟨17, by omega⟩
  induction k9 generalizing k i1 ls H locs with
  | zero => exact absurd hk9 (by omega)
  | succ k9 ih =>
    refine lv_iload_n hx hb dX5_init_96 rfl (lv_at hl 0 rfl) ?_
    refine lv_bipush (v := nI 16) hx hb dX5_init_97 (by decide) ?_
    refine sd_icmp_gt (tgt := 122) hx hb (by omega) (by omega) dX5_init_99 (by decide) (fun c1 => ?_) (fun c1 => ?_)
    · exact W.vret hx hb hr (fun T9 hT9 hW => ⟨⟨(am, i1), rfl, ⟨hb0, fun k9 h1 h2 => hI k9 h1 (by omega)⟩, by rw [hT9]; exact hP, va_K.moved hW.alike hK, hD⟩, hS.F hT9⟩) hS.2.2 dX5_init_122
    · refine lv_aload_n hx hb dX5_init_102 rfl (lv_at hl 1 rfl) ?_
      refine va_get (D := D) (ci := 5) (v := .ref (am 5)) (C := RX5) (T := TX5) (N := 15) hx hb hts (fun w h => mm (inX5 w h)) hown hK hP 0 rfl rfl 5 (by decide) (hts _ (mm wf_X5_24)) (fun _ h9 => h9) rfl dX5_init_103 ?_
      refine lv_iload_n hx hb dX5_init_106 rfl (lv_at hl 0 rfl) ?_
      refine lv_iload_n hx hb dX5_init_107 rfl (lv_at hl 0 rfl) ?_
      refine lv_i2l (v := lN k) hx hb dX5_init_108 (nI_l (by omega)) ?_
      refine sd_tol (y := sd_L (sd_N k)) ((sd_N_L (by omega)).symm) ?_
      refine lv_ldc2 (v := lN 2305843009213693949) hx hb hown (hts _ (mm wl_X5_45)) dX5_init_109 ?_
      refine sd_rl (va_runS (As := [.long (sd_L (sd_N k)), .long (lN 2305843009213693949)]) (rest := [.int (nI k), .ref (am 5)]) ⟨hx, hb, hml, hown, hts⟩ (k_X5_power l (sd_N k) 2305843009213693949 (by decide)) (sd_cwS hts wd_X5_power wn_X5 wm_X5_47 wi_X5_power nq_X5_power rfl rfl ⟨Nat.le_of_ble_eq_true rfl, Nat.le_of_ble_eq_true rfl⟩) sd_preN rfl rfl hl.1 rfl (lv_room (Nat.le_of_ble_eq_true rfl)) dX5_init_112 ⟨Nat.le_of_ble_eq_true rfl, Nat.le_of_ble_eq_true rfl⟩) (fun r1 hr1 => ?_)
      subst hr1
      refine sd_last hx hb hK hP hD hS 5 0 rfl rfl (k := k) (by omega) (by decide) (ws2 := mw am tc 0 (fun _ => 0) (fun _ => 0) (fun _ => 0) (fun _ => false) (sd_up i1 k (sd_pow (sd_N k) 2305843009213693949)) false 0 (fun _ => 0) (fun _ => false) (fun _ => 0) 0 (fun _ => 0) (fun _ => 0) (fun _ => 0)) (by rw [sd_stL]; exact rfl) dX5_init_115 (fun H locs hP hD hS => ?_)
      refine lv_iinc (v := nI (k + 1)) (lv' := [(1, .int (nI (k + 1))), (0, .ref (am 0))]) hx hb dX5_init_116 hl (k := 0) rfl (nI_1 _) (by decide) rfl (fun ls hl => ?_)
      refine lv_goto (tgt := 96) hx hb dX5_init_119 (by decide) ?_
      exact ih (k := k + 1) (i1 := sd_up i1 k (sd_pow (sd_N k) 2305843009213693949)) (hk := by omega) (hI := fun j h1 h2 => (Classical.em (j = k)).elim (fun e9 => by rw [e9, sd_up_s]; exact sd_pinv hk.1 c1) (fun e9 => by rw [sd_up_n _ _ e9]; exact hI j h1 (by omega))) (H := H) (locs := locs) (hP := hP) (hD := hD) (hS := hS) (ls := ls) (hl := (lv_sub hl [0, 1] rfl)) (hk9 := by omega)

/-! the law from its entry -/
set_option maxHeartbeats 1000000 in
set_option maxRecDepth 100000 in
theorem whole_start {p : Program} {e : Env} {s : State} {m : MethodId} {below : List Frame} {meth : Method} {c : Code} (l : Launch) (hl9 : l.stackTraces = false) {b L : Nat} {xs : Nat → Int32} (hL : L ≤ 4096) (C0 : lw_At p s m meth c b L xs) : W p l e room_1 s m #[Value.ref b] below meth c s.heap [] 0 0 (lw_Z below #[Value.ref b] s) (entryFrame m ([Value.ref b] : List Value).toArray 8) := by
  obtain ⟨hx, hb, hr, hml, hown0, hts0, hX, hbl, hlocks, hgv⟩ := C0
  have hbg : ∀ w ∈ bg, w.before #[Value.ref b] s = true := fun w h => hts0 w (bg_good h).1
  have hts : ∀ w ∈ Cond.initialized RL :: bg, w.before #[Value.ref b] s = true := fun w h => (List.mem_cons.mp h).elim (fun e9 => by rw [e9]; exact hbg _ wn_L) (fun h => hbg w h)
  have hown : s.vm.findClass RL = some m.cls := hown0
  have hCv := sd_Cv_mk hts0
  have hEv := sd_Ev_mk hts0 hgv
  have hEs := sd_Es_mk hts0 hgv
  obtain ⟨D, hKc⟩ := sd_cl_mk hbg
  obtain ⟨t0, a0⟩ := sd_kl (hbg _ wk_long)
  obtain ⟨t1, a1⟩ := sd_kz (hbg _ wk_boolean)
  obtain ⟨t2, a2⟩ := sd_ki (hbg _ wk_int)
  obtain ⟨t3, a3⟩ := sd_kq hCv.2.2.2.2.1
  obtain ⟨t4, a4⟩ := sd_ka2 hCv.2.2.2.2.2
  obtain ⟨tc, hK⟩ := sd_ty_mk hKc a0 a1 a2 a3 a4
  have hC : sd_LC p l s m c D tc b L xs := ⟨hx, hb, hml, hown, hts, hX, hbl, hK, hEv, hEs, hl9⟩
  have hA : ∀ q : Nat, s.heap.size ≤ q → sd_LA s q := fun _ h => h
  have hS : va_S (sd_LA s) s.heap s.heap [] := va_S.rf
  have hP : va_P D vwCl [] s.heap := fun k q h => by simp at h
  have hD : va_D (sd_LA s) [] := ⟨fun i j p q h => by simp at h, fun k q h => by simp at h⟩
  have hl := lv_entry ([.ref b]) (n := 8) (Nat.le_of_ble_eq_true rfl)
  rw [lg_entry_eq]
  generalize (lg_sl ([.ref b]) ++ List.replicate (8 - (lg_sl ([.ref b])).length) Slot.unset).toArray = ls at hl ⊢
  replace hl : lv_has ls 8 [(0, .ref b)] := hl
  refine va_new (ci := 4) (fs := [.null, .null, .null, .null, .null, .int 0]) (C := RX4) (T := TX4) (N := 6) hx hb hts (fun w h => mm (inX4 w h)) tyX4 tyX4_ok hown (hts _ (mm wc_L_8)) (hts _ (mm wa_X4)) (hts _ (mm wn_X4)) hK hP hD hS hA rfl (fun j hj => by match j, hj with | 0, _ => rfl | 1, _ => rfl | 2, _ => rfl | 3, _ => rfl | 4, _ => rfl | 5, _ => rfl) (Nat.le_of_ble_eq_true rfl) (Nat.le_of_ble_eq_true rfl) dL_law_0 (fun q0 H hP hD hS => ?_)
  refine lv_dup hx hb dL_law_3 rfl ?_
  refine sd_ctor (wr := []) (wc := [(q0, .inr (4, [.null, .null, .null, .null, .null, .int 0]))]) (va_runI (As := []) (rest := [.ref q0]) ⟨hx, hb, hml, hown, hts⟩ (k_X4_init l D _ q0) (cwI 0 hts (sd_gi wd_X4_init) rfl rfl rfl (hts _ (mm wn_X4)) (hts _ (mm wm_L_31)) (hts _ (mm wi_X4_init)) rfl nq_X4_init ⟨Nat.le_of_ble_eq_true rfl, Nat.le_of_ble_eq_true rfl⟩) (sd_preC (sd_P_r (w1 := []) hP) hK (sd_D_r (w1 := []) hD) hCv) rfl rfl hl.1 rfl (lv_room (Nat.le_of_ble_eq_true rfl)) dL_law_4 ⟨Nat.le_of_ble_eq_true rfl, Nat.le_of_ble_eq_true rfl⟩) hP hD hS hA (fun ad H locs had hP9 hD9 hS9 => ?_)
  clear hP hD hS
  subst had
  have hS := hS9
  have hP : va_P D vwCl (dw ad tc (fun _ => 0) (fun _ => 0) (fun _ _ => 0) (fun _ _ => false) (fun _ _ => 0) (fun _ _ => 0) (fun _ => false) (fun _ => 0) (fun _ => 0) (fun _ => false) (-1)) H := hP9
  have hD : va_D (sd_LA s) (dw ad tc (fun _ => 0) (fun _ => 0) (fun _ _ => 0) (fun _ _ => false) (fun _ _ => 0) (fun _ _ => 0) (fun _ => false) (fun _ => 0) (fun _ => 0) (fun _ => false) (-1)) := hD9
  clear hP9 hD9 hS9
  refine lv_astore_n (lv' := [(1, .ref (ad 0)), (0, .ref b)]) hx hb dL_law_7 rfl hl (by decide) rfl (fun ls hl => ?_)
  refine va_new (ci := 5) (fs := [.int 0, .null, .null, .null, .null, .null, .int 0, .int 0, .null, .null, .null, .int 0, .null, .null, .null]) (C := RX5) (T := TX5) (N := 15) hx hb hts (fun w h => mm (inX5 w h)) tyX5 tyX5_ok hown (hts _ (mm wc_L_32)) (hts _ (mm wa_X5)) (hts _ (mm wn_X5)) hK hP hD hS hA rfl (fun j hj => by match j, hj with | 0, _ => rfl | 1, _ => rfl | 2, _ => rfl | 3, _ => rfl | 4, _ => rfl | 5, _ => rfl | 6, _ => rfl | 7, _ => rfl | 8, _ => rfl | 9, _ => rfl | 10, _ => rfl | 11, _ => rfl | 12, _ => rfl | 13, _ => rfl | 14, _ => rfl) (Nat.le_of_ble_eq_true rfl) (Nat.le_of_ble_eq_true rfl) dL_law_8 (fun q1 H hP hD hS => ?_)
  refine lv_dup hx hb dL_law_11 rfl ?_
  refine sd_ctor (wr := dw ad tc (fun _ => 0) (fun _ => 0) (fun _ _ => 0) (fun _ _ => false) (fun _ _ => 0) (fun _ _ => 0) (fun _ => false) (fun _ => 0) (fun _ => 0) (fun _ => false) (-1)) (wc := [(q1, .inr (5, [.int 0, .null, .null, .null, .null, .null, .int 0, .int 0, .null, .null, .null, .int 0, .null, .null, .null]))]) (va_runI (As := []) (rest := [.ref q1]) ⟨hx, hb, hml, hown, hts⟩ (k_X5_init l D _ q1) (cwI 0 hts (sd_gi wd_X5_init) rfl rfl rfl (hts _ (mm wn_X5)) (hts _ (mm wm_L_34)) (hts _ (mm wi_X5_init)) rfl nq_X5_init ⟨Nat.le_of_ble_eq_true rfl, Nat.le_of_ble_eq_true rfl⟩) (sd_preC (sd_P_r hP) hK (sd_D_r hD) hCv) rfl rfl hl.1 rfl (lv_room (Nat.le_of_ble_eq_true rfl)) dL_law_12 ⟨Nat.le_of_ble_eq_true rfl, Nat.le_of_ble_eq_true rfl⟩) hP hD hS hA (fun v H locs hv hP9 hD9 hS9 => ?_)
  obtain ⟨hv0, hv⟩ := hv
  clear hP hD hS
  subst hv0
  have hP := hP9
  have hD := hD9
  have hS := hS9
  clear hP9 hD9 hS9
  refine lv_astore_n (lv' := [(2, .ref (v.1 0)), (1, .ref (ad 0)), (0, .ref b)]) hx hb dL_law_15 rfl hl (by decide) rfl (fun ls hl => ?_)
  refine lv_iconst (v := nI 1) hx hb dL_law_16 (by decide) ?_
  refine sd_newA (atype := .long) (n := 1) (a0 := (1, .inr (.inl (fun _ => sd_L 0)))) hx hb (hts _ (mm wk_long)) rfl hK hP hD hS hA 0 rfl sd_cl (by decide) (by decide) (Nat.le_of_ble_eq_true rfl) (Nat.le_of_ble_eq_true rfl) dL_law_17 (fun bo H hP hD hS => ?_)
  refine lv_astore_n (lv' := [(3, .ref bo), (2, .ref (v.1 0)), (1, .ref (ad 0)), (0, .ref b)]) hx hb dL_law_19 rfl hl (by decide) rfl (fun ls hl => ?_)
  refine lv_iconst (v := nI 0) hx hb dL_law_20 (by decide) ?_
  refine lv_istore (lv' := [(4, .int (nI 0)), (3, .ref bo), (2, .ref (v.1 0)), (1, .ref (ad 0)), (0, .ref b)]) hx hb dL_law_21 hl (by decide) rfl (fun ls hl => ?_)
  refine W.widen (k := 67 + 0) (n := 1103 + 6 * 0) (by decide) (by decide) ?_
  exact lw_loop (ad := ad) (am := v.1) (bo := bo) hC hL hr hlocks (L + 1) 0 ((fun _ => 0), (fun _ => 0), (fun _ _ => 0), (fun _ _ => false), (fun _ _ => 0), (fun _ _ => 0), (fun _ => false), (fun _ => 0), (fun _ => 0), (fun _ => false), -1) (0, (fun _ => 0), (fun _ => 0), (fun _ => 0), (fun _ => false), v.2, false, 0, (fun _ => 0), (fun _ => false), (fun _ => 0), 0, (fun _ => 0), (fun _ => 0), (fun _ => 0)) (fun _ => sd_L 0) H locs ls (Nat.zero_le _) (by omega) (sd_Rel_0 hv) ⟨sd_P_l (sd_P_l hP), sd_P_r (sd_P_l hP), sd_P_r hP, sd_D_l (sd_D_l hD), sd_D_r (sd_D_l hD), sd_D_r hD, sd_D_x (sd_D_l hD), sd_Ap_l (sd_D_x hD), sd_Ap_r (sd_D_x hD), hS⟩ (lv_sub hl [4, 3, 2, 1, 0] rfl)

/-! the finder: the equations -/
theorem sd_row_a {t e k : Nat} (x y : FP) (h : k < t + e + 1) : sd_row t e x y k = sd_pow x k := by rw [sd_row, if_pos h]
theorem sd_row_b {t e k : Nat} (x y : FP) (h : k < e) : sd_row t e x y (t + e + 1 + k) = 0 - y * sd_pow x k := by rw [sd_row, if_neg (by omega), if_pos (by omega), Nat.add_sub_cancel_left]

set_option maxHeartbeats 4000000 in
set_option maxRecDepth 100000 in
theorem k_X1_writeEquation (l : Launch) (D : va_G) {ad : Nat → Nat} {tc : Nat → ClassId} {dg pl : Nat → Nat} {vl : Nat → Nat → FP} {th : Nat → Nat → Bool} {cu mx : Nat → Nat → FP} {us : Nat → Bool} {so : Nat → FP} {rr : Nat → Int32} {fw : Nat → Bool} {ff : Int32} (sz : Nat) (r pp : Nat) (v : FP) (t e1 : Nat) (hrr : r < 16) (hp : pp ≤ 16) (hn : t + e1 + 1 + e1 ≤ 16) : Met l yX1_writeEquation (Cond.code yX1_writeEquation cX1_writeEquation 9 none :: bg) { frames := 1, cells := 0, slots := 0, locals := 35 } (sd_Wr D vwCl (ty5 tc) (dw ad tc dg pl vl th cu mx us so rr fw ff) sz [.ref (ad (38 + r)), .int (nI pp), .long (sd_L v), .int (nI (t + e1)), .int (nI e1)]) (va_Qv (S := Nat → Nat → FP) (fun u : Nat → Nat → FP => ∀ i j, u i j = (if i = r ∧ j ≤ t + e1 + 1 + e1 then sd_row t e1 (sd_N pp) v j else mx i j)) (sd_B D vwCl (ty5 tc) (va_A (dw ad tc dg pl vl th cu mx us so rr fw ff) sz) (fun u => dw ad tc dg pl vl th cu u us so rr fw ff)) (va_A (dw ad tc dg pl vl th cu mx us so rr fw ff) sz)) 0 0 (va_A (dw ad tc dg pl vl th cu mx us so rr fw ff) sz) := by
  refine Met.ofW (cc := cX1_writeEquation) (maxL := 9) (ret := none) (by decide) rfl ?_
  intro p e s m args below meth c s₁ B hml hv
  obtain ⟨rfl, hsz, hP, hK, hD0⟩ := hv
  have hx := B.exec
  have hb := B.bytes
  have hret := B.returns
  have hts := atoms_spec (ws := Cond.code yX1_writeEquation cX1_writeEquation 9 none :: bg) B.pre
  have hown : s.vm.findClass RX1 = some m.cls := findClass_of_methodNamed B.named
  have hlocks := B.notSynchronized
  subst hsz
  have hD := hD0.self (sz := s.heap.size)
  generalize hAe : va_A (dw ad tc dg pl vl th cu mx us so rr fw ff) s.heap.size = A at hD ⊢
  have hA : ∀ q : Nat, s.heap.size ≤ q → A q := fun q h => by rw [← hAe]; exact Or.inr h
  have hS : va_S A s.heap s.heap [] := va_S.rf
  have hl := lv_entry ([.ref (ad (38 + r)), .int (nI pp), .long (sd_L v), .int (nI (t + e1)), .int (nI e1)]) (n := 9) (Nat.le_of_ble_eq_true rfl)
  rw [lg_entry_eq]
  generalize (lg_sl ([.ref (ad (38 + r)), .int (nI pp), .long (sd_L v), .int (nI (t + e1)), .int (nI e1)]) ++ List.replicate (9 - (lg_sl ([.ref (ad (38 + r)), .int (nI pp), .long (sd_L v), .int (nI (t + e1)), .int (nI e1)])).length) Slot.unset).toArray = ls at hl ⊢
  replace hl : lv_has ls 9 [(0, .ref (ad (38 + r))), (1, .int (nI pp)), (2, .long (sd_L v)), (4, .int (nI (t + e1))), (5, .int (nI e1))] := hl
  have hr := hrr
  refine lv_lconst (v := 1) hx hb dX1_writeEquation_0 (by decide) ?_
  refine sd_tol (y := sd_L (sd_pow (sd_N pp) 0)) (by rw [sd_pow_0]; exact sd_L_1.symm) ?_
  refine lv_lstore (lv' := [(6, .long (sd_L (sd_pow (sd_N pp) 0))), (0, .ref (ad (38 + r))), (1, .int (nI pp)), (2, .long (sd_L v)), (4, .int (nI (t + e1))), (5, .int (nI e1))]) hx hb dX1_writeEquation_1 hl (by decide) rfl (fun ls hl => ?_)
  refine lv_iconst (v := nI 0) hx hb dX1_writeEquation_3 (by decide) ?_
  refine lv_istore (lv' := [(8, .int (nI 0)), (6, .long (sd_L (sd_pow (sd_N pp) 0))), (0, .ref (ad (38 + r))), (1, .int (nI pp)), (2, .long (sd_L v)), (4, .int (nI (t + e1))), (5, .int (nI e1))]) hx hb dX1_writeEquation_4 hl (by decide) rfl (fun ls hl => ?_)
  obtain ⟨H, hH9⟩ : ∃ H : Heap, H = s.heap := ⟨_, rfl⟩
  obtain ⟨locs, hl9⟩ : ∃ x : List Loc, x = [] := ⟨_, rfl⟩
  rw [← hH9, ← hl9]
  have hS : va_S A s.heap H locs := by rw [hH9, hl9]; exact va_S.rf
  have hP : va_P D vwCl (dw ad tc dg pl vl th cu mx us so rr fw ff) H := by rw [hH9]; exact hP
  clear hH9 hl9
  obtain ⟨k, m1, hk, hI, hP9, hD9, hl9⟩ : ∃ (k : Nat) (m1 : Nat → Nat → FP), (k ≤ t + e1 + 1) ∧ (∀ i j, m1 i j = (if i = r ∧ (j < k ∨ (t + e1 + 1 ≤ j ∧ j < t + e1 + 1 + e1 ∧ j < t + e1 + 1 + k) ∨ (j = t + e1 + 1 + e1 ∧ e1 < k)) then sd_row t e1 (sd_N pp) v j else mx i j)) ∧ va_P D vwCl (dw ad tc dg pl vl th cu m1 us so rr fw ff) H ∧ va_D A (dw ad tc dg pl vl th cu m1 us so rr fw ff) ∧ lv_has ls 9 [(8, .int (nI k)), (6, .long (sd_L (sd_pow (sd_N pp) k))), (0, .ref (ad (38 + r))), (1, .int (nI pp)), (2, .long (sd_L v)), (4, .int (nI (t + e1))), (5, .int (nI e1))] := ⟨0, mx, Nat.zero_le _, fun i j => by rw [if_neg (by omega)], hP, hD, (lv_sub hl [0, 1, 2, 3, 4, 5, 6] rfl)⟩
  replace hl := hl9
  clear hl9
  replace hP := hP9
  replace hD := hD9
  clear hP9 hD9
  obtain ⟨k9, hk9⟩ : ∃ k9 : Nat, t + e1 + 1 < k + k9 := ⟨t + e1 + 2, by omega⟩
  induction k9 generalizing k m1 ls H locs with
  | zero => exact absurd hk9 (by omega)
  | succ k9 ih =>
    refine lv_iload hx hb dX1_writeEquation_6 (lv_at hl 0 rfl) ?_
    refine lv_iload hx hb dX1_writeEquation_8 (lv_at hl 5 rfl) ?_
    refine sd_icmp_gt (tgt := 85) hx hb (by omega) (by omega) dX1_writeEquation_10 (by decide) (fun c1 => ?_) (fun c1 => ?_)
    · have hI9 : ∀ i j, m1 i j = (if i = r ∧ j ≤ t + e1 + 1 + e1 then sd_row t e1 (sd_N pp) v j else mx i j) := by
        intro i j
        rw [hI]
        by_cases a1 : i = r ∧ j ≤ t + e1 + 1 + e1
        · rw [if_pos a1, if_pos (by omega)]
        · rw [if_neg a1, if_neg (by omega)]
      exact W.vret hx hb hret (fun t ht hW => ⟨⟨m1, rfl, hI9, by rw [ht]; exact hP, va_K.moved hW.alike hK, hD⟩, hS.F ht⟩) hS.2.2 dX1_writeEquation_85
    · refine lv_aload_n hx hb dX1_writeEquation_13 rfl (lv_at hl 2 rfl) ?_
      refine lv_iload hx hb dX1_writeEquation_14 (lv_at hl 0 rfl) ?_
      refine lv_lload hx hb dX1_writeEquation_16 (lv_at hl 1 rfl) ?_
      refine sd_last hx hb hK hP hD hS (38 + r) 0 (dw_mx hr) rfl (k := k) (by omega) (by decide) (ws2 := dw ad tc dg pl vl th cu (sd_up m1 r (sd_up (m1 r) k (sd_pow (sd_N pp) k))) us so rr fw ff) (by rw [sd_stL]; exact dws_mx hr _) dX1_writeEquation_18 (fun H locs hP hD hS => ?_)
      refine lv_iload hx hb dX1_writeEquation_19 (lv_at hl 0 rfl) ?_
      refine lv_iload hx hb dX1_writeEquation_21 (lv_at hl 6 rfl) ?_
      refine sd_icmp_ge (tgt := 48) hx hb (by omega) (by omega) dX1_writeEquation_23 (by decide) (fun c2 => ?_) (fun c2 => ?_)
      · refine lv_iload hx hb dX1_writeEquation_48 (lv_at hl 0 rfl) ?_
        refine lv_iload hx hb dX1_writeEquation_50 (lv_at hl 6 rfl) ?_
        refine sd_icmp_ne (tgt := 70) hx hb (by omega) (by omega) dX1_writeEquation_52 (by decide) (fun c3 => ?_) (fun c3 => ?_)
        · refine lv_lload hx hb dX1_writeEquation_70 (lv_at hl 1 rfl) ?_
          refine lv_iload_n hx hb dX1_writeEquation_72 rfl (lv_at hl 3 rfl) ?_
          refine lv_i2l (v := lN pp) hx hb dX1_writeEquation_73 (nI_l (by omega)) ?_
          refine sd_tol (y := sd_L (sd_N pp)) ((sd_N_L (by omega)).symm) ?_
          refine sd_rl (va_runS (As := [.long (sd_L (sd_pow (sd_N pp) k)), .long (sd_L (sd_N pp))]) (rest := []) ⟨hx, hb, hml, hown, hts⟩ (k_X2_times l (sd_pow (sd_N pp) k) (sd_N pp)) (sd_cwS hts wd_X2_times wn_X2 wm_X1_71 wi_X2_times nq_X2_times rfl rfl ⟨Nat.le_of_ble_eq_true rfl, Nat.le_of_ble_eq_true rfl⟩) sd_preN rfl rfl hl.1 rfl (lv_room (Nat.le_of_ble_eq_true rfl)) dX1_writeEquation_74 ⟨Nat.zero_le _, Nat.zero_le _⟩) (fun r1 hr1 => ?_)
          subst hr1
          refine sd_tol (y := sd_L (sd_pow (sd_N pp) (k + 1))) (by rw [sd_pow_s]) ?_
          refine lv_lstore (lv' := [(6, .long (sd_L (sd_pow (sd_N pp) (k + 1)))), (8, .int (nI k)), (0, .ref (ad (38 + r))), (1, .int (nI pp)), (2, .long (sd_L v)), (4, .int (nI (t + e1))), (5, .int (nI e1))]) hx hb dX1_writeEquation_77 hl (by decide) rfl (fun ls hl => ?_)
          refine lv_iinc (v := nI (k + 1)) (lv' := [(8, .int (nI (k + 1))), (6, .long (sd_L (sd_pow (sd_N pp) (k + 1)))), (0, .ref (ad (38 + r))), (1, .int (nI pp)), (2, .long (sd_L v)), (4, .int (nI (t + e1))), (5, .int (nI e1))]) hx hb dX1_writeEquation_79 hl (k := 1) rfl (nI_1 _) (by decide) rfl (fun ls hl => ?_)
          refine lv_goto (tgt := 6) hx hb dX1_writeEquation_82 (by decide) ?_
          have hI9 : ∀ i j, (sd_up m1 r (sd_up (m1 r) k (sd_pow (sd_N pp) k))) i j = (if i = r ∧ (j < (k + 1) ∨ (t + e1 + 1 ≤ j ∧ j < t + e1 + 1 + e1 ∧ j < t + e1 + 1 + (k + 1)) ∨ (j = t + e1 + 1 + e1 ∧ e1 < (k + 1))) then sd_row t e1 (sd_N pp) v j else mx i j) := by
            intro i j
            rw [sd_up2, hI]
            by_cases a2 : i = r ∧ j = k
            · obtain ⟨rfl, rfl⟩ := a2
              rw [if_pos ⟨rfl, rfl⟩, if_pos ⟨rfl, by omega⟩, sd_row_a _ _ (by omega)]
            · rw [if_neg a2]
              by_cases a3 : i = r ∧ (j < k ∨ (t + e1 + 1 ≤ j ∧ j < t + e1 + 1 + e1 ∧ j < t + e1 + 1 + k) ∨ (j = t + e1 + 1 + e1 ∧ e1 < k))
              · rw [if_pos a3, if_pos ⟨a3.1, by omega⟩]
              · rw [if_neg a3, if_neg (by omega)]
          exact ih (k := k + 1) (m1 := sd_up m1 r (sd_up (m1 r) k (sd_pow (sd_N pp) k))) (hk := by omega) (hI := hI9) (H := H) (locs := locs) (hP := hP) (hD := hD) (hS := hS) (ls := ls) (hl := (lv_sub hl [0, 1, 2, 3, 4, 5, 6] rfl)) (hk9 := by omega)
        · refine lv_aload_n hx hb dX1_writeEquation_55 rfl (lv_at hl 2 rfl) ?_
          refine lv_iload hx hb dX1_writeEquation_56 (lv_at hl 5 rfl) ?_
          refine lv_iconst (v := nI 1) hx hb dX1_writeEquation_58 (by decide) ?_
          refine sd_iadd hx hb dX1_writeEquation_59 ?_
          refine lv_iload hx hb dX1_writeEquation_60 (lv_at hl 6 rfl) ?_
          refine sd_iadd hx hb dX1_writeEquation_62 ?_
          refine lv_lload_n hx hb dX1_writeEquation_63 rfl (lv_at hl 4 rfl) ?_
          refine lv_lload hx hb dX1_writeEquation_64 (lv_at hl 1 rfl) ?_
          refine sd_rl (va_runS (As := [.long (sd_L v), .long (sd_L (sd_pow (sd_N pp) k))]) (rest := [.int (nI (((t + e1) + 1) + e1)), .ref (ad (38 + r))]) ⟨hx, hb, hml, hown, hts⟩ (k_X2_times l v (sd_pow (sd_N pp) k)) (sd_cwS hts wd_X2_times wn_X2 wm_X1_71 wi_X2_times nq_X2_times rfl rfl ⟨Nat.le_of_ble_eq_true rfl, Nat.le_of_ble_eq_true rfl⟩) sd_preN rfl rfl hl.1 rfl (lv_room (Nat.le_of_ble_eq_true rfl)) dX1_writeEquation_66 ⟨Nat.zero_le _, Nat.zero_le _⟩) (fun r2 hr2 => ?_)
          subst hr2
          refine sd_last hx hb hK hP hD hS (38 + r) 0 (dw_mx hr) rfl (k := ((t + e1) + 1) + e1) (by omega) (by decide) (ws2 := dw ad tc dg pl vl th cu (sd_up (sd_up m1 r (sd_up (m1 r) k (sd_pow (sd_N pp) k))) r (sd_up ((sd_up m1 r (sd_up (m1 r) k (sd_pow (sd_N pp) k))) r) (((t + e1) + 1) + e1) (v * sd_pow (sd_N pp) k))) us so rr fw ff) (by rw [sd_stL]; exact dws_mx hr _) dX1_writeEquation_69 (fun H locs hP hD hS => ?_)
          refine lv_lload hx hb dX1_writeEquation_70 (lv_at hl 1 rfl) ?_
          refine lv_iload_n hx hb dX1_writeEquation_72 rfl (lv_at hl 3 rfl) ?_
          refine lv_i2l (v := lN pp) hx hb dX1_writeEquation_73 (nI_l (by omega)) ?_
          refine sd_tol (y := sd_L (sd_N pp)) ((sd_N_L (by omega)).symm) ?_
          refine sd_rl (va_runS (As := [.long (sd_L (sd_pow (sd_N pp) k)), .long (sd_L (sd_N pp))]) (rest := []) ⟨hx, hb, hml, hown, hts⟩ (k_X2_times l (sd_pow (sd_N pp) k) (sd_N pp)) (sd_cwS hts wd_X2_times wn_X2 wm_X1_71 wi_X2_times nq_X2_times rfl rfl ⟨Nat.le_of_ble_eq_true rfl, Nat.le_of_ble_eq_true rfl⟩) sd_preN rfl rfl hl.1 rfl (lv_room (Nat.le_of_ble_eq_true rfl)) dX1_writeEquation_74 ⟨Nat.zero_le _, Nat.zero_le _⟩) (fun r3 hr3 => ?_)
          subst hr3
          refine sd_tol (y := sd_L (sd_pow (sd_N pp) (k + 1))) (by rw [sd_pow_s]) ?_
          refine lv_lstore (lv' := [(6, .long (sd_L (sd_pow (sd_N pp) (k + 1)))), (8, .int (nI k)), (0, .ref (ad (38 + r))), (1, .int (nI pp)), (2, .long (sd_L v)), (4, .int (nI (t + e1))), (5, .int (nI e1))]) hx hb dX1_writeEquation_77 hl (by decide) rfl (fun ls hl => ?_)
          refine lv_iinc (v := nI (k + 1)) (lv' := [(8, .int (nI (k + 1))), (6, .long (sd_L (sd_pow (sd_N pp) (k + 1)))), (0, .ref (ad (38 + r))), (1, .int (nI pp)), (2, .long (sd_L v)), (4, .int (nI (t + e1))), (5, .int (nI e1))]) hx hb dX1_writeEquation_79 hl (k := 1) rfl (nI_1 _) (by decide) rfl (fun ls hl => ?_)
          refine lv_goto (tgt := 6) hx hb dX1_writeEquation_82 (by decide) ?_
          have hI9 : ∀ i j, (sd_up (sd_up m1 r (sd_up (m1 r) k (sd_pow (sd_N pp) k))) r (sd_up ((sd_up m1 r (sd_up (m1 r) k (sd_pow (sd_N pp) k))) r) (((t + e1) + 1) + e1) (v * sd_pow (sd_N pp) k))) i j = (if i = r ∧ (j < (k + 1) ∨ (t + e1 + 1 ≤ j ∧ j < t + e1 + 1 + e1 ∧ j < t + e1 + 1 + (k + 1)) ∨ (j = t + e1 + 1 + e1 ∧ e1 < (k + 1))) then sd_row t e1 (sd_N pp) v j else mx i j) := by
            intro i j
            rw [sd_up2, sd_up2, hI]
            by_cases a1 : i = r ∧ j = t + e1 + 1 + e1
            · obtain ⟨rfl, rfl⟩ := a1
              rw [if_pos ⟨rfl, rfl⟩, if_pos ⟨rfl, by omega⟩, sd_row_end, c3]
            · rw [if_neg a1]
              by_cases a2 : i = r ∧ j = k
              · obtain ⟨rfl, rfl⟩ := a2
                rw [if_pos ⟨rfl, rfl⟩, if_pos ⟨rfl, by omega⟩, sd_row_a _ _ (by omega)]
              · rw [if_neg a2]
                by_cases a3 : i = r ∧ (j < k ∨ (t + e1 + 1 ≤ j ∧ j < t + e1 + 1 + e1 ∧ j < t + e1 + 1 + k) ∨ (j = t + e1 + 1 + e1 ∧ e1 < k))
                · rw [if_pos a3, if_pos ⟨a3.1, by omega⟩]
                · rw [if_neg a3, if_neg (by omega)]
          exact ih (k := k + 1) (m1 := sd_up (sd_up m1 r (sd_up (m1 r) k (sd_pow (sd_N pp) k))) r (sd_up ((sd_up m1 r (sd_up (m1 r) k (sd_pow (sd_N pp) k))) r) (((t + e1) + 1) + e1) (v * sd_pow (sd_N pp) k))) (hk := by omega) (hI := hI9) (H := H) (locs := locs) (hP := hP) (hD := hD) (hS := hS) (ls := ls) (hl := (lv_sub hl [0, 1, 2, 3, 4, 5, 6] rfl)) (hk9 := by omega)
      · refine lv_aload_n hx hb dX1_writeEquation_26 rfl (lv_at hl 2 rfl) ?_
        refine lv_iload hx hb dX1_writeEquation_27 (lv_at hl 5 rfl) ?_
        refine lv_iconst (v := nI 1) hx hb dX1_writeEquation_29 (by decide) ?_
        refine sd_iadd hx hb dX1_writeEquation_30 ?_
        refine lv_iload hx hb dX1_writeEquation_31 (lv_at hl 0 rfl) ?_
        refine sd_iadd hx hb dX1_writeEquation_33 ?_
        refine lv_lconst (v := 0) hx hb dX1_writeEquation_34 (by decide) ?_
        refine sd_tol (y := sd_L 0) sd_L_0.symm ?_
        refine lv_lload_n hx hb dX1_writeEquation_35 rfl (lv_at hl 4 rfl) ?_
        refine lv_lload hx hb dX1_writeEquation_36 (lv_at hl 1 rfl) ?_
        refine sd_rl (va_runS (As := [.long (sd_L v), .long (sd_L (sd_pow (sd_N pp) k))]) (rest := [.long (sd_L 0), .int (nI (((t + e1) + 1) + k)), .ref (ad (38 + r))]) ⟨hx, hb, hml, hown, hts⟩ (k_X2_times l v (sd_pow (sd_N pp) k)) (sd_cwS hts wd_X2_times wn_X2 wm_X1_71 wi_X2_times nq_X2_times rfl rfl ⟨Nat.le_of_ble_eq_true rfl, Nat.le_of_ble_eq_true rfl⟩) sd_preN rfl rfl hl.1 rfl (lv_room (Nat.le_of_ble_eq_true rfl)) dX1_writeEquation_38 ⟨Nat.zero_le _, Nat.zero_le _⟩) (fun r4 hr4 => ?_)
        subst hr4
        refine sd_rl (va_runS (As := [.long (sd_L 0), .long (sd_L (v * sd_pow (sd_N pp) k))]) (rest := [.int (nI (((t + e1) + 1) + k)), .ref (ad (38 + r))]) ⟨hx, hb, hml, hown, hts⟩ (k_X2_minus l 0 (v * sd_pow (sd_N pp) k)) (sd_cwS hts wd_X2_minus wn_X2 wm_X1_77 wi_X2_minus nq_X2_minus rfl rfl ⟨Nat.le_of_ble_eq_true rfl, Nat.le_of_ble_eq_true rfl⟩) sd_preN rfl rfl hl.1 rfl (lv_room (Nat.le_of_ble_eq_true rfl)) dX1_writeEquation_41 ⟨Nat.zero_le _, Nat.zero_le _⟩) (fun r5 hr5 => ?_)
        subst hr5
        refine sd_last hx hb hK hP hD hS (38 + r) 0 (dw_mx hr) rfl (k := ((t + e1) + 1) + k) (by omega) (by decide) (ws2 := dw ad tc dg pl vl th cu (sd_up (sd_up m1 r (sd_up (m1 r) k (sd_pow (sd_N pp) k))) r (sd_up ((sd_up m1 r (sd_up (m1 r) k (sd_pow (sd_N pp) k))) r) (((t + e1) + 1) + k) (0 - v * sd_pow (sd_N pp) k))) us so rr fw ff) (by rw [sd_stL]; exact dws_mx hr _) dX1_writeEquation_44 (fun H locs hP hD hS => ?_)
        refine lv_goto (tgt := 70) hx hb dX1_writeEquation_45 (by decide) ?_
        refine lv_lload hx hb dX1_writeEquation_70 (lv_at hl 1 rfl) ?_
        refine lv_iload_n hx hb dX1_writeEquation_72 rfl (lv_at hl 3 rfl) ?_
        refine lv_i2l (v := lN pp) hx hb dX1_writeEquation_73 (nI_l (by omega)) ?_
        refine sd_tol (y := sd_L (sd_N pp)) ((sd_N_L (by omega)).symm) ?_
        refine sd_rl (va_runS (As := [.long (sd_L (sd_pow (sd_N pp) k)), .long (sd_L (sd_N pp))]) (rest := []) ⟨hx, hb, hml, hown, hts⟩ (k_X2_times l (sd_pow (sd_N pp) k) (sd_N pp)) (sd_cwS hts wd_X2_times wn_X2 wm_X1_71 wi_X2_times nq_X2_times rfl rfl ⟨Nat.le_of_ble_eq_true rfl, Nat.le_of_ble_eq_true rfl⟩) sd_preN rfl rfl hl.1 rfl (lv_room (Nat.le_of_ble_eq_true rfl)) dX1_writeEquation_74 ⟨Nat.zero_le _, Nat.zero_le _⟩) (fun r6 hr6 => ?_)
        subst hr6
        refine sd_tol (y := sd_L (sd_pow (sd_N pp) (k + 1))) (by rw [sd_pow_s]) ?_
        refine lv_lstore (lv' := [(6, .long (sd_L (sd_pow (sd_N pp) (k + 1)))), (8, .int (nI k)), (0, .ref (ad (38 + r))), (1, .int (nI pp)), (2, .long (sd_L v)), (4, .int (nI (t + e1))), (5, .int (nI e1))]) hx hb dX1_writeEquation_77 hl (by decide) rfl (fun ls hl => ?_)
        refine lv_iinc (v := nI (k + 1)) (lv' := [(8, .int (nI (k + 1))), (6, .long (sd_L (sd_pow (sd_N pp) (k + 1)))), (0, .ref (ad (38 + r))), (1, .int (nI pp)), (2, .long (sd_L v)), (4, .int (nI (t + e1))), (5, .int (nI e1))]) hx hb dX1_writeEquation_79 hl (k := 1) rfl (nI_1 _) (by decide) rfl (fun ls hl => ?_)
        refine lv_goto (tgt := 6) hx hb dX1_writeEquation_82 (by decide) ?_
        have hI9 : ∀ i j, (sd_up (sd_up m1 r (sd_up (m1 r) k (sd_pow (sd_N pp) k))) r (sd_up ((sd_up m1 r (sd_up (m1 r) k (sd_pow (sd_N pp) k))) r) (((t + e1) + 1) + k) (0 - v * sd_pow (sd_N pp) k))) i j = (if i = r ∧ (j < (k + 1) ∨ (t + e1 + 1 ≤ j ∧ j < t + e1 + 1 + e1 ∧ j < t + e1 + 1 + (k + 1)) ∨ (j = t + e1 + 1 + e1 ∧ e1 < (k + 1))) then sd_row t e1 (sd_N pp) v j else mx i j) := by
          intro i j
          rw [sd_up2, sd_up2, hI]
          by_cases a1 : i = r ∧ j = t + e1 + 1 + k
          · obtain ⟨rfl, rfl⟩ := a1
            rw [if_pos ⟨rfl, rfl⟩, if_pos ⟨rfl, by omega⟩, sd_row_b _ _ (by omega)]
          · rw [if_neg a1]
            by_cases a2 : i = r ∧ j = k
            · obtain ⟨rfl, rfl⟩ := a2
              rw [if_pos ⟨rfl, rfl⟩, if_pos ⟨rfl, by omega⟩, sd_row_a _ _ (by omega)]
            · rw [if_neg a2]
              by_cases a3 : i = r ∧ (j < k ∨ (t + e1 + 1 ≤ j ∧ j < t + e1 + 1 + e1 ∧ j < t + e1 + 1 + k) ∨ (j = t + e1 + 1 + e1 ∧ e1 < k))
              · rw [if_pos a3, if_pos ⟨a3.1, by omega⟩]
              · rw [if_neg a3, if_neg (by omega)]
        exact ih (k := k + 1) (m1 := sd_up (sd_up m1 r (sd_up (m1 r) k (sd_pow (sd_N pp) k))) r (sd_up ((sd_up m1 r (sd_up (m1 r) k (sd_pow (sd_N pp) k))) r) (((t + e1) + 1) + k) (0 - v * sd_pow (sd_N pp) k))) (hk := by omega) (hI := hI9) (H := H) (locs := locs) (hP := hP) (hD := hD) (hS := hS) (ls := ls) (hl := (lv_sub hl [0, 1, 2, 3, 4, 5, 6] rfl)) (hk9 := by omega)

set_option maxHeartbeats 4000000 in
set_option maxRecDepth 100000 in
theorem k_X1_writeEquations (l : Launch) (D : va_G) {ad : Nat → Nat} {tc : Nat → ClassId} {dg pl : Nat → Nat} {vl : Nat → Nat → FP} {th : Nat → Nat → Bool} {cu mx : Nat → Nat → FP} {us : Nat → Bool} {so : Nat → FP} {rr : Nat → Int32} {fw : Nat → Bool} {ff : Int32} (sz : Nat) (q e1 nx : Nat) (hq : q < 8) (hpl : pl q ≤ 16) (hN : nx = dg q + e1 + 1 + e1) (hn : nx ≤ 16) : Met l yX1_writeEquations (Cond.code yX1_writeEquations cX1_writeEquations 6 none :: bg) { frames := 2, cells := 0, slots := 0, locals := 63 } (sd_Wr D vwCl (ty5 tc) (dw ad tc dg pl vl th cu mx us so rr fw ff) sz [.ref (ad 8), .ref (ad (14 + 3 * q)), .int (nI e1), .int (nI nx)]) (va_Qv (S := Nat → Nat → FP) (fun u : Nat → Nat → FP => ∀ p9, 1 ≤ p9 → p9 ≤ pl q → th q p9 = true → sd_cnt (th q) (p9 - 1) < nx → ∀ j, j ≤ nx → u (sd_cnt (th q) (p9 - 1)) j = sd_row (dg q) e1 (sd_N p9) (vl q p9) j) (sd_B D vwCl (ty5 tc) (va_A (dw ad tc dg pl vl th cu mx us so rr fw ff) sz) (fun u => dw ad tc dg pl vl th cu u us so rr fw ff)) (va_A (dw ad tc dg pl vl th cu mx us so rr fw ff) sz)) 0 0 (va_A (dw ad tc dg pl vl th cu mx us so rr fw ff) sz) := by
  refine Met.ofW (cc := cX1_writeEquations) (maxL := 6) (ret := none) (by decide) rfl ?_
  intro p e s m args below meth c s₁ B hml hv
  obtain ⟨rfl, hsz, hP, hK, hD0⟩ := hv
  have hx := B.exec
  have hb := B.bytes
  have hr := B.returns
  have hts := atoms_spec (ws := Cond.code yX1_writeEquations cX1_writeEquations 6 none :: bg) B.pre
  have hown : s.vm.findClass RX1 = some m.cls := findClass_of_methodNamed B.named
  have hlocks := B.notSynchronized
  subst hsz
  have hD := hD0.self (sz := s.heap.size)
  generalize hAe : va_A (dw ad tc dg pl vl th cu mx us so rr fw ff) s.heap.size = A at hD ⊢
  have hA : ∀ q : Nat, s.heap.size ≤ q → A q := fun q h => by rw [← hAe]; exact Or.inr h
  have hS : va_S A s.heap s.heap [] := va_S.rf
  have hl := lv_entry ([.ref (ad 8), .ref (ad (14 + 3 * q)), .int (nI e1), .int (nI nx)]) (n := 6) (Nat.le_of_ble_eq_true rfl)
  rw [lg_entry_eq]
  generalize (lg_sl ([.ref (ad 8), .ref (ad (14 + 3 * q)), .int (nI e1), .int (nI nx)]) ++ List.replicate (6 - (lg_sl ([.ref (ad 8), .ref (ad (14 + 3 * q)), .int (nI e1), .int (nI nx)])).length) Slot.unset).toArray = ls at hl ⊢
  replace hl : lv_has ls 6 [(0, .ref (ad 8)), (1, .ref (ad (14 + 3 * q))), (2, .int (nI e1)), (3, .int (nI nx))] := hl
  refine lv_iconst (v := nI 0) hx hb dX1_writeEquations_0 (by decide) ?_
  refine lv_istore (lv' := [(4, .int (nI 0)), (0, .ref (ad 8)), (1, .ref (ad (14 + 3 * q))), (2, .int (nI e1)), (3, .int (nI nx))]) hx hb dX1_writeEquations_1 hl (by decide) rfl (fun ls hl => ?_)
  refine lv_iconst (v := nI 1) hx hb dX1_writeEquations_3 (by decide) ?_
  refine lv_istore (lv' := [(5, .int (nI 1)), (4, .int (nI 0)), (0, .ref (ad 8)), (1, .ref (ad (14 + 3 * q))), (2, .int (nI e1)), (3, .int (nI nx))]) hx hb dX1_writeEquations_4 hl (by decide) rfl (fun ls hl => ?_)
  obtain ⟨H, hH9⟩ : ∃ H : Heap, H = s.heap := ⟨_, rfl⟩
  obtain ⟨locs, hl9⟩ : ∃ x : List Loc, x = [] := ⟨_, rfl⟩
  rw [← hH9, ← hl9]
  have hS : va_S A s.heap H locs := by rw [hH9, hl9]; exact va_S.rf
  have hP : va_P D vwCl (dw ad tc dg pl vl th cu mx us so rr fw ff) H := by rw [hH9]; exact hP
  clear hH9 hl9
  obtain ⟨k, c, m1, hk, hc9, hcn, hI, hP9, hD9, hl9⟩ : ∃ (k : Nat) (c : Nat) (m1 : Nat → Nat → FP), (1 ≤ k ∧ k ≤ pl q + 1) ∧ (c = sd_cnt (th q) (k - 1)) ∧ (c ≤ nx) ∧ (∀ p9, 1 ≤ p9 → p9 < k → th q p9 = true → sd_cnt (th q) (p9 - 1) < nx → ∀ j, j ≤ nx → m1 (sd_cnt (th q) (p9 - 1)) j = sd_row (dg q) e1 (sd_N p9) (vl q p9) j) ∧ va_P D vwCl (dw ad tc dg pl vl th cu m1 us so rr fw ff) H ∧ va_D A (dw ad tc dg pl vl th cu m1 us so rr fw ff) ∧ lv_has ls 6 [(5, .int (nI k)), (4, .int (nI c)), (0, .ref (ad 8)), (1, .ref (ad (14 + 3 * q))), (2, .int (nI e1)), (3, .int (nI nx))] := ⟨1, 0, mx, ⟨Nat.le_refl 1, by omega⟩, rfl, Nat.zero_le _, fun p9 h1 h2 => absurd h2 (by omega), hP, hD, (lv_sub hl [0, 1, 2, 3, 4, 5] rfl)⟩
  replace hl := hl9
  clear hl9
  replace hP := hP9
  replace hD := hD9
  clear hP9 hD9
  obtain ⟨k9, hk9⟩ : ∃ k9 : Nat, pl q + 1 < k + k9 := ⟨pl q + 1, by omega⟩
  induction k9 generalizing k c m1 ls H locs with
  | zero => exact absurd hk9 (by omega)
  | succ k9 ih =>
    refine lv_iload hx hb dX1_writeEquations_6 (lv_at hl 0 rfl) ?_
    refine lv_aload_n hx hb dX1_writeEquations_8 rfl (lv_at hl 3 rfl) ?_
    refine va_get (D := D) (ci := 3) (v := .int (nI (pl q))) (C := RX3) (T := TX3) (N := 4) hx hb hts (fun w h => mm (inX3 w h)) hown hK hP (14 + 3 * q) (dw_sp hq) rfl 3 (by decide) (hts _ (mm wf_X1_57)) (fun _ h9 => h9) rfl dX1_writeEquations_9 ?_
    refine sd_icmp_gt (tgt := 65) hx hb (by omega) (by omega) dX1_writeEquations_12 (by decide) (fun c1 => ?_) (fun c1 => ?_)
    · exact W.vret hx hb hr (fun t ht hW => ⟨⟨m1, rfl, fun p9 h1 h2 h3 h4 => hI p9 h1 (by omega) h3 h4, by rw [ht]; exact hP, va_K.moved hW.alike hK, hD⟩, hS.F ht⟩) hS.2.2 dX1_writeEquations_65
    · refine lv_iload hx hb dX1_writeEquations_15 (lv_at hl 1 rfl) ?_
      refine lv_iload_n hx hb dX1_writeEquations_17 rfl (lv_at hl 5 rfl) ?_
      refine sd_icmp_ge (tgt := 65) hx hb (by omega) (by omega) dX1_writeEquations_18 (by decide) (fun c2 => ?_) (fun c2 => ?_)
      · have hI9 : ∀ p9, 1 ≤ p9 → p9 ≤ pl q → th q p9 = true → sd_cnt (th q) (p9 - 1) < nx → ∀ j, j ≤ nx → m1 (sd_cnt (th q) (p9 - 1)) j = sd_row (dg q) e1 (sd_N p9) (vl q p9) j := by
          intro p9 h1 h2 h3 h4
          refine hI p9 h1 ?_ h3 h4
          rcases Nat.lt_or_ge p9 k with z | z
          · exact z
          · have := sd_cnt_mono (th q) (show k - 1 ≤ p9 - 1 by omega)
            omega
        exact W.vret hx hb hr (fun t ht hW => ⟨⟨m1, rfl, hI9, by rw [ht]; exact hP, va_K.moved hW.alike hK, hD⟩, hS.F ht⟩) hS.2.2 dX1_writeEquations_65
      · refine lv_aload_n hx hb dX1_writeEquations_21 rfl (lv_at hl 3 rfl) ?_
        refine lv_iload hx hb dX1_writeEquations_22 (lv_at hl 0 rfl) ?_
        refine sd_ri (va_runV (As := [.int (nI k)]) (rest := []) ⟨hx, hb, hml, hown, hts⟩ (k_X3_hasShare l D q (nI k) hq hpl) (sd_cwV hts wd_X3_hasShare wn_X3 wm_X1_60 wi_X3_hasShare ws_X3_hasShare nq_X3_hasShare rfl rfl ⟨Nat.le_of_ble_eq_true rfl, Nat.le_of_ble_eq_true rfl⟩) (sd_preVR hP hK (ci := 3) (q0 := (14 + 3 * q)) rfl rfl (dw_sp hq)) rfl rfl hl.1 rfl (lv_room (Nat.le_of_ble_eq_true rfl)) dX1_writeEquations_24 ⟨Nat.zero_le _, Nat.zero_le _⟩) (fun r1 hr1 => ?_)
        subst hr1
        refine sd_if_eqB (tgt := 59) hx hb dX1_writeEquations_27 (by decide) (fun c3 => ?_) (fun c3 => ?_)
        · rw [sd_hs_nI _ (by omega) (by omega) (by omega)] at c3
          refine lv_iinc (v := nI (k + 1)) (lv' := [(5, .int (nI (k + 1))), (4, .int (nI c)), (0, .ref (ad 8)), (1, .ref (ad (14 + 3 * q))), (2, .int (nI e1)), (3, .int (nI nx))]) hx hb dX1_writeEquations_59 hl (k := 0) rfl (nI_1 _) (by decide) rfl (fun ls hl => ?_)
          refine lv_goto (tgt := 6) hx hb dX1_writeEquations_62 (by decide) ?_
          exact ih (k := k + 1) (c := c) (m1 := m1) (hk := by omega) (hc9 := by rw [Nat.add_sub_cancel, hc9]; have z := sd_cnt_f (b := th q) (n := k - 1) (by rw [Nat.sub_add_cancel hk.1]; exact c3); rw [Nat.sub_add_cancel hk.1] at z; exact z.symm) (hcn := hcn) (hI := fun p9 h1 h2 h3 h4 => (Nat.lt_or_ge p9 k).elim (fun z => hI p9 h1 z h3 h4) (fun z => absurd h3 (by rw [show p9 = k by omega, c3]; decide))) (H := H) (locs := locs) (hP := hP) (hD := hD) (hS := hS) (ls := ls) (hl := (lv_sub hl [0, 1, 2, 3, 4, 5] rfl)) (hk9 := by omega)
        · rw [sd_hs_nI _ (by omega) (by omega) (by omega)] at c3
          have hc : c < 16 := by omega
          refine lv_aload_n hx hb dX1_writeEquations_30 rfl (lv_at hl 2 rfl) ?_
          refine va_get (D := D) (ci := 1) (v := .ref (ad 9)) (C := RX1) (T := TX1) (N := 5) hx hb hts (fun w h => mm (inX1 w h)) hown hK hP 8 dw_finder rfl 1 (by decide) (hts _ (mm wf_X1_20)) (fun _ h9 => h9) rfl dX1_writeEquations_31 ?_
          refine lv_iload hx hb dX1_writeEquations_34 (lv_at hl 1 rfl) ?_
          refine sd_aldA hx hb hK hP 9 4 dw_rows rfl (k := c) (by omega) (by decide) rfl dX1_writeEquations_36 ?_
          refine lv_iload hx hb dX1_writeEquations_37 (lv_at hl 0 rfl) ?_
          refine lv_aload_n hx hb dX1_writeEquations_39 rfl (lv_at hl 3 rfl) ?_
          refine va_get (D := D) (ci := 3) (v := .ref (ad (15 + 3 * q))) (C := RX3) (T := TX3) (N := 4) hx hb hts (fun w h => mm (inX3 w h)) hown hK hP (14 + 3 * q) (dw_sp hq) rfl 0 (by decide) (hts _ (mm wf_X1_64)) (fun _ h9 => h9) rfl dX1_writeEquations_40 ?_
          refine lv_iload hx hb dX1_writeEquations_43 (lv_at hl 0 rfl) ?_
          refine sd_lald hx hb hK hP (15 + 3 * q) 0 (dw_vl hq) rfl (k := k) (by omega) (by decide) dX1_writeEquations_45 ?_
          refine lv_aload_n hx hb dX1_writeEquations_46 rfl (lv_at hl 3 rfl) ?_
          refine va_get (D := D) (ci := 3) (v := .int (nI (dg q))) (C := RX3) (T := TX3) (N := 4) hx hb hts (fun w h => mm (inX3 w h)) hown hK hP (14 + 3 * q) (dw_sp hq) rfl 2 (by decide) (hts _ (mm wf_X1_35)) (fun _ h9 => h9) rfl dX1_writeEquations_47 ?_
          refine lv_iload_n hx hb dX1_writeEquations_50 rfl (lv_at hl 4 rfl) ?_
          refine sd_iadd hx hb dX1_writeEquations_51 ?_
          refine lv_iload_n hx hb dX1_writeEquations_52 rfl (lv_at hl 4 rfl) ?_
          refine sd_wv (va_runS (As := [.ref (ad (38 + c)), .int (nI k), .long (sd_L ((vl q) k)), .int (nI ((dg q) + e1)), .int (nI e1)]) (rest := []) ⟨hx, hb, hml, hown, hts⟩ (k_X1_writeEquation l D _ c k (vl q k) (dg q) e1 hc (by omega) (by omega)) (sd_cwS hts wd_X1_writeEquation wn_X1 wm_X1_67 wi_X1_writeEquation nq_X1_writeEquation rfl rfl ⟨Nat.le_of_ble_eq_true rfl, Nat.le_of_ble_eq_true rfl⟩) (sd_preW hP hK hD) rfl rfl hl.1 rfl (lv_room (Nat.le_of_ble_eq_true rfl)) dX1_writeEquations_53 ⟨Nat.zero_le _, Nat.zero_le _⟩) hD hS hA (fun m2 H locs hm2 hP hD hS => ?_)
          replace hP : va_P D vwCl (dw ad tc dg pl vl th cu m2 us so rr fw ff) H := hP
          replace hD : va_D A (dw ad tc dg pl vl th cu m2 us so rr fw ff) := hD
          refine lv_iinc (v := nI (c + 1)) (lv' := [(4, .int (nI (c + 1))), (5, .int (nI k)), (0, .ref (ad 8)), (1, .ref (ad (14 + 3 * q))), (2, .int (nI e1)), (3, .int (nI nx))]) hx hb dX1_writeEquations_56 hl (k := 1) rfl (nI_1 _) (by decide) rfl (fun ls hl => ?_)
          refine lv_iinc (v := nI (k + 1)) (lv' := [(5, .int (nI (k + 1))), (4, .int (nI (c + 1))), (0, .ref (ad 8)), (1, .ref (ad (14 + 3 * q))), (2, .int (nI e1)), (3, .int (nI nx))]) hx hb dX1_writeEquations_59 hl (k := 1) rfl (nI_1 _) (by decide) rfl (fun ls hl => ?_)
          refine lv_goto (tgt := 6) hx hb dX1_writeEquations_62 (by decide) ?_
          have hI9 : ∀ p9, 1 ≤ p9 → p9 < k + 1 → th q p9 = true → sd_cnt (th q) (p9 - 1) < nx → ∀ j, j ≤ nx → m2 (sd_cnt (th q) (p9 - 1)) j = sd_row (dg q) e1 (sd_N p9) (vl q p9) j := by
            intro p9 h1 h2 h3 h4 j hj
            rw [hm2]
            rcases Nat.lt_or_ge p9 k with z | z
            · have a1 := sd_cnt_mono (th q) (show p9 ≤ k - 1 by omega)
              have a2 := sd_cnt_t (b := th q) (n := p9 - 1) (by rw [Nat.sub_add_cancel h1]; exact h3)
              rw [Nat.sub_add_cancel h1] at a2
              rw [if_neg (by omega)]
              exact hI p9 h1 z h3 h4 j hj
            · have ep : p9 = k := by omega
              subst ep
              rw [if_pos (by omega)]
          exact ih (k := k + 1) (c := c + 1) (m1 := m2) (hk := by omega) (hc9 := by rw [Nat.add_sub_cancel, hc9]; have z := sd_cnt_t (b := th q) (n := k - 1) (by rw [Nat.sub_add_cancel hk.1]; exact c3); rw [Nat.sub_add_cancel hk.1] at z; exact z.symm) (hcn := by omega) (hI := hI9) (H := H) (locs := locs) (hP := hP) (hD := hD) (hS := hS) (ls := ls) (hl := (lv_sub hl [0, 1, 2, 3, 4, 5] rfl)) (hk9 := by omega)

set_option maxHeartbeats 4000000 in
set_option maxRecDepth 100000 in
theorem k_X1_clearElsewhere (l : Launch) (D : va_G) {ad : Nat → Nat} {tc : Nat → ClassId} {dg pl : Nat → Nat} {vl : Nat → Nat → FP} {th : Nat → Nat → Bool} {cu mx : Nat → Nat → FP} {us : Nat → Bool} {so : Nat → FP} {rr : Nat → Int32} {fw : Nat → Bool} {ff : Int32} (sz : Nat) (g ux nx : Nat) (hg : g < 16) (hu : ux < nx) (hn : nx ≤ 16) : Met l yX1_clearElsewhere (Cond.code yX1_clearElsewhere cX1_clearElsewhere 5 none :: bg) { frames := 2, cells := 0, slots := 0, locals := 62 } (sd_Wr D vwCl (ty5 tc) (dw ad tc dg pl vl th cu mx us so rr fw ff) sz [.ref (ad 8), .int (nI g), .int (nI ux), .int (nI nx)]) (va_Qv (S := Nat → Nat → FP) (fun u : Nat → Nat → FP => ∀ i j, u i j = (if i < nx ∧ i ≠ g ∧ ux ≤ j ∧ j ≤ nx then mx i j - mx i ux * mx g j else mx i j)) (sd_B D vwCl (ty5 tc) (va_A (dw ad tc dg pl vl th cu mx us so rr fw ff) sz) (fun u => dw ad tc dg pl vl th cu u us so rr fw ff)) (va_A (dw ad tc dg pl vl th cu mx us so rr fw ff) sz)) 0 0 (va_A (dw ad tc dg pl vl th cu mx us so rr fw ff) sz) := by
  refine Met.ofW (cc := cX1_clearElsewhere) (maxL := 5) (ret := none) (by decide) rfl ?_
  intro p e s m args below meth c s₁ B hml hv
  obtain ⟨rfl, hsz, hP, hK, hD0⟩ := hv
  have hx := B.exec
  have hb := B.bytes
  have hr := B.returns
  have hts := atoms_spec (ws := Cond.code yX1_clearElsewhere cX1_clearElsewhere 5 none :: bg) B.pre
  have hown : s.vm.findClass RX1 = some m.cls := findClass_of_methodNamed B.named
  have hlocks := B.notSynchronized
  subst hsz
  have hD := hD0.self (sz := s.heap.size)
  generalize hAe : va_A (dw ad tc dg pl vl th cu mx us so rr fw ff) s.heap.size = A at hD ⊢
  have hA : ∀ q : Nat, s.heap.size ≤ q → A q := fun q h => by rw [← hAe]; exact Or.inr h
  have hS : va_S A s.heap s.heap [] := va_S.rf
  have hl := lv_entry ([.ref (ad 8), .int (nI g), .int (nI ux), .int (nI nx)]) (n := 5) (Nat.le_of_ble_eq_true rfl)
  rw [lg_entry_eq]
  generalize (lg_sl ([.ref (ad 8), .int (nI g), .int (nI ux), .int (nI nx)]) ++ List.replicate (5 - (lg_sl ([.ref (ad 8), .int (nI g), .int (nI ux), .int (nI nx)])).length) Slot.unset).toArray = ls at hl ⊢
  replace hl : lv_has ls 5 [(0, .ref (ad 8)), (1, .int (nI g)), (2, .int (nI ux)), (3, .int (nI nx))] := hl
  refine lv_iconst (v := nI 0) hx hb dX1_clearElsewhere_0 (by decide) ?_
  refine lv_istore (lv' := [(4, .int (nI 0)), (0, .ref (ad 8)), (1, .int (nI g)), (2, .int (nI ux)), (3, .int (nI nx))]) hx hb dX1_clearElsewhere_1 hl (by decide) rfl (fun ls hl => ?_)
  obtain ⟨H, hH9⟩ : ∃ H : Heap, H = s.heap := ⟨_, rfl⟩
  obtain ⟨locs, hl9⟩ : ∃ x : List Loc, x = [] := ⟨_, rfl⟩
  rw [← hH9, ← hl9]
  have hS : va_S A s.heap H locs := by rw [hH9, hl9]; exact va_S.rf
  have hP : va_P D vwCl (dw ad tc dg pl vl th cu mx us so rr fw ff) H := by rw [hH9]; exact hP
  clear hH9 hl9
  obtain ⟨k, m1, hk9b, hI, hP9, hD9, hl9⟩ : ∃ (k : Nat) (m1 : Nat → Nat → FP), (k ≤ nx) ∧ (∀ i j, m1 i j = (if i < k ∧ i ≠ g ∧ ux ≤ j ∧ j ≤ nx then mx i j - mx i ux * mx g j else mx i j)) ∧ va_P D vwCl (dw ad tc dg pl vl th cu m1 us so rr fw ff) H ∧ va_D A (dw ad tc dg pl vl th cu m1 us so rr fw ff) ∧ lv_has ls 5 [(4, .int (nI k)), (0, .ref (ad 8)), (1, .int (nI g)), (2, .int (nI ux)), (3, .int (nI nx))] := ⟨0, mx, Nat.zero_le _, fun i j => by rw [if_neg (by omega)], hP, hD, (lv_sub hl [0, 1, 2, 3, 4] rfl)⟩
  replace hl := hl9
  clear hl9
  replace hP := hP9
  replace hD := hD9
  clear hP9 hD9
  obtain ⟨k9, hk9⟩ : ∃ k9 : Nat, nx < k + k9 := ⟨nx + 1, by omega⟩
  induction k9 generalizing k m1 ls H locs with
  | zero => exact absurd hk9 (by omega)
  | succ k9 ih =>
    refine lv_iload hx hb dX1_clearElsewhere_3 (lv_at hl 0 rfl) ?_
    refine lv_iload_n hx hb dX1_clearElsewhere_5 rfl (lv_at hl 4 rfl) ?_
    refine sd_icmp_ge (tgt := 53) hx hb (by omega) (by omega) dX1_clearElsewhere_6 (by decide) (fun c1 => ?_) (fun c1 => ?_)
    · have ek : k = nx := by omega
      subst ek
      exact W.vret hx hb hr (fun t ht hW => ⟨⟨m1, rfl, hI, by rw [ht]; exact hP, va_K.moved hW.alike hK, hD⟩, hS.F ht⟩) hS.2.2 dX1_clearElsewhere_53
    · have hk : k < 16 := by omega
      refine lv_iload hx hb dX1_clearElsewhere_9 (lv_at hl 0 rfl) ?_
      refine lv_iload_n hx hb dX1_clearElsewhere_11 rfl (lv_at hl 2 rfl) ?_
      refine sd_icmp_eq (tgt := 47) hx hb (by omega) (by omega) dX1_clearElsewhere_12 (by decide) (fun c2 => ?_) (fun c2 => ?_)
      · refine lv_iinc (v := nI (k + 1)) (lv' := [(4, .int (nI (k + 1))), (0, .ref (ad 8)), (1, .int (nI g)), (2, .int (nI ux)), (3, .int (nI nx))]) hx hb dX1_clearElsewhere_47 hl (k := 0) rfl (nI_1 _) (by decide) rfl (fun ls hl => ?_)
        refine lv_goto (tgt := 3) hx hb dX1_clearElsewhere_50 (by decide) ?_
        have hI9 : ∀ i j, m1 i j = (if i < k + 1 ∧ i ≠ g ∧ ux ≤ j ∧ j ≤ nx then mx i j - mx i ux * mx g j else mx i j) := by
          intro i j
          rw [hI]
          by_cases a1 : i < k ∧ i ≠ g ∧ ux ≤ j ∧ j ≤ nx
          · rw [if_pos a1, if_pos (by omega)]
          · rw [if_neg a1, if_neg (by omega)]
        exact ih (k := k + 1) (m1 := m1) (hk9b := by omega) (hI := hI9) (H := H) (locs := locs) (hP := hP) (hD := hD) (hS := hS) (ls := ls) (hl := (lv_sub hl [0, 1, 2, 3, 4] rfl)) (hk9 := by omega)
      · refine lv_aload_n hx hb dX1_clearElsewhere_15 rfl (lv_at hl 1 rfl) ?_
        refine va_get (D := D) (ci := 1) (v := .ref (ad 9)) (C := RX1) (T := TX1) (N := 5) hx hb hts (fun w h => mm (inX1 w h)) hown hK hP 8 dw_finder rfl 1 (by decide) (hts _ (mm wf_X1_20)) (fun _ h9 => h9) rfl dX1_clearElsewhere_16 ?_
        refine lv_iload hx hb dX1_clearElsewhere_19 (lv_at hl 0 rfl) ?_
        refine sd_aldA hx hb hK hP 9 4 dw_rows rfl (k := k) (by omega) (by decide) rfl dX1_clearElsewhere_21 ?_
        refine lv_iload_n hx hb dX1_clearElsewhere_22 rfl (lv_at hl 3 rfl) ?_
        refine sd_lald hx hb hK hP (38 + k) 0 (dw_mx hk) rfl (k := ux) (by omega) (by decide) dX1_clearElsewhere_23 ?_
        refine lv_lconst (v := 0) hx hb dX1_clearElsewhere_24 (by decide) ?_
        refine W.lcmp hx hb dX1_clearElsewhere_25 ?_
        refine lv_if_eq (tgt := 47) hx hb dX1_clearElsewhere_26 (by decide) (fun c3 => ?_) (fun c3 => ?_)
        · have c3 : (sd_L ((m1 k) ux)) = 0 := (lg_cmp_eq _ _).mp c3
          refine lv_iinc (v := nI (k + 1)) (lv' := [(4, .int (nI (k + 1))), (0, .ref (ad 8)), (1, .int (nI g)), (2, .int (nI ux)), (3, .int (nI nx))]) hx hb dX1_clearElsewhere_47 hl (k := 0) rfl (nI_1 _) (by decide) rfl (fun ls hl => ?_)
          refine lv_goto (tgt := 3) hx hb dX1_clearElsewhere_50 (by decide) ?_
          have c4 : mx k ux = 0 := by
            have z := sd_L_inj (c3.trans sd_L_0.symm)
            rw [hI, if_neg (by omega)] at z
            exact z
          have hI9 : ∀ i j, m1 i j = (if i < k + 1 ∧ i ≠ g ∧ ux ≤ j ∧ j ≤ nx then mx i j - mx i ux * mx g j else mx i j) := by
            intro i j
            rw [hI]
            by_cases a1 : i < k ∧ i ≠ g ∧ ux ≤ j ∧ j ≤ nx
            · rw [if_pos a1, if_pos (by omega)]
            · rw [if_neg a1]
              by_cases a2 : i < k + 1 ∧ i ≠ g ∧ ux ≤ j ∧ j ≤ nx
              · rw [if_pos a2, show i = k by omega, c4]
                grind
              · rw [if_neg a2]
          exact ih (k := k + 1) (m1 := m1) (hk9b := by omega) (hI := hI9) (H := H) (locs := locs) (hP := hP) (hD := hD) (hS := hS) (ls := ls) (hl := (lv_sub hl [0, 1, 2, 3, 4] rfl)) (hk9 := by omega)
        · have c3 : ¬ (sd_L ((m1 k) ux)) = 0 := fun q => c3 ((lg_cmp_eq _ _).mpr q)
          refine lv_aload_n hx hb dX1_clearElsewhere_29 rfl (lv_at hl 1 rfl) ?_
          refine va_get (D := D) (ci := 1) (v := .ref (ad 9)) (C := RX1) (T := TX1) (N := 5) hx hb hts (fun w h => mm (inX1 w h)) hown hK hP 8 dw_finder rfl 1 (by decide) (hts _ (mm wf_X1_20)) (fun _ h9 => h9) rfl dX1_clearElsewhere_30 ?_
          refine lv_iload hx hb dX1_clearElsewhere_33 (lv_at hl 0 rfl) ?_
          refine sd_aldA hx hb hK hP 9 4 dw_rows rfl (k := k) (by omega) (by decide) rfl dX1_clearElsewhere_35 ?_
          refine lv_aload_n hx hb dX1_clearElsewhere_36 rfl (lv_at hl 1 rfl) ?_
          refine va_get (D := D) (ci := 1) (v := .ref (ad 9)) (C := RX1) (T := TX1) (N := 5) hx hb hts (fun w h => mm (inX1 w h)) hown hK hP 8 dw_finder rfl 1 (by decide) (hts _ (mm wf_X1_20)) (fun _ h9 => h9) rfl dX1_clearElsewhere_37 ?_
          refine lv_iload_n hx hb dX1_clearElsewhere_40 rfl (lv_at hl 2 rfl) ?_
          refine sd_aldA hx hb hK hP 9 4 dw_rows rfl (k := g) (by omega) (by decide) rfl dX1_clearElsewhere_41 ?_
          refine lv_iload_n hx hb dX1_clearElsewhere_42 rfl (lv_at hl 3 rfl) ?_
          refine lv_iload_n hx hb dX1_clearElsewhere_43 rfl (lv_at hl 4 rfl) ?_
          refine sd_wv (va_runS (As := [.ref (ad (38 + k)), .ref (ad (38 + g)), .int (nI ux), .int (nI nx)]) (rest := []) ⟨hx, hb, hml, hown, hts⟩ (k_X1_takeTimes l D _ k g ux nx hk hg c2 (by omega) hn) (sd_cwS hts wd_X1_takeTimes wn_X1 wm_X1_95 wi_X1_takeTimes nq_X1_takeTimes rfl rfl ⟨Nat.le_of_ble_eq_true rfl, Nat.le_of_ble_eq_true rfl⟩) (sd_preW hP hK hD) rfl rfl hl.1 rfl (lv_room (Nat.le_of_ble_eq_true rfl)) dX1_clearElsewhere_44 ⟨Nat.zero_le _, Nat.zero_le _⟩) hD hS hA (fun m2 H locs hm2 hP hD hS => ?_)
          replace hP : va_P D vwCl (dw ad tc dg pl vl th cu m2 us so rr fw ff) H := hP
          replace hD : va_D A (dw ad tc dg pl vl th cu m2 us so rr fw ff) := hD
          refine lv_iinc (v := nI (k + 1)) (lv' := [(4, .int (nI (k + 1))), (0, .ref (ad 8)), (1, .int (nI g)), (2, .int (nI ux)), (3, .int (nI nx))]) hx hb dX1_clearElsewhere_47 hl (k := 0) rfl (nI_1 _) (by decide) rfl (fun ls hl => ?_)
          refine lv_goto (tgt := 3) hx hb dX1_clearElsewhere_50 (by decide) ?_
          have hI9 : ∀ i j, m2 i j = (if i < k + 1 ∧ i ≠ g ∧ ux ≤ j ∧ j ≤ nx then mx i j - mx i ux * mx g j else mx i j) := by
            intro i j
            rw [hm2]
            by_cases a1 : i = k ∧ ux ≤ j ∧ j ≤ nx
            · rw [if_pos a1, if_pos (by omega), hI, hI, hI, if_neg (by omega), if_neg (by omega), if_neg (by omega), a1.1]
            · rw [if_neg a1, hI]
              by_cases a2 : i < k ∧ i ≠ g ∧ ux ≤ j ∧ j ≤ nx
              · rw [if_pos a2, if_pos (by omega)]
              · rw [if_neg a2, if_neg (by omega)]
          exact ih (k := k + 1) (m1 := m2) (hk9b := by omega) (hI := hI9) (H := H) (locs := locs) (hP := hP) (hD := hD) (hS := hS) (ls := ls) (hl := (lv_sub hl [0, 1, 2, 3, 4] rfl)) (hk9 := by omega)

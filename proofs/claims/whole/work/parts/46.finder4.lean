/-! the finder: the division, the whole -/
set_option maxHeartbeats 4000000 in
set_option maxRecDepth 100000 in
theorem k_X1_divide (l : Launch) (D : va_G) {ad : Nat → Nat} {tc : Nat → ClassId} {dg pl : Nat → Nat} {vl : Nat → Nat → FP} {th : Nat → Nat → Bool} {cu mx : Nat → Nat → FP} {us : Nat → Bool} {so : Nat → FP} {rr : Nat → Int32} {fw : Nat → Bool} {ff : Int32} (sz : Nat) (t e1 : Nat) (ht8 : t ≤ 8) (hn : t + e1 + 1 + e1 ≤ 16) : Met l yX1_divide (Cond.code yX1_divide cX1_divide 8 none :: bg) { frames := 1, cells := 0, slots := 0, locals := 35 } (sd_Wr D vwCl (ty5 tc) (dw ad tc dg pl vl th cu mx us so rr fw ff) sz [.ref (ad 8), .int (nI t), .int (nI e1)]) (va_Qv (S := (Nat → Nat → FP) × (Nat → FP)) (fun u : (Nat → Nat → FP) × (Nat → FP) => (∀ i, i ≠ 1 → u.1 i = cu i) ∧ (∀ k, t < k → k ≤ 8 → u.1 1 k = 0) ∧ ∀ f : Nat → FP, (∀ m9, m9 < t + e1 + 1 → so m9 = sd_cv f (sd_E so t e1) (t + 1) m9) → ∀ k, k ≤ t → u.1 1 k = f k) (sd_B D vwCl (ty5 tc) (va_A (dw ad tc dg pl vl th cu mx us so rr fw ff) sz) (fun u => dw ad tc dg pl vl th u.1 mx us u.2 rr fw ff)) (va_A (dw ad tc dg pl vl th cu mx us so rr fw ff) sz)) 0 0 (va_A (dw ad tc dg pl vl th cu mx us so rr fw ff) sz) := by
  refine Met.ofW (cc := cX1_divide) (maxL := 8) (ret := none) (by decide) rfl ?_
  intro p e s m args below meth c s₁ B hml hv
  obtain ⟨rfl, hsz, hP, hK, hD0⟩ := hv
  have hx := B.exec
  have hb := B.bytes
  have hr := B.returns
  have hts := atoms_spec (ws := Cond.code yX1_divide cX1_divide 8 none :: bg) B.pre
  have hown : s.vm.findClass RX1 = some m.cls := findClass_of_methodNamed B.named
  have hlocks := B.notSynchronized
  subst hsz
  have hD := hD0.self (sz := s.heap.size)
  generalize hAe : va_A (dw ad tc dg pl vl th cu mx us so rr fw ff) s.heap.size = A at hD ⊢
  have hA : ∀ q : Nat, s.heap.size ≤ q → A q := fun q h => by rw [← hAe]; exact Or.inr h
  have hS : va_S A s.heap s.heap [] := va_S.rf
  have hl := lv_entry ([.ref (ad 8), .int (nI t), .int (nI e1)]) (n := 8) (Nat.le_of_ble_eq_true rfl)
  rw [lg_entry_eq]
  generalize (lg_sl ([.ref (ad 8), .int (nI t), .int (nI e1)]) ++ List.replicate (8 - (lg_sl ([.ref (ad 8), .int (nI t), .int (nI e1)])).length) Slot.unset).toArray = ls at hl ⊢
  replace hl : lv_has ls 8 [(0, .ref (ad 8)), (1, .int (nI t)), (2, .int (nI e1))] := hl
  refine lv_iload_n hx hb dX1_divide_0 rfl (lv_at hl 1 rfl) ?_
  refine lv_iload_n hx hb dX1_divide_1 rfl (lv_at hl 2 rfl) ?_
  refine sd_iadd hx hb dX1_divide_2 ?_
  refine lv_iconst (v := nI 1) hx hb dX1_divide_3 (by decide) ?_
  refine sd_iadd hx hb dX1_divide_4 ?_
  refine lv_istore_n (lv' := [(3, .int (nI ((t + e1) + 1))), (0, .ref (ad 8)), (1, .int (nI t)), (2, .int (nI e1))]) hx hb dX1_divide_5 rfl hl (by decide) rfl (fun ls hl => ?_)
  refine lv_bipush (v := nI 8) hx hb dX1_divide_6 (by decide) ?_
  refine lv_istore (lv' := [(4, .int (nI 8)), (3, .int (nI ((t + e1) + 1))), (0, .ref (ad 8)), (1, .int (nI t)), (2, .int (nI e1))]) hx hb dX1_divide_8 hl (by decide) rfl (fun ls hl => ?_)
  obtain ⟨H, hH9⟩ : ∃ H : Heap, H = s.heap := ⟨_, rfl⟩
  obtain ⟨locs, hl9⟩ : ∃ x : List Loc, x = [] := ⟨_, rfl⟩
  rw [← hH9, ← hl9]
  have hS : va_S A s.heap H locs := by rw [hH9, hl9]; exact va_S.rf
  have hP : va_P D vwCl (dw ad tc dg pl vl th cu mx us so rr fw ff) H := by rw [hH9]; exact hP
  clear hH9 hl9
  obtain ⟨K, c1, hK9, hZ, hP9, hD9, hl9⟩ : ∃ (K : Nat) (c1 : Nat → Nat → FP), (t ≤ K ∧ K ≤ 8) ∧ ((∀ i, i ≠ 1 → c1 i = cu i) ∧ ∀ k, K < k → k ≤ 8 → c1 1 k = 0) ∧ va_P D vwCl (dw ad tc dg pl vl th c1 mx us so rr fw ff) H ∧ va_D A (dw ad tc dg pl vl th c1 mx us so rr fw ff) ∧ lv_has ls 8 [(4, .int (nI K)), (0, .ref (ad 8)), (1, .int (nI t)), (2, .int (nI e1)), (3, .int (nI (t + e1 + 1)))] := ⟨8, cu, ⟨ht8, Nat.le_refl 8⟩, ⟨fun _ _ => rfl, fun k h1 h2 => absurd h1 (by omega)⟩, hP, hD, (lv_sub hl [0, 2, 3, 4, 1] rfl)⟩
  replace hl := hl9
  clear hl9
  replace hP := hP9
  replace hD := hD9
  clear hP9 hD9
  obtain ⟨k9, hk9⟩ : ∃ k9 : Nat, K < k9 := ⟨9, by omega⟩
  induction k9 generalizing K c1 ls H locs with
  | zero => exact absurd hk9 (by omega)
  | succ k9 ih =>
    refine lv_iload hx hb dX1_divide_10 (lv_at hl 0 rfl) ?_
    refine lv_iload_n hx hb dX1_divide_12 rfl (lv_at hl 2 rfl) ?_
    refine sd_icmp_le (tgt := 33) hx hb (by omega) (by omega) dX1_divide_13 (by decide) (fun b1 => ?_) (fun b1 => ?_)
    · have eK : K = t := by omega
      subst eK
      refine lv_iload_n hx hb dX1_divide_33 rfl (lv_at hl 2 rfl) ?_
      refine lv_istore (lv' := [(4, .int (nI K)), (0, .ref (ad 8)), (1, .int (nI K)), (2, .int (nI e1)), (3, .int (nI (K + e1 + 1)))]) hx hb dX1_divide_34 hl (by decide) rfl (fun ls hl => ?_)
      replace hl : lv_has ls 8 [(4, .int (nI (K + 1) + (-1))), (0, .ref (ad 8)), (1, .int (nI K)), (2, .int (nI e1)), (3, .int (nI (K + e1 + 1)))] := by rw [pk_m1]; exact (lv_sub hl [0, 1, 2, 3, 4] rfl)
      obtain ⟨J, c2, s1, hJ, hZ2, hS1, hF, hP9, hD9, hl9⟩ : ∃ (J : Nat) (c2 : Nat → Nat → FP) (s1 : Nat → FP), (J ≤ K + 1) ∧ ((∀ i, i ≠ 1 → c2 i = cu i) ∧ ∀ k, K < k → k ≤ 8 → c2 1 k = 0) ∧ (∀ m9, K + e1 + 1 ≤ m9 → s1 m9 = so m9) ∧ (∀ f : Nat → FP, (∀ m9, m9 < K + e1 + 1 → so m9 = sd_cv f (sd_E so K e1) (K + 1) m9) → (∀ m9, m9 < J + e1 → s1 m9 = sd_cv f (sd_E so K e1) J m9) ∧ ∀ k, J ≤ k → k ≤ K → c2 1 k = f k) ∧ va_P D vwCl (dw ad tc dg pl vl th c2 mx us s1 rr fw ff) H ∧ va_D A (dw ad tc dg pl vl th c2 mx us s1 rr fw ff) ∧ lv_has ls 8 [(4, .int (nI J + (-1))), (0, .ref (ad 8)), (1, .int (nI K)), (2, .int (nI e1)), (3, .int (nI (K + e1 + 1)))] := ⟨K + 1, c1, so, Nat.le_refl _, hZ, fun _ _ => rfl, fun f hf => ⟨fun m9 h9 => hf m9 (by omega), fun k h1 h2 => absurd h1 (by omega)⟩, hP, hD, (lv_sub hl [0, 1, 2, 3, 4] rfl)⟩
      replace hl := hl9
      clear hl9
      replace hP := hP9
      replace hD := hD9
      clear hP9 hD9
      obtain ⟨k9, hk9⟩ : ∃ k9 : Nat, J < k9 := ⟨K + 2, by omega⟩
      induction k9 generalizing J c2 s1 ls H locs with
      | zero => exact absurd hk9 (by omega)
      | succ k9 ihO =>
        rcases J with _ | J
        · rw [sd_m1] at hl
          refine lv_iload hx hb dX1_divide_36 (lv_at hl 0 rfl) ?_
          refine lv_if_lt (tgt := 122) hx hb dX1_divide_38 (by decide) (fun b2 => ?_) (fun b2 => ?_)
          · exact W.vret hx hb hr (fun t ht hW => ⟨⟨(c2, s1), rfl, ⟨hZ2.1, hZ2.2, fun f hf k hk => (hF f hf).2 k (Nat.zero_le k) hk⟩, by rw [ht]; exact hP, va_K.moved hW.alike hK, hD⟩, hS.F ht⟩) hS.2.2 dX1_divide_122
          · exact absurd (by decide) b2
        · rw [pk_m1] at hl
          refine lv_iload hx hb dX1_divide_36 (lv_at hl 0 rfl) ?_
          refine lv_if_lt (tgt := 122) hx hb dX1_divide_38 (by decide) (fun b2 => ?_) (fun b2 => ?_)
          · exact absurd b2 (nI_pos (by omega))
          · refine lv_aload_n hx hb dX1_divide_41 rfl (lv_at hl 1 rfl) ?_
            refine va_get (D := D) (ci := 1) (v := .ref (ad 11)) (C := RX1) (T := TX1) (N := 5) hx hb hts (fun w h => mm (inX1 w h)) hown hK hP 8 dw_finder rfl 3 (by decide) (hts _ (mm wf_X1_27)) (fun _ h9 => h9) rfl dX1_divide_42 ?_
            refine lv_iload hx hb dX1_divide_45 (lv_at hl 0 rfl) ?_
            refine lv_iload_n hx hb dX1_divide_47 rfl (lv_at hl 3 rfl) ?_
            refine sd_iadd hx hb dX1_divide_48 ?_
            refine sd_lald hx hb hK hP 11 0 dw_sol rfl (k := J + e1) (by omega) (by decide) dX1_divide_49 ?_
            refine lv_lstore (lv' := [(5, .long (sd_L (s1 (J + e1)))), (4, .int (nI J)), (0, .ref (ad 8)), (1, .int (nI K)), (2, .int (nI e1)), (3, .int (nI (K + e1 + 1)))]) hx hb dX1_divide_50 hl (by decide) rfl (fun ls hl => ?_)
            refine lv_aload_n hx hb dX1_divide_52 rfl (lv_at hl 2 rfl) ?_
            refine va_get (D := D) (ci := 1) (v := .ref (ad 4)) (C := RX1) (T := TX1) (N := 5) hx hb hts (fun w h => mm (inX1 w h)) hown hK hP 8 dw_finder rfl 0 (by decide) (hts _ (mm wf_X1_12)) (fun _ h9 => h9) rfl dX1_divide_53 ?_
            refine va_get (D := D) (ci := 0) (v := .ref (ad 5)) (C := RX0) (T := TX0) (N := 1) hx hb hts (fun w h => mm (inX0 w h)) hown hK hP 4 (dw_curve (c := 1) (by decide)) rfl 0 (by decide) (hts _ (mm wf_X1_99)) (fun _ h9 => h9) rfl dX1_divide_56 ?_
            refine lv_iload hx hb dX1_divide_59 (lv_at hl 1 rfl) ?_
            refine lv_lload hx hb dX1_divide_61 (lv_at hl 0 rfl) ?_
            refine sd_last hx hb hK hP hD hS 5 0 (dw_parts (c := 1) (by decide)) rfl (k := J) (by omega) (by decide) (ws2 := dw ad tc dg pl vl th (sd_up c2 1 (sd_up (c2 1) J (s1 (J + e1)))) mx us s1 rr fw ff) (by rw [sd_stL]; exact dws_parts (c := 1) (by decide) _) dX1_divide_63 (fun H locs hP hD hS => ?_)
            refine lv_iconst (v := nI 0) hx hb dX1_divide_64 (by decide) ?_
            refine lv_istore (lv' := [(7, .int (nI 0)), (5, .long (sd_L (s1 (J + e1)))), (4, .int (nI J)), (0, .ref (ad 8)), (1, .int (nI K)), (2, .int (nI e1)), (3, .int (nI (K + e1 + 1)))]) hx hb dX1_divide_65 hl (by decide) rfl (fun ls hl => ?_)
            obtain ⟨j, s2, hj, hI, hP9, hD9, hl9⟩ : ∃ (j : Nat) (s2 : Nat → FP), (j ≤ e1) ∧ (∀ m9, s2 m9 = (if J ≤ m9 ∧ m9 < J + j then s1 m9 - s1 (J + e1) * so (K + e1 + 1 + (m9 - J)) else s1 m9)) ∧ va_P D vwCl (dw ad tc dg pl vl th (sd_up c2 1 (sd_up (c2 1) J (s1 (J + e1)))) mx us s2 rr fw ff) H ∧ va_D A (dw ad tc dg pl vl th (sd_up c2 1 (sd_up (c2 1) J (s1 (J + e1)))) mx us s2 rr fw ff) ∧ lv_has ls 8 [(7, .int (nI j)), (5, .long (sd_L (s1 (J + e1)))), (4, .int (nI J)), (0, .ref (ad 8)), (1, .int (nI K)), (2, .int (nI e1)), (3, .int (nI (K + e1 + 1)))] := ⟨0, s1, Nat.zero_le _, fun m9 => by rw [if_neg (by omega)], hP, hD, (lv_sub hl [0, 1, 2, 3, 4, 5, 6] rfl)⟩
            replace hl := hl9
            clear hl9
            replace hP := hP9
            replace hD := hD9
            clear hP9 hD9
            obtain ⟨k9, hk9⟩ : ∃ k9 : Nat, e1 < j + k9 := ⟨e1 + 1, by omega⟩
            induction k9 generalizing j s2 ls H locs with
            | zero => exact absurd hk9 (by omega)
            | succ k9 ih =>
              refine lv_iload hx hb dX1_divide_67 (lv_at hl 0 rfl) ?_
              refine lv_iload_n hx hb dX1_divide_69 rfl (lv_at hl 5 rfl) ?_
              refine sd_icmp_ge (tgt := 116) hx hb (by omega) (by omega) dX1_divide_70 (by decide) (fun b3 => ?_) (fun b3 => ?_)
              · have ej : j = e1 := by omega
                subst ej
                refine lv_iinc (v := nI J + (-1)) (lv' := [(4, .int (nI J + (-1))), (7, .int (nI j)), (5, .long (sd_L (s1 (J + j)))), (0, .ref (ad 8)), (1, .int (nI K)), (2, .int (nI j)), (3, .int (nI (K + j + 1)))]) hx hb dX1_divide_116 hl (k := 2) rfl (by rw [show Int32.ofInt (-1) = -1 by decide]) (by decide) rfl (fun ls hl => ?_)
                refine lv_goto (tgt := 36) hx hb dX1_divide_119 (by decide) ?_
                have hF9 : ∀ f : Nat → FP, (∀ m9, m9 < K + j + 1 → so m9 = sd_cv f (sd_E so K j) (K + 1) m9) → (∀ m9, m9 < J + j → s2 m9 = sd_cv f (sd_E so K j) J m9) ∧ ∀ k, J ≤ k → k ≤ K → (sd_up c2 1 (sd_up (c2 1) J (s1 (J + j)))) 1 k = f k := by
                  intro f hf
                  obtain ⟨g1, g2⟩ := hF f hf
                  obtain ⟨d1, d2⟩ := sd_div_step f (sd_E so K j) s1 j J (sd_E_hi so K j) (sd_E_top so K j) (fun m9 h9 => g1 m9 (by omega))
                  refine ⟨d2 s2 (fun m9 h1 h2 => ?_) (fun m9 h1 => ?_), fun k h1 h2 => ?_⟩
                  · rw [hI, if_pos ⟨h1, h2⟩, d1, sd_E, if_pos (by omega)]
                  · rw [hI, if_neg (by omega)]
                  · rw [sd_up2]
                    by_cases ek : k = J
                    · rw [if_pos ⟨rfl, ek⟩, d1, ek]
                    · rw [if_neg (fun z => ek z.2)]; exact g2 k (by omega) h2
                exact ihO (J := J) (c2 := sd_up c2 1 (sd_up (c2 1) J (s1 (J + j)))) (s1 := s2) (hJ := by omega) (hZ2 := ⟨fun i hi => by rw [sd_up_n _ _ hi]; exact hZ2.1 i hi, fun k h1 h2 => by rw [sd_up2, if_neg (by omega)]; exact hZ2.2 k h1 h2⟩) (hS1 := fun m9 h9 => by rw [hI, if_neg (by omega)]; exact hS1 m9 h9) (hF := hF9) (H := H) (locs := locs) (hP := hP) (hD := hD) (hS := hS) (ls := ls) (hl := (lv_sub hl [0, 3, 4, 5, 6] rfl)) (hk9 := by omega)
              · refine lv_aload_n hx hb dX1_divide_73 rfl (lv_at hl 3 rfl) ?_
                refine va_get (D := D) (ci := 1) (v := .ref (ad 11)) (C := RX1) (T := TX1) (N := 5) hx hb hts (fun w h => mm (inX1 w h)) hown hK hP 8 dw_finder rfl 3 (by decide) (hts _ (mm wf_X1_27)) (fun _ h9 => h9) rfl dX1_divide_74 ?_
                refine lv_iload hx hb dX1_divide_77 (lv_at hl 2 rfl) ?_
                refine lv_iload hx hb dX1_divide_79 (lv_at hl 0 rfl) ?_
                refine sd_iadd hx hb dX1_divide_81 ?_
                refine lv_aload_n hx hb dX1_divide_82 rfl (lv_at hl 3 rfl) ?_
                refine va_get (D := D) (ci := 1) (v := .ref (ad 11)) (C := RX1) (T := TX1) (N := 5) hx hb hts (fun w h => mm (inX1 w h)) hown hK hP 8 dw_finder rfl 3 (by decide) (hts _ (mm wf_X1_27)) (fun _ h9 => h9) rfl dX1_divide_83 ?_
                refine lv_iload hx hb dX1_divide_86 (lv_at hl 2 rfl) ?_
                refine lv_iload hx hb dX1_divide_88 (lv_at hl 0 rfl) ?_
                refine sd_iadd hx hb dX1_divide_90 ?_
                refine sd_lald hx hb hK hP 11 0 dw_sol rfl (k := J + j) (by omega) (by decide) dX1_divide_91 ?_
                refine lv_lload hx hb dX1_divide_92 (lv_at hl 1 rfl) ?_
                refine lv_aload_n hx hb dX1_divide_94 rfl (lv_at hl 3 rfl) ?_
                refine va_get (D := D) (ci := 1) (v := .ref (ad 11)) (C := RX1) (T := TX1) (N := 5) hx hb hts (fun w h => mm (inX1 w h)) hown hK hP 8 dw_finder rfl 3 (by decide) (hts _ (mm wf_X1_27)) (fun _ h9 => h9) rfl dX1_divide_95 ?_
                refine lv_iload_n hx hb dX1_divide_98 rfl (lv_at hl 6 rfl) ?_
                refine lv_iload hx hb dX1_divide_99 (lv_at hl 0 rfl) ?_
                refine sd_iadd hx hb dX1_divide_101 ?_
                refine sd_lald hx hb hK hP 11 0 dw_sol rfl (k := (K + e1 + 1) + j) (by omega) (by decide) dX1_divide_102 ?_
                refine sd_rl (va_runS (As := [.long (sd_L (s1 (J + e1))), .long (sd_L (s2 ((K + e1 + 1) + j)))]) (rest := [.long (sd_L (s2 (J + j))), .int (nI (J + j)), .ref (ad 11)]) ⟨hx, hb, hml, hown, hts⟩ (k_X2_times l (s1 (J + e1)) (s2 (K + e1 + 1 + j))) (sd_cwS hts wd_X2_times wn_X2 wm_X1_71 wi_X2_times nq_X2_times rfl rfl ⟨Nat.le_of_ble_eq_true rfl, Nat.le_of_ble_eq_true rfl⟩) sd_preN rfl rfl hl.1 rfl (lv_room (Nat.le_of_ble_eq_true rfl)) dX1_divide_103 ⟨Nat.zero_le _, Nat.zero_le _⟩) (fun r1 hr1 => ?_)
                subst hr1
                refine sd_rl (va_runS (As := [.long (sd_L (s2 (J + j))), .long (sd_L (s1 (J + e1) * s2 (K + e1 + 1 + j)))]) (rest := [.int (nI (J + j)), .ref (ad 11)]) ⟨hx, hb, hml, hown, hts⟩ (k_X2_minus l (s2 (J + j)) (s1 (J + e1) * s2 (K + e1 + 1 + j))) (sd_cwS hts wd_X2_minus wn_X2 wm_X1_77 wi_X2_minus nq_X2_minus rfl rfl ⟨Nat.le_of_ble_eq_true rfl, Nat.le_of_ble_eq_true rfl⟩) sd_preN rfl rfl hl.1 rfl (lv_room (Nat.le_of_ble_eq_true rfl)) dX1_divide_106 ⟨Nat.zero_le _, Nat.zero_le _⟩) (fun r2 hr2 => ?_)
                subst hr2
                refine sd_last hx hb hK hP hD hS 11 0 dw_sol rfl (k := J + j) (by omega) (by decide) (ws2 := dw ad tc dg pl vl th (sd_up c2 1 (sd_up (c2 1) J (s1 (J + e1)))) mx us (sd_up s2 (J + j) (s2 (J + j) - s1 (J + e1) * s2 (K + e1 + 1 + j))) rr fw ff) (by rw [sd_stL]; exact dws_sol _) dX1_divide_109 (fun H locs hP hD hS => ?_)
                refine lv_iinc (v := nI (j + 1)) (lv' := [(7, .int (nI (j + 1))), (5, .long (sd_L (s1 (J + e1)))), (4, .int (nI J)), (0, .ref (ad 8)), (1, .int (nI K)), (2, .int (nI e1)), (3, .int (nI (K + e1 + 1)))]) hx hb dX1_divide_110 hl (k := 0) rfl (nI_1 _) (by decide) rfl (fun ls hl => ?_)
                refine lv_goto (tgt := 67) hx hb dX1_divide_113 (by decide) ?_
                have hI9 : ∀ m9, (sd_up s2 (J + j) (s2 (J + j) - s1 (J + e1) * s2 (K + e1 + 1 + j))) m9 = (if J ≤ m9 ∧ m9 < J + (j + 1) then s1 m9 - s1 (J + e1) * so (K + e1 + 1 + (m9 - J)) else s1 m9) := by
                  intro m9
                  by_cases em : m9 = J + j
                  · rw [em, sd_up_s, if_pos (by omega), hI, hI, if_neg (by omega), if_neg (by omega), hS1 (K + e1 + 1 + j) (by omega), Nat.add_sub_cancel_left]
                  · rw [sd_up_n _ _ em, hI]
                    by_cases e2 : J ≤ m9 ∧ m9 < J + j
                    · rw [if_pos e2, if_pos (by omega)]
                    · rw [if_neg e2, if_neg (by omega)]
                exact ih (j := j + 1) (s2 := sd_up s2 (J + j) (s2 (J + j) - s1 (J + e1) * s2 (K + e1 + 1 + j))) (hj := by omega) (hI := hI9) (H := H) (locs := locs) (hP := hP) (hD := hD) (hS := hS) (ls := ls) (hl := (lv_sub hl [0, 1, 2, 3, 4, 5, 6] rfl)) (hk9 := by omega)
    · obtain ⟨K, rfl⟩ : ∃ z, K = z + 1 := ⟨K - 1, by omega⟩
      refine lv_aload_n hx hb dX1_divide_16 rfl (lv_at hl 1 rfl) ?_
      refine va_get (D := D) (ci := 1) (v := .ref (ad 4)) (C := RX1) (T := TX1) (N := 5) hx hb hts (fun w h => mm (inX1 w h)) hown hK hP 8 dw_finder rfl 0 (by decide) (hts _ (mm wf_X1_12)) (fun _ h9 => h9) rfl dX1_divide_17 ?_
      refine va_get (D := D) (ci := 0) (v := .ref (ad 5)) (C := RX0) (T := TX0) (N := 1) hx hb hts (fun w h => mm (inX0 w h)) hown hK hP 4 (dw_curve (c := 1) (by decide)) rfl 0 (by decide) (hts _ (mm wf_X1_99)) (fun _ h9 => h9) rfl dX1_divide_20 ?_
      refine lv_iload hx hb dX1_divide_23 (lv_at hl 0 rfl) ?_
      refine lv_lconst (v := 0) hx hb dX1_divide_25 (by decide) ?_
      refine sd_tol (y := sd_L 0) sd_L_0.symm ?_
      refine sd_last hx hb hK hP hD hS 5 0 (dw_parts (c := 1) (by decide)) rfl (k := K + 1) (by omega) (by decide) (ws2 := dw ad tc dg pl vl th (sd_up c1 1 (sd_up (c1 1) (K + 1) 0)) mx us so rr fw ff) (by rw [sd_stL]; exact dws_parts (c := 1) (by decide) _) dX1_divide_26 (fun H locs hP hD hS => ?_)
      refine lv_iinc (v := nI K) (lv' := [(4, .int (nI K)), (0, .ref (ad 8)), (1, .int (nI t)), (2, .int (nI e1)), (3, .int (nI (t + e1 + 1)))]) hx hb dX1_divide_27 hl (k := 0) rfl (by rw [show Int32.ofInt (-1) = -1 by decide]; exact pk_m1 _) (by decide) rfl (fun ls hl => ?_)
      refine lv_goto (tgt := 10) hx hb dX1_divide_30 (by decide) ?_
      exact ih (K := K) (c1 := sd_up c1 1 (sd_up (c1 1) (K + 1) 0)) (hK9 := by omega) (hZ := ⟨fun i hi => by rw [sd_up_n _ _ hi]; exact hZ.1 i hi, fun k h1 h2 => by rw [sd_up2]; exact (Classical.em (k = K + 1)).elim (fun ek => by rw [if_pos ⟨rfl, ek⟩]) (fun ek => by rw [if_neg (fun z => ek z.2)]; exact hZ.2 k (by omega) h2)⟩) (H := H) (locs := locs) (hP := hP) (hD := hD) (hS := hS) (ls := ls) (hl := (lv_sub hl [0, 1, 2, 3, 4] rfl)) (hk9 := by omega)

set_option maxHeartbeats 4000000 in
set_option maxRecDepth 100000 in
theorem k_X1_seek (l : Launch) (D : va_G) {ad : Nat → Nat} {tc : Nat → ClassId} {dg pl : Nat → Nat} {vl : Nat → Nat → FP} {th : Nat → Nat → Bool} {cu mx : Nat → Nat → FP} {us : Nat → Bool} {so : Nat → FP} {rr : Nat → Int32} {fw : Nat → Bool} {ff : Int32} (sz : Nat) (q e1 : Nat) (hq : q < 8) (hpl : pl q ≤ 16) (hdg : dg q ≤ 8) (hm : dg q + 1 + 2 * e1 ≤ sd_cnt (th q) (pl q)) : Met l yX1_seek (Cond.code yX1_seek cX1_seek 4 none :: bg) { frames := 5, cells := 0, slots := 0, locals := 130 } (sd_Wr D vwCl (ty5 tc) (dw ad tc dg pl vl th cu mx us so rr fw ff) sz [.ref (ad 8), .ref (ad (14 + 3 * q)), .int (nI e1)]) (va_Qv (S := (Nat → Nat → FP) × (Nat → Bool) × (Nat → FP) × (Nat → Int32) × (Nat → Nat → FP)) (fun u : (Nat → Nat → FP) × (Nat → Bool) × (Nat → FP) × (Nat → Int32) × (Nat → Nat → FP) => (∀ i, i ≠ 1 → u.2.2.2.2 i = cu i) ∧ (∀ k, dg q < k → k ≤ 8 → u.2.2.2.2 1 k = 0) ∧ ∀ f : Nat → FP, sd_Fd (dg q) (pl q) e1 (th q) (vl q) f → ∀ k, k ≤ dg q → u.2.2.2.2 1 k = f k) (sd_B D vwCl (ty5 tc) (va_A (dw ad tc dg pl vl th cu mx us so rr fw ff) sz) (fun u => dw ad tc dg pl vl th u.2.2.2.2 u.1 u.2.1 u.2.2.1 u.2.2.2.1 fw ff)) (va_A (dw ad tc dg pl vl th cu mx us so rr fw ff) sz)) 0 0 (va_A (dw ad tc dg pl vl th cu mx us so rr fw ff) sz) := by
  refine Met.ofW (cc := cX1_seek) (maxL := 4) (ret := none) (by decide) rfl ?_
  intro p e s m args below meth c s₁ B hml hv
  obtain ⟨rfl, hsz, hP, hK, hD0⟩ := hv
  have hx := B.exec
  have hb := B.bytes
  have hr := B.returns
  have hts := atoms_spec (ws := Cond.code yX1_seek cX1_seek 4 none :: bg) B.pre
  have hown : s.vm.findClass RX1 = some m.cls := findClass_of_methodNamed B.named
  have hlocks := B.notSynchronized
  subst hsz
  have hD := hD0.self (sz := s.heap.size)
  generalize hAe : va_A (dw ad tc dg pl vl th cu mx us so rr fw ff) s.heap.size = A at hD ⊢
  have hA : ∀ q : Nat, s.heap.size ≤ q → A q := fun q h => by rw [← hAe]; exact Or.inr h
  have hS : va_S A s.heap s.heap [] := va_S.rf
  have hl := lv_entry ([.ref (ad 8), .ref (ad (14 + 3 * q)), .int (nI e1)]) (n := 4) (Nat.le_of_ble_eq_true rfl)
  rw [lg_entry_eq]
  generalize (lg_sl ([.ref (ad 8), .ref (ad (14 + 3 * q)), .int (nI e1)]) ++ List.replicate (4 - (lg_sl ([.ref (ad 8), .ref (ad (14 + 3 * q)), .int (nI e1)])).length) Slot.unset).toArray = ls at hl ⊢
  replace hl : lv_has ls 4 [(0, .ref (ad 8)), (1, .ref (ad (14 + 3 * q))), (2, .int (nI e1))] := hl
  have hcl := sd_cnt_le (th q) (pl q)
  refine lv_aload_n hx hb dX1_seek_0 rfl (lv_at hl 1 rfl) ?_
  refine va_get (D := D) (ci := 3) (v := .int (nI (dg q))) (C := RX3) (T := TX3) (N := 4) hx hb hts (fun w h => mm (inX3 w h)) hown hK hP (14 + 3 * q) (dw_sp hq) rfl 2 (by decide) (hts _ (mm wf_X1_35)) (fun _ h9 => h9) rfl dX1_seek_1 ?_
  refine lv_iload_n hx hb dX1_seek_4 rfl (lv_at hl 2 rfl) ?_
  refine sd_ri (va_runS (As := [.int (nI (dg q)), .int (nI e1)]) (rest := []) ⟨hx, hb, hml, hown, hts⟩ (k_X1_sharesNeeded l (dg q) e1) (sd_cwS hts wd_X1_sharesNeeded wn_X1 wm_X1_41 wi_X1_sharesNeeded nq_X1_sharesNeeded rfl rfl ⟨Nat.le_of_ble_eq_true rfl, Nat.le_of_ble_eq_true rfl⟩) sd_preN rfl rfl hl.1 rfl (lv_room (Nat.le_of_ble_eq_true rfl)) dX1_seek_5 ⟨Nat.zero_le _, Nat.zero_le _⟩) (fun r1 hr1 => ?_)
  subst hr1
  refine lv_istore_n (lv' := [(3, .int (nI (dg q + 1 + 2 * e1))), (0, .ref (ad 8)), (1, .ref (ad (14 + 3 * q))), (2, .int (nI e1))]) hx hb dX1_seek_8 rfl hl (by decide) rfl (fun ls hl => ?_)
  refine lv_aload_n hx hb dX1_seek_9 rfl (lv_at hl 1 rfl) ?_
  refine lv_aload_n hx hb dX1_seek_10 rfl (lv_at hl 2 rfl) ?_
  refine lv_iload_n hx hb dX1_seek_11 rfl (lv_at hl 3 rfl) ?_
  refine lv_iload_n hx hb dX1_seek_12 rfl (lv_at hl 0 rfl) ?_
  refine sd_wv (va_runV (As := [.ref (ad (14 + 3 * q)), .int (nI e1), .int (nI (dg q + 1 + 2 * e1))]) (rest := []) ⟨hx, hb, hml, hown, hts⟩ (k_X1_writeEquations l D _ q e1 (dg q + 1 + 2 * e1) hq hpl (by omega) (by omega)) (sd_cwV hts wd_X1_writeEquations wn_X1 wm_X1_45 wi_X1_writeEquations ws_X1_writeEquations nq_X1_writeEquations rfl rfl ⟨Nat.le_of_ble_eq_true rfl, Nat.le_of_ble_eq_true rfl⟩) (sd_preVW hP hK hD (ci := 1) (q0 := 8) rfl rfl dw_finder) rfl rfl hl.1 rfl (lv_room (Nat.le_of_ble_eq_true rfl)) dX1_seek_13 ⟨Nat.zero_le _, Nat.zero_le _⟩) hD hS hA (fun m1 H locs hm1 hP hD hS => ?_)
  replace hP : va_P D vwCl (dw ad tc dg pl vl th cu m1 us so rr fw ff) H := hP
  replace hD : va_D A (dw ad tc dg pl vl th cu m1 us so rr fw ff) := hD
  refine lv_aload_n hx hb dX1_seek_16 rfl (lv_at hl 1 rfl) ?_
  refine lv_iload_n hx hb dX1_seek_17 rfl (lv_at hl 0 rfl) ?_
  refine sd_wv (va_runV (As := [.int (nI (dg q + 1 + 2 * e1))]) (rest := []) ⟨hx, hb, hml, hown, hts⟩ (k_X1_solveEquations l D _ (dg q + 1 + 2 * e1) (by omega)) (sd_cwV hts wd_X1_solveEquations wn_X1 wm_X1_49 wi_X1_solveEquations ws_X1_solveEquations nq_X1_solveEquations rfl rfl ⟨Nat.le_of_ble_eq_true rfl, Nat.le_of_ble_eq_true rfl⟩) (sd_preVW hP hK hD (ci := 1) (q0 := 8) rfl rfl dw_finder) rfl rfl hl.1 rfl (lv_room (Nat.le_of_ble_eq_true rfl)) dX1_seek_18 ⟨Nat.zero_le _, Nat.zero_le _⟩) hD hS hA (fun us9 H locs hus9 hP hD hS => ?_)
  obtain ⟨m2, u2, s2, r2⟩ := us9
  replace hP : va_P D vwCl (dw ad tc dg pl vl th cu m2 u2 s2 r2 fw ff) H := hP
  replace hD : va_D A (dw ad tc dg pl vl th cu m2 u2 s2 r2 fw ff) := hD
  obtain ⟨used, ro, hG, hso⟩ := hus9
  replace hso : ∀ v, v < dg q + 1 + 2 * e1 → s2 v = sd_sol m2 (dg q + 1 + 2 * e1) ro v := hso
  replace hG : sd_GI (dg q + 1 + 2 * e1) m1 m2 used ro (dg q + 1 + 2 * e1) := hG
  refine lv_aload_n hx hb dX1_seek_21 rfl (lv_at hl 1 rfl) ?_
  refine lv_aload_n hx hb dX1_seek_22 rfl (lv_at hl 2 rfl) ?_
  refine va_get (D := D) (ci := 3) (v := .int (nI (dg q))) (C := RX3) (T := TX3) (N := 4) hx hb hts (fun w h => mm (inX3 w h)) hown hK hP (14 + 3 * q) (dw_sp hq) rfl 2 (by decide) (hts _ (mm wf_X1_35)) (fun _ h9 => h9) rfl dX1_seek_23 ?_
  refine lv_iload_n hx hb dX1_seek_26 rfl (lv_at hl 3 rfl) ?_
  refine sd_wv (va_runV (As := [.int (nI (dg q)), .int (nI e1)]) (rest := []) ⟨hx, hb, hml, hown, hts⟩ (k_X1_divide l D _ (dg q) e1 hdg (by omega)) (sd_cwV hts wd_X1_divide wn_X1 wm_X1_53 wi_X1_divide ws_X1_divide nq_X1_divide rfl rfl ⟨Nat.le_of_ble_eq_true rfl, Nat.le_of_ble_eq_true rfl⟩) (sd_preVW hP hK hD (ci := 1) (q0 := 8) rfl rfl dw_finder) rfl rfl hl.1 rfl (lv_room (Nat.le_of_ble_eq_true rfl)) dX1_seek_27 ⟨Nat.zero_le _, Nat.zero_le _⟩) hD hS hA (fun ud9 H locs hud9 hP hD hS => ?_)
  obtain ⟨c3, s3⟩ := ud9
  replace hP : va_P D vwCl (dw ad tc dg pl vl th c3 m2 u2 s3 r2 fw ff) H := hP
  replace hD : va_D A (dw ad tc dg pl vl th c3 m2 u2 s3 r2 fw ff) := hD
  obtain ⟨g1, g2, g3⟩ := hud9
  have hfin : ∀ f : Nat → FP, sd_Fd (dg q) (pl q) e1 (th q) (vl q) f → ∀ k, k ≤ dg q → c3 1 k = f k := by
    intro f hf
    refine g3 f (fun m9 h9 => ?_)
    have hsk := sd_seek (N := dg q + 1 + 2 * e1) hdg hpl (by omega) hm hm1 hG hf
    have hE : sd_E s2 (dg q) e1 = sd_E (sd_sol m2 (dg q + 1 + 2 * e1) ro) (dg q) e1 := by
      funext j
      unfold sd_E
      by_cases ej : j < e1
      · rw [if_pos ej, if_pos ej, hso _ (by omega)]
      · rw [if_neg ej, if_neg ej]
    rw [hE, hso m9 (by omega)]
    exact hsk m9 h9
  exact W.vret hx hb hr (fun t ht hW => ⟨⟨(m2, u2, s3, r2, c3), rfl, ⟨g1, g2, hfin⟩, by rw [ht]; exact hP, va_K.moved hW.alike hK, hD⟩, hS.F ht⟩) hS.2.2 dX1_seek_30

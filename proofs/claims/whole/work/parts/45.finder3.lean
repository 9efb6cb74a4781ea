/-! the finder: the equations solved, the division, the whole -/
def sd_enc : Option Nat → Int32
  | none => -1
  | some r => nI r
theorem sd_m1_ne {i : Nat} (h : i < 2 ^ 31) : nI i ≠ -1 := by
  intro q
  have a := nI_toInt h
  rw [q] at a
  have b : (-1 : Int32).toInt = -1 := by decide
  omega
theorem sd_GI_step {nx ux i : Nat} {M0 m1 m2 m3 : Nat → Nat → FP} {u1 : Nat → Bool} {ro : Nat → Option Nat} {s9 : FP} (hG : sd_GI nx M0 m1 u1 ro ux) (hux : ux < nx) (hi : i < nx) (hui : u1 i = false) (hs : m1 i ux * s9 = 1)
    (h2 : ∀ a j, m2 a j = (if a = i ∧ ux ≤ j ∧ j ≤ nx then m1 i j * s9 else m1 a j)) (h3 : ∀ a j, m3 a j = (if a < nx ∧ a ≠ i ∧ ux ≤ j ∧ j ≤ nx then m2 a j - m2 a ux * m2 i j else m2 a j)) : sd_GI nx M0 m3 (sd_up u1 i true) (sd_up ro ux (some i)) (ux + 1) := by
  have hz := hG.2.1 i hi hui
  refine sd_GI_congr (by omega) (sd_GI_some hG hi hui hs) (fun a j ha hj => ?_) (fun _ _ => rfl) (fun _ _ => rfl)
  by_cases e : a = i
  · subst e
    rw [h3, if_neg (by omega), h2, sd_elim_self]
    by_cases e2 : ux ≤ j
    · rw [if_pos (by omega)]
    · rw [if_neg (by omega), hz j (by omega)]
      grind
  · rw [h3, sd_elim_ne m1 s9 j e]
    by_cases e2 : ux ≤ j
    · rw [if_pos (by omega), h2, h2, h2, if_neg (by omega), if_neg (by omega), if_pos (by omega)]
    · rw [if_neg (by omega), h2, if_neg (by omega), hz j (by omega)]
      grind

set_option maxHeartbeats 4000000 in
set_option maxRecDepth 100000 in
theorem k_X1_solveEquations (l : Launch) (D : va_G) {ad : Nat → Nat} {tc : Nat → ClassId} {dg pl : Nat → Nat} {vl : Nat → Nat → FP} {th : Nat → Nat → Bool} {cu mx : Nat → Nat → FP} {us : Nat → Bool} {so : Nat → FP} {rr : Nat → Int32} {fw : Nat → Bool} {ff : Int32} (sz : Nat) (nx : Nat) (hn : nx ≤ 16) : Met l yX1_solveEquations (Cond.code yX1_solveEquations cX1_solveEquations 4 none :: bg) { frames := 4, cells := 0, slots := 0, locals := 107 } (sd_Wr D vwCl (ty5 tc) (dw ad tc dg pl vl th cu mx us so rr fw ff) sz [.ref (ad 8), .int (nI nx)]) (va_Qv (S := (Nat → Nat → FP) × (Nat → Bool) × (Nat → FP) × (Nat → Int32)) (fun u : (Nat → Nat → FP) × (Nat → Bool) × (Nat → FP) × (Nat → Int32) => ∃ (used : Nat → Bool) (ro : Nat → Option Nat), sd_GI nx mx u.1 used ro nx ∧ ∀ v, v < nx → u.2.2.1 v = sd_sol u.1 nx ro v) (sd_B D vwCl (ty5 tc) (va_A (dw ad tc dg pl vl th cu mx us so rr fw ff) sz) (fun u => dw ad tc dg pl vl th cu u.1 u.2.1 u.2.2.1 u.2.2.2 fw ff)) (va_A (dw ad tc dg pl vl th cu mx us so rr fw ff) sz)) 0 0 (va_A (dw ad tc dg pl vl th cu mx us so rr fw ff) sz) := by
  refine Met.ofW (cc := cX1_solveEquations) (maxL := 4) (ret := none) (by decide) rfl ?_
  intro p e s m args below meth c s₁ B hml hv
  obtain ⟨rfl, hsz, hP, hK, hD0⟩ := hv
  have hx := B.exec
  have hb := B.bytes
  have hr := B.returns
  have hts := atoms_spec (ws := Cond.code yX1_solveEquations cX1_solveEquations 4 none :: bg) B.pre
  have hown : s.vm.findClass RX1 = some m.cls := findClass_of_methodNamed B.named
  have hlocks := B.notSynchronized
  subst hsz
  have hD := hD0.self (sz := s.heap.size)
  generalize hAe : va_A (dw ad tc dg pl vl th cu mx us so rr fw ff) s.heap.size = A at hD ⊢
  have hA : ∀ q : Nat, s.heap.size ≤ q → A q := fun q h => by rw [← hAe]; exact Or.inr h
  have hS : va_S A s.heap s.heap [] := va_S.rf
  have hl := lv_entry ([.ref (ad 8), .int (nI nx)]) (n := 4) (Nat.le_of_ble_eq_true rfl)
  rw [lg_entry_eq]
  generalize (lg_sl ([.ref (ad 8), .int (nI nx)]) ++ List.replicate (4 - (lg_sl ([.ref (ad 8), .int (nI nx)])).length) Slot.unset).toArray = ls at hl ⊢
  replace hl : lv_has ls 4 [(0, .ref (ad 8)), (1, .int (nI nx))] := hl
  refine lv_iconst (v := nI 0) hx hb dX1_solveEquations_0 (by decide) ?_
  refine lv_istore_n (lv' := [(2, .int (nI 0)), (0, .ref (ad 8)), (1, .int (nI nx))]) hx hb dX1_solveEquations_1 rfl hl (by decide) rfl (fun ls hl => ?_)
  obtain ⟨H, hH9⟩ : ∃ H : Heap, H = s.heap := ⟨_, rfl⟩
  obtain ⟨locs, hl9⟩ : ∃ x : List Loc, x = [] := ⟨_, rfl⟩
  rw [← hH9, ← hl9]
  have hS : va_S A s.heap H locs := by rw [hH9, hl9]; exact va_S.rf
  have hP : va_P D vwCl (dw ad tc dg pl vl th cu mx us so rr fw ff) H := by rw [hH9]; exact hP
  clear hH9 hl9
  obtain ⟨k, u1, hk, hI, hP9, hD9, hl9⟩ : ∃ (k : Nat) (u1 : Nat → Bool), (k ≤ nx) ∧ (∀ i, u1 i = (if i < k then false else us i)) ∧ va_P D vwCl (dw ad tc dg pl vl th cu mx u1 so rr fw ff) H ∧ va_D A (dw ad tc dg pl vl th cu mx u1 so rr fw ff) ∧ lv_has ls 4 [(2, .int (nI k)), (0, .ref (ad 8)), (1, .int (nI nx))] := ⟨0, us, Nat.zero_le _, fun i => by rw [if_neg (Nat.not_lt_zero i)], hP, hD, (lv_sub hl [0, 1, 2] rfl)⟩
  replace hl := hl9
  clear hl9
  replace hP := hP9
  replace hD := hD9
  clear hP9 hD9
  obtain ⟨k9, hk9⟩ : ∃ k9 : Nat, nx < k + k9 := ⟨nx + 1, by omega⟩
  induction k9 generalizing k u1 ls H locs with
  | zero => exact absurd hk9 (by omega)
  | succ k9 ih =>
    refine lv_iload_n hx hb dX1_solveEquations_2 rfl (lv_at hl 0 rfl) ?_
    refine lv_iload_n hx hb dX1_solveEquations_3 rfl (lv_at hl 2 rfl) ?_
    refine sd_icmp_ge (tgt := 20) hx hb (by omega) (by omega) dX1_solveEquations_4 (by decide) (fun c1 => ?_) (fun c1 => ?_)
    · have hU : ∀ i, i < nx → u1 i = false := fun i hi => by rw [hI, if_pos (by omega)]
      refine lv_iconst (v := nI 0) hx hb dX1_solveEquations_20 (by decide) ?_
      refine lv_istore_n (lv' := [(2, .int (nI 0)), (0, .ref (ad 8)), (1, .int (nI nx))]) hx hb dX1_solveEquations_21 rfl hl (by decide) rfl (fun ls hl => ?_)
      obtain ⟨ux, m1, u2, r1, ro, hux, hG, hro, hP9, hD9, hl9⟩ : ∃ (ux : Nat) (m1 : Nat → Nat → FP) (u2 : Nat → Bool) (r1 : Nat → Int32) (ro : Nat → Option Nat), (ux ≤ nx) ∧ (sd_GI nx mx m1 u2 ro ux) ∧ (∀ v, v < ux → r1 v = sd_enc (ro v)) ∧ va_P D vwCl (dw ad tc dg pl vl th cu m1 u2 so r1 fw ff) H ∧ va_D A (dw ad tc dg pl vl th cu m1 u2 so r1 fw ff) ∧ lv_has ls 4 [(2, .int (nI ux)), (0, .ref (ad 8)), (1, .int (nI nx))] := ⟨0, mx, u1, rr, fun _ => none, Nat.zero_le _, sd_GI_0 nx mx u1 _ hU, fun v hv => absurd hv (Nat.not_lt_zero v), hP, hD, (lv_sub hl [0, 1, 2] rfl)⟩
      replace hl := hl9
      clear hl9
      replace hP := hP9
      replace hD := hD9
      clear hP9 hD9
      obtain ⟨k9, hk9⟩ : ∃ k9 : Nat, nx < ux + k9 := ⟨nx + 1, by omega⟩
      induction k9 generalizing ux m1 u2 r1 ro ls H locs with
      | zero => exact absurd hk9 (by omega)
      | succ k9 ih =>
        refine lv_iload_n hx hb dX1_solveEquations_22 rfl (lv_at hl 0 rfl) ?_
        refine lv_iload_n hx hb dX1_solveEquations_23 rfl (lv_at hl 2 rfl) ?_
        refine sd_icmp_ge (tgt := 77) hx hb (by omega) (by omega) dX1_solveEquations_24 (by decide) (fun c2 => ?_) (fun c2 => ?_)
        · refine lv_iconst (v := nI 0) hx hb dX1_solveEquations_77 (by decide) ?_
          refine lv_istore_n (lv' := [(2, .int (nI 0)), (0, .ref (ad 8)), (1, .int (nI nx))]) hx hb dX1_solveEquations_78 rfl hl (by decide) rfl (fun ls hl => ?_)
          have eux : ux = nx := by omega
          subst eux
          skip
          obtain ⟨k, s1, hk2, hso, hP9, hD9, hl9⟩ : ∃ (k : Nat) (s1 : Nat → FP), (k ≤ ux) ∧ (∀ v, v < k → s1 v = sd_sol m1 ux ro v) ∧ va_P D vwCl (dw ad tc dg pl vl th cu m1 u2 s1 r1 fw ff) H ∧ va_D A (dw ad tc dg pl vl th cu m1 u2 s1 r1 fw ff) ∧ lv_has ls 4 [(2, .int (nI k)), (0, .ref (ad 8)), (1, .int (nI ux))] := ⟨0, so, Nat.zero_le _, fun v hv => absurd hv (Nat.not_lt_zero v), hP, hD, (lv_sub hl [0, 1, 2] rfl)⟩
          replace hl := hl9
          clear hl9
          replace hP := hP9
          replace hD := hD9
          clear hP9 hD9
          obtain ⟨k9, hk9⟩ : ∃ k9 : Nat, ux < k + k9 := ⟨ux + 1, by omega⟩
          induction k9 generalizing k s1 ls H locs with
          | zero => exact absurd hk9 (by omega)
          | succ k9 ih =>
            refine lv_iload_n hx hb dX1_solveEquations_79 rfl (lv_at hl 0 rfl) ?_
            refine lv_iload_n hx hb dX1_solveEquations_80 rfl (lv_at hl 2 rfl) ?_
            refine sd_icmp_ge (tgt := 120) hx hb (by omega) (by omega) dX1_solveEquations_81 (by decide) (fun c3 => ?_) (fun c3 => ?_)
            · exact W.vret hx hb hr (fun t ht hW => ⟨⟨(m1, u2, s1, r1), rfl, ⟨u2, ro, hG, fun v hv => hso v (by omega)⟩, by rw [ht]; exact hP, va_K.moved hW.alike hK, hD⟩, hS.F ht⟩) hS.2.2 dX1_solveEquations_120
            · refine lv_aload_n hx hb dX1_solveEquations_84 rfl (lv_at hl 1 rfl) ?_
              refine va_get (D := D) (ci := 1) (v := .ref (ad 12)) (C := RX1) (T := TX1) (N := 5) hx hb hts (fun w h => mm (inX1 w h)) hown hK hP 8 dw_finder rfl 4 (by decide) (hts _ (mm wf_X1_31)) (fun _ h9 => h9) rfl dX1_solveEquations_85 ?_
              refine lv_iload_n hx hb dX1_solveEquations_88 rfl (lv_at hl 0 rfl) ?_
              refine sd_iald hx hb hK hP 12 2 dw_rou rfl (k := k) (by omega) (by decide) dX1_solveEquations_89 ?_
              refine sd_toi (y := sd_enc (ro k)) (hro k (by omega)) ?_
              have hsd : sd_sol m1 ux ro k = (match ro k with | none => 0 | some r => m1 r ux) := rfl
              have hrg := fun r => hG.2.2.2.1 k r (by omega)
              generalize ro k = rk at hsd hrg ⊢
              rcases rk with _ | i
              · replace hsd : sd_sol m1 ux ro k = 0 := hsd
                refine sd_toi (y := -1) rfl ?_
                refine lv_istore_n (lv' := [(3, .int (-1)), (2, .int (nI k)), (0, .ref (ad 8)), (1, .int (nI ux))]) hx hb dX1_solveEquations_90 rfl hl (by decide) rfl (fun ls hl => ?_)
                refine lv_aload_n hx hb dX1_solveEquations_91 rfl (lv_at hl 2 rfl) ?_
                refine va_get (D := D) (ci := 1) (v := .ref (ad 11)) (C := RX1) (T := TX1) (N := 5) hx hb hts (fun w h => mm (inX1 w h)) hown hK hP 8 dw_finder rfl 3 (by decide) (hts _ (mm wf_X1_27)) (fun _ h9 => h9) rfl dX1_solveEquations_92 ?_
                refine lv_iload_n hx hb dX1_solveEquations_95 rfl (lv_at hl 1 rfl) ?_
                refine lv_iload_n hx hb dX1_solveEquations_96 rfl (lv_at hl 0 rfl) ?_
                refine lv_iconst (v := -1) hx hb dX1_solveEquations_97 (by decide) ?_
                refine lv_icmp_ne (tgt := 105) hx hb dX1_solveEquations_98 (by decide) (fun c4 => ?_) (fun c4 => ?_)
                · exact absurd rfl c4
                · refine lv_lconst (v := 0) hx hb dX1_solveEquations_101 (by decide) ?_
                  refine sd_tol (y := sd_L 0) sd_L_0.symm ?_
                  refine lv_goto (tgt := 113) hx hb dX1_solveEquations_102 (by decide) ?_
                  refine sd_last hx hb hK hP hD hS 11 0 dw_sol rfl (k := k) (by omega) (by decide) (ws2 := dw ad tc dg pl vl th cu m1 u2 (sd_up s1 k 0) r1 fw ff) (by rw [sd_stL]; exact dws_sol _) dX1_solveEquations_113 (fun H locs hP hD hS => ?_)
                  have hI9 : ∀ v, v < k + 1 → (sd_up s1 k 0) v = sd_sol m1 ux ro v := by
                    intro v hv
                    by_cases ev : v = k
                    · rw [ev, sd_up_s, hsd]
                    · rw [sd_up_n _ _ ev]; exact hso v (by omega)
                  refine lv_iinc (v := nI (k + 1)) (lv' := [(2, .int (nI (k + 1))), (3, .int (-1)), (0, .ref (ad 8)), (1, .int (nI ux))]) hx hb dX1_solveEquations_114 hl (k := 1) rfl (nI_1 _) (by decide) rfl (fun ls hl => ?_)
                  refine lv_goto (tgt := 79) hx hb dX1_solveEquations_117 (by decide) ?_
                  exact ih (k := k + 1) (s1 := sd_up s1 k 0) (hk2 := by omega) (hso := hI9) (H := H) (locs := locs) (hP := hP) (hD := hD) (hS := hS) (ls := ls) (hl := (lv_sub hl [0, 2, 3] rfl)) (hk9 := by omega)
              · replace hsd : sd_sol m1 ux ro k = m1 i ux := hsd
                have hi : i < 16 := by have := (hrg i rfl).1; omega
                refine sd_toi (y := nI i) rfl ?_
                refine lv_istore_n (lv' := [(3, .int (nI i)), (2, .int (nI k)), (0, .ref (ad 8)), (1, .int (nI ux))]) hx hb dX1_solveEquations_90 rfl hl (by decide) rfl (fun ls hl => ?_)
                refine lv_aload_n hx hb dX1_solveEquations_91 rfl (lv_at hl 2 rfl) ?_
                refine va_get (D := D) (ci := 1) (v := .ref (ad 11)) (C := RX1) (T := TX1) (N := 5) hx hb hts (fun w h => mm (inX1 w h)) hown hK hP 8 dw_finder rfl 3 (by decide) (hts _ (mm wf_X1_27)) (fun _ h9 => h9) rfl dX1_solveEquations_92 ?_
                refine lv_iload_n hx hb dX1_solveEquations_95 rfl (lv_at hl 1 rfl) ?_
                refine lv_iload_n hx hb dX1_solveEquations_96 rfl (lv_at hl 0 rfl) ?_
                refine lv_iconst (v := -1) hx hb dX1_solveEquations_97 (by decide) ?_
                refine lv_icmp_ne (tgt := 105) hx hb dX1_solveEquations_98 (by decide) (fun c4 => ?_) (fun c4 => ?_)
                · refine lv_aload_n hx hb dX1_solveEquations_105 rfl (lv_at hl 2 rfl) ?_
                  refine va_get (D := D) (ci := 1) (v := .ref (ad 9)) (C := RX1) (T := TX1) (N := 5) hx hb hts (fun w h => mm (inX1 w h)) hown hK hP 8 dw_finder rfl 1 (by decide) (hts _ (mm wf_X1_20)) (fun _ h9 => h9) rfl dX1_solveEquations_106 ?_
                  refine lv_iload_n hx hb dX1_solveEquations_109 rfl (lv_at hl 0 rfl) ?_
                  refine sd_aldA hx hb hK hP 9 4 dw_rows rfl (k := i) (by omega) (by decide) rfl dX1_solveEquations_110 ?_
                  refine lv_iload_n hx hb dX1_solveEquations_111 rfl (lv_at hl 3 rfl) ?_
                  refine sd_lald hx hb hK hP (38 + i) 0 (dw_mx hi) rfl (k := ux) (by omega) (by decide) dX1_solveEquations_112 ?_
                  refine sd_last hx hb hK hP hD hS 11 0 dw_sol rfl (k := k) (by omega) (by decide) (ws2 := dw ad tc dg pl vl th cu m1 u2 (sd_up s1 k ((m1 i) ux)) r1 fw ff) (by rw [sd_stL]; exact dws_sol _) dX1_solveEquations_113 (fun H locs hP hD hS => ?_)
                  have hI9 : ∀ v, v < k + 1 → (sd_up s1 k ((m1 i) ux)) v = sd_sol m1 ux ro v := by
                    intro v hv
                    by_cases ev : v = k
                    · rw [ev, sd_up_s, hsd]
                    · rw [sd_up_n _ _ ev]; exact hso v (by omega)
                  refine lv_iinc (v := nI (k + 1)) (lv' := [(2, .int (nI (k + 1))), (3, .int (nI i)), (0, .ref (ad 8)), (1, .int (nI ux))]) hx hb dX1_solveEquations_114 hl (k := 1) rfl (nI_1 _) (by decide) rfl (fun ls hl => ?_)
                  refine lv_goto (tgt := 79) hx hb dX1_solveEquations_117 (by decide) ?_
                  exact ih (k := k + 1) (s1 := sd_up s1 k ((m1 i) ux)) (hk2 := by omega) (hso := hI9) (H := H) (locs := locs) (hP := hP) (hD := hD) (hS := hS) (ls := ls) (hl := (lv_sub hl [0, 2, 3] rfl)) (hk9 := by omega)
                · exact absurd c4 (sd_m1_ne (by omega))
        · refine lv_aload_n hx hb dX1_solveEquations_27 rfl (lv_at hl 1 rfl) ?_
          refine lv_iload_n hx hb dX1_solveEquations_28 rfl (lv_at hl 0 rfl) ?_
          refine lv_iload_n hx hb dX1_solveEquations_29 rfl (lv_at hl 2 rfl) ?_
          refine sd_ri (va_runV (As := [.int (nI ux), .int (nI nx)]) (rest := []) ⟨hx, hb, hml, hown, hts⟩ (k_X1_unusedRowWith l D ux nx (by omega) hn) (sd_cwV hts wd_X1_unusedRowWith wn_X1 wm_X1_80 wi_X1_unusedRowWith ws_X1_unusedRowWith nq_X1_unusedRowWith rfl rfl ⟨Nat.le_of_ble_eq_true rfl, Nat.le_of_ble_eq_true rfl⟩) (sd_preVR hP hK (ci := 1) (q0 := 8) rfl rfl dw_finder) rfl rfl hl.1 rfl (lv_room (Nat.le_of_ble_eq_true rfl)) dX1_solveEquations_30 ⟨Nat.zero_le _, Nat.zero_le _⟩) (fun rw9 hrw9 => ?_)
          refine lv_istore_n (lv' := [(3, .int rw9), (2, .int (nI ux)), (0, .ref (ad 8)), (1, .int (nI nx))]) hx hb dX1_solveEquations_33 rfl hl (by decide) rfl (fun ls hl => ?_)
          refine lv_aload_n hx hb dX1_solveEquations_34 rfl (lv_at hl 2 rfl) ?_
          refine va_get (D := D) (ci := 1) (v := .ref (ad 12)) (C := RX1) (T := TX1) (N := 5) hx hb hts (fun w h => mm (inX1 w h)) hown hK hP 8 dw_finder rfl 4 (by decide) (hts _ (mm wf_X1_31)) (fun _ h9 => h9) rfl dX1_solveEquations_35 ?_
          refine lv_iload_n hx hb dX1_solveEquations_38 rfl (lv_at hl 1 rfl) ?_
          refine lv_iload_n hx hb dX1_solveEquations_39 rfl (lv_at hl 0 rfl) ?_
          refine sd_iast hx hb hK hP hD hS 12 2 dw_rou rfl (k := ux) (by omega) (by decide) (ws2 := dw ad tc dg pl vl th cu m1 u2 so (sd_up r1 ux rw9) fw ff) (by rw [sd_stI]; exact dws_rou _) dX1_solveEquations_40 (fun H locs hP hD hS => ?_)
          refine lv_iload_n hx hb dX1_solveEquations_41 rfl (lv_at hl 0 rfl) ?_
          refine lv_iconst (v := -1) hx hb dX1_solveEquations_42 (by decide) ?_
          refine lv_icmp_eq (tgt := 71) hx hb dX1_solveEquations_43 (by decide) (fun c3 => ?_) (fun c3 => ?_)
          · have hz : ∀ i, i < nx → u2 i = false → m1 i ux = 0 := by
              rcases hrw9 with h9 | ⟨i, h1, h2, -⟩
              · exact h9.2
              · exact absurd (h2.symm.trans c3) (sd_m1_ne (by omega))
            refine lv_iinc (v := nI (ux + 1)) (lv' := [(2, .int (nI (ux + 1))), (3, .int rw9), (0, .ref (ad 8)), (1, .int (nI nx))]) hx hb dX1_solveEquations_71 hl (k := 1) rfl (nI_1 _) (by decide) rfl (fun ls hl => ?_)
            refine lv_goto (tgt := 22) hx hb dX1_solveEquations_74 (by decide) ?_
            exact ih (ux := ux + 1) (m1 := m1) (u2 := u2) (r1 := sd_up r1 ux rw9) (ro := sd_up ro ux none) (hux := by omega) (hG := sd_GI_none hG hz) (hro := fun v hv => (Classical.em (v = ux)).elim (fun ev => by rw [ev, sd_up_s, sd_up_s, c3]; rfl) (fun ev => by rw [sd_up_n _ _ ev, sd_up_n _ _ ev]; exact hro v (by omega))) (H := H) (locs := locs) (hP := hP) (hD := hD) (hS := hS) (ls := ls) (hl := (lv_sub hl [0, 2, 3] rfl)) (hk9 := by omega)
          · obtain ⟨i, hin, rfl, hui, hmi⟩ : ∃ i, i < nx ∧ rw9 = nI i ∧ u2 i = false ∧ m1 i ux ≠ 0 := hrw9.resolve_left (fun z => c3 z.1)
            have hi : i < 16 := by omega
            refine lv_aload_n hx hb dX1_solveEquations_46 rfl (lv_at hl 2 rfl) ?_
            refine va_get (D := D) (ci := 1) (v := .ref (ad 10)) (C := RX1) (T := TX1) (N := 5) hx hb hts (fun w h => mm (inX1 w h)) hown hK hP 8 dw_finder rfl 2 (by decide) (hts _ (mm wf_X1_23)) (fun _ h9 => h9) rfl dX1_solveEquations_47 ?_
            refine lv_iload_n hx hb dX1_solveEquations_50 rfl (lv_at hl 0 rfl) ?_
            refine lv_iconst (v := nI 1) hx hb dX1_solveEquations_51 (by decide) ?_
            refine sd_tob (b := true) rfl ?_
            refine sd_zast hx hb hK hP hD hS 10 1 dw_used rfl (k := i) (by omega) (by decide) (ws2 := dw ad tc dg pl vl th cu m1 (sd_up u2 i true) so (sd_up r1 ux (nI i)) fw ff) (by rw [sd_stZ]; exact dws_used _) dX1_solveEquations_52 (fun H locs hP hD hS => ?_)
            refine lv_aload_n hx hb dX1_solveEquations_53 rfl (lv_at hl 2 rfl) ?_
            refine va_get (D := D) (ci := 1) (v := .ref (ad 9)) (C := RX1) (T := TX1) (N := 5) hx hb hts (fun w h => mm (inX1 w h)) hown hK hP 8 dw_finder rfl 1 (by decide) (hts _ (mm wf_X1_20)) (fun _ h9 => h9) rfl dX1_solveEquations_54 ?_
            refine lv_iload_n hx hb dX1_solveEquations_57 rfl (lv_at hl 0 rfl) ?_
            refine sd_aldA hx hb hK hP 9 4 dw_rows rfl (k := i) (by omega) (by decide) rfl dX1_solveEquations_58 ?_
            refine lv_iload_n hx hb dX1_solveEquations_59 rfl (lv_at hl 1 rfl) ?_
            refine lv_iload_n hx hb dX1_solveEquations_60 rfl (lv_at hl 3 rfl) ?_
            refine sd_wv (va_runS (As := [.ref (ad (38 + i)), .int (nI ux), .int (nI nx)]) (rest := []) ⟨hx, hb, hml, hown, hts⟩ (k_X1_makeOne l D _ i ux nx hi (by omega) hn hmi) (sd_cwS hts wd_X1_makeOne wn_X1 wm_X1_83 wi_X1_makeOne nq_X1_makeOne rfl rfl ⟨Nat.le_of_ble_eq_true rfl, Nat.le_of_ble_eq_true rfl⟩) (sd_preW hP hK hD) rfl rfl hl.1 rfl (lv_room (Nat.le_of_ble_eq_true rfl)) dX1_solveEquations_61 ⟨Nat.zero_le _, Nat.zero_le _⟩) hD hS hA (fun m2 H locs hm2 hP hD hS => ?_)
            replace hP : va_P D vwCl (dw ad tc dg pl vl th cu m2 (sd_up u2 i true) so (sd_up r1 ux (nI i)) fw ff) H := hP
            replace hD : va_D A (dw ad tc dg pl vl th cu m2 (sd_up u2 i true) so (sd_up r1 ux (nI i)) fw ff) := hD
            obtain ⟨s9, hs9, hm2⟩ := hm2
            refine lv_aload_n hx hb dX1_solveEquations_64 rfl (lv_at hl 2 rfl) ?_
            refine lv_iload_n hx hb dX1_solveEquations_65 rfl (lv_at hl 0 rfl) ?_
            refine lv_iload_n hx hb dX1_solveEquations_66 rfl (lv_at hl 1 rfl) ?_
            refine lv_iload_n hx hb dX1_solveEquations_67 rfl (lv_at hl 3 rfl) ?_
            refine sd_wv (va_runV (As := [.int (nI i), .int (nI ux), .int (nI nx)]) (rest := []) ⟨hx, hb, hml, hown, hts⟩ (k_X1_clearElsewhere l D _ i ux nx hi (by omega) hn) (sd_cwV hts wd_X1_clearElsewhere wn_X1 wm_X1_87 wi_X1_clearElsewhere ws_X1_clearElsewhere nq_X1_clearElsewhere rfl rfl ⟨Nat.le_of_ble_eq_true rfl, Nat.le_of_ble_eq_true rfl⟩) (sd_preVW hP hK hD (ci := 1) (q0 := 8) rfl rfl dw_finder) rfl rfl hl.1 rfl (lv_room (Nat.le_of_ble_eq_true rfl)) dX1_solveEquations_68 ⟨Nat.zero_le _, Nat.zero_le _⟩) hD hS hA (fun m3 H locs hm3 hP hD hS => ?_)
            replace hP : va_P D vwCl (dw ad tc dg pl vl th cu m3 (sd_up u2 i true) so (sd_up r1 ux (nI i)) fw ff) H := hP
            replace hD : va_D A (dw ad tc dg pl vl th cu m3 (sd_up u2 i true) so (sd_up r1 ux (nI i)) fw ff) := hD
            refine lv_iinc (v := nI (ux + 1)) (lv' := [(2, .int (nI (ux + 1))), (3, .int (nI i)), (0, .ref (ad 8)), (1, .int (nI nx))]) hx hb dX1_solveEquations_71 hl (k := 1) rfl (nI_1 _) (by decide) rfl (fun ls hl => ?_)
            refine lv_goto (tgt := 22) hx hb dX1_solveEquations_74 (by decide) ?_
            exact ih (ux := ux + 1) (m1 := m3) (u2 := sd_up u2 i true) (r1 := sd_up r1 ux (nI i)) (ro := sd_up ro ux (some i)) (hux := by omega) (hG := sd_GI_step hG (by omega) hin hui hs9 hm2 hm3) (hro := fun v hv => (Classical.em (v = ux)).elim (fun ev => by rw [ev, sd_up_s, sd_up_s]; rfl) (fun ev => by rw [sd_up_n _ _ ev, sd_up_n _ _ ev]; exact hro v (by omega))) (H := H) (locs := locs) (hP := hP) (hD := hD) (hS := hS) (ls := ls) (hl := (lv_sub hl [0, 2, 3] rfl)) (hk9 := by omega)
    · refine lv_aload_n hx hb dX1_solveEquations_7 rfl (lv_at hl 1 rfl) ?_
      refine va_get (D := D) (ci := 1) (v := .ref (ad 10)) (C := RX1) (T := TX1) (N := 5) hx hb hts (fun w h => mm (inX1 w h)) hown hK hP 8 dw_finder rfl 2 (by decide) (hts _ (mm wf_X1_23)) (fun _ h9 => h9) rfl dX1_solveEquations_8 ?_
      refine lv_iload_n hx hb dX1_solveEquations_11 rfl (lv_at hl 0 rfl) ?_
      refine lv_iconst (v := nI 0) hx hb dX1_solveEquations_12 (by decide) ?_
      refine sd_tob (b := false) rfl ?_
      refine sd_zast hx hb hK hP hD hS 10 1 dw_used rfl (k := k) (by omega) (by decide) (ws2 := dw ad tc dg pl vl th cu mx (sd_up u1 k false) so rr fw ff) (by rw [sd_stZ]; exact dws_used _) dX1_solveEquations_13 (fun H locs hP hD hS => ?_)
      refine lv_iinc (v := nI (k + 1)) (lv' := [(2, .int (nI (k + 1))), (0, .ref (ad 8)), (1, .int (nI nx))]) hx hb dX1_solveEquations_14 hl (k := 0) rfl (nI_1 _) (by decide) rfl (fun ls hl => ?_)
      refine lv_goto (tgt := 2) hx hb dX1_solveEquations_17 (by decide) ?_
      exact ih (k := k + 1) (u1 := sd_up u1 k false) (hk := by omega) (hI := fun i => by unfold sd_up; rw [hI]; by_cases a1 : i = k <;> by_cases a2 : i < k <;> simp [a1, a2] <;> omega) (H := H) (locs := locs) (hP := hP) (hD := hD) (hS := hS) (ls := ls) (hl := (lv_sub hl [0, 1, 2] rfl)) (hk9 := by omega)

/-! a share that is there and that the curve misses, of a place at most 16 -/
def sd_mk (n : Nat) (th : Nat → Bool) (v f : Nat → FP) (k : Nat) : Bool := decide (k ≤ n) && sd_ms th v f k
theorem sd_mk_in {n k : Nat} (th : Nat → Bool) (v f : Nat → FP) (h : k ≤ n) : sd_mk n th v f k = sd_ms th v f k := by
  unfold sd_mk
  rw [decide_eq_true h, Bool.true_and]
theorem sd_mk_f {n k : Nat} {th : Nat → Bool} (v f : Nat → FP) (h1 : 1 ≤ k) (hk : k < 2 ^ 31) (h : sd_hs n th (nI k) = false) : sd_mk n th v f k = false := by
  unfold sd_mk sd_ms
  by_cases h2 : k ≤ n
  · rw [sd_hs_nI th hk h1 h2] at h
    rw [h, Bool.false_and, Bool.and_false]
  · rw [decide_eq_false h2, Bool.false_and]
theorem sd_mk_t {n k : Nat} {th : Nat → Bool} {v f : Nat → FP} (h2 : k ≤ n) (ht : th k = true) (h : ¬ v k = sd_ev f (sd_N k)) : sd_mk n th v f k = true := by
  rw [sd_mk_in _ _ _ h2]
  unfold sd_ms
  rw [ht, decide_eq_true h, Bool.true_and]
theorem sd_mk_e {n k : Nat} {th : Nat → Bool} {v f : Nat → FP} (h : v k = sd_ev f (sd_N k)) : sd_mk n th v f k = false := by
  unfold sd_mk sd_ms
  rw [decide_eq_false (p := ¬ v k = sd_ev f (sd_N k)) (fun z => z h), Bool.and_false, Bool.and_false]
theorem sd_cpf (f g : Nat → FP) : va_cpy (fun j => sd_L (f j)) (fun j => sd_L (g j)) 0 0 9 = fun j => sd_L ((fun k => if k < 9 then f k else g k) j) := by
  funext j
  simp only [va_cpy]
  by_cases h : j < 9
  · rw [if_pos (by omega), if_pos h, Nat.zero_add, Nat.sub_zero]
  · rw [if_neg (by omega), if_neg h]
theorem w9_1 : Cond.methodLink RX0 30 arraycopyName ∈ bg := bg_2 137 rfl rfl
theorem w9_2 : Cond.static arraycopyName ∈ bg := bg_2 138 rfl rfl
theorem w9_3 : Cond.native arraycopyName ∈ bg := bg_2 139 rfl rfl

set_option maxHeartbeats 4000000 in
set_option maxRecDepth 100000 in
theorem k_X3_fill (l : Launch) (D : va_G) {ad : Nat → Nat} {tc : Nat → ClassId} {dg pl : Nat → Nat} {vl : Nat → Nat → FP} {th : Nat → Nat → Bool} {cu mx : Nat → Nat → FP} {us : Nat → Bool} {so : Nat → FP} {rr : Nat → Int32} {fw : Nat → Bool} {ff : Int32} (sz : Nat) (q cv : Nat) (hq : q < 8) (hcv : cv < 3) (hpl : pl q ≤ 16) : Met l yX3_fill (Cond.code yX3_fill cX3_fill 3 none :: bg) { frames := 2, cells := 0, slots := 0, locals := 60 } (sd_Wr D vwCl (ty5 tc) (dw ad tc dg pl vl th cu mx us so rr fw ff) sz [.ref (ad (14 + 3 * q)), .ref (ad (2 + 2 * cv))]) (va_Qv (S := (Nat → Nat → FP) × (Nat → Nat → Bool)) (fun u : (Nat → Nat → FP) × (Nat → Nat → Bool) => ∀ i j, u.1 i j = (if i = q ∧ 1 ≤ j ∧ j ≤ pl q then sd_ev (cu cv) (sd_N j) else vl i j) ∧ u.2 i j = (if i = q ∧ 1 ≤ j ∧ j ≤ pl q then true else th i j)) (sd_B D vwCl (ty5 tc) (va_A (dw ad tc dg pl vl th cu mx us so rr fw ff) sz) (fun u => dw ad tc dg pl u.1 u.2 cu mx us so rr fw ff)) (va_A (dw ad tc dg pl vl th cu mx us so rr fw ff) sz)) 0 0 (va_A (dw ad tc dg pl vl th cu mx us so rr fw ff) sz) := by
  refine Met.ofW (cc := cX3_fill) (maxL := 3) (ret := none) (by decide) rfl ?_
  intro p e s m args below meth c s₁ B hml hv
  obtain ⟨rfl, hsz, hP, hK, hD0⟩ := hv
  have hx := B.exec
  have hb := B.bytes
  have hr := B.returns
  have hts := atoms_spec (ws := Cond.code yX3_fill cX3_fill 3 none :: bg) B.pre
  have hown : s.vm.findClass RX3 = some m.cls := findClass_of_methodNamed B.named
  have hlocks := B.notSynchronized
  subst hsz
  have hD := hD0.self (sz := s.heap.size)
  generalize hAe : va_A (dw ad tc dg pl vl th cu mx us so rr fw ff) s.heap.size = A at hD ⊢
  have hA : ∀ q : Nat, s.heap.size ≤ q → A q := fun q h => by rw [← hAe]; exact Or.inr h
  have hS : va_S A s.heap s.heap [] := va_S.rf
  have hl := lv_entry ([.ref (ad (14 + 3 * q)), .ref (ad (2 + 2 * cv))]) (n := 3) (Nat.le_of_ble_eq_true rfl)
  rw [lg_entry_eq]
  generalize (lg_sl ([.ref (ad (14 + 3 * q)), .ref (ad (2 + 2 * cv))]) ++ List.replicate (3 - (lg_sl ([.ref (ad (14 + 3 * q)), .ref (ad (2 + 2 * cv))])).length) Slot.unset).toArray = ls at hl ⊢
  replace hl : lv_has ls 3 [(0, .ref (ad (14 + 3 * q))), (1, .ref (ad (2 + 2 * cv)))] := hl
  refine lv_iconst (v := nI 1) hx hb dX3_fill_0 (by decide) ?_
  refine lv_istore_n (lv' := [(2, .int (nI 1)), (0, .ref (ad (14 + 3 * q))), (1, .ref (ad (2 + 2 * cv)))]) hx hb dX3_fill_1 rfl hl (by decide) rfl (fun ls hl => ?_)
  obtain ⟨H, hH9⟩ : ∃ H : Heap, H = s.heap := ⟨_, rfl⟩
  obtain ⟨locs, hl9⟩ : ∃ x : List Loc, x = [] := ⟨_, rfl⟩
  rw [← hH9, ← hl9]
  have hS : va_S A s.heap H locs := by rw [hH9, hl9]; exact va_S.rf
  have hP : va_P D vwCl (dw ad tc dg pl vl th cu mx us so rr fw ff) H := by rw [hH9]; exact hP
  clear hH9 hl9
  obtain ⟨k, v1, t1, hk, hI, hP9, hD9, hl9⟩ : ∃ (k : Nat) (v1 : Nat → Nat → FP) (t1 : Nat → Nat → Bool), (1 ≤ k ∧ k ≤ pl q + 1) ∧ (∀ i j, v1 i j = (if i = q ∧ 1 ≤ j ∧ j < k then sd_ev (cu cv) (sd_N j) else vl i j) ∧ t1 i j = (if i = q ∧ 1 ≤ j ∧ j < k then true else th i j)) ∧ va_P D vwCl (dw ad tc dg pl v1 t1 cu mx us so rr fw ff) H ∧ va_D A (dw ad tc dg pl v1 t1 cu mx us so rr fw ff) ∧ lv_has ls 3 [(2, .int (nI k)), (0, .ref (ad (14 + 3 * q))), (1, .ref (ad (2 + 2 * cv)))] := ⟨1, vl, th, ⟨Nat.le_refl 1, by omega⟩, fun i j => ⟨by rw [if_neg (by omega)], by rw [if_neg (by omega)]⟩, hP, hD, (lv_sub hl [0, 1, 2] rfl)⟩
  replace hl := hl9
  clear hl9
  replace hP := hP9
  replace hD := hD9
  clear hP9 hD9
  obtain ⟨k9, hk9⟩ : ∃ k9 : Nat, pl q + 1 < k + k9 := ⟨pl q + 1, by omega⟩
  induction k9 generalizing k v1 t1 ls H locs with
  | zero => exact absurd hk9 (by omega)
  | succ k9 ih =>
    refine lv_iload_n hx hb dX3_fill_2 rfl (lv_at hl 0 rfl) ?_
    refine lv_aload_n hx hb dX3_fill_3 rfl (lv_at hl 1 rfl) ?_
    refine va_get (D := D) (ci := 3) (v := .int (nI (pl q))) (C := RX3) (T := TX3) (N := 4) hx hb hts (fun w h => mm (inX3 w h)) hown hK hP (14 + 3 * q) (dw_sp hq) rfl 3 (by decide) (hts _ (mm wf_X3_23)) (fun _ h9 => h9) rfl dX3_fill_4 ?_
    refine sd_icmp_gt (tgt := 27) hx hb (by omega) (by omega) dX3_fill_7 (by decide) (fun c1 => ?_) (fun c1 => ?_)
    · have ek : k = pl q + 1 := by omega
      have hI9 : ∀ i j, v1 i j = (if i = q ∧ 1 ≤ j ∧ j ≤ pl q then sd_ev (cu cv) (sd_N j) else vl i j) ∧ t1 i j = (if i = q ∧ 1 ≤ j ∧ j ≤ pl q then true else th i j) := by
        intro i j
        have z := hI i j
        rw [ek] at z
        simp only [Nat.lt_succ_iff] at z
        exact z
      exact W.vret hx hb hr (fun t ht hW => ⟨⟨(v1, t1), rfl, hI9, by rw [ht]; exact hP, va_K.moved hW.alike hK, hD⟩, hS.F ht⟩) hS.2.2 dX3_fill_27
    · refine lv_aload_n hx hb dX3_fill_10 rfl (lv_at hl 1 rfl) ?_
      refine lv_iload_n hx hb dX3_fill_11 rfl (lv_at hl 0 rfl) ?_
      refine lv_aload_n hx hb dX3_fill_12 rfl (lv_at hl 2 rfl) ?_
      refine lv_iload_n hx hb dX3_fill_13 rfl (lv_at hl 0 rfl) ?_
      refine lv_i2l (v := lN k) hx hb dX3_fill_14 (nI_l (by omega)) ?_
      refine sd_tol (y := sd_L (sd_N k)) ((sd_N_L (by omega)).symm) ?_
      refine sd_rl (va_runV (As := [.long (sd_L (sd_N k))]) (rest := [.int (nI k), .ref (ad (14 + 3 * q))]) ⟨hx, hb, hml, hown, hts⟩ (k_X0_valueAt l D cv (sd_N k) hcv) (sd_cwV hts wd_X0_valueAt wn_X0 wm_X3_30 wi_X0_valueAt ws_X0_valueAt nq_X0_valueAt rfl rfl ⟨Nat.le_of_ble_eq_true rfl, Nat.le_of_ble_eq_true rfl⟩) (sd_preVR hP hK (ci := 0) (q0 := (2 + 2 * cv)) rfl rfl (dw_curve hcv)) rfl rfl hl.1 rfl (lv_room (Nat.le_of_ble_eq_true rfl)) dX3_fill_15 ⟨Nat.zero_le _, Nat.zero_le _⟩) (fun r1 hr1 => ?_)
      subst hr1
      refine sd_wv (va_runV (As := [.int (nI k), .long (sd_L (sd_ev (cu cv) (sd_N k)))]) (rest := []) ⟨hx, hb, hml, hown, hts⟩ (k_X3_keep l D _ q k (sd_ev (cu cv) (sd_N k)) hq (by omega)) (sd_cwV hts wd_X3_keep wn_X3 wm_X3_36 wi_X3_keep ws_X3_keep nq_X3_keep rfl rfl ⟨Nat.le_of_ble_eq_true rfl, Nat.le_of_ble_eq_true rfl⟩) (sd_preVW hP hK hD (ci := 3) (q0 := (14 + 3 * q)) rfl rfl (dw_sp hq)) rfl rfl hl.1 rfl (lv_room (Nat.le_of_ble_eq_true rfl)) dX3_fill_18 ⟨Nat.zero_le _, Nat.zero_le _⟩) hD hS hA (fun u3 H locs hu3 hP hD hS => ?_)
      replace hP : va_P D vwCl (dw ad tc dg pl (sd_up v1 q (sd_up (v1 q) k (sd_ev (cu cv) (sd_N k)))) (sd_up t1 q (sd_up (t1 q) k true)) cu mx us so rr fw ff) H := hP
      replace hD : va_D A (dw ad tc dg pl (sd_up v1 q (sd_up (v1 q) k (sd_ev (cu cv) (sd_N k)))) (sd_up t1 q (sd_up (t1 q) k true)) cu mx us so rr fw ff) := hD
      refine lv_iinc (v := nI (k + 1)) (lv' := [(2, .int (nI (k + 1))), (0, .ref (ad (14 + 3 * q))), (1, .ref (ad (2 + 2 * cv)))]) hx hb dX3_fill_21 hl (k := 0) rfl (nI_1 _) (by decide) rfl (fun ls hl => ?_)
      refine lv_goto (tgt := 2) hx hb dX3_fill_24 (by decide) ?_
      have hI9 : ∀ i j, sd_up v1 q (sd_up (v1 q) k (sd_ev (cu cv) (sd_N k))) i j = (if i = q ∧ 1 ≤ j ∧ j < k + 1 then sd_ev (cu cv) (sd_N j) else vl i j) ∧ sd_up t1 q (sd_up (t1 q) k true) i j = (if i = q ∧ 1 ≤ j ∧ j < k + 1 then true else th i j) := by
        intro i j
        rw [sd_up2, sd_up2, (hI i j).1, (hI i j).2]
        by_cases e1 : i = q ∧ j = k
        · obtain ⟨rfl, rfl⟩ := e1
          exact ⟨by rw [if_pos ⟨rfl, rfl⟩, if_pos (by omega)], by rw [if_pos ⟨rfl, rfl⟩, if_pos (by omega)]⟩
        · rw [if_neg e1, if_neg e1]
          by_cases e2 : i = q ∧ 1 ≤ j ∧ j < k
          · exact ⟨by rw [if_pos e2, if_pos (by omega)], by rw [if_pos e2, if_pos (by omega)]⟩
          · exact ⟨by rw [if_neg e2, if_neg (by omega)], by rw [if_neg e2, if_neg (by omega)]⟩
      exact ih (k := k + 1) (v1 := sd_up v1 q (sd_up (v1 q) k (sd_ev (cu cv) (sd_N k)))) (t1 := sd_up t1 q (sd_up (t1 q) k true)) (hk := by omega) (hI := hI9) (H := H) (locs := locs) (hP := hP) (hD := hD) (hS := hS) (ls := ls) (hl := (lv_sub hl [0, 1, 2] rfl)) (hk9 := by omega)

set_option maxHeartbeats 4000000 in
set_option maxRecDepth 100000 in
theorem k_X3_countThere (l : Launch) (D : va_G) {ad : Nat → Nat} {tc : Nat → ClassId} {dg pl : Nat → Nat} {vl : Nat → Nat → FP} {th : Nat → Nat → Bool} {cu mx : Nat → Nat → FP} {us : Nat → Bool} {so : Nat → FP} {rr : Nat → Int32} {fw : Nat → Bool} {ff : Int32} (q : Nat) (hq : q < 8) (hpl : pl q ≤ 16) : Met l yX3_countThere (Cond.code yX3_countThere cX3_countThere 3 (some .int) :: bg) { frames := 0, cells := 0, slots := 0, locals := 0 } (sd_R D vwCl (ty5 tc) (dw ad tc dg pl vl th cu mx us so rr fw ff) [.ref (ad (14 + 3 * q))]) (vp_Si (fun r => r = nI (sd_cnt (th q) (pl q)))) 0 0 (fun _ => False) := by
  refine Met.ofW (cc := cX3_countThere) (maxL := 3) (ret := some .int) (by decide) rfl ?_
  intro p e s m args below meth c s₁ B hml hv
  obtain ⟨rfl, hP, hK⟩ := hv
  have hx := B.exec
  have hb := B.bytes
  have hr := B.returns
  have hts := atoms_spec (ws := Cond.code yX3_countThere cX3_countThere 3 (some .int) :: bg) B.pre
  have hown : s.vm.findClass RX3 = some m.cls := findClass_of_methodNamed B.named
  have hlocks := B.notSynchronized
  have hl := lv_entry ([.ref (ad (14 + 3 * q))]) (n := 3) (Nat.le_of_ble_eq_true rfl)
  rw [lg_entry_eq]
  generalize (lg_sl ([.ref (ad (14 + 3 * q))]) ++ List.replicate (3 - (lg_sl ([.ref (ad (14 + 3 * q))])).length) Slot.unset).toArray = ls at hl ⊢
  replace hl : lv_has ls 3 [(0, .ref (ad (14 + 3 * q)))] := hl
  refine lv_iconst (v := nI 0) hx hb dX3_countThere_0 (by decide) ?_
  refine lv_istore_n (lv' := [(1, .int (nI 0)), (0, .ref (ad (14 + 3 * q)))]) hx hb dX3_countThere_1 rfl hl (by decide) rfl (fun ls hl => ?_)
  refine lv_iconst (v := nI 1) hx hb dX3_countThere_2 (by decide) ?_
  refine lv_istore_n (lv' := [(2, .int (nI 1)), (1, .int (nI 0)), (0, .ref (ad (14 + 3 * q)))]) hx hb dX3_countThere_3 rfl hl (by decide) rfl (fun ls hl => ?_)
  obtain ⟨k, hk, hl9⟩ : ∃ (k : Nat), (1 ≤ k ∧ k ≤ pl q + 1) ∧ lv_has ls 3 [(2, .int (nI k)), (1, .int (nI (sd_cnt (th q) (k - 1)))), (0, .ref (ad (14 + 3 * q)))] := ⟨1, ⟨Nat.le_refl 1, by omega⟩, (lv_sub hl [0, 1, 2] rfl)⟩
  replace hl := hl9
  clear hl9
  obtain ⟨k9, hk9⟩ : ∃ k9 : Nat, pl q + 1 < k + k9 := ⟨pl q + 1, by omega⟩
  induction k9 generalizing k ls with
  | zero => exact absurd hk9 (by omega)
  | succ k9 ih =>
    refine lv_iload_n hx hb dX3_countThere_4 rfl (lv_at hl 0 rfl) ?_
    refine lv_aload_n hx hb dX3_countThere_5 rfl (lv_at hl 2 rfl) ?_
    refine va_get (D := D) (ci := 3) (v := .int (nI (pl q))) (C := RX3) (T := TX3) (N := 4) hx hb hts (fun w h => mm (inX3 w h)) hown hK hP (14 + 3 * q) (dw_sp hq) rfl 3 (by decide) (hts _ (mm wf_X3_23)) (fun _ h9 => h9) rfl dX3_countThere_6 ?_
    refine sd_icmp_gt (tgt := 30) hx hb (by omega) (by omega) dX3_countThere_9 (by decide) (fun c1 => ?_) (fun c1 => ?_)
    · refine lv_iload_n hx hb dX3_countThere_30 rfl (lv_at hl 1 rfl) ?_
      exact W.iret hx hb hr (fun t ht hW => ⟨_, rfl, by rw [show pl q = k - 1 by omega], ht⟩) (fun q h => nomatch h) dX3_countThere_31
    · have hc9 := sd_cnt_le (th q) (k - 1)
      obtain ⟨k, rfl⟩ : ∃ z, k = z + 1 := ⟨k - 1, by omega⟩
      rw [Nat.add_sub_cancel] at hl hc9
      refine lv_aload_n hx hb dX3_countThere_12 rfl (lv_at hl 2 rfl) ?_
      refine va_get (D := D) (ci := 3) (v := .ref (ad (16 + 3 * q))) (C := RX3) (T := TX3) (N := 4) hx hb hts (fun w h => mm (inX3 w h)) hown hK hP (14 + 3 * q) (dw_sp hq) rfl 1 (by decide) (hts _ (mm wf_X3_15)) (fun _ h9 => h9) rfl dX3_countThere_13 ?_
      refine lv_iload_n hx hb dX3_countThere_16 rfl (lv_at hl 0 rfl) ?_
      refine sd_zald hx hb hK hP (16 + 3 * q) 1 (dw_th hq) rfl (k := k + 1) (by omega) (by decide) dX3_countThere_17 ?_
      refine sd_if_eqB (tgt := 24) hx hb dX3_countThere_18 (by decide) (fun c2 => ?_) (fun c2 => ?_)
      · refine lv_iinc (v := nI (k + 1 + 1)) (lv' := [(2, .int (nI (k + 1 + 1))), (1, .int (nI (sd_cnt (th q) k))), (0, .ref (ad (14 + 3 * q)))]) hx hb dX3_countThere_24 hl (k := 0) rfl (nI_1 _) (by decide) rfl (fun ls hl => ?_)
        refine lv_goto (tgt := 4) hx hb dX3_countThere_27 (by decide) ?_
        exact ih (k := k + 1 + 1) (hk := by omega) (ls := ls) (hl := by rw [Nat.add_sub_cancel, sd_cnt_f c2]; exact (lv_sub hl [0, 1, 2] rfl)) (hk9 := by omega)
      · refine lv_iinc (v := nI (sd_cnt (th q) k + 1)) (lv' := [(1, .int (nI (sd_cnt (th q) k + 1))), (2, .int (nI (k + 1))), (0, .ref (ad (14 + 3 * q)))]) hx hb dX3_countThere_21 hl (k := 1) rfl (nI_1 _) (by decide) rfl (fun ls hl => ?_)
        refine lv_iinc (v := nI (k + 1 + 1)) (lv' := [(2, .int (nI (k + 1 + 1))), (1, .int (nI (sd_cnt (th q) k + 1))), (0, .ref (ad (14 + 3 * q)))]) hx hb dX3_countThere_24 hl (k := 1) rfl (nI_1 _) (by decide) rfl (fun ls hl => ?_)
        refine lv_goto (tgt := 4) hx hb dX3_countThere_27 (by decide) ?_
        exact ih (k := k + 1 + 1) (hk := by omega) (ls := ls) (hl := by rw [Nat.add_sub_cancel, sd_cnt_t c2]; exact (lv_sub hl [0, 1, 2] rfl)) (hk9 := by omega)

set_option maxHeartbeats 4000000 in
set_option maxRecDepth 100000 in
theorem k_X3_isMissedBy (l : Launch) (D : va_G) {ad : Nat → Nat} {tc : Nat → ClassId} {dg pl : Nat → Nat} {vl : Nat → Nat → FP} {th : Nat → Nat → Bool} {cu mx : Nat → Nat → FP} {us : Nat → Bool} {so : Nat → FP} {rr : Nat → Int32} {fw : Nat → Bool} {ff : Int32} (q cv k : Nat) (hq : q < 8) (hcv : cv < 3) (hpl : pl q ≤ 16) (hk1 : 1 ≤ k) (hk2 : k ≤ 16) : Met l yX3_isMissedBy (Cond.code yX3_isMissedBy cX3_isMissedBy 3 (some .boolean) :: bg) { frames := 2, cells := 0, slots := 0, locals := 60 } (sd_R D vwCl (ty5 tc) (dw ad tc dg pl vl th cu mx us so rr fw ff) [.ref (ad (14 + 3 * q)), .ref (ad (2 + 2 * cv)), .int (nI k)]) (vp_Si (fun r => r = bI (sd_mk (pl q) (th q) (vl q) (cu cv) k))) 0 0 (fun _ => False) := by
  refine Met.ofW (cc := cX3_isMissedBy) (maxL := 3) (ret := some .boolean) (by decide) rfl ?_
  intro p e s m args below meth c s₁ B hml hv
  obtain ⟨rfl, hP, hK⟩ := hv
  have hx := B.exec
  have hb := B.bytes
  have hr := B.returns
  have hts := atoms_spec (ws := Cond.code yX3_isMissedBy cX3_isMissedBy 3 (some .boolean) :: bg) B.pre
  have hown : s.vm.findClass RX3 = some m.cls := findClass_of_methodNamed B.named
  have hlocks := B.notSynchronized
  have hl := lv_entry ([.ref (ad (14 + 3 * q)), .ref (ad (2 + 2 * cv)), .int (nI k)]) (n := 3) (Nat.le_of_ble_eq_true rfl)
  rw [lg_entry_eq]
  generalize (lg_sl ([.ref (ad (14 + 3 * q)), .ref (ad (2 + 2 * cv)), .int (nI k)]) ++ List.replicate (3 - (lg_sl ([.ref (ad (14 + 3 * q)), .ref (ad (2 + 2 * cv)), .int (nI k)])).length) Slot.unset).toArray = ls at hl ⊢
  replace hl : lv_has ls 3 [(0, .ref (ad (14 + 3 * q))), (1, .ref (ad (2 + 2 * cv))), (2, .int (nI k))] := hl
  refine lv_aload_n hx hb dX3_isMissedBy_0 rfl (lv_at hl 0 rfl) ?_
  refine lv_iload_n hx hb dX3_isMissedBy_1 rfl (lv_at hl 2 rfl) ?_
  refine sd_ri (va_runV (As := [.int (nI k)]) (rest := []) ⟨hx, hb, hml, hown, hts⟩ (k_X3_hasShare l D q (nI k) hq hpl) (sd_cwV hts wd_X3_hasShare wn_X3 wm_X3_40 wi_X3_hasShare ws_X3_hasShare nq_X3_hasShare rfl rfl ⟨Nat.le_of_ble_eq_true rfl, Nat.le_of_ble_eq_true rfl⟩) (sd_preVR hP hK (ci := 3) (q0 := (14 + 3 * q)) rfl rfl (dw_sp hq)) rfl rfl hl.1 rfl (lv_room (Nat.le_of_ble_eq_true rfl)) dX3_isMissedBy_2 ⟨Nat.zero_le _, Nat.zero_le _⟩) (fun r1 hr1 => ?_)
  subst hr1
  refine sd_if_eqB (tgt := 28) hx hb dX3_isMissedBy_5 (by decide) (fun c1 => ?_) (fun c1 => ?_)
  · refine lv_iconst (v := nI 0) hx hb dX3_isMissedBy_28 (by decide) ?_
    exact W.zret hx hb hr rfl (fun t ht hW => ⟨_, rfl, by rw [sd_mk_f _ _ hk1 (by omega) c1]; rfl, ht⟩) (fun q h => nomatch h) dX3_isMissedBy_29
  · obtain ⟨j, hj1, hj2, hj3, hj4⟩ := sd_hs_of (by omega) c1
    have ej : k = j := (nI_eq (by omega) (by omega)).mp hj4
    subst ej
    refine lv_aload_n hx hb dX3_isMissedBy_8 rfl (lv_at hl 0 rfl) ?_
    refine va_get (D := D) (ci := 3) (v := .ref (ad (15 + 3 * q))) (C := RX3) (T := TX3) (N := 4) hx hb hts (fun w h => mm (inX3 w h)) hown hK hP (14 + 3 * q) (dw_sp hq) rfl 0 (by decide) (hts _ (mm wf_X3_9)) (fun _ h9 => h9) rfl dX3_isMissedBy_9 ?_
    refine lv_iload_n hx hb dX3_isMissedBy_12 rfl (lv_at hl 2 rfl) ?_
    refine sd_lald hx hb hK hP (15 + 3 * q) 0 (dw_vl hq) rfl (k := k) (by omega) (by decide) dX3_isMissedBy_13 ?_
    refine lv_aload_n hx hb dX3_isMissedBy_14 rfl (lv_at hl 1 rfl) ?_
    refine lv_iload_n hx hb dX3_isMissedBy_15 rfl (lv_at hl 2 rfl) ?_
    refine lv_i2l (v := lN k) hx hb dX3_isMissedBy_16 (nI_l (by omega)) ?_
    refine sd_tol (y := sd_L (sd_N k)) ((sd_N_L (by omega)).symm) ?_
    refine sd_rl (va_runV (As := [.long (sd_L (sd_N k))]) (rest := [.long (sd_L ((vl q) k))]) ⟨hx, hb, hml, hown, hts⟩ (k_X0_valueAt l D cv (sd_N k) hcv) (sd_cwV hts wd_X0_valueAt wn_X0 wm_X3_30 wi_X0_valueAt ws_X0_valueAt nq_X0_valueAt rfl rfl ⟨Nat.le_of_ble_eq_true rfl, Nat.le_of_ble_eq_true rfl⟩) (sd_preVR hP hK (ci := 0) (q0 := (2 + 2 * cv)) rfl rfl (dw_curve hcv)) rfl rfl hl.1 rfl (lv_room (Nat.le_of_ble_eq_true rfl)) dX3_isMissedBy_17 ⟨Nat.zero_le _, Nat.zero_le _⟩) (fun r2 hr2 => ?_)
    subst hr2
    refine W.lcmp hx hb dX3_isMissedBy_20 ?_
    refine lv_if_eq (tgt := 28) hx hb dX3_isMissedBy_21 (by decide) (fun c2 => ?_) (fun c2 => ?_)
    · have c2 : (sd_L ((vl q) k)) = (sd_L (sd_ev (cu cv) (sd_N k))) := (lg_cmp_eq _ _).mp c2
      refine lv_iconst (v := nI 0) hx hb dX3_isMissedBy_28 (by decide) ?_
      exact W.zret hx hb hr rfl (fun t ht hW => ⟨_, rfl, by rw [sd_mk_e (sd_L_inj c2)]; rfl, ht⟩) (fun q h => nomatch h) dX3_isMissedBy_29
    · have c2 : ¬ (sd_L ((vl q) k)) = (sd_L (sd_ev (cu cv) (sd_N k))) := fun q => c2 ((lg_cmp_eq _ _).mpr q)
      refine lv_iconst (v := nI 1) hx hb dX3_isMissedBy_24 (by decide) ?_
      refine lv_goto (tgt := 29) hx hb dX3_isMissedBy_25 (by decide) ?_
      exact W.zret hx hb hr rfl (fun t ht hW => ⟨_, rfl, by rw [sd_mk_t hj2 hj3 (fun z => c2 (by rw [z]))]; rfl, ht⟩) (fun q h => nomatch h) dX3_isMissedBy_29

set_option maxHeartbeats 4000000 in
set_option maxRecDepth 100000 in
theorem k_X3_countMissedBy (l : Launch) (D : va_G) {ad : Nat → Nat} {tc : Nat → ClassId} {dg pl : Nat → Nat} {vl : Nat → Nat → FP} {th : Nat → Nat → Bool} {cu mx : Nat → Nat → FP} {us : Nat → Bool} {so : Nat → FP} {rr : Nat → Int32} {fw : Nat → Bool} {ff : Int32} (q cv : Nat) (hq : q < 8) (hcv : cv < 3) (hpl : pl q ≤ 16) : Met l yX3_countMissedBy (Cond.code yX3_countMissedBy cX3_countMissedBy 4 (some .int) :: bg) { frames := 3, cells := 0, slots := 0, locals := 82 } (sd_R D vwCl (ty5 tc) (dw ad tc dg pl vl th cu mx us so rr fw ff) [.ref (ad (14 + 3 * q)), .ref (ad (2 + 2 * cv))]) (vp_Si (fun r => r = nI (sd_cnt (sd_ms (th q) (vl q) (cu cv)) (pl q)))) 0 0 (fun _ => False) := by
  refine Met.ofW (cc := cX3_countMissedBy) (maxL := 4) (ret := some .int) (by decide) rfl ?_
  intro p e s m args below meth c s₁ B hml hv
  obtain ⟨rfl, hP, hK⟩ := hv
  have hx := B.exec
  have hb := B.bytes
  have hr := B.returns
  have hts := atoms_spec (ws := Cond.code yX3_countMissedBy cX3_countMissedBy 4 (some .int) :: bg) B.pre
  have hown : s.vm.findClass RX3 = some m.cls := findClass_of_methodNamed B.named
  have hlocks := B.notSynchronized
  have hl := lv_entry ([.ref (ad (14 + 3 * q)), .ref (ad (2 + 2 * cv))]) (n := 4) (Nat.le_of_ble_eq_true rfl)
  rw [lg_entry_eq]
  generalize (lg_sl ([.ref (ad (14 + 3 * q)), .ref (ad (2 + 2 * cv))]) ++ List.replicate (4 - (lg_sl ([.ref (ad (14 + 3 * q)), .ref (ad (2 + 2 * cv))])).length) Slot.unset).toArray = ls at hl ⊢
  replace hl : lv_has ls 4 [(0, .ref (ad (14 + 3 * q))), (1, .ref (ad (2 + 2 * cv)))] := hl
  refine lv_iconst (v := nI 0) hx hb dX3_countMissedBy_0 (by decide) ?_
  refine lv_istore_n (lv' := [(2, .int (nI 0)), (0, .ref (ad (14 + 3 * q))), (1, .ref (ad (2 + 2 * cv)))]) hx hb dX3_countMissedBy_1 rfl hl (by decide) rfl (fun ls hl => ?_)
  refine lv_iconst (v := nI 1) hx hb dX3_countMissedBy_2 (by decide) ?_
  refine lv_istore_n (lv' := [(3, .int (nI 1)), (2, .int (nI 0)), (0, .ref (ad (14 + 3 * q))), (1, .ref (ad (2 + 2 * cv)))]) hx hb dX3_countMissedBy_3 rfl hl (by decide) rfl (fun ls hl => ?_)
  obtain ⟨k, hk, hl9⟩ : ∃ (k : Nat), (1 ≤ k ∧ k ≤ pl q + 1) ∧ lv_has ls 4 [(3, .int (nI k)), (2, .int (nI (sd_cnt (sd_ms (th q) (vl q) (cu cv)) (k - 1)))), (0, .ref (ad (14 + 3 * q))), (1, .ref (ad (2 + 2 * cv)))] := ⟨1, ⟨Nat.le_refl 1, by omega⟩, (lv_sub hl [0, 1, 2, 3] rfl)⟩
  replace hl := hl9
  clear hl9
  obtain ⟨k9, hk9⟩ : ∃ k9 : Nat, pl q + 1 < k + k9 := ⟨pl q + 1, by omega⟩
  induction k9 generalizing k ls with
  | zero => exact absurd hk9 (by omega)
  | succ k9 ih =>
    refine lv_iload_n hx hb dX3_countMissedBy_4 rfl (lv_at hl 0 rfl) ?_
    refine lv_aload_n hx hb dX3_countMissedBy_5 rfl (lv_at hl 2 rfl) ?_
    refine va_get (D := D) (ci := 3) (v := .int (nI (pl q))) (C := RX3) (T := TX3) (N := 4) hx hb hts (fun w h => mm (inX3 w h)) hown hK hP (14 + 3 * q) (dw_sp hq) rfl 3 (by decide) (hts _ (mm wf_X3_23)) (fun _ h9 => h9) rfl dX3_countMissedBy_6 ?_
    refine sd_icmp_gt (tgt := 30) hx hb (by omega) (by omega) dX3_countMissedBy_9 (by decide) (fun c1 => ?_) (fun c1 => ?_)
    · refine lv_iload_n hx hb dX3_countMissedBy_30 rfl (lv_at hl 1 rfl) ?_
      exact W.iret hx hb hr (fun t ht hW => ⟨_, rfl, by rw [show pl q = k - 1 by omega], ht⟩) (fun q h => nomatch h) dX3_countMissedBy_31
    · have hc9 := sd_cnt_le (sd_ms (th q) (vl q) (cu cv)) (k - 1)
      obtain ⟨k, rfl⟩ : ∃ z, k = z + 1 := ⟨k - 1, by omega⟩
      rw [Nat.add_sub_cancel] at hl hc9
      refine lv_aload_n hx hb dX3_countMissedBy_12 rfl (lv_at hl 2 rfl) ?_
      refine lv_aload_n hx hb dX3_countMissedBy_13 rfl (lv_at hl 3 rfl) ?_
      refine lv_iload_n hx hb dX3_countMissedBy_14 rfl (lv_at hl 0 rfl) ?_
      refine sd_ri (va_runV (As := [.ref (ad (2 + 2 * cv)), .int (nI (k + 1))]) (rest := []) ⟨hx, hb, hml, hown, hts⟩ (k_X3_isMissedBy l D q cv (k + 1) hq hcv hpl (by omega) (by omega)) (sd_cwV hts wd_X3_isMissedBy wn_X3 wm_X3_43 wi_X3_isMissedBy ws_X3_isMissedBy nq_X3_isMissedBy rfl rfl ⟨Nat.le_of_ble_eq_true rfl, Nat.le_of_ble_eq_true rfl⟩) (sd_preVR hP hK (ci := 3) (q0 := (14 + 3 * q)) rfl rfl (dw_sp hq)) rfl rfl hl.1 rfl (lv_room (Nat.le_of_ble_eq_true rfl)) dX3_countMissedBy_15 ⟨Nat.zero_le _, Nat.zero_le _⟩) (fun r1 hr1 => ?_)
      subst hr1
      refine sd_if_eqB (tgt := 24) hx hb dX3_countMissedBy_18 (by decide) (fun c2 => ?_) (fun c2 => ?_)
      · rw [sd_mk_in _ _ _ (by omega)] at c2
        refine lv_iinc (v := nI (k + 1 + 1)) (lv' := [(3, .int (nI (k + 1 + 1))), (2, .int (nI (sd_cnt (sd_ms (th q) (vl q) (cu cv)) k))), (0, .ref (ad (14 + 3 * q))), (1, .ref (ad (2 + 2 * cv)))]) hx hb dX3_countMissedBy_24 hl (k := 0) rfl (nI_1 _) (by decide) rfl (fun ls hl => ?_)
        refine lv_goto (tgt := 4) hx hb dX3_countMissedBy_27 (by decide) ?_
        exact ih (k := k + 1 + 1) (hk := by omega) (ls := ls) (hl := by rw [Nat.add_sub_cancel, sd_cnt_f c2]; exact (lv_sub hl [0, 1, 2, 3] rfl)) (hk9 := by omega)
      · rw [sd_mk_in _ _ _ (by omega)] at c2
        refine lv_iinc (v := nI (sd_cnt (sd_ms (th q) (vl q) (cu cv)) k + 1)) (lv' := [(2, .int (nI (sd_cnt (sd_ms (th q) (vl q) (cu cv)) k + 1))), (3, .int (nI (k + 1))), (0, .ref (ad (14 + 3 * q))), (1, .ref (ad (2 + 2 * cv)))]) hx hb dX3_countMissedBy_21 hl (k := 1) rfl (nI_1 _) (by decide) rfl (fun ls hl => ?_)
        refine lv_iinc (v := nI (k + 1 + 1)) (lv' := [(3, .int (nI (k + 1 + 1))), (2, .int (nI (sd_cnt (sd_ms (th q) (vl q) (cu cv)) k + 1))), (0, .ref (ad (14 + 3 * q))), (1, .ref (ad (2 + 2 * cv)))]) hx hb dX3_countMissedBy_24 hl (k := 1) rfl (nI_1 _) (by decide) rfl (fun ls hl => ?_)
        refine lv_goto (tgt := 4) hx hb dX3_countMissedBy_27 (by decide) ?_
        exact ih (k := k + 1 + 1) (hk := by omega) (ls := ls) (hl := by rw [Nat.add_sub_cancel, sd_cnt_t c2]; exact (lv_sub hl [0, 1, 2, 3] rfl)) (hk9 := by omega)

set_option maxHeartbeats 4000000 in
set_option maxRecDepth 100000 in
theorem k_X0_copyFrom (l : Launch) (D : va_G) {ad : Nat → Nat} {tc : Nat → ClassId} {dg pl : Nat → Nat} {vl : Nat → Nat → FP} {th : Nat → Nat → Bool} {cu mx : Nat → Nat → FP} {us : Nat → Bool} {so : Nat → FP} {rr : Nat → Int32} {fw : Nat → Bool} {ff : Int32} (sz : Nat) (ca cb : Nat) (hca : ca < 3) (hcb : cb < 3) : Met l yX0_copyFrom (Cond.code yX0_copyFrom cX0_copyFrom 2 none :: bg) { frames := 1, cells := 0, slots := 0, locals := 64 } (sd_Wr D vwCl (ty5 tc) (dw ad tc dg pl vl th cu mx us so rr fw ff) sz [.ref (ad (2 + 2 * ca)), .ref (ad (2 + 2 * cb))]) (va_Qv (S := Unit) (fun _ : Unit => True) (sd_B D vwCl (ty5 tc) (va_A (dw ad tc dg pl vl th cu mx us so rr fw ff) sz) (fun _ => dw ad tc dg pl vl th (sd_up cu ca (fun k => if k < 9 then cu cb k else cu ca k)) mx us so rr fw ff)) (va_A (dw ad tc dg pl vl th cu mx us so rr fw ff) sz)) 0 0 (va_A (dw ad tc dg pl vl th cu mx us so rr fw ff) sz) := by
  refine Met.ofW (cc := cX0_copyFrom) (maxL := 2) (ret := none) (by decide) rfl ?_
  intro p e s m args below meth c s₁ B hml hv
  obtain ⟨rfl, hsz, hP, hK, hD0⟩ := hv
  have hx := B.exec
  have hb := B.bytes
  have hr := B.returns
  have hts := atoms_spec (ws := Cond.code yX0_copyFrom cX0_copyFrom 2 none :: bg) B.pre
  have hown : s.vm.findClass RX0 = some m.cls := findClass_of_methodNamed B.named
  have hlocks := B.notSynchronized
  subst hsz
  have hD := hD0.self (sz := s.heap.size)
  generalize hAe : va_A (dw ad tc dg pl vl th cu mx us so rr fw ff) s.heap.size = A at hD ⊢
  have hA : ∀ q : Nat, s.heap.size ≤ q → A q := fun q h => by rw [← hAe]; exact Or.inr h
  have hS : va_S A s.heap s.heap [] := va_S.rf
  have hl := lv_entry ([.ref (ad (2 + 2 * ca)), .ref (ad (2 + 2 * cb))]) (n := 2) (Nat.le_of_ble_eq_true rfl)
  rw [lg_entry_eq]
  generalize (lg_sl ([.ref (ad (2 + 2 * ca)), .ref (ad (2 + 2 * cb))]) ++ List.replicate (2 - (lg_sl ([.ref (ad (2 + 2 * ca)), .ref (ad (2 + 2 * cb))])).length) Slot.unset).toArray = ls at hl ⊢
  replace hl : lv_has ls 2 [(0, .ref (ad (2 + 2 * ca))), (1, .ref (ad (2 + 2 * cb)))] := hl
  refine lv_aload_n hx hb dX0_copyFrom_0 rfl (lv_at hl 1 rfl) ?_
  refine va_get (D := D) (ci := 0) (v := .ref (ad (3 + 2 * cb))) (C := RX0) (T := TX0) (N := 1) hx hb hts (fun w h => mm (inX0 w h)) hown hK hP (2 + 2 * cb) (dw_curve hcb) rfl 0 (by decide) (hts _ (mm wf_X0_9)) (fun _ h9 => h9) rfl dX0_copyFrom_1 ?_
  refine lv_iconst (v := nI 0) hx hb dX0_copyFrom_4 (by decide) ?_
  refine lv_aload_n hx hb dX0_copyFrom_5 rfl (lv_at hl 0 rfl) ?_
  refine va_get (D := D) (ci := 0) (v := .ref (ad (3 + 2 * ca))) (C := RX0) (T := TX0) (N := 1) hx hb hts (fun w h => mm (inX0 w h)) hown hK hP (2 + 2 * ca) (dw_curve hca) rfl 0 (by decide) (hts _ (mm wf_X0_9)) (fun _ h9 => h9) rfl dX0_copyFrom_6 ?_
  refine lv_iconst (v := nI 0) hx hb dX0_copyFrom_9 (by decide) ?_
  refine lv_aload_n hx hb dX0_copyFrom_10 rfl (lv_at hl 0 rfl) ?_
  refine va_get (D := D) (ci := 0) (v := .ref (ad (3 + 2 * ca))) (C := RX0) (T := TX0) (N := 1) hx hb hts (fun w h => mm (inX0 w h)) hown hK hP (2 + 2 * ca) (dw_curve hca) rfl 0 (by decide) (hts _ (mm wf_X0_9)) (fun _ h9 => h9) rfl dX0_copyFrom_11 ?_
  refine va_alen (v := nI 9) hx hb hK hP (3 + 2 * ca) 0 (dw_parts hca) rfl rfl dX0_copyFrom_14 ?_
  refine va_copyl hx hb (by rw [hml]; exact hl.1.symm) hown (hts _ (mm w9_1)) (hts _ (mm w9_3)) (hts _ (mm w9_2)) (hts _ (mm wn_System)) hK hP hD hS (3 + 2 * cb) (3 + 2 * ca) 0 0 (dw_parts hcb) (dw_parts hca) rfl rfl rfl (by decide) (by decide) (by decide) (by decide) (by decide) (fun i _ => rfl) (Nat.le_of_ble_eq_true rfl) (by decide +kernel) dX0_copyFrom_15 (fun H locs hP hD hS => ?_)
  have ew : (dw ad tc dg pl vl th cu mx us so rr fw ff).set (3 + 2 * ca) (ad (3 + 2 * ca), .inl (tc 0, 9, .inr (.inl (va_cpy (fun j => sd_L (cu cb j)) (fun j => sd_L (cu ca j)) 0 0 9)))) = dw ad tc dg pl vl th (sd_up cu ca (fun k => if k < 9 then cu cb k else cu ca k)) mx us so rr fw ff := by rw [sd_cpf]; exact dws_parts hca _
  replace hP : va_P D vwCl (dw ad tc dg pl vl th (sd_up cu ca (fun k => if k < 9 then cu cb k else cu ca k)) mx us so rr fw ff) H := by rw [← ew]; exact hP
  replace hD : va_D A (dw ad tc dg pl vl th (sd_up cu ca (fun k => if k < 9 then cu cb k else cu ca k)) mx us so rr fw ff) := by rw [← ew]; exact hD
  exact W.vret hx hb hr (fun t ht hW => ⟨⟨(), rfl, trivial, by rw [ht]; exact hP, va_K.moved hW.alike hK, hD⟩, hS.F ht⟩) hS.2.2 dX0_copyFrom_18

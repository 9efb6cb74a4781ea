/-! the reference: over, through, missed -/
abbrev m_y (msh : Nat → FP) (mch : Nat → Nat) (q : Nat) : Nat → FP := fun i => msh (17 * q + mch i)
abbrev m_iv (minv : Nat → FP) (mch : Nat → Nat) : Nat → Nat → FP := fun a b => minv (mch a - mch b)
theorem m_thr {msh minv : Nat → FP} {mch : Nat → Nat} {q t : Nat} {cu : Nat → FP} (ht : t ≤ 8) (hch : ∀ i, i ≤ t → 1 ≤ mch i ∧ mch i ≤ 16) (hinc : ∀ i k, i < k → k ≤ t → mch i < mch k) (hinv : ∀ k, 1 ≤ k → k ≤ 16 → sd_N k * minv k = 1)
    (h0 : ∀ k, t + 1 ≤ k → k < 9 → cu k = 0) (hv : ∀ z, sd_pv cu z 0 9 = sd_nest (fun i => sd_N (mch i)) (fun i => sd_D (m_y msh mch q) (m_iv minv mch) i i) z 0 (t + 1)) :
    (∀ k, t < k → k < 9 → cu k = 0) ∧ ∀ f : Nat → FP, (∀ k, t < k → k < 9 → f k = 0) → (∀ i, i ≤ t → msh (17 * q + mch i) = sd_ev f (sd_N (mch i))) → ∀ k, k < 9 → cu k = f k := by
  refine ⟨h0, fun f hf hy => ?_⟩
  refine sd_newton_un (x := fun i => sd_N (mch i)) (y := m_y msh mch q) (iv := m_iv minv mch) ht ?_ h0 hf hv (fun i hi => (hy i hi).symm)
  intro a b h1 h2
  have := hinc a b h1 h2
  have := hch b h2
  show (sd_N (mch b) - sd_N (mch a)) * minv (mch b - mch a) = 1
  rw [sd_N_sub (by omega)]
  exact hinv _ (by omega) (by omega)

set_option maxHeartbeats 1000000 in
set_option maxRecDepth 100000 in
theorem k_X5_over (l : Launch) (D : va_G) {am : Nat → Nat} {tc : Nat → ClassId} {tn : Int32} {mdg msz : Nat → Nat} {msh : Nat → FP} {mth : Nat → Bool} {minv : Nat → FP} {isf : Bool} {fsp : Nat} {mfo : Nat → FP} {mwr : Nat → Bool} {mpl : Nat → Nat} {mny : Nat} {mch : Nat → Nat} {mcu mro : Nat → FP} (x : FP) (b : Nat) (hb16 : b ≤ 16) : Met l yX5_over (Cond.code yX5_over cX5_over 4 (some .long) :: bg) { frames := 3, cells := 0, slots := 0, locals := 89 } (sd_R D vwCl (ty5 tc) (mw am tc tn mdg msz msh mth minv isf fsp mfo mwr mpl mny mch mcu mro) [.ref (am 0), .long (sd_L x), .int (nI b)]) (vp_Sl (fun r => r = sd_L (x * minv b))) 0 0 (fun _ => False) := by
  refine Met.ofW (cc := cX5_over) (maxL := 4) (ret := some .long) (by decide) rfl ?_
  intro p e s m args below meth c s₁ B hml hv
  obtain ⟨rfl, hP, hK⟩ := hv
  have hx := B.exec
  have hb := B.bytes
  have hr := B.returns
  have hts := atoms_spec (ws := Cond.code yX5_over cX5_over 4 (some .long) :: bg) B.pre
  have hown : s.vm.findClass RX5 = some m.cls := findClass_of_methodNamed B.named
  have hlocks := B.notSynchronized
  have hl := lv_entry ([.ref (am 0), .long (sd_L x), .int (nI b)]) (n := 4) (Nat.le_of_ble_eq_true rfl)
  rw [lg_entry_eq]
  generalize (lg_sl ([.ref (am 0), .long (sd_L x), .int (nI b)]) ++ List.replicate (4 - (lg_sl ([.ref (am 0), .long (sd_L x), .int (nI b)])).length) Slot.unset).toArray = ls at hl ⊢
  replace hl : lv_has ls 4 [(0, .ref (am 0)), (1, .long (sd_L x)), (3, .int (nI b))] := hl
  refine lv_iload_n hx hb dX5_over_0 rfl (lv_at hl 2 rfl) ?_
  refine lv_if_ge (tgt := 22) hx hb dX5_over_1 (by decide) (fun c1 => ?_) (fun c1 => ?_)
  · refine lv_lload_n hx hb dX5_over_22 rfl (lv_at hl 1 rfl) ?_
    refine lv_aload_n hx hb dX5_over_23 rfl (lv_at hl 0 rfl) ?_
    refine va_get (D := D) (ci := 5) (v := .ref (am 5)) (C := RX5) (T := TX5) (N := 15) hx hb hts (fun w h => mm (inX5 w h)) hown hK hP 0 rfl rfl 5 (by decide) (hts _ (mm wf_X5_24)) (fun _ h9 => h9) rfl dX5_over_24 ?_
    refine lv_iload_n hx hb dX5_over_27 rfl (lv_at hl 2 rfl) ?_
    refine sd_lald hx hb hK hP 5 0 rfl rfl (k := b) (by omega) (by decide) dX5_over_28 ?_
    refine sd_rl (va_runS (As := [.long (sd_L x), .long (sd_L (minv b))]) (rest := []) ⟨hx, hb, hml, hown, hts⟩ (k_X5_times l x (minv b)) (sd_cwS hts wd_X5_times wn_X5 wm_X5_70 wi_X5_times nq_X5_times rfl rfl ⟨Nat.le_of_ble_eq_true rfl, Nat.le_of_ble_eq_true rfl⟩) sd_preN rfl rfl hl.1 rfl (lv_room (Nat.le_of_ble_eq_true rfl)) dX5_over_29 ⟨Nat.zero_le _, Nat.zero_le _⟩) (fun r1 hr1 => ?_)
    subst hr1
    exact W.lret hx hb hr (fun T9 hT9 hW => ⟨_, rfl, rfl, hT9⟩) (fun q h => nomatch h) dX5_over_32
  · exact absurd (nI_pos' (by omega)) c1

set_option maxHeartbeats 1000000 in
set_option maxRecDepth 100000 in
theorem k_X5_through (l : Launch) (D : va_G) {am : Nat → Nat} {tc : Nat → ClassId} {tn : Int32} {mdg msz : Nat → Nat} {msh : Nat → FP} {mth : Nat → Bool} {minv : Nat → FP} {isf : Bool} {fsp : Nat} {mfo : Nat → FP} {mwr : Nat → Bool} {mpl : Nat → Nat} {mny : Nat} {mch : Nat → Nat} {mcu mro : Nat → FP} (sz : Nat) (q t : Nat) (hq : q < 8) (ht : t ≤ 8) (hch : ∀ i, i ≤ t → 1 ≤ mch i ∧ mch i ≤ 16) (hinc : ∀ i k, i < k → k ≤ t → mch i < mch k) (hinv : ∀ k, 1 ≤ k → k ≤ 16 → sd_N k * minv k = 1) : Met l yX5_through (Cond.code yX5_through cX5_through 5 none :: bg) { frames := 4, cells := 0, slots := 0, locals := 116 } (sd_Wr D vwCl (ty5 tc) (mw am tc tn mdg msz msh mth minv isf fsp mfo mwr mpl mny mch mcu mro) sz [.ref (am 0), .int (nI q), .int (nI t)]) (va_Qv (S := (Nat → FP) × (Nat → FP)) (fun u : (Nat → FP) × (Nat → FP) => (∀ k, t < k → k < 9 → u.1 k = 0) ∧ ∀ f : Nat → FP, (∀ k, t < k → k < 9 → f k = 0) → (∀ i, i ≤ t → msh (17 * q + mch i) = sd_ev f (sd_N (mch i))) → ∀ k, k < 9 → u.1 k = f k) (sd_B D vwCl (ty5 tc) (va_A (mw am tc tn mdg msz msh mth minv isf fsp mfo mwr mpl mny mch mcu mro) sz) (fun u => mw am tc tn mdg msz msh mth minv isf fsp mfo mwr mpl mny mch u.1 u.2)) (va_A (mw am tc tn mdg msz msh mth minv isf fsp mfo mwr mpl mny mch mcu mro) sz)) 0 0 (va_A (mw am tc tn mdg msz msh mth minv isf fsp mfo mwr mpl mny mch mcu mro) sz) := by
  refine Met.ofW (cc := cX5_through) (maxL := 5) (ret := none) (by decide) rfl ?_
  intro p e s m args below meth c s₁ B hml hv
  obtain ⟨rfl, hsz, hP, hK, hD0⟩ := hv
  have hx := B.exec
  have hb := B.bytes
  have hr := B.returns
  have hts := atoms_spec (ws := Cond.code yX5_through cX5_through 5 none :: bg) B.pre
  have hown : s.vm.findClass RX5 = some m.cls := findClass_of_methodNamed B.named
  have hlocks := B.notSynchronized
  subst hsz
  have hD := hD0.self (sz := s.heap.size)
  generalize hAe : va_A (mw am tc tn mdg msz msh mth minv isf fsp mfo mwr mpl mny mch mcu mro) s.heap.size = A at hD ⊢
  have hA : ∀ q : Nat, s.heap.size ≤ q → A q := fun q h => by rw [← hAe]; exact Or.inr h
  have hS : va_S A s.heap s.heap [] := va_S.rf
  have hl := lv_entry ([.ref (am 0), .int (nI q), .int (nI t)]) (n := 5) (Nat.le_of_ble_eq_true rfl)
  rw [lg_entry_eq]
  generalize (lg_sl ([.ref (am 0), .int (nI q), .int (nI t)]) ++ List.replicate (5 - (lg_sl ([.ref (am 0), .int (nI q), .int (nI t)])).length) Slot.unset).toArray = ls at hl ⊢
  replace hl : lv_has ls 5 [(0, .ref (am 0)), (1, .int (nI q)), (2, .int (nI t))] := hl
  refine lv_iconst (v := nI 0) hx hb dX5_through_0 (by decide) ?_
  refine lv_istore_n (lv' := [(3, .int (nI 0)), (0, .ref (am 0)), (1, .int (nI q)), (2, .int (nI t))]) hx hb dX5_through_1 rfl hl (by decide) rfl (fun ls hl => ?_)
  obtain ⟨H, hH9⟩ : ∃ H : Heap, H = s.heap := ⟨_, rfl⟩
  obtain ⟨locs, hl9⟩ : ∃ x : List Loc, x = [] := ⟨_, rfl⟩
  rw [← hH9, ← hl9]
  have hS : va_S A s.heap H locs := by rw [hH9, hl9]; exact va_S.rf
  have hP : va_P D vwCl (mw am tc tn mdg msz msh mth minv isf fsp mfo mwr mpl mny mch mcu mro) H := by rw [hH9]; exact hP
  clear hH9 hl9
  obtain ⟨k, r1, hk, hI, hP9, hD9, hl9⟩ : ∃ (k : Nat) (r1 : Nat → FP), (k ≤ t + 1) ∧ (∀ i, i < k → r1 i = msh (17 * q + mch i)) ∧ va_P D vwCl (mw am tc tn mdg msz msh mth minv isf fsp mfo mwr mpl mny mch mcu r1) H ∧ va_D A (mw am tc tn mdg msz msh mth minv isf fsp mfo mwr mpl mny mch mcu r1) ∧ lv_has ls 5 [(3, .int (nI k)), (0, .ref (am 0)), (1, .int (nI q)), (2, .int (nI t))] := ⟨0, mro, Nat.zero_le _, fun i hi => absurd hi (Nat.not_lt_zero i), hP, hD, (lv_sub hl [0, 1, 2, 3] rfl)⟩
  replace hl := hl9
  clear hl9
  replace hP := hP9
  replace hD := hD9
  clear hP9 hD9
  obtain ⟨k9, hk9⟩ : ∃ k9 : Nat, t + 1 < k + k9 := ⟨t + 2, by omega⟩
  induction k9 generalizing k r1 ls H locs with
  | zero => exact absurd hk9 (by omega)
  | succ k9 ihA =>
    refine lv_iload_n hx hb dX5_through_2 rfl (lv_at hl 0 rfl) ?_
    refine lv_iload_n hx hb dX5_through_3 rfl (lv_at hl 3 rfl) ?_
    refine sd_icmp_gt (tgt := 34) hx hb (by omega) (by omega) dX5_through_4 (by decide) (fun c1 => ?_) (fun c1 => ?_)
    · have hI : ∀ i, i ≤ t → r1 i = sd_D (m_y msh mch q) (m_iv minv mch) (min i (1 - 1)) i := fun i hi => by rw [hI i (by omega), Nat.sub_self, Nat.min_zero]; rfl
      refine lv_iconst (v := nI 1) hx hb dX5_through_34 (by decide) ?_
      refine lv_istore_n (lv' := [(3, .int (nI 1)), (0, .ref (am 0)), (1, .int (nI q)), (2, .int (nI t))]) hx hb dX5_through_35 rfl hl (by decide) rfl (fun ls hl => ?_)
      obtain ⟨j, r2, hj, hI2, hP9, hD9, hl9⟩ : ∃ (j : Nat) (r2 : Nat → FP), (1 ≤ j ∧ j ≤ t + 1) ∧ (∀ i, i ≤ t → r2 i = sd_D (m_y msh mch q) (m_iv minv mch) (min i (j - 1)) i) ∧ va_P D vwCl (mw am tc tn mdg msz msh mth minv isf fsp mfo mwr mpl mny mch mcu r2) H ∧ va_D A (mw am tc tn mdg msz msh mth minv isf fsp mfo mwr mpl mny mch mcu r2) ∧ lv_has ls 5 [(3, .int (nI j)), (0, .ref (am 0)), (1, .int (nI q)), (2, .int (nI t))] := ⟨1, r1, ⟨Nat.le_refl 1, by omega⟩, hI, hP, hD, (lv_sub hl [0, 1, 2, 3] rfl)⟩
      replace hl := hl9
      clear hl9
      replace hP := hP9
      replace hD := hD9
      clear hP9 hD9
      obtain ⟨k9, hk9⟩ : ∃ k9 : Nat, t + 1 < j + k9 := ⟨t + 2, by omega⟩
      induction k9 generalizing j r2 ls H locs with
      | zero => exact absurd hk9 (by omega)
      | succ k9 ihB =>
        refine lv_iload_n hx hb dX5_through_36 rfl (lv_at hl 0 rfl) ?_
        refine lv_iload_n hx hb dX5_through_37 rfl (lv_at hl 3 rfl) ?_
        refine sd_icmp_gt (tgt := 109) hx hb (by omega) (by omega) dX5_through_38 (by decide) (fun c2 => ?_) (fun c2 => ?_)
        · have hr2 : ∀ i, i ≤ t → r2 i = sd_D (m_y msh mch q) (m_iv minv mch) i i := fun i hi => by rw [hI2 i hi, Nat.min_eq_left (by omega)]
          refine lv_iconst (v := nI 0) hx hb dX5_through_109 (by decide) ?_
          refine lv_istore_n (lv' := [(3, .int (nI 0)), (0, .ref (am 0)), (1, .int (nI q)), (2, .int (nI t))]) hx hb dX5_through_110 rfl hl (by decide) rfl (fun ls hl => ?_)
          obtain ⟨k, c1, hk, hZ, hP9, hD9, hl9⟩ : ∃ (k : Nat) (c1 : Nat → FP), (k ≤ 9) ∧ (∀ i, i < k → c1 i = 0) ∧ va_P D vwCl (mw am tc tn mdg msz msh mth minv isf fsp mfo mwr mpl mny mch c1 r2) H ∧ va_D A (mw am tc tn mdg msz msh mth minv isf fsp mfo mwr mpl mny mch c1 r2) ∧ lv_has ls 5 [(3, .int (nI k)), (0, .ref (am 0)), (1, .int (nI q)), (2, .int (nI t))] := ⟨0, mcu, Nat.zero_le _, fun i hi => absurd hi (Nat.not_lt_zero i), hP, hD, (lv_sub hl [0, 1, 2, 3] rfl)⟩
          replace hl := hl9
          clear hl9
          replace hP := hP9
          replace hD := hD9
          clear hP9 hD9
          obtain ⟨k9, hk9⟩ : ∃ k9 : Nat, 9 < k + k9 := ⟨10, by omega⟩
          induction k9 generalizing k c1 ls H locs with
          | zero => exact absurd hk9 (by omega)
          | succ k9 ihD =>
            refine lv_iload_n hx hb dX5_through_111 rfl (lv_at hl 0 rfl) ?_
            refine lv_bipush (v := nI 8) hx hb dX5_through_112 (by decide) ?_
            refine sd_icmp_gt (tgt := 130) hx hb (by omega) (by omega) dX5_through_114 (by decide) (fun c4 => ?_) (fun c4 => ?_)
            · have hZ9 : ∀ i, i < 9 → c1 i = 0 := fun i hi => hZ i (by omega)
              refine lv_iload_n hx hb dX5_through_130 rfl (lv_at hl 3 rfl) ?_
              refine lv_istore_n (lv' := [(3, .int (nI t)), (0, .ref (am 0)), (1, .int (nI q)), (2, .int (nI t))]) hx hb dX5_through_131 rfl hl (by decide) rfl (fun ls hl => ?_)
              replace hl : lv_has ls 5 [(3, .int (nI (t + 1) + (-1))), (0, .ref (am 0)), (1, .int (nI q)), (2, .int (nI t))] := by rw [pk_m1]; exact (lv_sub hl [0, 1, 2, 3] rfl)
              obtain ⟨K, c2, hK9, hC0, hCv, hP9, hD9, hl9⟩ : ∃ (K : Nat) (c2 : Nat → FP), (K ≤ t + 1) ∧ (∀ k, t + 1 - K ≤ k → k < 9 → c2 k = 0) ∧ (∀ z, sd_pv c2 z 0 9 = sd_nest (fun i => sd_N (mch i)) (fun i => sd_D (m_y msh mch q) (m_iv minv mch) i i) z K (t + 1 - K)) ∧ va_P D vwCl (mw am tc tn mdg msz msh mth minv isf fsp mfo mwr mpl mny mch c2 r2) H ∧ va_D A (mw am tc tn mdg msz msh mth minv isf fsp mfo mwr mpl mny mch c2 r2) ∧ lv_has ls 5 [(3, .int (nI K + (-1))), (0, .ref (am 0)), (1, .int (nI q)), (2, .int (nI t))] := ⟨t + 1, c1, Nat.le_refl _, fun k _ h => hZ9 k h, fun z => by rw [Nat.sub_self, sd_pv_zero z 9 0 (fun k _ h => hZ9 k (by omega))]; rfl, hP, hD, (lv_sub hl [0, 1, 2, 3] rfl)⟩
              replace hl := hl9
              clear hl9
              replace hP := hP9
              replace hD := hD9
              clear hP9 hD9
              obtain ⟨k9, hk9⟩ : ∃ k9 : Nat, K < k9 := ⟨t + 2, by omega⟩
              induction k9 generalizing K c2 ls H locs with
              | zero => exact absurd hk9 (by omega)
              | succ k9 ihE =>
                rcases K with _ | K
                · rw [sd_m1] at hl
                  refine lv_iload_n hx hb dX5_through_132 rfl (lv_at hl 0 rfl) ?_
                  refine lv_if_lt (tgt := 239) hx hb dX5_through_133 (by decide) (fun c5 => ?_) (fun c5 => ?_)
                  · exact W.vret hx hb hr (fun T9 hT9 hW => ⟨⟨(c2, r2), rfl, m_thr ht hch hinc hinv hC0 hCv, by rw [hT9]; exact hP, va_K.moved hW.alike hK, hD⟩, hS.F hT9⟩) hS.2.2 dX5_through_239
                  · exact absurd (by decide) c5
                · rw [pk_m1] at hl
                  refine lv_iload_n hx hb dX5_through_132 rfl (lv_at hl 0 rfl) ?_
                  refine lv_if_lt (tgt := 239) hx hb dX5_through_133 (by decide) (fun c5 => ?_) (fun c5 => ?_)
                  · exact absurd c5 (nI_pos (by omega))
                  · have h8 := hch K (by omega)
                    refine lv_iload_n hx hb dX5_through_136 rfl (lv_at hl 3 rfl) ?_
                    refine lv_istore (lv' := [(4, .int (nI t)), (3, .int (nI K)), (0, .ref (am 0)), (1, .int (nI q)), (2, .int (nI t))]) hx hb dX5_through_137 hl (by decide) rfl (fun ls hl => ?_)
                    obtain ⟨k, c3, hk, hV, hP9, hD9, hl9⟩ : ∃ (k : Nat) (c3 : Nat → FP), (k ≤ t) ∧ (∀ i, c3 i = if k < i ∧ i ≤ t then c2 (i - 1) - c2 i * sd_N (mch K) else c2 i) ∧ va_P D vwCl (mw am tc tn mdg msz msh mth minv isf fsp mfo mwr mpl mny mch c3 r2) H ∧ va_D A (mw am tc tn mdg msz msh mth minv isf fsp mfo mwr mpl mny mch c3 r2) ∧ lv_has ls 5 [(4, .int (nI k)), (3, .int (nI K)), (0, .ref (am 0)), (1, .int (nI q)), (2, .int (nI t))] := ⟨t, c2, Nat.le_refl t, fun i => by rw [if_neg (by omega)], hP, hD, (lv_sub hl [0, 1, 2, 3, 4] rfl)⟩
                    replace hl := hl9
                    clear hl9
                    replace hP := hP9
                    replace hD := hD9
                    clear hP9 hD9
                    obtain ⟨k9, hk9⟩ : ∃ k9 : Nat, k < k9 := ⟨t + 1, by omega⟩
                    induction k9 generalizing k c3 ls H locs with
                    | zero => exact absurd hk9 (by omega)
                    | succ k9 ihF =>
                      refine lv_iload hx hb dX5_through_139 (lv_at hl 0 rfl) ?_
                      refine lv_if_le (tgt := 186) hx hb dX5_through_141 (by decide) (fun c6 => ?_) (fun c6 => ?_)
                      · have k0 : k = 0 := Nat.eq_zero_of_not_pos (fun h => nI_nle h (by omega) c6)
                        subst k0
                        refine lv_aload_n hx hb dX5_through_186 rfl (lv_at hl 2 rfl) ?_
                        refine va_get (D := D) (ci := 5) (v := .ref (am 10)) (C := RX5) (T := TX5) (N := 15) hx hb hts (fun w h => mm (inX5 w h)) hown hK hP 0 rfl rfl 13 (by decide) (hts _ (mm wf_X5_39)) (fun _ h9 => h9) rfl dX5_through_187 ?_
                        refine lv_iconst (v := nI 0) hx hb dX5_through_190 (by decide) ?_
                        refine lv_lconst (v := 0) hx hb dX5_through_191 (by decide) ?_
                        refine sd_tol (y := sd_L 0) sd_L_0.symm ?_
                        refine lv_aload_n hx hb dX5_through_192 rfl (lv_at hl 2 rfl) ?_
                        refine va_get (D := D) (ci := 5) (v := .ref (am 10)) (C := RX5) (T := TX5) (N := 15) hx hb hts (fun w h => mm (inX5 w h)) hown hK hP 0 rfl rfl 13 (by decide) (hts _ (mm wf_X5_39)) (fun _ h9 => h9) rfl dX5_through_193 ?_
                        refine lv_iconst (v := nI 0) hx hb dX5_through_196 (by decide) ?_
                        refine sd_lald hx hb hK hP 10 0 rfl rfl (k := 0) (by omega) (by decide) dX5_through_197 ?_
                        refine lv_aload_n hx hb dX5_through_198 rfl (lv_at hl 2 rfl) ?_
                        refine va_get (D := D) (ci := 5) (v := .ref (am 9)) (C := RX5) (T := TX5) (N := 15) hx hb hts (fun w h => mm (inX5 w h)) hown hK hP 0 rfl rfl 12 (by decide) (hts _ (mm wf_X5_36)) (fun _ h9 => h9) rfl dX5_through_199 ?_
                        refine lv_iload_n hx hb dX5_through_202 rfl (lv_at hl 1 rfl) ?_
                        refine sd_iald hx hb hK hP 9 2 rfl rfl (k := K) (by omega) (by decide) dX5_through_203 ?_
                        refine lv_i2l (v := lN (mch K)) hx hb dX5_through_204 (nI_l (by omega)) ?_
                        refine sd_tol (y := sd_L (sd_N (mch K))) ((sd_N_L (by omega)).symm) ?_
                        refine sd_rl (va_runS (As := [.long (sd_L (c3 0)), .long (sd_L (sd_N (mch K)))]) (rest := [.long (sd_L 0), .int (nI 0), .ref (am 10)]) ⟨hx, hb, hml, hown, hts⟩ (k_X5_times l (c3 0) (sd_N (mch K))) (sd_cwS hts wd_X5_times wn_X5 wm_X5_70 wi_X5_times nq_X5_times rfl rfl ⟨Nat.le_of_ble_eq_true rfl, Nat.le_of_ble_eq_true rfl⟩) sd_preN rfl rfl hl.1 rfl (lv_room (Nat.le_of_ble_eq_true rfl)) dX5_through_205 ⟨Nat.zero_le _, Nat.zero_le _⟩) (fun r1 hr1 => ?_)
                        subst hr1
                        refine sd_rl (va_runS (As := [.long (sd_L 0), .long (sd_L (c3 0 * sd_N (mch K)))]) (rest := [.int (nI 0), .ref (am 10)]) ⟨hx, hb, hml, hown, hts⟩ (k_X5_minus l 0 (c3 0 * sd_N (mch K))) (sd_cwS hts wd_X5_minus wn_X5 wm_X5_103 wi_X5_minus nq_X5_minus rfl rfl ⟨Nat.le_of_ble_eq_true rfl, Nat.le_of_ble_eq_true rfl⟩) sd_preN rfl rfl hl.1 rfl (lv_room (Nat.le_of_ble_eq_true rfl)) dX5_through_208 ⟨Nat.zero_le _, Nat.zero_le _⟩) (fun r2 hr2 => ?_)
                        subst hr2
                        refine sd_last hx hb hK hP hD hS 10 0 rfl rfl (k := 0) (by omega) (by decide) (ws2 := mw am tc tn mdg msz msh mth minv isf fsp mfo mwr mpl mny mch (sd_up c3 0 (0 - c3 0 * sd_N (mch K))) r2) (by rw [sd_stL]; exact rfl) dX5_through_211 (fun H locs hP hD hS => ?_)
                        refine lv_aload_n hx hb dX5_through_212 rfl (lv_at hl 2 rfl) ?_
                        refine va_get (D := D) (ci := 5) (v := .ref (am 10)) (C := RX5) (T := TX5) (N := 15) hx hb hts (fun w h => mm (inX5 w h)) hown hK hP 0 rfl rfl 13 (by decide) (hts _ (mm wf_X5_39)) (fun _ h9 => h9) rfl dX5_through_213 ?_
                        refine lv_iconst (v := nI 0) hx hb dX5_through_216 (by decide) ?_
                        refine lv_aload_n hx hb dX5_through_217 rfl (lv_at hl 2 rfl) ?_
                        refine va_get (D := D) (ci := 5) (v := .ref (am 10)) (C := RX5) (T := TX5) (N := 15) hx hb hts (fun w h => mm (inX5 w h)) hown hK hP 0 rfl rfl 13 (by decide) (hts _ (mm wf_X5_39)) (fun _ h9 => h9) rfl dX5_through_218 ?_
                        refine lv_iconst (v := nI 0) hx hb dX5_through_221 (by decide) ?_
                        refine sd_lald hx hb hK hP 10 0 rfl rfl (k := 0) (by omega) (by decide) dX5_through_222 ?_
                        refine lv_aload_n hx hb dX5_through_223 rfl (lv_at hl 2 rfl) ?_
                        refine va_get (D := D) (ci := 5) (v := .ref (am 11)) (C := RX5) (T := TX5) (N := 15) hx hb hts (fun w h => mm (inX5 w h)) hown hK hP 0 rfl rfl 14 (by decide) (hts _ (mm wf_X5_42)) (fun _ h9 => h9) rfl dX5_through_224 ?_
                        refine lv_iload_n hx hb dX5_through_227 rfl (lv_at hl 1 rfl) ?_
                        refine sd_lald hx hb hK hP 11 0 rfl rfl (k := K) (by omega) (by decide) dX5_through_228 ?_
                        refine sd_rl (va_runS (As := [.long (sd_L ((sd_up c3 0 (0 - c3 0 * sd_N (mch K))) 0)), .long (sd_L (r2 K))]) (rest := [.int (nI 0), .ref (am 10)]) ⟨hx, hb, hml, hown, hts⟩ (k_X5_plus l ((sd_up c3 0 (0 - c3 0 * sd_N (mch K))) 0) (r2 K)) (sd_cwS hts wd_X5_plus wn_X5 wm_X5_65 wi_X5_plus nq_X5_plus rfl rfl ⟨Nat.le_of_ble_eq_true rfl, Nat.le_of_ble_eq_true rfl⟩) sd_preN rfl rfl hl.1 rfl (lv_room (Nat.le_of_ble_eq_true rfl)) dX5_through_229 ⟨Nat.zero_le _, Nat.zero_le _⟩) (fun r3 hr3 => ?_)
                        subst hr3
                        refine sd_last hx hb hK hP hD hS 10 0 rfl rfl (k := 0) (by omega) (by decide) (ws2 := mw am tc tn mdg msz msh mth minv isf fsp mfo mwr mpl mny mch (sd_up (sd_up c3 0 (0 - c3 0 * sd_N (mch K))) 0 ((sd_up c3 0 (0 - c3 0 * sd_N (mch K))) 0 + r2 K)) r2) (by rw [sd_stL]; exact rfl) dX5_through_232 (fun H locs hP hD hS => ?_)
                        refine lv_iinc (v := nI K + (-1)) (lv' := [(3, .int (nI K + (-1))), (4, .int (nI 0)), (0, .ref (am 0)), (1, .int (nI q)), (2, .int (nI t))]) hx hb dX5_through_233 hl (k := 1) rfl (by rw [show Int32.ofInt (-1) = -1 by decide]) (by decide) rfl (fun ls hl => ?_)
                        refine lv_goto (tgt := 132) hx hb dX5_through_236 (by decide) ?_
                        have hH := sd_horner (c := c2) (c2 := sd_up (sd_up c3 0 (0 - c3 0 * sd_N (mch K))) 0 ((sd_up c3 0 (0 - c3 0 * sd_N (mch K))) 0 + r2 K)) (x := sd_N (mch K)) (d := r2 K) (n := t + 1 - (K + 1)) (by omega) hC0 (by rw [sd_up_s, sd_up_s, hV, if_neg (by omega)]) (fun k h1 h2 => by
                          rw [sd_up_n _ _ (by omega), sd_up_n _ _ (by omega), hV]
                          by_cases e9 : k ≤ t
                          · rw [if_pos (by omega)]
                          · rw [if_neg (by omega), hC0 k (by omega) h2, hC0 (k - 1) (by omega) (by omega)]
                            grind)
                        exact ihE (K := K) (c2 := sd_up (sd_up c3 0 (0 - c3 0 * sd_N (mch K))) 0 ((sd_up c3 0 (0 - c3 0 * sd_N (mch K))) 0 + r2 K)) (hK9 := by omega) (hC0 := fun k h1 h2 => hH.2 k (by omega) h2) (hCv := fun z => by rw [hH.1 z, hCv z, show t + 1 - K = (t + 1 - (K + 1)) + 1 by omega, sd_nest, hr2 K (by omega)]) (H := H) (locs := locs) (hP := hP) (hD := hD) (hS := hS) (ls := ls) (hl := (lv_sub hl [0, 2, 3, 4] rfl)) (hk9 := by omega)
                      · obtain ⟨k, rfl⟩ : ∃ z, k = z + 1 := ⟨k - 1, by have : k ≠ 0 := (fun h => c6 (by rw [h, nI_0]; decide)); omega⟩
                        refine lv_aload_n hx hb dX5_through_144 rfl (lv_at hl 2 rfl) ?_
                        refine va_get (D := D) (ci := 5) (v := .ref (am 10)) (C := RX5) (T := TX5) (N := 15) hx hb hts (fun w h => mm (inX5 w h)) hown hK hP 0 rfl rfl 13 (by decide) (hts _ (mm wf_X5_39)) (fun _ h9 => h9) rfl dX5_through_145 ?_
                        refine lv_iload hx hb dX5_through_148 (lv_at hl 0 rfl) ?_
                        refine lv_aload_n hx hb dX5_through_150 rfl (lv_at hl 2 rfl) ?_
                        refine va_get (D := D) (ci := 5) (v := .ref (am 10)) (C := RX5) (T := TX5) (N := 15) hx hb hts (fun w h => mm (inX5 w h)) hown hK hP 0 rfl rfl 13 (by decide) (hts _ (mm wf_X5_39)) (fun _ h9 => h9) rfl dX5_through_151 ?_
                        refine lv_iload hx hb dX5_through_154 (lv_at hl 0 rfl) ?_
                        refine lv_iconst (v := nI 1) hx hb dX5_through_156 (by decide) ?_
                        refine sd_isub hx hb (by omega) dX5_through_157 ?_
                        refine sd_toi (y := nI k) rfl ?_
                        refine sd_lald hx hb hK hP 10 0 rfl rfl (k := k) (by omega) (by decide) dX5_through_158 ?_
                        refine lv_aload_n hx hb dX5_through_159 rfl (lv_at hl 2 rfl) ?_
                        refine va_get (D := D) (ci := 5) (v := .ref (am 10)) (C := RX5) (T := TX5) (N := 15) hx hb hts (fun w h => mm (inX5 w h)) hown hK hP 0 rfl rfl 13 (by decide) (hts _ (mm wf_X5_39)) (fun _ h9 => h9) rfl dX5_through_160 ?_
                        refine lv_iload hx hb dX5_through_163 (lv_at hl 0 rfl) ?_
                        refine sd_lald hx hb hK hP 10 0 rfl rfl (k := k + 1) (by omega) (by decide) dX5_through_165 ?_
                        refine lv_aload_n hx hb dX5_through_166 rfl (lv_at hl 2 rfl) ?_
                        refine va_get (D := D) (ci := 5) (v := .ref (am 9)) (C := RX5) (T := TX5) (N := 15) hx hb hts (fun w h => mm (inX5 w h)) hown hK hP 0 rfl rfl 12 (by decide) (hts _ (mm wf_X5_36)) (fun _ h9 => h9) rfl dX5_through_167 ?_
                        refine lv_iload_n hx hb dX5_through_170 rfl (lv_at hl 1 rfl) ?_
                        refine sd_iald hx hb hK hP 9 2 rfl rfl (k := K) (by omega) (by decide) dX5_through_171 ?_
                        refine lv_i2l (v := lN (mch K)) hx hb dX5_through_172 (nI_l (by omega)) ?_
                        refine sd_tol (y := sd_L (sd_N (mch K))) ((sd_N_L (by omega)).symm) ?_
                        refine sd_rl (va_runS (As := [.long (sd_L (c3 (k + 1))), .long (sd_L (sd_N (mch K)))]) (rest := [.long (sd_L (c3 k)), .int (nI (k + 1)), .ref (am 10)]) ⟨hx, hb, hml, hown, hts⟩ (k_X5_times l (c3 (k + 1)) (sd_N (mch K))) (sd_cwS hts wd_X5_times wn_X5 wm_X5_70 wi_X5_times nq_X5_times rfl rfl ⟨Nat.le_of_ble_eq_true rfl, Nat.le_of_ble_eq_true rfl⟩) sd_preN rfl rfl hl.1 rfl (lv_room (Nat.le_of_ble_eq_true rfl)) dX5_through_173 ⟨Nat.zero_le _, Nat.zero_le _⟩) (fun r4 hr4 => ?_)
                        subst hr4
                        refine sd_rl (va_runS (As := [.long (sd_L (c3 k)), .long (sd_L (c3 (k + 1) * sd_N (mch K)))]) (rest := [.int (nI (k + 1)), .ref (am 10)]) ⟨hx, hb, hml, hown, hts⟩ (k_X5_minus l (c3 k) (c3 (k + 1) * sd_N (mch K))) (sd_cwS hts wd_X5_minus wn_X5 wm_X5_103 wi_X5_minus nq_X5_minus rfl rfl ⟨Nat.le_of_ble_eq_true rfl, Nat.le_of_ble_eq_true rfl⟩) sd_preN rfl rfl hl.1 rfl (lv_room (Nat.le_of_ble_eq_true rfl)) dX5_through_176 ⟨Nat.zero_le _, Nat.zero_le _⟩) (fun r5 hr5 => ?_)
                        subst hr5
                        refine sd_last hx hb hK hP hD hS 10 0 rfl rfl (k := k + 1) (by omega) (by decide) (ws2 := mw am tc tn mdg msz msh mth minv isf fsp mfo mwr mpl mny mch (sd_up c3 (k + 1) (c3 k - c3 (k + 1) * sd_N (mch K))) r2) (by rw [sd_stL]; exact rfl) dX5_through_179 (fun H locs hP hD hS => ?_)
                        refine lv_iinc (v := nI k) (lv' := [(4, .int (nI k)), (3, .int (nI K)), (0, .ref (am 0)), (1, .int (nI q)), (2, .int (nI t))]) hx hb dX5_through_180 hl (k := 0) rfl (by rw [show Int32.ofInt (-1) = -1 by decide]; exact pk_m1 _) (by decide) rfl (fun ls hl => ?_)
                        refine lv_goto (tgt := 139) hx hb dX5_through_183 (by decide) ?_
                        have hV9 : ∀ i, (sd_up c3 (k + 1) (c3 k - c3 (k + 1) * sd_N (mch K))) i = if k < i ∧ i ≤ t then c2 (i - 1) - c2 i * sd_N (mch K) else c2 i := fun i => by
                          by_cases e9 : i = k + 1
                          · rw [e9, sd_up_s, hV k, hV (k + 1), if_neg (by omega), if_neg (by omega), if_pos (by omega), Nat.add_sub_cancel]
                          · rw [sd_up_n _ _ e9, hV i]
                            by_cases e8 : k < i ∧ i ≤ t
                            · rw [if_pos e8, if_pos (by omega)]
                            · rw [if_neg e8, if_neg (by omega)]
                        exact ihF (k := k) (c3 := sd_up c3 (k + 1) (c3 k - c3 (k + 1) * sd_N (mch K))) (hk := by omega) (hV := hV9) (H := H) (locs := locs) (hP := hP) (hD := hD) (hS := hS) (ls := ls) (hl := (lv_sub hl [0, 1, 2, 3, 4] rfl)) (hk9 := by omega)
            · refine lv_aload_n hx hb dX5_through_117 rfl (lv_at hl 1 rfl) ?_
              refine va_get (D := D) (ci := 5) (v := .ref (am 10)) (C := RX5) (T := TX5) (N := 15) hx hb hts (fun w h => mm (inX5 w h)) hown hK hP 0 rfl rfl 13 (by decide) (hts _ (mm wf_X5_39)) (fun _ h9 => h9) rfl dX5_through_118 ?_
              refine lv_iload_n hx hb dX5_through_121 rfl (lv_at hl 0 rfl) ?_
              refine lv_lconst (v := 0) hx hb dX5_through_122 (by decide) ?_
              refine sd_tol (y := sd_L 0) sd_L_0.symm ?_
              refine sd_last hx hb hK hP hD hS 10 0 rfl rfl (k := k) (by omega) (by decide) (ws2 := mw am tc tn mdg msz msh mth minv isf fsp mfo mwr mpl mny mch (sd_up c1 k 0) r2) (by rw [sd_stL]; exact rfl) dX5_through_123 (fun H locs hP hD hS => ?_)
              refine lv_iinc (v := nI (k + 1)) (lv' := [(3, .int (nI (k + 1))), (0, .ref (am 0)), (1, .int (nI q)), (2, .int (nI t))]) hx hb dX5_through_124 hl (k := 0) rfl (nI_1 _) (by decide) rfl (fun ls hl => ?_)
              refine lv_goto (tgt := 111) hx hb dX5_through_127 (by decide) ?_
              exact ihD (k := k + 1) (c1 := sd_up c1 k 0) (hk := by omega) (hZ := fun i hi => (Classical.em (i = k)).elim (fun e9 => by rw [e9, sd_up_s]) (fun e9 => by rw [sd_up_n _ _ e9]; exact hZ i (by omega))) (H := H) (locs := locs) (hP := hP) (hD := hD) (hS := hS) (ls := ls) (hl := (lv_sub hl [0, 1, 2, 3] rfl)) (hk9 := by omega)
        · refine lv_iload_n hx hb dX5_through_41 rfl (lv_at hl 3 rfl) ?_
          refine lv_istore (lv' := [(4, .int (nI t)), (3, .int (nI j)), (0, .ref (am 0)), (1, .int (nI q)), (2, .int (nI t))]) hx hb dX5_through_42 hl (by decide) rfl (fun ls hl => ?_)
          obtain ⟨k, r3, hk, hI3, hP9, hD9, hl9⟩ : ∃ (k : Nat) (r3 : Nat → FP), (j - 1 ≤ k ∧ k ≤ t) ∧ (∀ i, i ≤ t → r3 i = if k < i then sd_D (m_y msh mch q) (m_iv minv mch) (min i j) i else sd_D (m_y msh mch q) (m_iv minv mch) (min i (j - 1)) i) ∧ va_P D vwCl (mw am tc tn mdg msz msh mth minv isf fsp mfo mwr mpl mny mch mcu r3) H ∧ va_D A (mw am tc tn mdg msz msh mth minv isf fsp mfo mwr mpl mny mch mcu r3) ∧ lv_has ls 5 [(4, .int (nI k)), (3, .int (nI j)), (0, .ref (am 0)), (1, .int (nI q)), (2, .int (nI t))] := ⟨t, r2, ⟨by omega, Nat.le_refl t⟩, fun i hi => by rw [if_neg (by omega)]; exact hI2 i hi, hP, hD, (lv_sub hl [0, 1, 2, 3, 4] rfl)⟩
          replace hl := hl9
          clear hl9
          replace hP := hP9
          replace hD := hD9
          clear hP9 hD9
          obtain ⟨k9, hk9⟩ : ∃ k9 : Nat, k < k9 := ⟨t + 1, by omega⟩
          induction k9 generalizing k r3 ls H locs with
          | zero => exact absurd hk9 (by omega)
          | succ k9 ihC =>
            refine lv_iload hx hb dX5_through_44 (lv_at hl 0 rfl) ?_
            refine lv_iload_n hx hb dX5_through_46 rfl (lv_at hl 1 rfl) ?_
            refine sd_icmp_lt (tgt := 103) hx hb (by omega) (by omega) dX5_through_47 (by decide) (fun c3 => ?_) (fun c3 => ?_)
            · have hI9 : ∀ i, i ≤ t → r3 i = sd_D (m_y msh mch q) (m_iv minv mch) (min i (j + 1 - 1)) i := fun i hi => by
                rw [hI3 i hi, Nat.add_sub_cancel]
                by_cases e9 : k < i
                · rw [if_pos e9]
                · rw [if_neg e9, Nat.min_eq_left (show i ≤ j - 1 by omega), Nat.min_eq_left (show i ≤ j by omega)]
              refine lv_iinc (v := nI (j + 1)) (lv' := [(3, .int (nI (j + 1))), (4, .int (nI k)), (0, .ref (am 0)), (1, .int (nI q)), (2, .int (nI t))]) hx hb dX5_through_103 hl (k := 1) rfl (nI_1 _) (by decide) rfl (fun ls hl => ?_)
              refine lv_goto (tgt := 36) hx hb dX5_through_106 (by decide) ?_
              exact ihB (j := j + 1) (r2 := r3) (hj := by omega) (hI2 := hI9) (H := H) (locs := locs) (hP := hP) (hD := hD) (hS := hS) (ls := ls) (hl := (lv_sub hl [0, 2, 3, 4] rfl)) (hk9 := by omega)
            · obtain ⟨k, rfl⟩ : ∃ z, k = z + 1 := ⟨k - 1, by omega⟩
              have h9 := hinc (k + 1 - j) (k + 1) (by omega) (by omega)
              have h8 := hch (k + 1) (by omega)
              refine lv_aload_n hx hb dX5_through_50 rfl (lv_at hl 2 rfl) ?_
              refine va_get (D := D) (ci := 5) (v := .ref (am 11)) (C := RX5) (T := TX5) (N := 15) hx hb hts (fun w h => mm (inX5 w h)) hown hK hP 0 rfl rfl 14 (by decide) (hts _ (mm wf_X5_42)) (fun _ h9 => h9) rfl dX5_through_51 ?_
              refine lv_iload hx hb dX5_through_54 (lv_at hl 0 rfl) ?_
              refine lv_aload_n hx hb dX5_through_56 rfl (lv_at hl 2 rfl) ?_
              refine lv_aload_n hx hb dX5_through_57 rfl (lv_at hl 2 rfl) ?_
              refine va_get (D := D) (ci := 5) (v := .ref (am 11)) (C := RX5) (T := TX5) (N := 15) hx hb hts (fun w h => mm (inX5 w h)) hown hK hP 0 rfl rfl 14 (by decide) (hts _ (mm wf_X5_42)) (fun _ h9 => h9) rfl dX5_through_58 ?_
              refine lv_iload hx hb dX5_through_61 (lv_at hl 0 rfl) ?_
              refine sd_lald hx hb hK hP 11 0 rfl rfl (k := k + 1) (by omega) (by decide) dX5_through_63 ?_
              refine lv_aload_n hx hb dX5_through_64 rfl (lv_at hl 2 rfl) ?_
              refine va_get (D := D) (ci := 5) (v := .ref (am 11)) (C := RX5) (T := TX5) (N := 15) hx hb hts (fun w h => mm (inX5 w h)) hown hK hP 0 rfl rfl 14 (by decide) (hts _ (mm wf_X5_42)) (fun _ h9 => h9) rfl dX5_through_65 ?_
              refine lv_iload hx hb dX5_through_68 (lv_at hl 0 rfl) ?_
              refine lv_iconst (v := nI 1) hx hb dX5_through_70 (by decide) ?_
              refine sd_isub hx hb (by omega) dX5_through_71 ?_
              refine sd_toi (y := nI k) rfl ?_
              refine sd_lald hx hb hK hP 11 0 rfl rfl (k := k) (by omega) (by decide) dX5_through_72 ?_
              refine sd_rl (va_runS (As := [.long (sd_L (r3 (k + 1))), .long (sd_L (r3 k))]) (rest := [.ref (am 0), .int (nI (k + 1)), .ref (am 11)]) ⟨hx, hb, hml, hown, hts⟩ (k_X5_minus l (r3 (k + 1)) (r3 k)) (sd_cwS hts wd_X5_minus wn_X5 wm_X5_103 wi_X5_minus nq_X5_minus rfl rfl ⟨Nat.le_of_ble_eq_true rfl, Nat.le_of_ble_eq_true rfl⟩) sd_preN rfl rfl hl.1 rfl (lv_room (Nat.le_of_ble_eq_true rfl)) dX5_through_73 ⟨Nat.zero_le _, Nat.zero_le _⟩) (fun r6 hr6 => ?_)
              subst hr6
              refine lv_aload_n hx hb dX5_through_76 rfl (lv_at hl 2 rfl) ?_
              refine va_get (D := D) (ci := 5) (v := .ref (am 9)) (C := RX5) (T := TX5) (N := 15) hx hb hts (fun w h => mm (inX5 w h)) hown hK hP 0 rfl rfl 12 (by decide) (hts _ (mm wf_X5_36)) (fun _ h9 => h9) rfl dX5_through_77 ?_
              refine lv_iload hx hb dX5_through_80 (lv_at hl 0 rfl) ?_
              refine sd_iald hx hb hK hP 9 2 rfl rfl (k := k + 1) (by omega) (by decide) dX5_through_82 ?_
              refine lv_aload_n hx hb dX5_through_83 rfl (lv_at hl 2 rfl) ?_
              refine va_get (D := D) (ci := 5) (v := .ref (am 9)) (C := RX5) (T := TX5) (N := 15) hx hb hts (fun w h => mm (inX5 w h)) hown hK hP 0 rfl rfl 12 (by decide) (hts _ (mm wf_X5_36)) (fun _ h9 => h9) rfl dX5_through_84 ?_
              refine lv_iload hx hb dX5_through_87 (lv_at hl 0 rfl) ?_
              refine lv_iload_n hx hb dX5_through_89 rfl (lv_at hl 1 rfl) ?_
              refine sd_isub hx hb (by omega) dX5_through_90 ?_
              refine sd_iald hx hb hK hP 9 2 rfl rfl (k := (k + 1) - j) (by omega) (by decide) dX5_through_91 ?_
              refine sd_isub hx hb (by omega) dX5_through_92 ?_
              refine sd_rl (va_runV (As := [.long (sd_L (r3 (k + 1) - r3 k)), .int (nI ((mch (k + 1)) - (mch ((k + 1) - j))))]) (rest := [.int (nI (k + 1)), .ref (am 11)]) ⟨hx, hb, hml, hown, hts⟩ (k_X5_over l D (r3 (k + 1) - r3 k) (mch (k + 1) - mch (k + 1 - j)) (by omega)) (sd_cwV hts wd_X5_over wn_X5 wm_X5_106 wi_X5_over ws_X5_over nq_X5_over rfl rfl ⟨Nat.le_of_ble_eq_true rfl, Nat.le_of_ble_eq_true rfl⟩) (sd_preVR hP hK (ci := 5) (q0 := 0) rfl rfl rfl) rfl rfl hl.1 rfl (lv_room (Nat.le_of_ble_eq_true rfl)) dX5_through_93 ⟨Nat.zero_le _, Nat.zero_le _⟩) (fun r7 hr7 => ?_)
              subst hr7
              refine sd_last hx hb hK hP hD hS 11 0 rfl rfl (k := k + 1) (by omega) (by decide) (ws2 := mw am tc tn mdg msz msh mth minv isf fsp mfo mwr mpl mny mch mcu (sd_up r3 (k + 1) ((r3 (k + 1) - r3 k) * minv (mch (k + 1) - mch (k + 1 - j))))) (by rw [sd_stL]; exact rfl) dX5_through_96 (fun H locs hP hD hS => ?_)
              refine lv_iinc (v := nI k) (lv' := [(4, .int (nI k)), (3, .int (nI j)), (0, .ref (am 0)), (1, .int (nI q)), (2, .int (nI t))]) hx hb dX5_through_97 hl (k := 0) rfl (by rw [show Int32.ofInt (-1) = -1 by decide]; exact pk_m1 _) (by decide) rfl (fun ls hl => ?_)
              refine lv_goto (tgt := 44) hx hb dX5_through_100 (by decide) ?_
              exact ihC (k := k) (r3 := sd_up r3 (k + 1) ((r3 (k + 1) - r3 k) * minv (mch (k + 1) - mch (k + 1 - j)))) (hk := by omega) (hI3 := sd_D_step (iv := (m_iv minv mch)) hj.1 (by omega) (by omega) hI3) (H := H) (locs := locs) (hP := hP) (hD := hD) (hS := hS) (ls := ls) (hl := (lv_sub hl [0, 1, 2, 3, 4] rfl)) (hk9 := by omega)
    · have h8 := hch k (by omega)
      refine lv_aload_n hx hb dX5_through_7 rfl (lv_at hl 1 rfl) ?_
      refine va_get (D := D) (ci := 5) (v := .ref (am 11)) (C := RX5) (T := TX5) (N := 15) hx hb hts (fun w h => mm (inX5 w h)) hown hK hP 0 rfl rfl 14 (by decide) (hts _ (mm wf_X5_42)) (fun _ h9 => h9) rfl dX5_through_8 ?_
      refine lv_iload_n hx hb dX5_through_11 rfl (lv_at hl 0 rfl) ?_
      refine lv_aload_n hx hb dX5_through_12 rfl (lv_at hl 1 rfl) ?_
      refine va_get (D := D) (ci := 5) (v := .ref (am 3)) (C := RX5) (T := TX5) (N := 15) hx hb hts (fun w h => mm (inX5 w h)) hown hK hP 0 rfl rfl 3 (by decide) (hts _ (mm wf_X5_16)) (fun _ h9 => h9) rfl dX5_through_13 ?_
      refine lv_iload_n hx hb dX5_through_16 rfl (lv_at hl 2 rfl) ?_
      refine lv_aload_n hx hb dX5_through_17 rfl (lv_at hl 1 rfl) ?_
      refine va_get (D := D) (ci := 5) (v := .ref (am 9)) (C := RX5) (T := TX5) (N := 15) hx hb hts (fun w h => mm (inX5 w h)) hown hK hP 0 rfl rfl 12 (by decide) (hts _ (mm wf_X5_36)) (fun _ h9 => h9) rfl dX5_through_18 ?_
      refine lv_iload_n hx hb dX5_through_21 rfl (lv_at hl 0 rfl) ?_
      refine sd_iald hx hb hK hP 9 2 rfl rfl (k := k) (by omega) (by decide) dX5_through_22 ?_
      refine sd_ri (va_runS (As := [.int (nI q), .int (nI (mch k))]) (rest := [.ref (am 3), .int (nI k), .ref (am 11)]) ⟨hx, hb, hml, hown, hts⟩ (k_X5_home l q (mch k)) (sd_cwS hts wd_X5_home wn_X5 wm_X5_91 wi_X5_home nq_X5_home rfl rfl ⟨Nat.le_of_ble_eq_true rfl, Nat.le_of_ble_eq_true rfl⟩) sd_preN rfl rfl hl.1 rfl (lv_room (Nat.le_of_ble_eq_true rfl)) dX5_through_23 ⟨Nat.zero_le _, Nat.zero_le _⟩) (fun r8 hr8 => ?_)
      subst hr8
      refine sd_lald hx hb hK hP 3 0 rfl rfl (k := 17 * q + mch k) (by omega) (by decide) dX5_through_26 ?_
      refine sd_last hx hb hK hP hD hS 11 0 rfl rfl (k := k) (by omega) (by decide) (ws2 := mw am tc tn mdg msz msh mth minv isf fsp mfo mwr mpl mny mch mcu (sd_up r1 k (msh (17 * q + mch k)))) (by rw [sd_stL]; exact rfl) dX5_through_27 (fun H locs hP hD hS => ?_)
      refine lv_iinc (v := nI (k + 1)) (lv' := [(3, .int (nI (k + 1))), (0, .ref (am 0)), (1, .int (nI q)), (2, .int (nI t))]) hx hb dX5_through_28 hl (k := 0) rfl (nI_1 _) (by decide) rfl (fun ls hl => ?_)
      refine lv_goto (tgt := 2) hx hb dX5_through_31 (by decide) ?_
      exact ihA (k := k + 1) (r1 := sd_up r1 k (msh (17 * q + mch k))) (hk := by omega) (hI := fun i hi => (Classical.em (i = k)).elim (fun e9 => by rw [e9, sd_up_s]) (fun e9 => by rw [sd_up_n _ _ e9]; exact hI i (by omega))) (H := H) (locs := locs) (hP := hP) (hD := hD) (hS := hS) (ls := ls) (hl := (lv_sub hl [0, 1, 2, 3] rfl)) (hk9 := by omega)

set_option maxHeartbeats 1000000 in
set_option maxRecDepth 100000 in
theorem k_X5_missed (l : Launch) (D : va_G) {am : Nat → Nat} {tc : Nat → ClassId} {tn : Int32} {mdg msz : Nat → Nat} {msh : Nat → FP} {mth : Nat → Bool} {minv : Nat → FP} {isf : Bool} {fsp : Nat} {mfo : Nat → FP} {mwr : Nat → Bool} {mpl : Nat → Nat} {mny : Nat} {mch : Nat → Nat} {mcu mro : Nat → FP} (q t : Nat) (hq : q < 8) (ht : t ≤ 8) (hsz : msz q ≤ 16) (hcu : ∀ k, t < k → k < 9 → mcu k = 0) (hpl : ∀ p, 1 ≤ p → p ≤ msz q → (fun j => mth (17 * q + j)) p = true → mpl (sd_cnt (fun j => mth (17 * q + j)) (p - 1)) = p) (hmy : mny = sd_cnt (fun j => mth (17 * q + j)) (msz q)) : Met l yX5_missed (Cond.code yX5_missed cX5_missed 5 (some .int) :: bg) { frames := 4, cells := 0, slots := 0, locals := 116 } (sd_R D vwCl (ty5 tc) (mw am tc tn mdg msz msh mth minv isf fsp mfo mwr mpl mny mch mcu mro) [.ref (am 0), .int (nI q), .int (nI t)]) (vp_Si (fun r => r = nI (sd_cnt (sd_ms (fun j => mth (17 * q + j)) (fun j => msh (17 * q + j)) mcu) (msz q)))) 0 0 (fun _ => False) := by
  refine Met.ofW (cc := cX5_missed) (maxL := 5) (ret := some .int) (by decide) rfl ?_
  intro p e s m args below meth c s₁ B hml hv
  obtain ⟨rfl, hP, hK⟩ := hv
  have hx := B.exec
  have hb := B.bytes
  have hr := B.returns
  have hts := atoms_spec (ws := Cond.code yX5_missed cX5_missed 5 (some .int) :: bg) B.pre
  have hown : s.vm.findClass RX5 = some m.cls := findClass_of_methodNamed B.named
  have hlocks := B.notSynchronized
  have hl := lv_entry ([.ref (am 0), .int (nI q), .int (nI t)]) (n := 5) (Nat.le_of_ble_eq_true rfl)
  rw [lg_entry_eq]
  generalize (lg_sl ([.ref (am 0), .int (nI q), .int (nI t)]) ++ List.replicate (5 - (lg_sl ([.ref (am 0), .int (nI q), .int (nI t)])).length) Slot.unset).toArray = ls at hl ⊢
  replace hl : lv_has ls 5 [(0, .ref (am 0)), (1, .int (nI q)), (2, .int (nI t))] := hl
  have hm16 := sd_cnt_le (fun j => mth (17 * q + j)) (msz q)
  rw [← hmy] at hm16
  have hrk := sd_rank (bad := fun p => decide (¬ msh (17 * q + p) = sd_ev mcu (sd_N p))) hpl (msz q) (Nat.le_refl _)
  rw [← hmy] at hrk
  obtain ⟨bad, hbad⟩ : ∃ bad : Nat → Bool, bad = (fun j => (fun p => decide (¬ msh (17 * q + p) = sd_ev mcu (sd_N p))) (mpl (j - 1))) := ⟨_, rfl⟩
  replace hrk : sd_cnt bad mny = sd_cnt (sd_ms (fun j => mth (17 * q + j)) (fun j => msh (17 * q + j)) mcu) (msz q) := by rw [hbad]; exact hrk
  refine lv_iconst (v := nI 0) hx hb dX5_missed_0 (by decide) ?_
  refine lv_istore_n (lv' := [(3, .int (nI 0)), (0, .ref (am 0)), (1, .int (nI q)), (2, .int (nI t))]) hx hb dX5_missed_1 rfl hl (by decide) rfl (fun ls hl => ?_)
  refine lv_iconst (v := nI 0) hx hb dX5_missed_2 (by decide) ?_
  refine lv_istore (lv' := [(4, .int (nI 0)), (3, .int (nI 0)), (0, .ref (am 0)), (1, .int (nI q)), (2, .int (nI t))]) hx hb dX5_missed_3 hl (by decide) rfl (fun ls hl => ?_)
  obtain ⟨k, hk, hl9⟩ : ∃ (k : Nat), (k ≤ mny) ∧ lv_has ls 5 [(4, .int (nI k)), (3, .int (nI (sd_cnt bad k))), (0, .ref (am 0)), (1, .int (nI q)), (2, .int (nI t))] := ⟨0, Nat.zero_le _, (lv_sub hl [0, 1, 2, 3, 4] rfl)⟩
  replace hl := hl9
  clear hl9
  obtain ⟨k9, hk9⟩ : ∃ k9 : Nat, mny < k + k9 := ⟨mny + 1, by omega⟩
  induction k9 generalizing k ls with
  | zero => exact absurd hk9 (by omega)
  | succ k9 ih =>
    refine lv_iload hx hb dX5_missed_5 (lv_at hl 0 rfl) ?_
    refine lv_aload_n hx hb dX5_missed_7 rfl (lv_at hl 2 rfl) ?_
    refine va_get (D := D) (ci := 5) (v := .int (nI mny)) (C := RX5) (T := TX5) (N := 15) hx hb hts (fun w h => mm (inX5 w h)) hown hK hP 0 rfl rfl 11 (by decide) (hts _ (mm wf_X5_110)) (fun _ h9 => h9) rfl dX5_missed_8 ?_
    refine sd_icmp_ge (tgt := 65) hx hb (by omega) (by omega) dX5_missed_11 (by decide) (fun c1 => ?_) (fun c1 => ?_)
    · refine lv_iload_n hx hb dX5_missed_65 rfl (lv_at hl 1 rfl) ?_
      exact W.iret hx hb hr (fun T9 hT9 hW => ⟨_, rfl, by rw [← hrk, show k = mny by omega], hT9⟩) (fun q h => nomatch h) dX5_missed_66
    · have hb9 := sd_cnt_le bad k
      have h8 := sd_rank_b hpl (r := k) (by omega)
      refine lv_iload_n hx hb dX5_missed_14 rfl (lv_at hl 1 rfl) ?_
      refine lv_aload_n hx hb dX5_missed_15 rfl (lv_at hl 2 rfl) ?_
      refine lv_aload_n hx hb dX5_missed_16 rfl (lv_at hl 2 rfl) ?_
      refine va_get (D := D) (ci := 5) (v := .ref (am 10)) (C := RX5) (T := TX5) (N := 15) hx hb hts (fun w h => mm (inX5 w h)) hown hK hP 0 rfl rfl 13 (by decide) (hts _ (mm wf_X5_39)) (fun _ h9 => h9) rfl dX5_missed_17 ?_
      refine lv_iload_n hx hb dX5_missed_20 rfl (lv_at hl 4 rfl) ?_
      refine lv_aload_n hx hb dX5_missed_21 rfl (lv_at hl 2 rfl) ?_
      refine va_get (D := D) (ci := 5) (v := .ref (am 8)) (C := RX5) (T := TX5) (N := 15) hx hb hts (fun w h => mm (inX5 w h)) hown hK hP 0 rfl rfl 10 (by decide) (hts _ (mm wf_X5_33)) (fun _ h9 => h9) rfl dX5_missed_22 ?_
      refine lv_iload hx hb dX5_missed_25 (lv_at hl 0 rfl) ?_
      refine sd_iald hx hb hK hP 8 2 rfl rfl (k := k) (by omega) (by decide) dX5_missed_27 ?_
      refine lv_i2l (v := lN (mpl k)) hx hb dX5_missed_28 (nI_l (by omega)) ?_
      refine sd_tol (y := sd_L (sd_N (mpl k))) ((sd_N_L (by omega)).symm) ?_
      refine sd_rl (va_runV (As := [.ref (am 10), .int (nI t), .long (sd_L (sd_N (mpl k)))]) (rest := [.int (nI (sd_cnt bad k))]) ⟨hx, hb, hml, hown, hts⟩ (k_X5_onCurve_c l D t (sd_N (mpl k)) ht) (sd_cwV hts wd_X5_onCurve wn_X5 wm_X5_95 wi_X5_onCurve ws_X5_onCurve nq_X5_onCurve rfl rfl ⟨Nat.le_of_ble_eq_true rfl, Nat.le_of_ble_eq_true rfl⟩) (sd_preVR hP hK (ci := 5) (q0 := 0) rfl rfl rfl) rfl rfl hl.1 rfl (lv_room (Nat.le_of_ble_eq_true rfl)) dX5_missed_29 ⟨Nat.zero_le _, Nat.zero_le _⟩) (fun r1 hr1 => ?_)
      subst hr1
      refine sd_tol (y := sd_L (sd_ev mcu (sd_N (mpl k)))) (by rw [← sd_ev_cut ht hcu]) ?_
      refine lv_aload_n hx hb dX5_missed_32 rfl (lv_at hl 2 rfl) ?_
      refine va_get (D := D) (ci := 5) (v := .ref (am 3)) (C := RX5) (T := TX5) (N := 15) hx hb hts (fun w h => mm (inX5 w h)) hown hK hP 0 rfl rfl 3 (by decide) (hts _ (mm wf_X5_16)) (fun _ h9 => h9) rfl dX5_missed_33 ?_
      refine lv_iload_n hx hb dX5_missed_36 rfl (lv_at hl 3 rfl) ?_
      refine lv_aload_n hx hb dX5_missed_37 rfl (lv_at hl 2 rfl) ?_
      refine va_get (D := D) (ci := 5) (v := .ref (am 8)) (C := RX5) (T := TX5) (N := 15) hx hb hts (fun w h => mm (inX5 w h)) hown hK hP 0 rfl rfl 10 (by decide) (hts _ (mm wf_X5_33)) (fun _ h9 => h9) rfl dX5_missed_38 ?_
      refine lv_iload hx hb dX5_missed_41 (lv_at hl 0 rfl) ?_
      refine sd_iald hx hb hK hP 8 2 rfl rfl (k := k) (by omega) (by decide) dX5_missed_43 ?_
      refine sd_ri (va_runS (As := [.int (nI q), .int (nI (mpl k))]) (rest := [.ref (am 3), .long (sd_L (sd_ev mcu (sd_N (mpl k)))), .int (nI (sd_cnt bad k))]) ⟨hx, hb, hml, hown, hts⟩ (k_X5_home l q (mpl k)) (sd_cwS hts wd_X5_home wn_X5 wm_X5_91 wi_X5_home nq_X5_home rfl rfl ⟨Nat.le_of_ble_eq_true rfl, Nat.le_of_ble_eq_true rfl⟩) sd_preN rfl rfl hl.1 rfl (lv_room (Nat.le_of_ble_eq_true rfl)) dX5_missed_44 ⟨Nat.zero_le _, Nat.zero_le _⟩) (fun r2 hr2 => ?_)
      subst hr2
      refine sd_lald hx hb hK hP 3 0 rfl rfl (k := 17 * q + mpl k) (by omega) (by decide) dX5_missed_47 ?_
      refine W.lcmp hx hb dX5_missed_48 ?_
      refine lv_if_eq (tgt := 56) hx hb dX5_missed_49 (by decide) (fun c2 => ?_) (fun c2 => ?_)
      · have c2 : (sd_L (sd_ev mcu (sd_N (mpl k)))) = (sd_L (msh (17 * q + mpl k))) := (lg_cmp_eq _ _).mp c2
        have c4 := sd_cnt_f (b := bad) (n := k) (by rw [hbad]; show decide (¬ msh (17 * q + mpl (k + 1 - 1)) = sd_ev mcu (sd_N (mpl (k + 1 - 1)))) = false; rw [Nat.add_sub_cancel, sd_L_inj c2]; exact decide_eq_false (fun z => z rfl))
        refine lv_iconst (v := nI 0) hx hb dX5_missed_56 (by decide) ?_
        refine sd_iadd hx hb dX5_missed_57 ?_
        refine sd_toi (y := nI (sd_cnt bad (k + 1))) (by rw [c4, Nat.add_zero]) ?_
        refine lv_istore_n (lv' := [(3, .int (nI (sd_cnt bad (k + 1)))), (4, .int (nI k)), (0, .ref (am 0)), (1, .int (nI q)), (2, .int (nI t))]) hx hb dX5_missed_58 rfl hl (by decide) rfl (fun ls hl => ?_)
        refine lv_iinc (v := nI (k + 1)) (lv' := [(4, .int (nI (k + 1))), (3, .int (nI (sd_cnt bad (k + 1)))), (0, .ref (am 0)), (1, .int (nI q)), (2, .int (nI t))]) hx hb dX5_missed_59 hl (k := 1) rfl (nI_1 _) (by decide) rfl (fun ls hl => ?_)
        refine lv_goto (tgt := 5) hx hb dX5_missed_62 (by decide) ?_
        exact ih (k := k + 1) (hk := by omega) (ls := ls) (hl := (lv_sub hl [0, 1, 2, 3, 4] rfl)) (hk9 := by omega)
      · have c2 : ¬ (sd_L (sd_ev mcu (sd_N (mpl k)))) = (sd_L (msh (17 * q + mpl k))) := fun q => c2 ((lg_cmp_eq _ _).mpr q)
        have c4 := sd_cnt_t (b := bad) (n := k) (by rw [hbad]; show decide (¬ msh (17 * q + mpl (k + 1 - 1)) = sd_ev mcu (sd_N (mpl (k + 1 - 1)))) = true; rw [Nat.add_sub_cancel]; exact decide_eq_true (fun z => c2 (by rw [z])))
        refine lv_iconst (v := nI 1) hx hb dX5_missed_52 (by decide) ?_
        refine lv_goto (tgt := 57) hx hb dX5_missed_53 (by decide) ?_
        refine sd_iadd hx hb dX5_missed_57 ?_
        refine sd_toi (y := nI (sd_cnt bad (k + 1))) (by rw [c4]) ?_
        refine lv_istore_n (lv' := [(3, .int (nI (sd_cnt bad (k + 1)))), (4, .int (nI k)), (0, .ref (am 0)), (1, .int (nI q)), (2, .int (nI t))]) hx hb dX5_missed_58 rfl hl (by decide) rfl (fun ls hl => ?_)
        refine lv_iinc (v := nI (k + 1)) (lv' := [(4, .int (nI (k + 1))), (3, .int (nI (sd_cnt bad (k + 1)))), (0, .ref (am 0)), (1, .int (nI q)), (2, .int (nI t))]) hx hb dX5_missed_59 hl (k := 1) rfl (nI_1 _) (by decide) rfl (fun ls hl => ?_)
        refine lv_goto (tgt := 5) hx hb dX5_missed_62 (by decide) ?_
        exact ih (k := k + 1) (hk := by omega) (ls := ls) (hl := (lv_sub hl [0, 1, 2, 3, 4] rfl)) (hk9 := by omega)

/-! the reference: find -/
theorem m_wr_step {n k : Nat} {th : Nat → Bool} {v f : Nat → FP} {mp : Nat → Nat} {w : Nat → Bool} (hpl : ∀ p, 1 ≤ p → p ≤ n → th p = true → mp (sd_cnt th (p - 1)) = p) (hk : k < sd_cnt th n) (hI : ∀ p, 1 ≤ p → p ≤ 16 → w p = (sd_mk n th v f p && decide (sd_cnt th (p - 1) < k))) {b : Bool} (hb : b = decide (¬ v (mp k) = sd_ev f (sd_N (mp k)))) :
    ∀ p, 1 ≤ p → p ≤ 16 → sd_up w (mp k) b p = (sd_mk n th v f p && decide (sd_cnt th (p - 1) < k + 1)) := by
  intro p h1 h2
  have z := sd_rank_b hpl hk
  by_cases e : p = mp k
  · rw [e, sd_up_s, sd_mk_in th v f z.2.1, z.2.2.2, decide_eq_true (Nat.lt_succ_self k), Bool.and_true, sd_ms, z.2.2.1, Bool.true_and, hb]
  · rw [sd_up_n _ _ e, hI p h1 h2]
    by_cases e2 : sd_cnt th (p - 1) = k
    · have e3 : sd_mk n th v f p = false := by
        unfold sd_mk sd_ms
        by_cases e4 : p ≤ n
        · cases e5 : th p with
          | true => exact absurd (by rw [← e2]; exact (hpl p h1 e4 e5).symm) e
          | false => rw [Bool.false_and, Bool.and_false]
        · rw [decide_eq_false e4, Bool.false_and]
      rw [e3, Bool.false_and, Bool.false_and]
    · rw [show decide (sd_cnt th (p - 1) < k) = decide (sd_cnt th (p - 1) < k + 1) from decide_eq_decide.mpr (by omega)]
theorem m_wr_end {n : Nat} {th : Nat → Bool} {v f : Nat → FP} {w : Nat → Bool} (hI : ∀ p, 1 ≤ p → p ≤ 16 → w p = (sd_mk n th v f p && decide (sd_cnt th (p - 1) < sd_cnt th n))) : ∀ p, 1 ≤ p → p ≤ 16 → w p = sd_mk n th v f p := by
  intro p h1 h2
  rw [hI p h1 h2]
  by_cases e : sd_cnt th (p - 1) < sd_cnt th n
  · rw [decide_eq_true e, Bool.and_true]
  · have e3 : sd_mk n th v f p = false := by
      unfold sd_mk sd_ms
      by_cases e4 : p ≤ n
      · cases e5 : th p with
        | true =>
          have a := sd_cnt_t (b := th) (n := p - 1) (by rw [Nat.sub_add_cancel h1]; exact e5)
          have b := sd_cnt_mono th e4
          rw [Nat.sub_add_cancel h1] at a
          omega
        | false => rw [Bool.false_and, Bool.and_false]
      · rw [decide_eq_false e4, Bool.false_and]
    rw [e3, Bool.false_and]

set_option maxHeartbeats 1000000 in
set_option maxRecDepth 100000 in
theorem k_X5_find (l : Launch) (D : va_G) {am : Nat → Nat} {tc : Nat → ClassId} {tn : Int32} {mdg msz : Nat → Nat} {msh : Nat → FP} {mth : Nat → Bool} {minv : Nat → FP} {isf : Bool} {fsp : Nat} {mfo : Nat → FP} {mwr : Nat → Bool} {mpl : Nat → Nat} {mny : Nat} {mch : Nat → Nat} {mcu mro : Nat → FP} (sz : Nat) (x y : Int32) (hok : ∀ q, q < 8 → mdg q ≤ 8 ∧ msz q ≤ 16) (hinv : ∀ k, 1 ≤ k → k ≤ 16 → sd_N k * minv k = 1) : Met l yX5_find (Cond.code yX5_find cX5_find 6 (some .int) :: bg) { frames := 6, cells := 0, slots := 0, locals := 180 } (sd_Wr D vwCl (ty5 tc) (mw am tc tn mdg msz msh mth minv isf fsp mfo mwr mpl mny mch mcu mro) sz [.ref (am 0), .int x, .int y]) (va_Qi (S := MS) (fun r u => M_find x y (tn, mdg, msz, msh, mth, minv, isf, fsp, mfo, mwr, mpl, mny, mch, mcu, mro) r u) (sd_B D vwCl (ty5 tc) (va_A (mw am tc tn mdg msz msh mth minv isf fsp mfo mwr mpl mny mch mcu mro) sz) (fun u => mwt am tc u)) (va_A (mw am tc tn mdg msz msh mth minv isf fsp mfo mwr mpl mny mch mcu mro) sz)) 0 0 (va_A (mw am tc tn mdg msz msh mth minv isf fsp mfo mwr mpl mny mch mcu mro) sz) := by
  refine Met.ofW (cc := cX5_find) (maxL := 6) (ret := some .int) (by decide) rfl ?_
  intro p e s m args below meth c s₁ B hml hv
  obtain ⟨rfl, hsz, hP, hK, hD0⟩ := hv
  have hx := B.exec
  have hb := B.bytes
  have hr := B.returns
  have hts := atoms_spec (ws := Cond.code yX5_find cX5_find 6 (some .int) :: bg) B.pre
  have hown : s.vm.findClass RX5 = some m.cls := findClass_of_methodNamed B.named
  have hlocks := B.notSynchronized
  subst hsz
  have hD := hD0.self (sz := s.heap.size)
  generalize hAe : va_A (mw am tc tn mdg msz msh mth minv isf fsp mfo mwr mpl mny mch mcu mro) s.heap.size = A at hD ⊢
  have hA : ∀ q : Nat, s.heap.size ≤ q → A q := fun q h => by rw [← hAe]; exact Or.inr h
  have hS : va_S A s.heap s.heap [] := va_S.rf
  have hl := lv_entry ([.ref (am 0), .int x, .int y]) (n := 6) (Nat.le_of_ble_eq_true rfl)
  rw [lg_entry_eq]
  generalize (lg_sl ([.ref (am 0), .int x, .int y]) ++ List.replicate (6 - (lg_sl ([.ref (am 0), .int x, .int y])).length) Slot.unset).toArray = ls at hl ⊢
  replace hl : lv_has ls 6 [(0, .ref (am 0)), (1, .int x), (2, .int y)] := hl
  refine lv_iload_n hx hb dX5_find_0 rfl (lv_at hl 1 rfl) ?_
  refine sd_ri (va_runS (As := [.int x]) (rest := []) ⟨hx, hb, hml, hown, hts⟩ (k_X5_isSplit l x) (sd_cwS hts wd_X5_isSplit wn_X5 wm_X5_77 wi_X5_isSplit nq_X5_isSplit rfl rfl ⟨Nat.le_of_ble_eq_true rfl, Nat.le_of_ble_eq_true rfl⟩) sd_preN rfl rfl hl.1 rfl (lv_room (Nat.le_of_ble_eq_true rfl)) dX5_find_1 ⟨Nat.zero_le _, Nat.zero_le _⟩) (fun r1 hr1 => ?_)
  subst hr1
  refine sd_if_eqB (tgt := 17) hx hb dX5_find_4 (by decide) (fun c1 => ?_) (fun c1 => ?_)
  · refine lv_aload_n hx hb dX5_find_17 rfl (lv_at hl 0 rfl) ?_
    refine lv_iconst (v := nI 1) hx hb dX5_find_18 (by decide) ?_
    refine sd_wi (va_runV (As := [.int (nI 1)]) (rest := []) ⟨hx, hb, hml, hown, hts⟩ (k_X5_raise l D _ (nI 1)) (sd_cwV hts wd_X5_raise wn_X5 wm_X5_120 wi_X5_raise ws_X5_raise nq_X5_raise rfl rfl ⟨Nat.le_of_ble_eq_true rfl, Nat.le_of_ble_eq_true rfl⟩) (sd_preVW hP hK hD (ci := 5) (q0 := 0) rfl rfl rfl) rfl rfl hl.1 rfl (lv_room (Nat.le_of_ble_eq_true rfl)) dX5_find_19 ⟨Nat.zero_le _, Nat.zero_le _⟩) hD hS hA (fun r2 u3 H locs hu3 hP hD hS => ?_)
    replace hP : va_P D vwCl (mw am tc (nI 1) mdg msz msh mth minv isf fsp mfo mwr mpl mny mch mcu mro) H := hP
    replace hD : va_D A (mw am tc (nI 1) mdg msz msh mth minv isf fsp mfo mwr mpl mny mch mcu mro) := hD
    exact W.iret hx hb hr (fun T9 hT9 hW => ⟨⟨_, (nI 1, mdg, msz, msh, mth, minv, isf, fsp, mfo, mwr, mpl, mny, mch, mcu, mro), rfl, ⟨rfl, rfl, rfl, rfl, rfl, Or.inl ⟨fun ⟨q2, e2, hv⟩ => sd_ix_none (Option.isNone_iff_eq_none.mp (Option.isSome_eq_false_iff.mp c1)) hv.1 hv.2.1, rfl, ⟨rfl, rfl, rfl, rfl, rfl⟩⟩⟩, by rw [hT9]; exact hP, va_K.moved hW.alike hK, hD⟩, hS.F hT9⟩) hS.2.2 dX5_find_22
  · obtain ⟨q, hix⟩ := Option.isSome_iff_exists.mp c1
    obtain ⟨hq, hxq⟩ := sd_ix_some hix
    clear hix c1
    subst hxq
    have hokq := hok q hq
    refine lv_iload_n hx hb dX5_find_7 rfl (lv_at hl 2 rfl) ?_
    refine lv_if_lt (tgt := 17) hx hb dX5_find_8 (by decide) (fun c1 => ?_) (fun c1 => ?_)
    · refine lv_aload_n hx hb dX5_find_17 rfl (lv_at hl 0 rfl) ?_
      refine lv_iconst (v := nI 1) hx hb dX5_find_18 (by decide) ?_
      refine sd_wi (va_runV (As := [.int (nI 1)]) (rest := []) ⟨hx, hb, hml, hown, hts⟩ (k_X5_raise l D _ (nI 1)) (sd_cwV hts wd_X5_raise wn_X5 wm_X5_120 wi_X5_raise ws_X5_raise nq_X5_raise rfl rfl ⟨Nat.le_of_ble_eq_true rfl, Nat.le_of_ble_eq_true rfl⟩) (sd_preVW hP hK hD (ci := 5) (q0 := 0) rfl rfl rfl) rfl rfl hl.1 rfl (lv_room (Nat.le_of_ble_eq_true rfl)) dX5_find_19 ⟨Nat.zero_le _, Nat.zero_le _⟩) hD hS hA (fun r4 u5 H locs hu5 hP hD hS => ?_)
      replace hP : va_P D vwCl (mw am tc (nI 1) mdg msz msh mth minv isf fsp mfo mwr mpl mny mch mcu mro) H := hP
      replace hD : va_D A (mw am tc (nI 1) mdg msz msh mth minv isf fsp mfo mwr mpl mny mch mcu mro) := hD
      exact W.iret hx hb hr (fun T9 hT9 hW => ⟨⟨_, (nI 1, mdg, msz, msh, mth, minv, isf, fsp, mfo, mwr, mpl, mny, mch, mcu, mro), rfl, ⟨rfl, rfl, rfl, rfl, rfl, Or.inl ⟨fun ⟨q2, e2, hv⟩ => absurd c1 (by rw [hv.2.2.2.1]; exact nI_pos (by have := hv.2.2.1; omega)), rfl, ⟨rfl, rfl, rfl, rfl, rfl⟩⟩⟩, by rw [hT9]; exact hP, va_K.moved hW.alike hK, hD⟩, hS.F hT9⟩) hS.2.2 dX5_find_22
    · obtain ⟨ee, he9, rfl⟩ := nI_of c1
      refine lv_iload_n hx hb dX5_find_11 rfl (lv_at hl 2 rfl) ?_
      refine lv_bipush (v := nI 7) hx hb dX5_find_12 (by decide) ?_
      refine sd_icmp_le (tgt := 23) hx hb (by omega) (by omega) dX5_find_14 (by decide) (fun c2 => ?_) (fun c2 => ?_)
      · refine lv_aload_n hx hb dX5_find_23 rfl (lv_at hl 0 rfl) ?_
        refine lv_iconst (v := nI 0) hx hb dX5_find_24 (by decide) ?_
        refine sd_put (ci := 5) (C := RX5) (T := TX5) (N := 15) hx hb hts (fun w h => mm (inX5 w h)) tyX5 tyX5_ok nmX5 hown hK hP hD hS 0 rfl rfl 11 (by decide) (hts _ (mm wf_X5_110)) rfl rfl rfl rfl (Nat.le_of_ble_eq_true rfl) rfl (ws2 := mw am tc tn mdg msz msh mth minv isf fsp mfo mwr mpl 0 mch mcu mro) (rfl) dX5_find_25 (fun H locs hP hD hS => ?_)
        refine lv_iconst (v := nI 1) hx hb dX5_find_28 (by decide) ?_
        refine lv_istore_n (lv' := [(3, .int (nI 1)), (0, .ref (am 0)), (1, .int (nI q)), (2, .int (nI ee))]) hx hb dX5_find_29 rfl hl (by decide) rfl (fun ls hl => ?_)
        obtain ⟨k, mp, my, hk, hmy, hpl, hP9, hD9, hl9⟩ : ∃ (k : Nat) (mp : Nat → Nat) (my : Nat), (1 ≤ k ∧ k ≤ msz q + 1) ∧ (my = sd_cnt (fun j => mth (17 * q + j)) (k - 1)) ∧ (∀ p, 1 ≤ p → p < k → (fun j => mth (17 * q + j)) p = true → mp (sd_cnt (fun j => mth (17 * q + j)) (p - 1)) = p) ∧ va_P D vwCl (mw am tc tn mdg msz msh mth minv isf fsp mfo mwr mp my mch mcu mro) H ∧ va_D A (mw am tc tn mdg msz msh mth minv isf fsp mfo mwr mp my mch mcu mro) ∧ lv_has ls 6 [(3, .int (nI k)), (0, .ref (am 0)), (1, .int (nI q)), (2, .int (nI ee))] := ⟨1, mpl, 0, ⟨Nat.le_refl 1, by omega⟩, rfl, fun p h1 h2 => absurd h1 (by omega), hP, hD, (lv_sub hl [0, 1, 2, 3] rfl)⟩
        replace hl := hl9
        clear hl9
        replace hP := hP9
        replace hD := hD9
        clear hP9 hD9
        obtain ⟨k9, hk9⟩ : ∃ k9 : Nat, msz q + 1 < k + k9 := ⟨msz q + 1, by omega⟩
        induction k9 generalizing k mp my ls H locs with
        | zero => exact absurd hk9 (by omega)
        | succ k9 ihA =>
          have hcl := sd_cnt_le (fun j => mth (17 * q + j)) (k - 1)
          rw [← hmy] at hcl
          refine lv_iload_n hx hb dX5_find_30 rfl (lv_at hl 0 rfl) ?_
          refine lv_aload_n hx hb dX5_find_31 rfl (lv_at hl 1 rfl) ?_
          refine va_get (D := D) (ci := 5) (v := .ref (am 2)) (C := RX5) (T := TX5) (N := 15) hx hb hts (fun w h => mm (inX5 w h)) hown hK hP 0 rfl rfl 2 (by decide) (hts _ (mm wf_X5_13)) (fun _ h9 => h9) rfl dX5_find_32 ?_
          refine lv_iload_n hx hb dX5_find_35 rfl (lv_at hl 2 rfl) ?_
          refine sd_iald hx hb hK hP 2 2 rfl rfl (k := q) (by omega) (by decide) dX5_find_36 ?_
          refine sd_icmp_gt (tgt := 82) hx hb (by omega) (by omega) dX5_find_37 (by decide) (fun c3 => ?_) (fun c3 => ?_)
          · obtain rfl : k = msz q + 1 := by omega
            rw [Nat.add_sub_cancel] at hmy
            have hpl : ∀ p, 1 ≤ p → p ≤ msz q → (fun j => mth (17 * q + j)) p = true → mp (sd_cnt (fun j => mth (17 * q + j)) (p - 1)) = p := fun p h1 h2 h3 => hpl p h1 (by omega) h3
            refine lv_aload_n hx hb dX5_find_82 rfl (lv_at hl 1 rfl) ?_
            refine va_get (D := D) (ci := 5) (v := .ref (am 1)) (C := RX5) (T := TX5) (N := 15) hx hb hts (fun w h => mm (inX5 w h)) hown hK hP 0 rfl rfl 1 (by decide) (hts _ (mm wf_X5_7)) (fun _ h9 => h9) rfl dX5_find_83 ?_
            refine lv_iload_n hx hb dX5_find_86 rfl (lv_at hl 2 rfl) ?_
            refine sd_iald hx hb hK hP 1 2 rfl rfl (k := q) (by omega) (by decide) dX5_find_87 ?_
            refine lv_istore_n (lv' := [(3, .int (nI (mdg q))), (0, .ref (am 0)), (1, .int (nI q)), (2, .int (nI ee))]) hx hb dX5_find_88 rfl hl (by decide) rfl (fun ls hl => ?_)
            refine lv_aload_n hx hb dX5_find_89 rfl (lv_at hl 1 rfl) ?_
            refine va_get (D := D) (ci := 5) (v := .int (nI my)) (C := RX5) (T := TX5) (N := 15) hx hb hts (fun w h => mm (inX5 w h)) hown hK hP 0 rfl rfl 11 (by decide) (hts _ (mm wf_X5_110)) (fun _ h9 => h9) rfl dX5_find_90 ?_
            refine lv_iload_n hx hb dX5_find_93 rfl (lv_at hl 0 rfl) ?_
            refine lv_iconst (v := nI 1) hx hb dX5_find_94 (by decide) ?_
            refine sd_iadd hx hb dX5_find_95 ?_
            refine lv_iconst (v := nI 2) hx hb dX5_find_96 (by decide) ?_
            refine lv_iload_n hx hb dX5_find_97 rfl (lv_at hl 3 rfl) ?_
            refine sd_imul hx hb dX5_find_98 ?_
            refine sd_iadd hx hb dX5_find_99 ?_
            refine sd_icmp_ge (tgt := 109) hx hb (by omega) (by omega) dX5_find_100 (by decide) (fun c4 => ?_) (fun c4 => ?_)
            · have hfv : m_fv (tn, mdg, msz, msh, mth, minv, isf, fsp, mfo, mwr, mpl, mny, mch, mcu, mro) (nI q) (nI ee) q ee := ⟨hq, rfl, c2, rfl, by show mdg q + 1 + 2 * ee ≤ sd_cnt (fun j => mth (17 * q + j)) (msz q); omega⟩
              refine lv_aload_n hx hb dX5_find_109 rfl (lv_at hl 1 rfl) ?_
              refine lv_iload_n hx hb dX5_find_110 rfl (lv_at hl 2 rfl) ?_
              refine lv_iload_n hx hb dX5_find_111 rfl (lv_at hl 0 rfl) ?_
              refine lv_iload_n hx hb dX5_find_112 rfl (lv_at hl 3 rfl) ?_
              refine sd_wi (va_runV (As := [.int (nI q), .int (nI (mdg q)), .int (nI ee)]) (rest := []) ⟨hx, hb, hml, hown, hts⟩ (k_X5_isOne l D _ q (mdg q) ee hq hokq.1 hokq.2 (by omega) hpl hmy hinv) (sd_cwV hts wd_X5_isOne wn_X5 wm_X5_124 wi_X5_isOne ws_X5_isOne nq_X5_isOne rfl rfl ⟨Nat.le_of_ble_eq_true rfl, Nat.le_of_ble_eq_true rfl⟩) (sd_preVW hP hK hD (ci := 5) (q0 := 0) rfl rfl rfl) rfl rfl hl.1 rfl (lv_room (Nat.le_of_ble_eq_true rfl)) dX5_find_113 ⟨Nat.zero_le _, Nat.zero_le _⟩) hD hS hA (fun r6 uO H locs huO hP hD hS => ?_)
              replace hP : va_P D vwCl (mw am tc tn mdg msz msh mth minv isf fsp mfo mwr mp my uO.1 uO.2.1 uO.2.2) H := hP
              replace hD : va_D A (mw am tc tn mdg msz msh mth minv isf fsp mfo mwr mp my uO.1 uO.2.1 uO.2.2) := hD
              obtain ⟨b9, rfl, hO1, hO2⟩ := huO
              refine sd_if_neB (tgt := 125) hx hb dX5_find_116 (by decide) (fun c5 => ?_) (fun c5 => ?_)
              · have hFd := hO1 c5
                generalize uO.2.1 = cA at hP hD hFd
                refine lv_aload_n hx hb dX5_find_125 rfl (lv_at hl 1 rfl) ?_
                refine lv_iconst (v := nI 0) hx hb dX5_find_126 (by decide) ?_
                refine sd_put (ci := 5) (C := RX5) (T := TX5) (N := 15) hx hb hts (fun w h => mm (inX5 w h)) tyX5 tyX5_ok nmX5 hown hK hP hD hS 0 rfl rfl 0 (by decide) (hts _ (mm wf_X5_51)) rfl rfl rfl rfl (Nat.le_of_ble_eq_true rfl) rfl (ws2 := mw am tc (nI 0) mdg msz msh mth minv isf fsp mfo mwr mp my uO.1 cA uO.2.2) (rfl) dX5_find_127 (fun H locs hP hD hS => ?_)
                refine lv_aload_n hx hb dX5_find_130 rfl (lv_at hl 1 rfl) ?_
                refine lv_iconst (v := nI 1) hx hb dX5_find_131 (by decide) ?_
                refine sd_tob (b := true) rfl ?_
                refine sd_put (ci := 5) (C := RX5) (T := TX5) (N := 15) hx hb hts (fun w h => mm (inX5 w h)) tyX5 tyX5_ok nmX5 hown hK hP hD hS 0 rfl rfl 6 (by decide) (hts _ (mm wf_X5_128)) rfl rfl (bI_nar _) (sd_fitB _) (Nat.le_of_ble_eq_true rfl) rfl (ws2 := mw am tc (nI 0) mdg msz msh mth minv true fsp mfo mwr mp my uO.1 cA uO.2.2) (rfl) dX5_find_132 (fun H locs hP hD hS => ?_)
                refine lv_aload_n hx hb dX5_find_135 rfl (lv_at hl 1 rfl) ?_
                refine lv_iload_n hx hb dX5_find_136 rfl (lv_at hl 2 rfl) ?_
                refine sd_put (ci := 5) (C := RX5) (T := TX5) (N := 15) hx hb hts (fun w h => mm (inX5 w h)) tyX5 tyX5_ok nmX5 hown hK hP hD hS 0 rfl rfl 7 (by decide) (hts _ (mm wf_X5_132)) rfl rfl rfl rfl (Nat.le_of_ble_eq_true rfl) rfl (ws2 := mw am tc (nI 0) mdg msz msh mth minv true q mfo mwr mp my uO.1 cA uO.2.2) (rfl) dX5_find_137 (fun H locs hP hD hS => ?_)
                refine lv_iconst (v := nI 0) hx hb dX5_find_140 (by decide) ?_
                refine lv_istore (lv' := [(4, .int (nI 0)), (3, .int (nI (mdg q))), (0, .ref (am 0)), (1, .int (nI q)), (2, .int (nI ee))]) hx hb dX5_find_141 hl (by decide) rfl (fun ls hl => ?_)
                obtain ⟨k, fo, hk, hF, hP9, hD9, hl9⟩ : ∃ (k : Nat) (fo : Nat → FP), (k ≤ 9) ∧ (∀ i, i < k → fo i = cA i) ∧ va_P D vwCl (mw am tc (nI 0) mdg msz msh mth minv true q fo mwr mp my uO.1 cA uO.2.2) H ∧ va_D A (mw am tc (nI 0) mdg msz msh mth minv true q fo mwr mp my uO.1 cA uO.2.2) ∧ lv_has ls 6 [(4, .int (nI k)), (0, .ref (am 0)), (1, .int (nI q))] := ⟨0, mfo, Nat.zero_le _, fun i hi => absurd hi (Nat.not_lt_zero i), hP, hD, (lv_sub hl [0, 2, 3] rfl)⟩
                replace hl := hl9
                clear hl9
                replace hP := hP9
                replace hD := hD9
                clear hP9 hD9
                obtain ⟨k9, hk9⟩ : ∃ k9 : Nat, 9 < k + k9 := ⟨10, by omega⟩
                induction k9 generalizing k fo ls H locs with
                | zero => exact absurd hk9 (by omega)
                | succ k9 ihB =>
                  refine lv_iload hx hb dX5_find_143 (lv_at hl 0 rfl) ?_
                  refine lv_bipush (v := nI 8) hx hb dX5_find_145 (by decide) ?_
                  refine sd_icmp_gt (tgt := 170) hx hb (by omega) (by omega) dX5_find_147 (by decide) (fun c6 => ?_) (fun c6 => ?_)
                  · have hF9 : ∀ i, i < 9 → fo i = cA i := fun i hi => hF i (by omega)
                    have hFo : sd_Fd (mdg q) (msz q) ee (fun j => mth (17 * q + j)) (fun j => msh (17 * q + j)) fo := ⟨fun k h1 h2 => by rw [hF9 k h2]; exact hFd.1 k h1 h2, by
                      have e3 : sd_cnt (sd_ms (fun j => mth (17 * q + j)) (fun j => msh (17 * q + j)) fo) (msz q) = sd_cnt (sd_ms (fun j => mth (17 * q + j)) (fun j => msh (17 * q + j)) cA) (msz q) := sd_cnt_congr _ (fun j _ _ => by
                        have e4 : sd_ev fo (sd_N j) = sd_ev cA (sd_N j) := sd_pv_congr _ 9 0 (fun k _ hk => hF9 k (by omega))
                        unfold sd_ms
                        rw [e4])
                      rw [e3]
                      exact hFd.2⟩
                    refine lv_iconst (v := nI 0) hx hb dX5_find_170 (by decide) ?_
                    refine lv_istore (lv' := [(4, .int (nI 0)), (0, .ref (am 0)), (1, .int (nI q))]) hx hb dX5_find_171 hl (by decide) rfl (fun ls hl => ?_)
                    obtain ⟨k, wr, hk, hW0, hP9, hD9, hl9⟩ : ∃ (k : Nat) (wr : Nat → Bool), (k ≤ 17) ∧ (∀ i, i < k → wr i = false) ∧ va_P D vwCl (mw am tc (nI 0) mdg msz msh mth minv true q fo wr mp my uO.1 cA uO.2.2) H ∧ va_D A (mw am tc (nI 0) mdg msz msh mth minv true q fo wr mp my uO.1 cA uO.2.2) ∧ lv_has ls 6 [(4, .int (nI k)), (0, .ref (am 0)), (1, .int (nI q))] := ⟨0, mwr, Nat.zero_le _, fun i hi => absurd hi (Nat.not_lt_zero i), hP, hD, (lv_sub hl [0, 1, 2] rfl)⟩
                    replace hl := hl9
                    clear hl9
                    replace hP := hP9
                    replace hD := hD9
                    clear hP9 hD9
                    obtain ⟨k9, hk9⟩ : ∃ k9 : Nat, 17 < k + k9 := ⟨18, by omega⟩
                    induction k9 generalizing k wr ls H locs with
                    | zero => exact absurd hk9 (by omega)
                    | succ k9 ihC =>
                      refine lv_iload hx hb dX5_find_173 (lv_at hl 0 rfl) ?_
                      refine lv_bipush (v := nI 16) hx hb dX5_find_175 (by decide) ?_
                      refine sd_icmp_gt (tgt := 194) hx hb (by omega) (by omega) dX5_find_177 (by decide) (fun c7 => ?_) (fun c7 => ?_)
                      · have hrk := sd_rank (bad := fun p => decide (¬ msh (17 * q + p) = sd_ev fo (sd_N p))) hpl (msz q) (Nat.le_refl _)
                        rw [← hmy] at hrk
                        obtain ⟨bad, hbad⟩ : ∃ bad : Nat → Bool, bad = (fun j => (fun p => decide (¬ msh (17 * q + p) = sd_ev fo (sd_N p))) (mp (j - 1))) := ⟨_, rfl⟩
                        replace hrk : sd_cnt bad my = sd_cnt (sd_ms (fun j => mth (17 * q + j)) (fun j => msh (17 * q + j)) fo) (msz q) := by rw [hbad]; exact hrk
                        have hW9 : ∀ p, 1 ≤ p → p ≤ 16 → wr p = (sd_mk (msz q) (fun j => mth (17 * q + j)) (fun j => msh (17 * q + j)) fo p && decide (sd_cnt (fun j => mth (17 * q + j)) (p - 1) < 0)) := fun p h1 h2 => by rw [hW0 p (by omega), decide_eq_false (Nat.not_lt_zero _), Bool.and_false]
                        refine lv_iconst (v := nI 0) hx hb dX5_find_194 (by decide) ?_
                        refine lv_istore (lv' := [(4, .int (nI 0)), (0, .ref (am 0)), (1, .int (nI q))]) hx hb dX5_find_195 hl (by decide) rfl (fun ls hl => ?_)
                        refine lv_iconst (v := nI 0) hx hb dX5_find_197 (by decide) ?_
                        refine lv_istore (lv' := [(5, .int (nI 0)), (4, .int (nI 0)), (0, .ref (am 0)), (1, .int (nI q))]) hx hb dX5_find_198 hl (by decide) rfl (fun ls hl => ?_)
                        obtain ⟨k, wr2, hk, hWr, hP9, hD9, hl9⟩ : ∃ (k : Nat) (wr2 : Nat → Bool), (k ≤ my) ∧ (∀ p, 1 ≤ p → p ≤ 16 → wr2 p = (sd_mk (msz q) (fun j => mth (17 * q + j)) (fun j => msh (17 * q + j)) fo p && decide (sd_cnt (fun j => mth (17 * q + j)) (p - 1) < k))) ∧ va_P D vwCl (mw am tc (nI 0) mdg msz msh mth minv true q fo wr2 mp my uO.1 cA uO.2.2) H ∧ va_D A (mw am tc (nI 0) mdg msz msh mth minv true q fo wr2 mp my uO.1 cA uO.2.2) ∧ lv_has ls 6 [(5, .int (nI k)), (4, .int (nI (sd_cnt bad k))), (0, .ref (am 0)), (1, .int (nI q))] := ⟨0, wr, Nat.zero_le _, hW9, hP, hD, (lv_sub hl [0, 1, 2, 3] rfl)⟩
                        replace hl := hl9
                        clear hl9
                        replace hP := hP9
                        replace hD := hD9
                        clear hP9 hD9
                        obtain ⟨k9, hk9⟩ : ∃ k9 : Nat, my < k + k9 := ⟨my + 1, by omega⟩
                        induction k9 generalizing k wr2 ls H locs with
                        | zero => exact absurd hk9 (by omega)
                        | succ k9 ihD =>
                          refine lv_iload hx hb dX5_find_200 (lv_at hl 0 rfl) ?_
                          refine lv_aload_n hx hb dX5_find_202 rfl (lv_at hl 2 rfl) ?_
                          refine va_get (D := D) (ci := 5) (v := .int (nI my)) (C := RX5) (T := TX5) (N := 15) hx hb hts (fun w h => mm (inX5 w h)) hown hK hP 0 rfl rfl 11 (by decide) (hts _ (mm wf_X5_110)) (fun _ h9 => h9) rfl dX5_find_203 ?_
                          refine sd_icmp_ge (tgt := 295) hx hb (by omega) (by omega) dX5_find_206 (by decide) (fun c8 => ?_) (fun c8 => ?_)
                          · have hkm : k = my := by omega
                            rw [hkm, hmy] at hWr
                            refine lv_iload hx hb dX5_find_295 (lv_at hl 1 rfl) ?_
                            exact W.iret hx hb hr (fun T9 hT9 hW => ⟨⟨_, (nI 0, mdg, msz, msh, mth, minv, true, q, fo, wr2, mp, my, uO.1, cA, uO.2.2), rfl, ⟨rfl, rfl, rfl, rfl, rfl, Or.inr (Or.inr ⟨q, ee, hfv, hFo, rfl, rfl, rfl, m_wr_end hWr, by rw [hkm, hrk]⟩)⟩, by rw [hT9]; exact hP, va_K.moved hW.alike hK, hD⟩, hS.F hT9⟩) hS.2.2 dX5_find_297
                          · have hb9 := sd_cnt_le bad k
                            have h8 := sd_rank_b hpl (r := k) (by omega)
                            refine lv_aload_n hx hb dX5_find_209 rfl (lv_at hl 2 rfl) ?_
                            refine va_get (D := D) (ci := 5) (v := .ref (am 7)) (C := RX5) (T := TX5) (N := 15) hx hb hts (fun w h => mm (inX5 w h)) hown hK hP 0 rfl rfl 9 (by decide) (hts _ (mm wf_X5_30)) (fun _ h9 => h9) rfl dX5_find_210 ?_
                            refine lv_aload_n hx hb dX5_find_213 rfl (lv_at hl 2 rfl) ?_
                            refine va_get (D := D) (ci := 5) (v := .ref (am 8)) (C := RX5) (T := TX5) (N := 15) hx hb hts (fun w h => mm (inX5 w h)) hown hK hP 0 rfl rfl 10 (by decide) (hts _ (mm wf_X5_33)) (fun _ h9 => h9) rfl dX5_find_214 ?_
                            refine lv_iload hx hb dX5_find_217 (lv_at hl 0 rfl) ?_
                            refine sd_iald hx hb hK hP 8 2 rfl rfl (k := k) (by omega) (by decide) dX5_find_219 ?_
                            refine lv_aload_n hx hb dX5_find_220 rfl (lv_at hl 2 rfl) ?_
                            refine lv_aload_n hx hb dX5_find_221 rfl (lv_at hl 2 rfl) ?_
                            refine va_get (D := D) (ci := 5) (v := .ref (am 6)) (C := RX5) (T := TX5) (N := 15) hx hb hts (fun w h => mm (inX5 w h)) hown hK hP 0 rfl rfl 8 (by decide) (hts _ (mm wf_X5_27)) (fun _ h9 => h9) rfl dX5_find_222 ?_
                            refine lv_bipush (v := nI 8) hx hb dX5_find_225 (by decide) ?_
                            refine lv_aload_n hx hb dX5_find_227 rfl (lv_at hl 2 rfl) ?_
                            refine va_get (D := D) (ci := 5) (v := .ref (am 8)) (C := RX5) (T := TX5) (N := 15) hx hb hts (fun w h => mm (inX5 w h)) hown hK hP 0 rfl rfl 10 (by decide) (hts _ (mm wf_X5_33)) (fun _ h9 => h9) rfl dX5_find_228 ?_
                            refine lv_iload hx hb dX5_find_231 (lv_at hl 0 rfl) ?_
                            refine sd_iald hx hb hK hP 8 2 rfl rfl (k := k) (by omega) (by decide) dX5_find_233 ?_
                            refine lv_i2l (v := lN (mp k)) hx hb dX5_find_234 (nI_l (by omega)) ?_
                            refine sd_tol (y := sd_L (sd_N (mp k))) ((sd_N_L (by omega)).symm) ?_
                            refine sd_rl (va_runV (As := [.ref (am 6), .int (nI 8), .long (sd_L (sd_N (mp k)))]) (rest := [.int (nI (mp k)), .ref (am 7)]) ⟨hx, hb, hml, hown, hts⟩ (k_X5_onCurve_f l D 8 (sd_N (mp k)) (by decide)) (sd_cwV hts wd_X5_onCurve wn_X5 wm_X5_95 wi_X5_onCurve ws_X5_onCurve nq_X5_onCurve rfl rfl ⟨Nat.le_of_ble_eq_true rfl, Nat.le_of_ble_eq_true rfl⟩) (sd_preVR hP hK (ci := 5) (q0 := 0) rfl rfl rfl) rfl rfl hl.1 rfl (lv_room (Nat.le_of_ble_eq_true rfl)) dX5_find_235 ⟨Nat.zero_le _, Nat.zero_le _⟩) (fun r7 hr7 => ?_)
                            subst hr7
                            refine lv_aload_n hx hb dX5_find_238 rfl (lv_at hl 2 rfl) ?_
                            refine va_get (D := D) (ci := 5) (v := .ref (am 3)) (C := RX5) (T := TX5) (N := 15) hx hb hts (fun w h => mm (inX5 w h)) hown hK hP 0 rfl rfl 3 (by decide) (hts _ (mm wf_X5_16)) (fun _ h9 => h9) rfl dX5_find_239 ?_
                            refine lv_iload_n hx hb dX5_find_242 rfl (lv_at hl 3 rfl) ?_
                            refine lv_aload_n hx hb dX5_find_243 rfl (lv_at hl 2 rfl) ?_
                            refine va_get (D := D) (ci := 5) (v := .ref (am 8)) (C := RX5) (T := TX5) (N := 15) hx hb hts (fun w h => mm (inX5 w h)) hown hK hP 0 rfl rfl 10 (by decide) (hts _ (mm wf_X5_33)) (fun _ h9 => h9) rfl dX5_find_244 ?_
                            refine lv_iload hx hb dX5_find_247 (lv_at hl 0 rfl) ?_
                            refine sd_iald hx hb hK hP 8 2 rfl rfl (k := k) (by omega) (by decide) dX5_find_249 ?_
                            refine sd_ri (va_runS (As := [.int (nI q), .int (nI (mp k))]) (rest := [.ref (am 3), .long (sd_L (sd_ev fo (sd_N (mp k)))), .int (nI (mp k)), .ref (am 7)]) ⟨hx, hb, hml, hown, hts⟩ (k_X5_home l q (mp k)) (sd_cwS hts wd_X5_home wn_X5 wm_X5_91 wi_X5_home nq_X5_home rfl rfl ⟨Nat.le_of_ble_eq_true rfl, Nat.le_of_ble_eq_true rfl⟩) sd_preN rfl rfl hl.1 rfl (lv_room (Nat.le_of_ble_eq_true rfl)) dX5_find_250 ⟨Nat.zero_le _, Nat.zero_le _⟩) (fun r8 hr8 => ?_)
                            subst hr8
                            refine sd_lald hx hb hK hP 3 0 rfl rfl (k := 17 * q + mp k) (by omega) (by decide) dX5_find_253 ?_
                            refine W.lcmp hx hb dX5_find_254 ?_
                            refine lv_if_eq (tgt := 262) hx hb dX5_find_255 (by decide) (fun c9 => ?_) (fun c9 => ?_)
                            · have c9 : (sd_L (sd_ev fo (sd_N (mp k)))) = (sd_L (msh (17 * q + mp k))) := (lg_cmp_eq _ _).mp c9
                              have hdb : false = decide (¬ msh (17 * q + mp k) = sd_ev fo (sd_N (mp k))) := (decide_eq_false (fun z => z (sd_L_inj c9).symm)).symm
                              have cb := sd_cnt_f (b := bad) (n := k) (by rw [hbad]; show decide (¬ msh (17 * q + mp (k + 1 - 1)) = sd_ev fo (sd_N (mp (k + 1 - 1)))) = false; rw [Nat.add_sub_cancel]; exact hdb.symm)
                              have hWn := m_wr_step (b := false) hpl (by omega) hWr hdb
                              refine lv_iconst (v := nI 0) hx hb dX5_find_262 (by decide) ?_
                              refine sd_tob (b := false) rfl ?_
                              refine sd_zast hx hb hK hP hD hS 7 1 rfl rfl (k := mp k) (by omega) (by decide) (ws2 := mw am tc (nI 0) mdg msz msh mth minv true q fo (sd_up wr2 (mp k) false) mp my uO.1 cA uO.2.2) (by rw [sd_stZ]; exact rfl) dX5_find_263 (fun H locs hP hD hS => ?_)
                              refine lv_iload hx hb dX5_find_264 (lv_at hl 1 rfl) ?_
                              refine lv_aload_n hx hb dX5_find_266 rfl (lv_at hl 2 rfl) ?_
                              refine va_get (D := D) (ci := 5) (v := .ref (am 7)) (C := RX5) (T := TX5) (N := 15) hx hb hts (fun w h => mm (inX5 w h)) hown hK hP 0 rfl rfl 9 (by decide) (hts _ (mm wf_X5_30)) (fun _ h9 => h9) rfl dX5_find_267 ?_
                              refine lv_aload_n hx hb dX5_find_270 rfl (lv_at hl 2 rfl) ?_
                              refine va_get (D := D) (ci := 5) (v := .ref (am 8)) (C := RX5) (T := TX5) (N := 15) hx hb hts (fun w h => mm (inX5 w h)) hown hK hP 0 rfl rfl 10 (by decide) (hts _ (mm wf_X5_33)) (fun _ h9 => h9) rfl dX5_find_271 ?_
                              refine lv_iload hx hb dX5_find_274 (lv_at hl 0 rfl) ?_
                              refine sd_iald hx hb hK hP 8 2 rfl rfl (k := k) (by omega) (by decide) dX5_find_276 ?_
                              refine sd_zald hx hb hK hP 7 1 rfl rfl (k := mp k) (by omega) (by decide) dX5_find_277 ?_
                              refine sd_if_eqB (tgt := 285) hx hb dX5_find_278 (by decide) (fun cc => ?_) (fun cc => ?_)
                              · refine lv_iconst (v := nI 0) hx hb dX5_find_285 (by decide) ?_
                                refine sd_iadd hx hb dX5_find_286 ?_
                                refine sd_toi (y := nI (sd_cnt bad (k + 1))) (by rw [cb, Nat.add_zero]) ?_
                                refine lv_istore (lv' := [(4, .int (nI (sd_cnt bad (k + 1)))), (5, .int (nI k)), (0, .ref (am 0)), (1, .int (nI q))]) hx hb dX5_find_287 hl (by decide) rfl (fun ls hl => ?_)
                                refine lv_iinc (v := nI (k + 1)) (lv' := [(5, .int (nI (k + 1))), (4, .int (nI (sd_cnt bad (k + 1)))), (0, .ref (am 0)), (1, .int (nI q))]) hx hb dX5_find_289 hl (k := 1) rfl (nI_1 _) (by decide) rfl (fun ls hl => ?_)
                                refine lv_goto (tgt := 200) hx hb dX5_find_292 (by decide) ?_
                                exact ihD (k := k + 1) (wr2 := sd_up wr2 (mp k) false) (hk := by omega) (hWr := hWn) (H := H) (locs := locs) (hP := hP) (hD := hD) (hS := hS) (ls := ls) (hl := (lv_sub hl [0, 1, 2, 3] rfl)) (hk9 := by omega)
                              · rw [sd_up_s] at cc
                                cases cc
                            · have c9 : ¬ (sd_L (sd_ev fo (sd_N (mp k)))) = (sd_L (msh (17 * q + mp k))) := fun q => c9 ((lg_cmp_eq _ _).mpr q)
                              have hdb : true = decide (¬ msh (17 * q + mp k) = sd_ev fo (sd_N (mp k))) := (decide_eq_true (show ¬ msh (17 * q + mp k) = sd_ev fo (sd_N (mp k)) from fun z => c9 (by rw [z]))).symm
                              have cb := sd_cnt_t (b := bad) (n := k) (by rw [hbad]; show decide (¬ msh (17 * q + mp (k + 1 - 1)) = sd_ev fo (sd_N (mp (k + 1 - 1)))) = true; rw [Nat.add_sub_cancel]; exact hdb.symm)
                              have hWn := m_wr_step (b := true) hpl (by omega) hWr hdb
                              refine lv_iconst (v := nI 1) hx hb dX5_find_258 (by decide) ?_
                              refine lv_goto (tgt := 263) hx hb dX5_find_259 (by decide) ?_
                              refine sd_tob (b := true) rfl ?_
                              refine sd_zast hx hb hK hP hD hS 7 1 rfl rfl (k := mp k) (by omega) (by decide) (ws2 := mw am tc (nI 0) mdg msz msh mth minv true q fo (sd_up wr2 (mp k) true) mp my uO.1 cA uO.2.2) (by rw [sd_stZ]; exact rfl) dX5_find_263 (fun H locs hP hD hS => ?_)
                              refine lv_iload hx hb dX5_find_264 (lv_at hl 1 rfl) ?_
                              refine lv_aload_n hx hb dX5_find_266 rfl (lv_at hl 2 rfl) ?_
                              refine va_get (D := D) (ci := 5) (v := .ref (am 7)) (C := RX5) (T := TX5) (N := 15) hx hb hts (fun w h => mm (inX5 w h)) hown hK hP 0 rfl rfl 9 (by decide) (hts _ (mm wf_X5_30)) (fun _ h9 => h9) rfl dX5_find_267 ?_
                              refine lv_aload_n hx hb dX5_find_270 rfl (lv_at hl 2 rfl) ?_
                              refine va_get (D := D) (ci := 5) (v := .ref (am 8)) (C := RX5) (T := TX5) (N := 15) hx hb hts (fun w h => mm (inX5 w h)) hown hK hP 0 rfl rfl 10 (by decide) (hts _ (mm wf_X5_33)) (fun _ h9 => h9) rfl dX5_find_271 ?_
                              refine lv_iload hx hb dX5_find_274 (lv_at hl 0 rfl) ?_
                              refine sd_iald hx hb hK hP 8 2 rfl rfl (k := k) (by omega) (by decide) dX5_find_276 ?_
                              refine sd_zald hx hb hK hP 7 1 rfl rfl (k := mp k) (by omega) (by decide) dX5_find_277 ?_
                              refine sd_if_eqB (tgt := 285) hx hb dX5_find_278 (by decide) (fun cc => ?_) (fun cc => ?_)
                              · rw [sd_up_s] at cc
                                cases cc
                              · refine lv_iconst (v := nI 1) hx hb dX5_find_281 (by decide) ?_
                                refine lv_goto (tgt := 286) hx hb dX5_find_282 (by decide) ?_
                                refine sd_iadd hx hb dX5_find_286 ?_
                                refine sd_toi (y := nI (sd_cnt bad (k + 1))) (by rw [cb]) ?_
                                refine lv_istore (lv' := [(4, .int (nI (sd_cnt bad (k + 1)))), (5, .int (nI k)), (0, .ref (am 0)), (1, .int (nI q))]) hx hb dX5_find_287 hl (by decide) rfl (fun ls hl => ?_)
                                refine lv_iinc (v := nI (k + 1)) (lv' := [(5, .int (nI (k + 1))), (4, .int (nI (sd_cnt bad (k + 1)))), (0, .ref (am 0)), (1, .int (nI q))]) hx hb dX5_find_289 hl (k := 1) rfl (nI_1 _) (by decide) rfl (fun ls hl => ?_)
                                refine lv_goto (tgt := 200) hx hb dX5_find_292 (by decide) ?_
                                exact ihD (k := k + 1) (wr2 := sd_up wr2 (mp k) true) (hk := by omega) (hWr := hWn) (H := H) (locs := locs) (hP := hP) (hD := hD) (hS := hS) (ls := ls) (hl := (lv_sub hl [0, 1, 2, 3] rfl)) (hk9 := by omega)
                      · refine lv_aload_n hx hb dX5_find_180 rfl (lv_at hl 1 rfl) ?_
                        refine va_get (D := D) (ci := 5) (v := .ref (am 7)) (C := RX5) (T := TX5) (N := 15) hx hb hts (fun w h => mm (inX5 w h)) hown hK hP 0 rfl rfl 9 (by decide) (hts _ (mm wf_X5_30)) (fun _ h9 => h9) rfl dX5_find_181 ?_
                        refine lv_iload hx hb dX5_find_184 (lv_at hl 0 rfl) ?_
                        refine lv_iconst (v := nI 0) hx hb dX5_find_186 (by decide) ?_
                        refine sd_tob (b := false) rfl ?_
                        refine sd_zast hx hb hK hP hD hS 7 1 rfl rfl (k := k) (by omega) (by decide) (ws2 := mw am tc (nI 0) mdg msz msh mth minv true q fo (sd_up wr k false) mp my uO.1 cA uO.2.2) (by rw [sd_stZ]; exact rfl) dX5_find_187 (fun H locs hP hD hS => ?_)
                        refine lv_iinc (v := nI (k + 1)) (lv' := [(4, .int (nI (k + 1))), (0, .ref (am 0)), (1, .int (nI q))]) hx hb dX5_find_188 hl (k := 0) rfl (nI_1 _) (by decide) rfl (fun ls hl => ?_)
                        refine lv_goto (tgt := 173) hx hb dX5_find_191 (by decide) ?_
                        exact ihC (k := k + 1) (wr := sd_up wr k false) (hk := by omega) (hW0 := fun i hi => (Classical.em (i = k)).elim (fun e9 => by rw [e9, sd_up_s]) (fun e9 => by rw [sd_up_n _ _ e9]; exact hW0 i (by omega))) (H := H) (locs := locs) (hP := hP) (hD := hD) (hS := hS) (ls := ls) (hl := (lv_sub hl [0, 1, 2] rfl)) (hk9 := by omega)
                  · refine lv_aload_n hx hb dX5_find_150 rfl (lv_at hl 1 rfl) ?_
                    refine va_get (D := D) (ci := 5) (v := .ref (am 6)) (C := RX5) (T := TX5) (N := 15) hx hb hts (fun w h => mm (inX5 w h)) hown hK hP 0 rfl rfl 8 (by decide) (hts _ (mm wf_X5_27)) (fun _ h9 => h9) rfl dX5_find_151 ?_
                    refine lv_iload hx hb dX5_find_154 (lv_at hl 0 rfl) ?_
                    refine lv_aload_n hx hb dX5_find_156 rfl (lv_at hl 1 rfl) ?_
                    refine va_get (D := D) (ci := 5) (v := .ref (am 10)) (C := RX5) (T := TX5) (N := 15) hx hb hts (fun w h => mm (inX5 w h)) hown hK hP 0 rfl rfl 13 (by decide) (hts _ (mm wf_X5_39)) (fun _ h9 => h9) rfl dX5_find_157 ?_
                    refine lv_iload hx hb dX5_find_160 (lv_at hl 0 rfl) ?_
                    refine sd_lald hx hb hK hP 10 0 rfl rfl (k := k) (by omega) (by decide) dX5_find_162 ?_
                    refine sd_last hx hb hK hP hD hS 6 0 rfl rfl (k := k) (by omega) (by decide) (ws2 := mw am tc (nI 0) mdg msz msh mth minv true q (sd_up fo k (cA k)) mwr mp my uO.1 cA uO.2.2) (by rw [sd_stL]; exact rfl) dX5_find_163 (fun H locs hP hD hS => ?_)
                    refine lv_iinc (v := nI (k + 1)) (lv' := [(4, .int (nI (k + 1))), (0, .ref (am 0)), (1, .int (nI q))]) hx hb dX5_find_164 hl (k := 0) rfl (nI_1 _) (by decide) rfl (fun ls hl => ?_)
                    refine lv_goto (tgt := 143) hx hb dX5_find_167 (by decide) ?_
                    exact ihB (k := k + 1) (fo := sd_up fo k (cA k)) (hk := by omega) (hF := fun i hi => (Classical.em (i = k)).elim (fun e9 => by rw [e9, sd_up_s]) (fun e9 => by rw [sd_up_n _ _ e9]; exact hF i (by omega))) (H := H) (locs := locs) (hP := hP) (hD := hD) (hS := hS) (ls := ls) (hl := (lv_sub hl [0, 1, 2] rfl)) (hk9 := by omega)
              · refine lv_aload_n hx hb dX5_find_119 rfl (lv_at hl 1 rfl) ?_
                refine lv_iconst (v := nI 2) hx hb dX5_find_120 (by decide) ?_
                refine sd_wi (va_runV (As := [.int (nI 2)]) (rest := []) ⟨hx, hb, hml, hown, hts⟩ (k_X5_raise l D _ (nI 2)) (sd_cwV hts wd_X5_raise wn_X5 wm_X5_120 wi_X5_raise ws_X5_raise nq_X5_raise rfl rfl ⟨Nat.le_of_ble_eq_true rfl, Nat.le_of_ble_eq_true rfl⟩) (sd_preVW hP hK hD (ci := 5) (q0 := 0) rfl rfl rfl) rfl rfl hl.1 rfl (lv_room (Nat.le_of_ble_eq_true rfl)) dX5_find_121 ⟨Nat.zero_le _, Nat.zero_le _⟩) hD hS hA (fun r9 u10 H locs hu10 hP hD hS => ?_)
                replace hP : va_P D vwCl (mw am tc (nI 2) mdg msz msh mth minv isf fsp mfo mwr mp my uO.1 uO.2.1 uO.2.2) H := hP
                replace hD : va_D A (mw am tc (nI 2) mdg msz msh mth minv isf fsp mfo mwr mp my uO.1 uO.2.1 uO.2.2) := hD
                exact W.iret hx hb hr (fun T9 hT9 hW => ⟨⟨_, (nI 2, mdg, msz, msh, mth, minv, isf, fsp, mfo, mwr, mp, my, uO.1, uO.2.1, uO.2.2), rfl, ⟨rfl, rfl, rfl, rfl, rfl, Or.inr (Or.inl ⟨q, ee, hfv, hO2 c5, rfl, ⟨rfl, rfl, rfl, rfl, rfl⟩⟩)⟩, by rw [hT9]; exact hP, va_K.moved hW.alike hK, hD⟩, hS.F hT9⟩) hS.2.2 dX5_find_124
            · refine lv_aload_n hx hb dX5_find_103 rfl (lv_at hl 1 rfl) ?_
              refine lv_iconst (v := nI 1) hx hb dX5_find_104 (by decide) ?_
              refine sd_wi (va_runV (As := [.int (nI 1)]) (rest := []) ⟨hx, hb, hml, hown, hts⟩ (k_X5_raise l D _ (nI 1)) (sd_cwV hts wd_X5_raise wn_X5 wm_X5_120 wi_X5_raise ws_X5_raise nq_X5_raise rfl rfl ⟨Nat.le_of_ble_eq_true rfl, Nat.le_of_ble_eq_true rfl⟩) (sd_preVW hP hK hD (ci := 5) (q0 := 0) rfl rfl rfl) rfl rfl hl.1 rfl (lv_room (Nat.le_of_ble_eq_true rfl)) dX5_find_105 ⟨Nat.zero_le _, Nat.zero_le _⟩) hD hS hA (fun r11 u12 H locs hu12 hP hD hS => ?_)
              replace hP : va_P D vwCl (mw am tc (nI 1) mdg msz msh mth minv isf fsp mfo mwr mp my mch mcu mro) H := hP
              replace hD : va_D A (mw am tc (nI 1) mdg msz msh mth minv isf fsp mfo mwr mp my mch mcu mro) := hD
              exact W.iret hx hb hr (fun T9 hT9 hW => ⟨⟨_, (nI 1, mdg, msz, msh, mth, minv, isf, fsp, mfo, mwr, mp, my, mch, mcu, mro), rfl, ⟨rfl, rfl, rfl, rfl, rfl, Or.inl ⟨fun ⟨q2, e2, hv⟩ => (by obtain ⟨g1, g2, g3, g4, g5⟩ := hv; have e1 := sd_nI_inj (by omega) (by omega) g2; have e3 := sd_nI_inj (by omega) (by omega) g4; subst e1; subst e3; have g5 : mdg q + 1 + 2 * ee ≤ sd_cnt (fun j => mth (17 * q + j)) (msz q) := g5; omega), rfl, ⟨rfl, rfl, rfl, rfl, rfl⟩⟩⟩, by rw [hT9]; exact hP, va_K.moved hW.alike hK, hD⟩, hS.F hT9⟩) hS.2.2 dX5_find_108
          · refine lv_aload_n hx hb dX5_find_40 rfl (lv_at hl 1 rfl) ?_
            refine va_get (D := D) (ci := 5) (v := .ref (am 4)) (C := RX5) (T := TX5) (N := 15) hx hb hts (fun w h => mm (inX5 w h)) hown hK hP 0 rfl rfl 4 (by decide) (hts _ (mm wf_X5_20)) (fun _ h9 => h9) rfl dX5_find_41 ?_
            refine lv_iload_n hx hb dX5_find_44 rfl (lv_at hl 2 rfl) ?_
            refine lv_iload_n hx hb dX5_find_45 rfl (lv_at hl 0 rfl) ?_
            refine sd_ri (va_runS (As := [.int (nI q), .int (nI k)]) (rest := [.ref (am 4)]) ⟨hx, hb, hml, hown, hts⟩ (k_X5_home l q k) (sd_cwS hts wd_X5_home wn_X5 wm_X5_91 wi_X5_home nq_X5_home rfl rfl ⟨Nat.le_of_ble_eq_true rfl, Nat.le_of_ble_eq_true rfl⟩) sd_preN rfl rfl hl.1 rfl (lv_room (Nat.le_of_ble_eq_true rfl)) dX5_find_46 ⟨Nat.zero_le _, Nat.zero_le _⟩) (fun r13 hr13 => ?_)
            subst hr13
            refine sd_zald hx hb hK hP 4 1 rfl rfl (k := 17 * q + k) (by omega) (by decide) dX5_find_49 ?_
            refine sd_if_neB (tgt := 56) hx hb dX5_find_50 (by decide) (fun c4 => ?_) (fun c4 => ?_)
            · have c5 := sd_cnt_t (b := (fun j => mth (17 * q + j))) (n := k - 1) (by rw [Nat.sub_add_cancel hk.1]; exact c4)
              rw [Nat.sub_add_cancel hk.1, ← hmy] at c5
              refine lv_aload_n hx hb dX5_find_56 rfl (lv_at hl 1 rfl) ?_
              refine va_get (D := D) (ci := 5) (v := .ref (am 8)) (C := RX5) (T := TX5) (N := 15) hx hb hts (fun w h => mm (inX5 w h)) hown hK hP 0 rfl rfl 10 (by decide) (hts _ (mm wf_X5_33)) (fun _ h9 => h9) rfl dX5_find_57 ?_
              refine lv_aload_n hx hb dX5_find_60 rfl (lv_at hl 1 rfl) ?_
              refine va_get (D := D) (ci := 5) (v := .int (nI my)) (C := RX5) (T := TX5) (N := 15) hx hb hts (fun w h => mm (inX5 w h)) hown hK hP 0 rfl rfl 11 (by decide) (hts _ (mm wf_X5_110)) (fun _ h9 => h9) rfl dX5_find_61 ?_
              refine lv_iload_n hx hb dX5_find_64 rfl (lv_at hl 0 rfl) ?_
              refine sd_iast hx hb hK hP hD hS 8 2 rfl rfl (k := my) (by omega) (by decide) (ws2 := mw am tc tn mdg msz msh mth minv isf fsp mfo mwr (sd_up mp my k) my mch mcu mro) (by rw [sd_stN]; exact rfl) dX5_find_65 (fun H locs hP hD hS => ?_)
              refine lv_aload_n hx hb dX5_find_66 rfl (lv_at hl 1 rfl) ?_
              refine lv_dup hx hb dX5_find_67 rfl ?_
              refine va_get (D := D) (ci := 5) (v := .int (nI my)) (C := RX5) (T := TX5) (N := 15) hx hb hts (fun w h => mm (inX5 w h)) hown hK hP 0 rfl rfl 11 (by decide) (hts _ (mm wf_X5_110)) (fun _ h9 => h9) rfl dX5_find_68 ?_
              refine lv_iconst (v := nI 1) hx hb dX5_find_71 (by decide) ?_
              refine sd_iadd hx hb dX5_find_72 ?_
              refine sd_put (ci := 5) (C := RX5) (T := TX5) (N := 15) hx hb hts (fun w h => mm (inX5 w h)) tyX5 tyX5_ok nmX5 hown hK hP hD hS 0 rfl rfl 11 (by decide) (hts _ (mm wf_X5_110)) rfl rfl rfl rfl (Nat.le_of_ble_eq_true rfl) rfl (ws2 := mw am tc tn mdg msz msh mth minv isf fsp mfo mwr (sd_up mp my k) (my + 1) mch mcu mro) (rfl) dX5_find_73 (fun H locs hP hD hS => ?_)
              refine lv_iinc (v := nI (k + 1)) (lv' := [(3, .int (nI (k + 1))), (0, .ref (am 0)), (1, .int (nI q)), (2, .int (nI ee))]) hx hb dX5_find_76 hl (k := 0) rfl (nI_1 _) (by decide) rfl (fun ls hl => ?_)
              refine lv_goto (tgt := 30) hx hb dX5_find_79 (by decide) ?_
              exact ihA (k := k + 1) (mp := sd_up mp my k) (my := my + 1) (hk := by omega) (hmy := by rw [Nat.add_sub_cancel]; exact c5.symm) (hpl := fun p h1 h2 h3 => (Classical.em (p = k)).elim (fun e8 => by rw [e8, ← hmy, sd_up_s]) (fun e8 => by rw [sd_up_n _ _ (fun z => absurd (sd_cnt_mono (fun j => mth (17 * q + j)) (show p ≤ k - 1 by omega)) (by have a9 := sd_cnt_t (b := (fun j => mth (17 * q + j))) (n := p - 1) (by rw [Nat.sub_add_cancel h1]; exact h3); rw [Nat.sub_add_cancel h1] at a9; omega))]; exact hpl p h1 (by omega) h3)) (H := H) (locs := locs) (hP := hP) (hD := hD) (hS := hS) (ls := ls) (hl := (lv_sub hl [0, 1, 2, 3] rfl)) (hk9 := by omega)
            · have c5 := sd_cnt_f (b := (fun j => mth (17 * q + j))) (n := k - 1) (by rw [Nat.sub_add_cancel hk.1]; exact c4)
              rw [Nat.sub_add_cancel hk.1, ← hmy] at c5
              refine lv_goto (tgt := 76) hx hb dX5_find_53 (by decide) ?_
              refine lv_iinc (v := nI (k + 1)) (lv' := [(3, .int (nI (k + 1))), (0, .ref (am 0)), (1, .int (nI q)), (2, .int (nI ee))]) hx hb dX5_find_76 hl (k := 0) rfl (nI_1 _) (by decide) rfl (fun ls hl => ?_)
              refine lv_goto (tgt := 30) hx hb dX5_find_79 (by decide) ?_
              exact ihA (k := k + 1) (mp := mp) (my := my) (hk := by omega) (hmy := by rw [Nat.add_sub_cancel]; exact c5.symm) (hpl := fun p h1 h2 h3 => (Classical.em (p = k)).elim (fun e8 => absurd h3 (by rw [e8]; show ¬ mth (17 * q + k) = true; rw [c4]; decide)) (fun e8 => hpl p h1 (by omega) h3)) (H := H) (locs := locs) (hP := hP) (hD := hD) (hS := hS) (ls := ls) (hl := (lv_sub hl [0, 1, 2, 3] rfl)) (hk9 := by omega)
      · refine lv_aload_n hx hb dX5_find_17 rfl (lv_at hl 0 rfl) ?_
        refine lv_iconst (v := nI 1) hx hb dX5_find_18 (by decide) ?_
        refine sd_wi (va_runV (As := [.int (nI 1)]) (rest := []) ⟨hx, hb, hml, hown, hts⟩ (k_X5_raise l D _ (nI 1)) (sd_cwV hts wd_X5_raise wn_X5 wm_X5_120 wi_X5_raise ws_X5_raise nq_X5_raise rfl rfl ⟨Nat.le_of_ble_eq_true rfl, Nat.le_of_ble_eq_true rfl⟩) (sd_preVW hP hK hD (ci := 5) (q0 := 0) rfl rfl rfl) rfl rfl hl.1 rfl (lv_room (Nat.le_of_ble_eq_true rfl)) dX5_find_19 ⟨Nat.zero_le _, Nat.zero_le _⟩) hD hS hA (fun r14 u15 H locs hu15 hP hD hS => ?_)
        replace hP : va_P D vwCl (mw am tc (nI 1) mdg msz msh mth minv isf fsp mfo mwr mpl mny mch mcu mro) H := hP
        replace hD : va_D A (mw am tc (nI 1) mdg msz msh mth minv isf fsp mfo mwr mpl mny mch mcu mro) := hD
        exact W.iret hx hb hr (fun T9 hT9 hW => ⟨⟨_, (nI 1, mdg, msz, msh, mth, minv, isf, fsp, mfo, mwr, mpl, mny, mch, mcu, mro), rfl, ⟨rfl, rfl, rfl, rfl, rfl, Or.inl ⟨fun ⟨q2, e2, hv⟩ => (by obtain ⟨g1, g2, g3, g4, g5⟩ := hv; have e9 := sd_nI_inj he9 (by omega) g4; omega), rfl, ⟨rfl, rfl, rfl, rfl, rfl⟩⟩⟩, by rw [hT9]; exact hP, va_K.moved hW.alike hK, hD⟩, hS.F hT9⟩) hS.2.2 dX5_find_22

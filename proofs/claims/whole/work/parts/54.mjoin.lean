/-! the reference: join -/
def m_jd (a : MS) (qa qb h : Nat) : Nat := if h = 2 then rdg a qa + rdg a qb else max (rdg a qa) (rdg a qb)
def m_jv (a : MS) (x y z w : Int32) (q qa qb h : Nat) : Prop := q < 8 ∧ x = nI q ∧ qa < 8 ∧ y = nI qa ∧ qb < 8 ∧ z = nI qb ∧ h ≤ 2 ∧ w = nI h ∧ m_jd a qa qb h ≤ 8
def M_join (x y z w : Int32) (a : MS) (r : Int32) (u : MS) : Prop :=
  (∃ q qa qb h, m_jv a x y z w q qa qb h ∧ r = nI 1 ∧ rdg u = sd_up (rdg a) q (m_jd a qa qb h) ∧ rsz u = sd_up (rsz a) q (min (rsz a qa) (rsz a qb)) ∧ m_fs a u ∧
    ∀ i, (17 * q + 1 ≤ i ∧ i ≤ 17 * q + min (rsz a qa) (rsz a qb) → rth u i = (rth a (17 * qa + (i - 17 * q)) && rth a (17 * qb + (i - 17 * q))) ∧ rsh u i = sd_jn h (rsh a (17 * qa + (i - 17 * q))) (rsh a (17 * qb + (i - 17 * q)))) ∧ (¬ (17 * q + 1 ≤ i ∧ i ≤ 17 * q + min (rsz a qa) (rsz a qb)) → rth u i = rth a i ∧ rsh u i = rsh a i)) ∨
  ((¬ ∃ q qa qb h, m_jv a x y z w q qa qb h) ∧ r = nI 0 ∧ m_same a u)

set_option maxHeartbeats 1000000 in
set_option maxRecDepth 100000 in
theorem k_X5_join (l : Launch) (D : va_G) {am : Nat → Nat} {tc : Nat → ClassId} {tn : Int32} {mdg msz : Nat → Nat} {msh : Nat → FP} {mth : Nat → Bool} {minv : Nat → FP} {isf : Bool} {fsp : Nat} {mfo : Nat → FP} {mwr : Nat → Bool} {mpl : Nat → Nat} {mny : Nat} {mch : Nat → Nat} {mcu mro : Nat → FP} (sz : Nat) (x y z v : Int32) (hok : ∀ q, q < 8 → mdg q ≤ 8 ∧ msz q ≤ 16) : Met l yX5_join (Cond.code yX5_join cX5_join 12 (some .boolean) :: bg) { frames := 3, cells := 0, slots := 0, locals := 89 } (sd_Wr D vwCl (ty5 tc) (mw am tc tn mdg msz msh mth minv isf fsp mfo mwr mpl mny mch mcu mro) sz [.ref (am 0), .int x, .int y, .int z, .int v]) (va_Qi (S := MS) (fun r u => rtn u = nI 0 ∧ M_join x y z v (tn, mdg, msz, msh, mth, minv, isf, fsp, mfo, mwr, mpl, mny, mch, mcu, mro) r u) (sd_B D vwCl (ty5 tc) (va_A (mw am tc tn mdg msz msh mth minv isf fsp mfo mwr mpl mny mch mcu mro) sz) (fun u => mwt am tc u)) (va_A (mw am tc tn mdg msz msh mth minv isf fsp mfo mwr mpl mny mch mcu mro) sz)) 0 0 (va_A (mw am tc tn mdg msz msh mth minv isf fsp mfo mwr mpl mny mch mcu mro) sz) := by
  refine Met.ofW (cc := cX5_join) (maxL := 12) (ret := some .boolean) (by decide) rfl ?_
  intro p e s m args below meth c s₁ B hml hv
  obtain ⟨rfl, hsz, hP, hK, hD0⟩ := hv
  have hx := B.exec
  have hb := B.bytes
  have hr := B.returns
  have hts := atoms_spec (ws := Cond.code yX5_join cX5_join 12 (some .boolean) :: bg) B.pre
  have hown : s.vm.findClass RX5 = some m.cls := findClass_of_methodNamed B.named
  have hlocks := B.notSynchronized
  subst hsz
  have hD := hD0.self (sz := s.heap.size)
  generalize hAe : va_A (mw am tc tn mdg msz msh mth minv isf fsp mfo mwr mpl mny mch mcu mro) s.heap.size = A at hD ⊢
  have hA : ∀ q : Nat, s.heap.size ≤ q → A q := fun q h => by rw [← hAe]; exact Or.inr h
  have hS : va_S A s.heap s.heap [] := va_S.rf
  have hl := lv_entry ([.ref (am 0), .int x, .int y, .int z, .int v]) (n := 12) (Nat.le_of_ble_eq_true rfl)
  rw [lg_entry_eq]
  generalize (lg_sl ([.ref (am 0), .int x, .int y, .int z, .int v]) ++ List.replicate (12 - (lg_sl ([.ref (am 0), .int x, .int y, .int z, .int v])).length) Slot.unset).toArray = ls at hl ⊢
  replace hl : lv_has ls 12 [(0, .ref (am 0)), (1, .int x), (2, .int y), (3, .int z), (4, .int v)] := hl
  refine lv_aload_n hx hb dX5_join_0 rfl (lv_at hl 0 rfl) ?_
  refine lv_iconst (v := nI 0) hx hb dX5_join_1 (by decide) ?_
  refine sd_put (ci := 5) (C := RX5) (T := TX5) (N := 15) hx hb hts (fun w h => mm (inX5 w h)) tyX5 tyX5_ok nmX5 hown hK hP hD hS 0 rfl rfl 0 (by decide) (hts _ (mm wf_X5_51)) rfl rfl rfl rfl (Nat.le_of_ble_eq_true rfl) rfl (ws2 := mw am tc (nI 0) mdg msz msh mth minv isf fsp mfo mwr mpl mny mch mcu mro) (rfl) dX5_join_2 (fun H locs hP hD hS => ?_)
  refine lv_iload_n hx hb dX5_join_5 rfl (lv_at hl 1 rfl) ?_
  refine sd_ri (va_runS (As := [.int x]) (rest := []) ⟨hx, hb, hml, hown, hts⟩ (k_X5_isSplit l x) (sd_cwS hts wd_X5_isSplit wn_X5 wm_X5_77 wi_X5_isSplit nq_X5_isSplit rfl rfl ⟨Nat.le_of_ble_eq_true rfl, Nat.le_of_ble_eq_true rfl⟩) sd_preN rfl rfl hl.1 rfl (lv_room (Nat.le_of_ble_eq_true rfl)) dX5_join_6 ⟨Nat.zero_le _, Nat.zero_le _⟩) (fun r1 hr1 => ?_)
  subst hr1
  refine sd_if_eqB (tgt := 37) hx hb dX5_join_9 (by decide) (fun c1 => ?_) (fun c1 => ?_)
  · refine lv_iconst (v := nI 0) hx hb dX5_join_37 (by decide) ?_
    exact W.zret hx hb hr rfl (fun T9 hT9 hW => ⟨⟨_, (nI 0, mdg, msz, msh, mth, minv, isf, fsp, mfo, mwr, mpl, mny, mch, mcu, mro), rfl, ⟨rfl, Or.inr ⟨fun ⟨q2, a2, b2, h2, hv⟩ => sd_ix_none (Option.isNone_iff_eq_none.mp (Option.isSome_eq_false_iff.mp c1)) hv.1 hv.2.1, rfl, ⟨rfl, rfl, rfl, rfl, rfl, rfl, rfl, rfl, rfl⟩⟩⟩, by rw [hT9]; exact hP, va_K.moved hW.alike hK, hD⟩, hS.F hT9⟩) hS.2.2 dX5_join_38
  · obtain ⟨q, hix⟩ := Option.isSome_iff_exists.mp c1
    obtain ⟨hq, hxq⟩ := sd_ix_some hix
    clear hix c1
    subst hxq
    have hokq := hok q hq
    refine lv_iload_n hx hb dX5_join_12 rfl (lv_at hl 2 rfl) ?_
    refine sd_ri (va_runS (As := [.int y]) (rest := []) ⟨hx, hb, hml, hown, hts⟩ (k_X5_isSplit l y) (sd_cwS hts wd_X5_isSplit wn_X5 wm_X5_77 wi_X5_isSplit nq_X5_isSplit rfl rfl ⟨Nat.le_of_ble_eq_true rfl, Nat.le_of_ble_eq_true rfl⟩) sd_preN rfl rfl hl.1 rfl (lv_room (Nat.le_of_ble_eq_true rfl)) dX5_join_13 ⟨Nat.zero_le _, Nat.zero_le _⟩) (fun r2 hr2 => ?_)
    subst hr2
    refine sd_if_eqB (tgt := 37) hx hb dX5_join_16 (by decide) (fun c1 => ?_) (fun c1 => ?_)
    · refine lv_iconst (v := nI 0) hx hb dX5_join_37 (by decide) ?_
      exact W.zret hx hb hr rfl (fun T9 hT9 hW => ⟨⟨_, (nI 0, mdg, msz, msh, mth, minv, isf, fsp, mfo, mwr, mpl, mny, mch, mcu, mro), rfl, ⟨rfl, Or.inr ⟨fun ⟨q2, a2, b2, h2, hv⟩ => sd_ix_none (Option.isNone_iff_eq_none.mp (Option.isSome_eq_false_iff.mp c1)) hv.2.2.1 hv.2.2.2.1, rfl, ⟨rfl, rfl, rfl, rfl, rfl, rfl, rfl, rfl, rfl⟩⟩⟩, by rw [hT9]; exact hP, va_K.moved hW.alike hK, hD⟩, hS.F hT9⟩) hS.2.2 dX5_join_38
    · obtain ⟨qa, hix⟩ := Option.isSome_iff_exists.mp c1
      obtain ⟨hqa, hxq⟩ := sd_ix_some hix
      clear hix c1
      subst hxq
      have hokqa := hok qa hqa
      refine lv_iload_n hx hb dX5_join_19 rfl (lv_at hl 3 rfl) ?_
      refine sd_ri (va_runS (As := [.int z]) (rest := []) ⟨hx, hb, hml, hown, hts⟩ (k_X5_isSplit l z) (sd_cwS hts wd_X5_isSplit wn_X5 wm_X5_77 wi_X5_isSplit nq_X5_isSplit rfl rfl ⟨Nat.le_of_ble_eq_true rfl, Nat.le_of_ble_eq_true rfl⟩) sd_preN rfl rfl hl.1 rfl (lv_room (Nat.le_of_ble_eq_true rfl)) dX5_join_20 ⟨Nat.zero_le _, Nat.zero_le _⟩) (fun r3 hr3 => ?_)
      subst hr3
      refine sd_if_eqB (tgt := 37) hx hb dX5_join_23 (by decide) (fun c1 => ?_) (fun c1 => ?_)
      · refine lv_iconst (v := nI 0) hx hb dX5_join_37 (by decide) ?_
        exact W.zret hx hb hr rfl (fun T9 hT9 hW => ⟨⟨_, (nI 0, mdg, msz, msh, mth, minv, isf, fsp, mfo, mwr, mpl, mny, mch, mcu, mro), rfl, ⟨rfl, Or.inr ⟨fun ⟨q2, a2, b2, h2, hv⟩ => sd_ix_none (Option.isNone_iff_eq_none.mp (Option.isSome_eq_false_iff.mp c1)) hv.2.2.2.2.1 hv.2.2.2.2.2.1, rfl, ⟨rfl, rfl, rfl, rfl, rfl, rfl, rfl, rfl, rfl⟩⟩⟩, by rw [hT9]; exact hP, va_K.moved hW.alike hK, hD⟩, hS.F hT9⟩) hS.2.2 dX5_join_38
      · obtain ⟨qb, hix⟩ := Option.isSome_iff_exists.mp c1
        obtain ⟨hqb, hxq⟩ := sd_ix_some hix
        clear hix c1
        subst hxq
        have hokqb := hok qb hqb
        refine lv_iload hx hb dX5_join_26 (lv_at hl 4 rfl) ?_
        refine lv_if_lt (tgt := 37) hx hb dX5_join_28 (by decide) (fun c1 => ?_) (fun c1 => ?_)
        · refine lv_iconst (v := nI 0) hx hb dX5_join_37 (by decide) ?_
          exact W.zret hx hb hr rfl (fun T9 hT9 hW => ⟨⟨_, (nI 0, mdg, msz, msh, mth, minv, isf, fsp, mfo, mwr, mpl, mny, mch, mcu, mro), rfl, ⟨rfl, Or.inr ⟨fun ⟨q2, a2, b2, h2, hv⟩ => absurd c1 (by obtain ⟨g1, g2, g3, g4, g5, g6, g7, g8, g9⟩ := hv; rw [g8]; exact nI_pos (by omega)), rfl, ⟨rfl, rfl, rfl, rfl, rfl, rfl, rfl, rfl, rfl⟩⟩⟩, by rw [hT9]; exact hP, va_K.moved hW.alike hK, hD⟩, hS.F hT9⟩) hS.2.2 dX5_join_38
        · obtain ⟨h, hh9, rfl⟩ := nI_of c1
          refine lv_iload hx hb dX5_join_31 (lv_at hl 4 rfl) ?_
          refine lv_iconst (v := nI 2) hx hb dX5_join_33 (by decide) ?_
          refine sd_icmp_le (tgt := 39) hx hb (by omega) (by omega) dX5_join_34 (by decide) (fun ch => ?_) (fun ch => ?_)
          · refine lv_iload hx hb dX5_join_39 (lv_at hl 4 rfl) ?_
            refine lv_iconst (v := nI 2) hx hb dX5_join_41 (by decide) ?_
            refine sd_icmp_ne (tgt := 61) hx hb (by omega) (by omega) dX5_join_42 (by decide) (fun c4 => ?_) (fun c4 => ?_)
            · refine lv_aload_n hx hb dX5_join_61 rfl (lv_at hl 0 rfl) ?_
              refine va_get (D := D) (ci := 5) (v := .ref (am 1)) (C := RX5) (T := TX5) (N := 15) hx hb hts (fun w h => mm (inX5 w h)) hown hK hP 0 rfl rfl 1 (by decide) (hts _ (mm wf_X5_7)) (fun _ h9 => h9) rfl dX5_join_62 ?_
              refine lv_iload_n hx hb dX5_join_65 rfl (lv_at hl 2 rfl) ?_
              refine sd_iald hx hb hK hP 1 2 rfl rfl (k := qa) (by omega) (by decide) dX5_join_66 ?_
              refine lv_aload_n hx hb dX5_join_67 rfl (lv_at hl 0 rfl) ?_
              refine va_get (D := D) (ci := 5) (v := .ref (am 1)) (C := RX5) (T := TX5) (N := 15) hx hb hts (fun w h => mm (inX5 w h)) hown hK hP 0 rfl rfl 1 (by decide) (hts _ (mm wf_X5_7)) (fun _ h9 => h9) rfl dX5_join_68 ?_
              refine lv_iload_n hx hb dX5_join_71 rfl (lv_at hl 3 rfl) ?_
              refine sd_iald hx hb hK hP 1 2 rfl rfl (k := qb) (by omega) (by decide) dX5_join_72 ?_
              refine sd_icmp_le (tgt := 85) hx hb (by omega) (by omega) dX5_join_73 (by decide) (fun c7 => ?_) (fun c7 => ?_)
              · refine lv_aload_n hx hb dX5_join_85 rfl (lv_at hl 0 rfl) ?_
                refine va_get (D := D) (ci := 5) (v := .ref (am 1)) (C := RX5) (T := TX5) (N := 15) hx hb hts (fun w h => mm (inX5 w h)) hown hK hP 0 rfl rfl 1 (by decide) (hts _ (mm wf_X5_7)) (fun _ h9 => h9) rfl dX5_join_86 ?_
                refine lv_iload_n hx hb dX5_join_89 rfl (lv_at hl 3 rfl) ?_
                refine sd_iald hx hb hK hP 1 2 rfl rfl (k := qb) (by omega) (by decide) dX5_join_90 ?_
                obtain ⟨dd, hdd⟩ : ∃ dd, dd = m_jd (tn, mdg, msz, msh, mth, minv, isf, fsp, mfo, mwr, mpl, mny, mch, mcu, mro) qa qb h := ⟨_, rfl⟩
                have ed : mdg qb = dd := by rw [hdd, m_jd, if_neg c4, Nat.max_eq_right c7]
                have ed2 : mdg qb ≤ 16 := by omega
                rw [ed] at ed2 ⊢
                refine lv_istore (lv' := [(5, .int (nI dd)), (0, .ref (am 0)), (1, .int (nI q)), (2, .int (nI qa)), (3, .int (nI qb)), (4, .int (nI h))]) hx hb dX5_join_91 hl (by decide) rfl (fun ls hl => ?_)
                refine lv_iload hx hb dX5_join_93 (lv_at hl 0 rfl) ?_
                refine lv_bipush (v := nI 8) hx hb dX5_join_95 (by decide) ?_
                refine sd_icmp_le (tgt := 102) hx hb (by omega) (by omega) dX5_join_97 (by decide) (fun cd => ?_) (fun cd => ?_)
                · refine lv_aload_n hx hb dX5_join_102 rfl (lv_at hl 1 rfl) ?_
                  refine va_get (D := D) (ci := 5) (v := .ref (am 2)) (C := RX5) (T := TX5) (N := 15) hx hb hts (fun w h => mm (inX5 w h)) hown hK hP 0 rfl rfl 2 (by decide) (hts _ (mm wf_X5_13)) (fun _ h9 => h9) rfl dX5_join_103 ?_
                  refine lv_iload_n hx hb dX5_join_106 rfl (lv_at hl 3 rfl) ?_
                  refine sd_iald hx hb hK hP 2 2 rfl rfl (k := qa) (by omega) (by decide) dX5_join_107 ?_
                  refine lv_aload_n hx hb dX5_join_108 rfl (lv_at hl 1 rfl) ?_
                  refine va_get (D := D) (ci := 5) (v := .ref (am 2)) (C := RX5) (T := TX5) (N := 15) hx hb hts (fun w h => mm (inX5 w h)) hown hK hP 0 rfl rfl 2 (by decide) (hts _ (mm wf_X5_13)) (fun _ h9 => h9) rfl dX5_join_109 ?_
                  refine lv_iload_n hx hb dX5_join_112 rfl (lv_at hl 4 rfl) ?_
                  refine sd_iald hx hb hK hP 2 2 rfl rfl (k := qb) (by omega) (by decide) dX5_join_113 ?_
                  refine sd_icmp_ge (tgt := 126) hx hb (by omega) (by omega) dX5_join_114 (by decide) (fun cs => ?_) (fun cs => ?_)
                  · refine lv_aload_n hx hb dX5_join_126 rfl (lv_at hl 1 rfl) ?_
                    refine va_get (D := D) (ci := 5) (v := .ref (am 2)) (C := RX5) (T := TX5) (N := 15) hx hb hts (fun w h => mm (inX5 w h)) hown hK hP 0 rfl rfl 2 (by decide) (hts _ (mm wf_X5_13)) (fun _ h9 => h9) rfl dX5_join_127 ?_
                    refine lv_iload_n hx hb dX5_join_130 rfl (lv_at hl 4 rfl) ?_
                    refine sd_iald hx hb hK hP 2 2 rfl rfl (k := qb) (by omega) (by decide) dX5_join_131 ?_
                    obtain ⟨nn, hnn⟩ : ∃ nn, nn = min (msz qa) (msz qb) := ⟨_, rfl⟩
                    refine sd_toi (y := nI nn) (by rw [hnn, Nat.min_eq_right cs]) ?_
                    refine lv_istore (lv' := [(6, .int (nI nn)), (5, .int (nI dd)), (0, .ref (am 0)), (1, .int (nI q)), (2, .int (nI qa)), (3, .int (nI qb)), (4, .int (nI h))]) hx hb dX5_join_132 hl (by decide) rfl (fun ls hl => ?_)
                    refine lv_iconst (v := nI 1) hx hb dX5_join_134 (by decide) ?_
                    refine lv_istore (lv' := [(7, .int (nI 1)), (6, .int (nI nn)), (5, .int (nI dd)), (0, .ref (am 0)), (1, .int (nI q)), (2, .int (nI qa)), (3, .int (nI qb)), (4, .int (nI h))]) hx hb dX5_join_135 hl (by decide) rfl (fun ls hl => ?_)
                    obtain ⟨k, s1, t1, hk, hI, hP9, hD9, hl9⟩ : ∃ (k : Nat) (s1 : Nat → FP) (t1 : Nat → Bool), (1 ≤ k ∧ k ≤ nn + 1) ∧ (∀ i, (17 * q + 1 ≤ i ∧ i < 17 * q + k → t1 i = (mth (17 * qa + (i - 17 * q)) && mth (17 * qb + (i - 17 * q))) ∧ s1 i = sd_jn h (msh (17 * qa + (i - 17 * q))) (msh (17 * qb + (i - 17 * q)))) ∧ (¬ (17 * q + 1 ≤ i ∧ i < 17 * q + k) → t1 i = mth i ∧ s1 i = msh i)) ∧ va_P D vwCl (mw am tc (nI 0) mdg msz s1 t1 minv isf fsp mfo mwr mpl mny mch mcu mro) H ∧ va_D A (mw am tc (nI 0) mdg msz s1 t1 minv isf fsp mfo mwr mpl mny mch mcu mro) ∧ lv_has ls 12 [(7, .int (nI k)), (0, .ref (am 0)), (1, .int (nI q)), (2, .int (nI qa)), (3, .int (nI qb)), (4, .int (nI h)), (5, .int (nI dd)), (6, .int (nI nn))] := ⟨1, msh, mth, ⟨Nat.le_refl 1, by omega⟩, fun i => ⟨fun z => absurd z (by omega), fun _ => ⟨rfl, rfl⟩⟩, hP, hD, (lv_sub hl [0, 3, 4, 5, 6, 7, 2, 1] rfl)⟩
                    replace hl := hl9
                    clear hl9
                    replace hP := hP9
                    replace hD := hD9
                    clear hP9 hD9
                    obtain ⟨k9, hk9⟩ : ∃ k9 : Nat, nn + 1 < k + k9 := ⟨nn + 1, by omega⟩
                    induction k9 generalizing k s1 t1 ls H locs with
                    | zero => exact absurd hk9 (by omega)
                    | succ k9 ih =>
                      refine lv_iload hx hb dX5_join_137 (lv_at hl 0 rfl) ?_
                      refine lv_iload hx hb dX5_join_139 (lv_at hl 7 rfl) ?_
                      refine sd_icmp_gt (tgt := 269) hx hb (by omega) (by omega) dX5_join_141 (by decide) (fun c5 => ?_) (fun c5 => ?_)
                      · have ek : 17 * q + k = 17 * q + nn + 1 := by omega
                        simp only [ek, Nat.lt_succ_iff] at hI
                        rw [hnn] at hI
                        refine lv_aload_n hx hb dX5_join_269 rfl (lv_at hl 1 rfl) ?_
                        refine va_get (D := D) (ci := 5) (v := .ref (am 2)) (C := RX5) (T := TX5) (N := 15) hx hb hts (fun w h => mm (inX5 w h)) hown hK hP 0 rfl rfl 2 (by decide) (hts _ (mm wf_X5_13)) (fun _ h9 => h9) rfl dX5_join_270 ?_
                        refine lv_iload_n hx hb dX5_join_273 rfl (lv_at hl 2 rfl) ?_
                        refine lv_iload hx hb dX5_join_274 (lv_at hl 7 rfl) ?_
                        refine sd_iast hx hb hK hP hD hS 2 2 rfl rfl (k := q) (by omega) (by decide) (ws2 := mw am tc (nI 0) mdg (sd_up msz q nn) s1 t1 minv isf fsp mfo mwr mpl mny mch mcu mro) (by rw [sd_stN]; exact rfl) dX5_join_276 (fun H locs hP hD hS => ?_)
                        refine lv_aload_n hx hb dX5_join_277 rfl (lv_at hl 1 rfl) ?_
                        refine va_get (D := D) (ci := 5) (v := .ref (am 1)) (C := RX5) (T := TX5) (N := 15) hx hb hts (fun w h => mm (inX5 w h)) hown hK hP 0 rfl rfl 1 (by decide) (hts _ (mm wf_X5_7)) (fun _ h9 => h9) rfl dX5_join_278 ?_
                        refine lv_iload_n hx hb dX5_join_281 rfl (lv_at hl 2 rfl) ?_
                        refine lv_iload hx hb dX5_join_282 (lv_at hl 6 rfl) ?_
                        refine sd_iast hx hb hK hP hD hS 1 2 rfl rfl (k := q) (by omega) (by decide) (ws2 := mw am tc (nI 0) (sd_up mdg q dd) (sd_up msz q nn) s1 t1 minv isf fsp mfo mwr mpl mny mch mcu mro) (by rw [sd_stN]; exact rfl) dX5_join_284 (fun H locs hP hD hS => ?_)
                        refine lv_iconst (v := nI 1) hx hb dX5_join_285 (by decide) ?_
                        exact W.zret hx hb hr rfl (fun T9 hT9 hW => ⟨⟨_, (nI 0, sd_up mdg q dd, sd_up msz q nn, s1, t1, minv, isf, fsp, mfo, mwr, mpl, mny, mch, mcu, mro), rfl, ⟨rfl, Or.inl ⟨q, qa, qb, h, ⟨hq, rfl, hqa, rfl, hqb, rfl, ch, rfl, hdd ▸ cd⟩, rfl, by rw [← hdd], by rw [hnn], ⟨rfl, rfl, rfl, rfl, rfl⟩, hI⟩⟩, by rw [hT9]; exact hP, va_K.moved hW.alike hK, hD⟩, hS.F hT9⟩) hS.2.2 dX5_join_286
                      · have hR9 : ∀ i, i < 8 → t1 (17 * i + k) = mth (17 * i + k) ∧ s1 (17 * i + k) = msh (17 * i + k) := fun i hi => (hI (17 * i + k)).2 (by omega)
                        have ha9 := hR9 qa hqa
                        have hb9 := hR9 qb hqb
                        refine lv_aload_n hx hb dX5_join_144 rfl (lv_at hl 1 rfl) ?_
                        refine va_get (D := D) (ci := 5) (v := .ref (am 3)) (C := RX5) (T := TX5) (N := 15) hx hb hts (fun w h => mm (inX5 w h)) hown hK hP 0 rfl rfl 3 (by decide) (hts _ (mm wf_X5_16)) (fun _ h9 => h9) rfl dX5_join_145 ?_
                        refine lv_iload_n hx hb dX5_join_148 rfl (lv_at hl 3 rfl) ?_
                        refine lv_iload hx hb dX5_join_149 (lv_at hl 0 rfl) ?_
                        refine sd_ri (va_runS (As := [.int (nI qa), .int (nI k)]) (rest := [.ref (am 3)]) ⟨hx, hb, hml, hown, hts⟩ (k_X5_home l qa k) (sd_cwS hts wd_X5_home wn_X5 wm_X5_91 wi_X5_home nq_X5_home rfl rfl ⟨Nat.le_of_ble_eq_true rfl, Nat.le_of_ble_eq_true rfl⟩) sd_preN rfl rfl hl.1 rfl (lv_room (Nat.le_of_ble_eq_true rfl)) dX5_join_151 ⟨Nat.zero_le _, Nat.zero_le _⟩) (fun r4 hr4 => ?_)
                        subst hr4
                        refine sd_lald hx hb hK hP 3 0 rfl rfl (k := 17 * qa + k) (by omega) (by decide) dX5_join_154 ?_
                        refine lv_lstore (lv' := [(8, .long (sd_L (s1 (17 * qa + k)))), (7, .int (nI k)), (0, .ref (am 0)), (1, .int (nI q)), (2, .int (nI qa)), (3, .int (nI qb)), (4, .int (nI h)), (5, .int (nI dd)), (6, .int (nI nn))]) hx hb dX5_join_155 hl (by decide) rfl (fun ls hl => ?_)
                        refine lv_aload_n hx hb dX5_join_157 rfl (lv_at hl 2 rfl) ?_
                        refine va_get (D := D) (ci := 5) (v := .ref (am 3)) (C := RX5) (T := TX5) (N := 15) hx hb hts (fun w h => mm (inX5 w h)) hown hK hP 0 rfl rfl 3 (by decide) (hts _ (mm wf_X5_16)) (fun _ h9 => h9) rfl dX5_join_158 ?_
                        refine lv_iload_n hx hb dX5_join_161 rfl (lv_at hl 5 rfl) ?_
                        refine lv_iload hx hb dX5_join_162 (lv_at hl 1 rfl) ?_
                        refine sd_ri (va_runS (As := [.int (nI qb), .int (nI k)]) (rest := [.ref (am 3)]) ⟨hx, hb, hml, hown, hts⟩ (k_X5_home l qb k) (sd_cwS hts wd_X5_home wn_X5 wm_X5_91 wi_X5_home nq_X5_home rfl rfl ⟨Nat.le_of_ble_eq_true rfl, Nat.le_of_ble_eq_true rfl⟩) sd_preN rfl rfl hl.1 rfl (lv_room (Nat.le_of_ble_eq_true rfl)) dX5_join_164 ⟨Nat.zero_le _, Nat.zero_le _⟩) (fun r5 hr5 => ?_)
                        subst hr5
                        refine sd_lald hx hb hK hP 3 0 rfl rfl (k := 17 * qb + k) (by omega) (by decide) dX5_join_167 ?_
                        refine lv_lstore (lv' := [(10, .long (sd_L (s1 (17 * qb + k)))), (8, .long (sd_L (s1 (17 * qa + k)))), (7, .int (nI k)), (0, .ref (am 0)), (1, .int (nI q)), (2, .int (nI qa)), (3, .int (nI qb)), (4, .int (nI h)), (5, .int (nI dd)), (6, .int (nI nn))]) hx hb dX5_join_168 hl (by decide) rfl (fun ls hl => ?_)
                        refine lv_aload_n hx hb dX5_join_170 rfl (lv_at hl 3 rfl) ?_
                        refine va_get (D := D) (ci := 5) (v := .ref (am 4)) (C := RX5) (T := TX5) (N := 15) hx hb hts (fun w h => mm (inX5 w h)) hown hK hP 0 rfl rfl 4 (by decide) (hts _ (mm wf_X5_20)) (fun _ h9 => h9) rfl dX5_join_171 ?_
                        refine lv_iload_n hx hb dX5_join_174 rfl (lv_at hl 4 rfl) ?_
                        refine lv_iload hx hb dX5_join_175 (lv_at hl 2 rfl) ?_
                        refine sd_ri (va_runS (As := [.int (nI q), .int (nI k)]) (rest := [.ref (am 4)]) ⟨hx, hb, hml, hown, hts⟩ (k_X5_home l q k) (sd_cwS hts wd_X5_home wn_X5 wm_X5_91 wi_X5_home nq_X5_home rfl rfl ⟨Nat.le_of_ble_eq_true rfl, Nat.le_of_ble_eq_true rfl⟩) sd_preN rfl rfl hl.1 rfl (lv_room (Nat.le_of_ble_eq_true rfl)) dX5_join_177 ⟨Nat.zero_le _, Nat.zero_le _⟩) (fun r6 hr6 => ?_)
                        subst hr6
                        refine lv_aload_n hx hb dX5_join_180 rfl (lv_at hl 3 rfl) ?_
                        refine va_get (D := D) (ci := 5) (v := .ref (am 4)) (C := RX5) (T := TX5) (N := 15) hx hb hts (fun w h => mm (inX5 w h)) hown hK hP 0 rfl rfl 4 (by decide) (hts _ (mm wf_X5_20)) (fun _ h9 => h9) rfl dX5_join_181 ?_
                        refine lv_iload_n hx hb dX5_join_184 rfl (lv_at hl 5 rfl) ?_
                        refine lv_iload hx hb dX5_join_185 (lv_at hl 2 rfl) ?_
                        refine sd_ri (va_runS (As := [.int (nI qa), .int (nI k)]) (rest := [.ref (am 4), .int (nI (17 * q + k)), .ref (am 4)]) ⟨hx, hb, hml, hown, hts⟩ (k_X5_home l qa k) (sd_cwS hts wd_X5_home wn_X5 wm_X5_91 wi_X5_home nq_X5_home rfl rfl ⟨Nat.le_of_ble_eq_true rfl, Nat.le_of_ble_eq_true rfl⟩) sd_preN rfl rfl hl.1 rfl (lv_room (Nat.le_of_ble_eq_true rfl)) dX5_join_187 ⟨Nat.zero_le _, Nat.zero_le _⟩) (fun r7 hr7 => ?_)
                        subst hr7
                        refine sd_zald hx hb hK hP 4 1 rfl rfl (k := 17 * qa + k) (by omega) (by decide) dX5_join_190 ?_
                        refine sd_if_eqB (tgt := 212) hx hb dX5_join_191 (by decide) (fun c6 => ?_) (fun c6 => ?_)
                        · refine lv_iconst (v := nI 0) hx hb dX5_join_212 (by decide) ?_
                          refine sd_tob (b := mth (17 * qa + k) && mth (17 * qb + k)) (by rw [← ha9.1, c6]; rfl) ?_
                          refine sd_zast hx hb hK hP hD hS 4 1 rfl rfl (k := 17 * q + k) (by omega) (by decide) (ws2 := mw am tc (nI 0) mdg msz s1 (sd_up t1 (17 * q + k) (mth (17 * qa + k) && mth (17 * qb + k))) minv isf fsp mfo mwr mpl mny mch mcu mro) (by rw [sd_stZ]; exact rfl) dX5_join_213 (fun H locs hP hD hS => ?_)
                          refine lv_aload_n hx hb dX5_join_214 rfl (lv_at hl 3 rfl) ?_
                          refine va_get (D := D) (ci := 5) (v := .ref (am 3)) (C := RX5) (T := TX5) (N := 15) hx hb hts (fun w h => mm (inX5 w h)) hown hK hP 0 rfl rfl 3 (by decide) (hts _ (mm wf_X5_16)) (fun _ h9 => h9) rfl dX5_join_215 ?_
                          refine lv_iload_n hx hb dX5_join_218 rfl (lv_at hl 4 rfl) ?_
                          refine lv_iload hx hb dX5_join_219 (lv_at hl 2 rfl) ?_
                          refine sd_ri (va_runS (As := [.int (nI q), .int (nI k)]) (rest := [.ref (am 3)]) ⟨hx, hb, hml, hown, hts⟩ (k_X5_home l q k) (sd_cwS hts wd_X5_home wn_X5 wm_X5_91 wi_X5_home nq_X5_home rfl rfl ⟨Nat.le_of_ble_eq_true rfl, Nat.le_of_ble_eq_true rfl⟩) sd_preN rfl rfl hl.1 rfl (lv_room (Nat.le_of_ble_eq_true rfl)) dX5_join_221 ⟨Nat.zero_le _, Nat.zero_le _⟩) (fun r8 hr8 => ?_)
                          subst hr8
                          refine lv_iload hx hb dX5_join_224 (lv_at hl 7 rfl) ?_
                          refine lv_if_ne (tgt := 239) hx hb dX5_join_226 (by decide) (fun c8 => ?_) (fun c8 => ?_)
                          · refine lv_iload hx hb dX5_join_239 (lv_at hl 7 rfl) ?_
                            refine lv_iconst (v := nI 1) hx hb dX5_join_241 (by decide) ?_
                            refine sd_icmp_ne (tgt := 255) hx hb (by omega) (by omega) dX5_join_242 (by decide) (fun c9 => ?_) (fun c9 => ?_)
                            · refine lv_lload hx hb dX5_join_255 (lv_at hl 1 rfl) ?_
                              refine lv_lload hx hb dX5_join_257 (lv_at hl 0 rfl) ?_
                              refine sd_rl (va_runS (As := [.long (sd_L (s1 (17 * qa + k))), .long (sd_L (s1 (17 * qb + k)))]) (rest := [.int (nI (17 * q + k)), .ref (am 3)]) ⟨hx, hb, hml, hown, hts⟩ (k_X5_times l (s1 (17 * qa + k)) (s1 (17 * qb + k))) (sd_cwS hts wd_X5_times wn_X5 wm_X5_70 wi_X5_times nq_X5_times rfl rfl ⟨Nat.le_of_ble_eq_true rfl, Nat.le_of_ble_eq_true rfl⟩) sd_preN rfl rfl hl.1 rfl (lv_room (Nat.le_of_ble_eq_true rfl)) dX5_join_259 ⟨Nat.zero_le _, Nat.zero_le _⟩) (fun r9 hr9 => ?_)
                              subst hr9
                              refine sd_tol (y := sd_L (sd_jn h (s1 (17 * qa + k)) (s1 (17 * qb + k)))) (by rw [sd_jn, if_neg (fun z => c8 (by rw [z]; exact nI_0)), if_neg c9]) ?_
                              refine sd_last hx hb hK hP hD hS 3 0 rfl rfl (k := 17 * q + k) (by omega) (by decide) (ws2 := mw am tc (nI 0) mdg msz (sd_up s1 (17 * q + k) (sd_jn h (s1 (17 * qa + k)) (s1 (17 * qb + k)))) (sd_up t1 (17 * q + k) (mth (17 * qa + k) && mth (17 * qb + k))) minv isf fsp mfo mwr mpl mny mch mcu mro) (by rw [sd_stL]; exact rfl) dX5_join_262 (fun H locs hP hD hS => ?_)
                              refine lv_iinc (v := nI (k + 1)) (lv' := [(7, .int (nI (k + 1))), (10, .long (sd_L (s1 (17 * qb + k)))), (8, .long (sd_L (s1 (17 * qa + k)))), (0, .ref (am 0)), (1, .int (nI q)), (2, .int (nI qa)), (3, .int (nI qb)), (4, .int (nI h)), (5, .int (nI dd)), (6, .int (nI nn))]) hx hb dX5_join_263 hl (k := 2) rfl (nI_1 _) (by decide) rfl (fun ls hl => ?_)
                              refine lv_goto (tgt := 137) hx hb dX5_join_266 (by decide) ?_
                              have hI9 : ∀ i, (17 * q + 1 ≤ i ∧ i < 17 * q + (k + 1) → (sd_up t1 (17 * q + k) (mth (17 * qa + k) && mth (17 * qb + k))) i = (mth (17 * qa + (i - 17 * q)) && mth (17 * qb + (i - 17 * q))) ∧ (sd_up s1 (17 * q + k) (sd_jn h (s1 (17 * qa + k)) (s1 (17 * qb + k)))) i = sd_jn h (msh (17 * qa + (i - 17 * q))) (msh (17 * qb + (i - 17 * q)))) ∧ (¬ (17 * q + 1 ≤ i ∧ i < 17 * q + (k + 1)) → (sd_up t1 (17 * q + k) (mth (17 * qa + k) && mth (17 * qb + k))) i = mth i ∧ (sd_up s1 (17 * q + k) (sd_jn h (s1 (17 * qa + k)) (s1 (17 * qb + k)))) i = msh i) := by
                                intro i
                                by_cases ei : i = 17 * q + k
                                · rw [ei, sd_up_s, sd_up_s, Nat.add_sub_cancel_left, ha9.2, hb9.2]
                                  exact ⟨fun _ => ⟨rfl, rfl⟩, fun z => absurd (by omega) z⟩
                                · rw [sd_up_n _ _ ei, sd_up_n _ _ ei]
                                  exact ⟨fun z => (hI i).1 (by omega), fun z => (hI i).2 (by omega)⟩
                              exact ih (k := k + 1) (s1 := sd_up s1 (17 * q + k) (sd_jn h (s1 (17 * qa + k)) (s1 (17 * qb + k)))) (t1 := sd_up t1 (17 * q + k) (mth (17 * qa + k) && mth (17 * qb + k))) (hk := by omega) (hI := hI9) (H := H) (locs := locs) (hP := hP) (hD := hD) (hS := hS) (ls := ls) (hl := (lv_sub hl [0, 3, 4, 5, 6, 7, 8, 9] rfl)) (hk9 := by omega)
                            · refine lv_lload hx hb dX5_join_245 (lv_at hl 1 rfl) ?_
                              refine lv_lload hx hb dX5_join_247 (lv_at hl 0 rfl) ?_
                              refine sd_rl (va_runS (As := [.long (sd_L (s1 (17 * qa + k))), .long (sd_L (s1 (17 * qb + k)))]) (rest := [.int (nI (17 * q + k)), .ref (am 3)]) ⟨hx, hb, hml, hown, hts⟩ (k_X5_minus l (s1 (17 * qa + k)) (s1 (17 * qb + k))) (sd_cwS hts wd_X5_minus wn_X5 wm_X5_103 wi_X5_minus nq_X5_minus rfl rfl ⟨Nat.le_of_ble_eq_true rfl, Nat.le_of_ble_eq_true rfl⟩) sd_preN rfl rfl hl.1 rfl (lv_room (Nat.le_of_ble_eq_true rfl)) dX5_join_249 ⟨Nat.zero_le _, Nat.zero_le _⟩) (fun r10 hr10 => ?_)
                              subst hr10
                              refine lv_goto (tgt := 262) hx hb dX5_join_252 (by decide) ?_
                              refine sd_tol (y := sd_L (sd_jn h (s1 (17 * qa + k)) (s1 (17 * qb + k)))) (by rw [sd_jn, if_neg (fun z => c8 (by rw [z]; exact nI_0)), if_pos c9]) ?_
                              refine sd_last hx hb hK hP hD hS 3 0 rfl rfl (k := 17 * q + k) (by omega) (by decide) (ws2 := mw am tc (nI 0) mdg msz (sd_up s1 (17 * q + k) (sd_jn h (s1 (17 * qa + k)) (s1 (17 * qb + k)))) (sd_up t1 (17 * q + k) (mth (17 * qa + k) && mth (17 * qb + k))) minv isf fsp mfo mwr mpl mny mch mcu mro) (by rw [sd_stL]; exact rfl) dX5_join_262 (fun H locs hP hD hS => ?_)
                              refine lv_iinc (v := nI (k + 1)) (lv' := [(7, .int (nI (k + 1))), (10, .long (sd_L (s1 (17 * qb + k)))), (8, .long (sd_L (s1 (17 * qa + k)))), (0, .ref (am 0)), (1, .int (nI q)), (2, .int (nI qa)), (3, .int (nI qb)), (4, .int (nI h)), (5, .int (nI dd)), (6, .int (nI nn))]) hx hb dX5_join_263 hl (k := 2) rfl (nI_1 _) (by decide) rfl (fun ls hl => ?_)
                              refine lv_goto (tgt := 137) hx hb dX5_join_266 (by decide) ?_
                              have hI9 : ∀ i, (17 * q + 1 ≤ i ∧ i < 17 * q + (k + 1) → (sd_up t1 (17 * q + k) (mth (17 * qa + k) && mth (17 * qb + k))) i = (mth (17 * qa + (i - 17 * q)) && mth (17 * qb + (i - 17 * q))) ∧ (sd_up s1 (17 * q + k) (sd_jn h (s1 (17 * qa + k)) (s1 (17 * qb + k)))) i = sd_jn h (msh (17 * qa + (i - 17 * q))) (msh (17 * qb + (i - 17 * q)))) ∧ (¬ (17 * q + 1 ≤ i ∧ i < 17 * q + (k + 1)) → (sd_up t1 (17 * q + k) (mth (17 * qa + k) && mth (17 * qb + k))) i = mth i ∧ (sd_up s1 (17 * q + k) (sd_jn h (s1 (17 * qa + k)) (s1 (17 * qb + k)))) i = msh i) := by
                                intro i
                                by_cases ei : i = 17 * q + k
                                · rw [ei, sd_up_s, sd_up_s, Nat.add_sub_cancel_left, ha9.2, hb9.2]
                                  exact ⟨fun _ => ⟨rfl, rfl⟩, fun z => absurd (by omega) z⟩
                                · rw [sd_up_n _ _ ei, sd_up_n _ _ ei]
                                  exact ⟨fun z => (hI i).1 (by omega), fun z => (hI i).2 (by omega)⟩
                              exact ih (k := k + 1) (s1 := sd_up s1 (17 * q + k) (sd_jn h (s1 (17 * qa + k)) (s1 (17 * qb + k)))) (t1 := sd_up t1 (17 * q + k) (mth (17 * qa + k) && mth (17 * qb + k))) (hk := by omega) (hI := hI9) (H := H) (locs := locs) (hP := hP) (hD := hD) (hS := hS) (ls := ls) (hl := (lv_sub hl [0, 3, 4, 5, 6, 7, 8, 9] rfl)) (hk9 := by omega)
                          · refine lv_lload hx hb dX5_join_229 (lv_at hl 1 rfl) ?_
                            refine lv_lload hx hb dX5_join_231 (lv_at hl 0 rfl) ?_
                            refine sd_rl (va_runS (As := [.long (sd_L (s1 (17 * qa + k))), .long (sd_L (s1 (17 * qb + k)))]) (rest := [.int (nI (17 * q + k)), .ref (am 3)]) ⟨hx, hb, hml, hown, hts⟩ (k_X5_plus l (s1 (17 * qa + k)) (s1 (17 * qb + k))) (sd_cwS hts wd_X5_plus wn_X5 wm_X5_65 wi_X5_plus nq_X5_plus rfl rfl ⟨Nat.le_of_ble_eq_true rfl, Nat.le_of_ble_eq_true rfl⟩) sd_preN rfl rfl hl.1 rfl (lv_room (Nat.le_of_ble_eq_true rfl)) dX5_join_233 ⟨Nat.zero_le _, Nat.zero_le _⟩) (fun r11 hr11 => ?_)
                            subst hr11
                            refine lv_goto (tgt := 262) hx hb dX5_join_236 (by decide) ?_
                            refine sd_tol (y := sd_L (sd_jn h (s1 (17 * qa + k)) (s1 (17 * qb + k)))) (by rw [sd_jn, if_pos (sd_nI_inj (by omega) (by decide) (c8.trans nI_0.symm))]) ?_
                            refine sd_last hx hb hK hP hD hS 3 0 rfl rfl (k := 17 * q + k) (by omega) (by decide) (ws2 := mw am tc (nI 0) mdg msz (sd_up s1 (17 * q + k) (sd_jn h (s1 (17 * qa + k)) (s1 (17 * qb + k)))) (sd_up t1 (17 * q + k) (mth (17 * qa + k) && mth (17 * qb + k))) minv isf fsp mfo mwr mpl mny mch mcu mro) (by rw [sd_stL]; exact rfl) dX5_join_262 (fun H locs hP hD hS => ?_)
                            refine lv_iinc (v := nI (k + 1)) (lv' := [(7, .int (nI (k + 1))), (10, .long (sd_L (s1 (17 * qb + k)))), (8, .long (sd_L (s1 (17 * qa + k)))), (0, .ref (am 0)), (1, .int (nI q)), (2, .int (nI qa)), (3, .int (nI qb)), (4, .int (nI h)), (5, .int (nI dd)), (6, .int (nI nn))]) hx hb dX5_join_263 hl (k := 2) rfl (nI_1 _) (by decide) rfl (fun ls hl => ?_)
                            refine lv_goto (tgt := 137) hx hb dX5_join_266 (by decide) ?_
                            have hI9 : ∀ i, (17 * q + 1 ≤ i ∧ i < 17 * q + (k + 1) → (sd_up t1 (17 * q + k) (mth (17 * qa + k) && mth (17 * qb + k))) i = (mth (17 * qa + (i - 17 * q)) && mth (17 * qb + (i - 17 * q))) ∧ (sd_up s1 (17 * q + k) (sd_jn h (s1 (17 * qa + k)) (s1 (17 * qb + k)))) i = sd_jn h (msh (17 * qa + (i - 17 * q))) (msh (17 * qb + (i - 17 * q)))) ∧ (¬ (17 * q + 1 ≤ i ∧ i < 17 * q + (k + 1)) → (sd_up t1 (17 * q + k) (mth (17 * qa + k) && mth (17 * qb + k))) i = mth i ∧ (sd_up s1 (17 * q + k) (sd_jn h (s1 (17 * qa + k)) (s1 (17 * qb + k)))) i = msh i) := by
                              intro i
                              by_cases ei : i = 17 * q + k
                              · rw [ei, sd_up_s, sd_up_s, Nat.add_sub_cancel_left, ha9.2, hb9.2]
                                exact ⟨fun _ => ⟨rfl, rfl⟩, fun z => absurd (by omega) z⟩
                              · rw [sd_up_n _ _ ei, sd_up_n _ _ ei]
                                exact ⟨fun z => (hI i).1 (by omega), fun z => (hI i).2 (by omega)⟩
                            exact ih (k := k + 1) (s1 := sd_up s1 (17 * q + k) (sd_jn h (s1 (17 * qa + k)) (s1 (17 * qb + k)))) (t1 := sd_up t1 (17 * q + k) (mth (17 * qa + k) && mth (17 * qb + k))) (hk := by omega) (hI := hI9) (H := H) (locs := locs) (hP := hP) (hD := hD) (hS := hS) (ls := ls) (hl := (lv_sub hl [0, 3, 4, 5, 6, 7, 8, 9] rfl)) (hk9 := by omega)
                        · refine lv_aload_n hx hb dX5_join_194 rfl (lv_at hl 3 rfl) ?_
                          refine va_get (D := D) (ci := 5) (v := .ref (am 4)) (C := RX5) (T := TX5) (N := 15) hx hb hts (fun w h => mm (inX5 w h)) hown hK hP 0 rfl rfl 4 (by decide) (hts _ (mm wf_X5_20)) (fun _ h9 => h9) rfl dX5_join_195 ?_
                          refine lv_iload_n hx hb dX5_join_198 rfl (lv_at hl 6 rfl) ?_
                          refine lv_iload hx hb dX5_join_199 (lv_at hl 2 rfl) ?_
                          refine sd_ri (va_runS (As := [.int (nI qb), .int (nI k)]) (rest := [.ref (am 4), .int (nI (17 * q + k)), .ref (am 4)]) ⟨hx, hb, hml, hown, hts⟩ (k_X5_home l qb k) (sd_cwS hts wd_X5_home wn_X5 wm_X5_91 wi_X5_home nq_X5_home rfl rfl ⟨Nat.le_of_ble_eq_true rfl, Nat.le_of_ble_eq_true rfl⟩) sd_preN rfl rfl hl.1 rfl (lv_room (Nat.le_of_ble_eq_true rfl)) dX5_join_201 ⟨Nat.zero_le _, Nat.zero_le _⟩) (fun r12 hr12 => ?_)
                          subst hr12
                          refine sd_zald hx hb hK hP 4 1 rfl rfl (k := 17 * qb + k) (by omega) (by decide) dX5_join_204 ?_
                          refine sd_if_eqB (tgt := 212) hx hb dX5_join_205 (by decide) (fun c7 => ?_) (fun c7 => ?_)
                          · refine lv_iconst (v := nI 0) hx hb dX5_join_212 (by decide) ?_
                            refine sd_tob (b := mth (17 * qa + k) && mth (17 * qb + k)) (by rw [← ha9.1, ← hb9.1, c6, c7]; rfl) ?_
                            refine sd_zast hx hb hK hP hD hS 4 1 rfl rfl (k := 17 * q + k) (by omega) (by decide) (ws2 := mw am tc (nI 0) mdg msz s1 (sd_up t1 (17 * q + k) (mth (17 * qa + k) && mth (17 * qb + k))) minv isf fsp mfo mwr mpl mny mch mcu mro) (by rw [sd_stZ]; exact rfl) dX5_join_213 (fun H locs hP hD hS => ?_)
                            refine lv_aload_n hx hb dX5_join_214 rfl (lv_at hl 3 rfl) ?_
                            refine va_get (D := D) (ci := 5) (v := .ref (am 3)) (C := RX5) (T := TX5) (N := 15) hx hb hts (fun w h => mm (inX5 w h)) hown hK hP 0 rfl rfl 3 (by decide) (hts _ (mm wf_X5_16)) (fun _ h9 => h9) rfl dX5_join_215 ?_
                            refine lv_iload_n hx hb dX5_join_218 rfl (lv_at hl 4 rfl) ?_
                            refine lv_iload hx hb dX5_join_219 (lv_at hl 2 rfl) ?_
                            refine sd_ri (va_runS (As := [.int (nI q), .int (nI k)]) (rest := [.ref (am 3)]) ⟨hx, hb, hml, hown, hts⟩ (k_X5_home l q k) (sd_cwS hts wd_X5_home wn_X5 wm_X5_91 wi_X5_home nq_X5_home rfl rfl ⟨Nat.le_of_ble_eq_true rfl, Nat.le_of_ble_eq_true rfl⟩) sd_preN rfl rfl hl.1 rfl (lv_room (Nat.le_of_ble_eq_true rfl)) dX5_join_221 ⟨Nat.zero_le _, Nat.zero_le _⟩) (fun r13 hr13 => ?_)
                            subst hr13
                            refine lv_iload hx hb dX5_join_224 (lv_at hl 7 rfl) ?_
                            refine lv_if_ne (tgt := 239) hx hb dX5_join_226 (by decide) (fun c8 => ?_) (fun c8 => ?_)
                            · refine lv_iload hx hb dX5_join_239 (lv_at hl 7 rfl) ?_
                              refine lv_iconst (v := nI 1) hx hb dX5_join_241 (by decide) ?_
                              refine sd_icmp_ne (tgt := 255) hx hb (by omega) (by omega) dX5_join_242 (by decide) (fun c9 => ?_) (fun c9 => ?_)
                              · refine lv_lload hx hb dX5_join_255 (lv_at hl 1 rfl) ?_
                                refine lv_lload hx hb dX5_join_257 (lv_at hl 0 rfl) ?_
                                refine sd_rl (va_runS (As := [.long (sd_L (s1 (17 * qa + k))), .long (sd_L (s1 (17 * qb + k)))]) (rest := [.int (nI (17 * q + k)), .ref (am 3)]) ⟨hx, hb, hml, hown, hts⟩ (k_X5_times l (s1 (17 * qa + k)) (s1 (17 * qb + k))) (sd_cwS hts wd_X5_times wn_X5 wm_X5_70 wi_X5_times nq_X5_times rfl rfl ⟨Nat.le_of_ble_eq_true rfl, Nat.le_of_ble_eq_true rfl⟩) sd_preN rfl rfl hl.1 rfl (lv_room (Nat.le_of_ble_eq_true rfl)) dX5_join_259 ⟨Nat.zero_le _, Nat.zero_le _⟩) (fun r14 hr14 => ?_)
                                subst hr14
                                refine sd_tol (y := sd_L (sd_jn h (s1 (17 * qa + k)) (s1 (17 * qb + k)))) (by rw [sd_jn, if_neg (fun z => c8 (by rw [z]; exact nI_0)), if_neg c9]) ?_
                                refine sd_last hx hb hK hP hD hS 3 0 rfl rfl (k := 17 * q + k) (by omega) (by decide) (ws2 := mw am tc (nI 0) mdg msz (sd_up s1 (17 * q + k) (sd_jn h (s1 (17 * qa + k)) (s1 (17 * qb + k)))) (sd_up t1 (17 * q + k) (mth (17 * qa + k) && mth (17 * qb + k))) minv isf fsp mfo mwr mpl mny mch mcu mro) (by rw [sd_stL]; exact rfl) dX5_join_262 (fun H locs hP hD hS => ?_)
                                refine lv_iinc (v := nI (k + 1)) (lv' := [(7, .int (nI (k + 1))), (10, .long (sd_L (s1 (17 * qb + k)))), (8, .long (sd_L (s1 (17 * qa + k)))), (0, .ref (am 0)), (1, .int (nI q)), (2, .int (nI qa)), (3, .int (nI qb)), (4, .int (nI h)), (5, .int (nI dd)), (6, .int (nI nn))]) hx hb dX5_join_263 hl (k := 2) rfl (nI_1 _) (by decide) rfl (fun ls hl => ?_)
                                refine lv_goto (tgt := 137) hx hb dX5_join_266 (by decide) ?_
                                have hI9 : ∀ i, (17 * q + 1 ≤ i ∧ i < 17 * q + (k + 1) → (sd_up t1 (17 * q + k) (mth (17 * qa + k) && mth (17 * qb + k))) i = (mth (17 * qa + (i - 17 * q)) && mth (17 * qb + (i - 17 * q))) ∧ (sd_up s1 (17 * q + k) (sd_jn h (s1 (17 * qa + k)) (s1 (17 * qb + k)))) i = sd_jn h (msh (17 * qa + (i - 17 * q))) (msh (17 * qb + (i - 17 * q)))) ∧ (¬ (17 * q + 1 ≤ i ∧ i < 17 * q + (k + 1)) → (sd_up t1 (17 * q + k) (mth (17 * qa + k) && mth (17 * qb + k))) i = mth i ∧ (sd_up s1 (17 * q + k) (sd_jn h (s1 (17 * qa + k)) (s1 (17 * qb + k)))) i = msh i) := by
                                  intro i
                                  by_cases ei : i = 17 * q + k
                                  · rw [ei, sd_up_s, sd_up_s, Nat.add_sub_cancel_left, ha9.2, hb9.2]
                                    exact ⟨fun _ => ⟨rfl, rfl⟩, fun z => absurd (by omega) z⟩
                                  · rw [sd_up_n _ _ ei, sd_up_n _ _ ei]
                                    exact ⟨fun z => (hI i).1 (by omega), fun z => (hI i).2 (by omega)⟩
                                exact ih (k := k + 1) (s1 := sd_up s1 (17 * q + k) (sd_jn h (s1 (17 * qa + k)) (s1 (17 * qb + k)))) (t1 := sd_up t1 (17 * q + k) (mth (17 * qa + k) && mth (17 * qb + k))) (hk := by omega) (hI := hI9) (H := H) (locs := locs) (hP := hP) (hD := hD) (hS := hS) (ls := ls) (hl := (lv_sub hl [0, 3, 4, 5, 6, 7, 8, 9] rfl)) (hk9 := by omega)
                              · refine lv_lload hx hb dX5_join_245 (lv_at hl 1 rfl) ?_
                                refine lv_lload hx hb dX5_join_247 (lv_at hl 0 rfl) ?_
                                refine sd_rl (va_runS (As := [.long (sd_L (s1 (17 * qa + k))), .long (sd_L (s1 (17 * qb + k)))]) (rest := [.int (nI (17 * q + k)), .ref (am 3)]) ⟨hx, hb, hml, hown, hts⟩ (k_X5_minus l (s1 (17 * qa + k)) (s1 (17 * qb + k))) (sd_cwS hts wd_X5_minus wn_X5 wm_X5_103 wi_X5_minus nq_X5_minus rfl rfl ⟨Nat.le_of_ble_eq_true rfl, Nat.le_of_ble_eq_true rfl⟩) sd_preN rfl rfl hl.1 rfl (lv_room (Nat.le_of_ble_eq_true rfl)) dX5_join_249 ⟨Nat.zero_le _, Nat.zero_le _⟩) (fun r15 hr15 => ?_)
                                subst hr15
                                refine lv_goto (tgt := 262) hx hb dX5_join_252 (by decide) ?_
                                refine sd_tol (y := sd_L (sd_jn h (s1 (17 * qa + k)) (s1 (17 * qb + k)))) (by rw [sd_jn, if_neg (fun z => c8 (by rw [z]; exact nI_0)), if_pos c9]) ?_
                                refine sd_last hx hb hK hP hD hS 3 0 rfl rfl (k := 17 * q + k) (by omega) (by decide) (ws2 := mw am tc (nI 0) mdg msz (sd_up s1 (17 * q + k) (sd_jn h (s1 (17 * qa + k)) (s1 (17 * qb + k)))) (sd_up t1 (17 * q + k) (mth (17 * qa + k) && mth (17 * qb + k))) minv isf fsp mfo mwr mpl mny mch mcu mro) (by rw [sd_stL]; exact rfl) dX5_join_262 (fun H locs hP hD hS => ?_)
                                refine lv_iinc (v := nI (k + 1)) (lv' := [(7, .int (nI (k + 1))), (10, .long (sd_L (s1 (17 * qb + k)))), (8, .long (sd_L (s1 (17 * qa + k)))), (0, .ref (am 0)), (1, .int (nI q)), (2, .int (nI qa)), (3, .int (nI qb)), (4, .int (nI h)), (5, .int (nI dd)), (6, .int (nI nn))]) hx hb dX5_join_263 hl (k := 2) rfl (nI_1 _) (by decide) rfl (fun ls hl => ?_)
                                refine lv_goto (tgt := 137) hx hb dX5_join_266 (by decide) ?_
                                have hI9 : ∀ i, (17 * q + 1 ≤ i ∧ i < 17 * q + (k + 1) → (sd_up t1 (17 * q + k) (mth (17 * qa + k) && mth (17 * qb + k))) i = (mth (17 * qa + (i - 17 * q)) && mth (17 * qb + (i - 17 * q))) ∧ (sd_up s1 (17 * q + k) (sd_jn h (s1 (17 * qa + k)) (s1 (17 * qb + k)))) i = sd_jn h (msh (17 * qa + (i - 17 * q))) (msh (17 * qb + (i - 17 * q)))) ∧ (¬ (17 * q + 1 ≤ i ∧ i < 17 * q + (k + 1)) → (sd_up t1 (17 * q + k) (mth (17 * qa + k) && mth (17 * qb + k))) i = mth i ∧ (sd_up s1 (17 * q + k) (sd_jn h (s1 (17 * qa + k)) (s1 (17 * qb + k)))) i = msh i) := by
                                  intro i
                                  by_cases ei : i = 17 * q + k
                                  · rw [ei, sd_up_s, sd_up_s, Nat.add_sub_cancel_left, ha9.2, hb9.2]
                                    exact ⟨fun _ => ⟨rfl, rfl⟩, fun z => absurd (by omega) z⟩
                                  · rw [sd_up_n _ _ ei, sd_up_n _ _ ei]
                                    exact ⟨fun z => (hI i).1 (by omega), fun z => (hI i).2 (by omega)⟩
                                exact ih (k := k + 1) (s1 := sd_up s1 (17 * q + k) (sd_jn h (s1 (17 * qa + k)) (s1 (17 * qb + k)))) (t1 := sd_up t1 (17 * q + k) (mth (17 * qa + k) && mth (17 * qb + k))) (hk := by omega) (hI := hI9) (H := H) (locs := locs) (hP := hP) (hD := hD) (hS := hS) (ls := ls) (hl := (lv_sub hl [0, 3, 4, 5, 6, 7, 8, 9] rfl)) (hk9 := by omega)
                            · refine lv_lload hx hb dX5_join_229 (lv_at hl 1 rfl) ?_
                              refine lv_lload hx hb dX5_join_231 (lv_at hl 0 rfl) ?_
                              refine sd_rl (va_runS (As := [.long (sd_L (s1 (17 * qa + k))), .long (sd_L (s1 (17 * qb + k)))]) (rest := [.int (nI (17 * q + k)), .ref (am 3)]) ⟨hx, hb, hml, hown, hts⟩ (k_X5_plus l (s1 (17 * qa + k)) (s1 (17 * qb + k))) (sd_cwS hts wd_X5_plus wn_X5 wm_X5_65 wi_X5_plus nq_X5_plus rfl rfl ⟨Nat.le_of_ble_eq_true rfl, Nat.le_of_ble_eq_true rfl⟩) sd_preN rfl rfl hl.1 rfl (lv_room (Nat.le_of_ble_eq_true rfl)) dX5_join_233 ⟨Nat.zero_le _, Nat.zero_le _⟩) (fun r16 hr16 => ?_)
                              subst hr16
                              refine lv_goto (tgt := 262) hx hb dX5_join_236 (by decide) ?_
                              refine sd_tol (y := sd_L (sd_jn h (s1 (17 * qa + k)) (s1 (17 * qb + k)))) (by rw [sd_jn, if_pos (sd_nI_inj (by omega) (by decide) (c8.trans nI_0.symm))]) ?_
                              refine sd_last hx hb hK hP hD hS 3 0 rfl rfl (k := 17 * q + k) (by omega) (by decide) (ws2 := mw am tc (nI 0) mdg msz (sd_up s1 (17 * q + k) (sd_jn h (s1 (17 * qa + k)) (s1 (17 * qb + k)))) (sd_up t1 (17 * q + k) (mth (17 * qa + k) && mth (17 * qb + k))) minv isf fsp mfo mwr mpl mny mch mcu mro) (by rw [sd_stL]; exact rfl) dX5_join_262 (fun H locs hP hD hS => ?_)
                              refine lv_iinc (v := nI (k + 1)) (lv' := [(7, .int (nI (k + 1))), (10, .long (sd_L (s1 (17 * qb + k)))), (8, .long (sd_L (s1 (17 * qa + k)))), (0, .ref (am 0)), (1, .int (nI q)), (2, .int (nI qa)), (3, .int (nI qb)), (4, .int (nI h)), (5, .int (nI dd)), (6, .int (nI nn))]) hx hb dX5_join_263 hl (k := 2) rfl (nI_1 _) (by decide) rfl (fun ls hl => ?_)
                              refine lv_goto (tgt := 137) hx hb dX5_join_266 (by decide) ?_
                              have hI9 : ∀ i, (17 * q + 1 ≤ i ∧ i < 17 * q + (k + 1) → (sd_up t1 (17 * q + k) (mth (17 * qa + k) && mth (17 * qb + k))) i = (mth (17 * qa + (i - 17 * q)) && mth (17 * qb + (i - 17 * q))) ∧ (sd_up s1 (17 * q + k) (sd_jn h (s1 (17 * qa + k)) (s1 (17 * qb + k)))) i = sd_jn h (msh (17 * qa + (i - 17 * q))) (msh (17 * qb + (i - 17 * q)))) ∧ (¬ (17 * q + 1 ≤ i ∧ i < 17 * q + (k + 1)) → (sd_up t1 (17 * q + k) (mth (17 * qa + k) && mth (17 * qb + k))) i = mth i ∧ (sd_up s1 (17 * q + k) (sd_jn h (s1 (17 * qa + k)) (s1 (17 * qb + k)))) i = msh i) := by
                                intro i
                                by_cases ei : i = 17 * q + k
                                · rw [ei, sd_up_s, sd_up_s, Nat.add_sub_cancel_left, ha9.2, hb9.2]
                                  exact ⟨fun _ => ⟨rfl, rfl⟩, fun z => absurd (by omega) z⟩
                                · rw [sd_up_n _ _ ei, sd_up_n _ _ ei]
                                  exact ⟨fun z => (hI i).1 (by omega), fun z => (hI i).2 (by omega)⟩
                              exact ih (k := k + 1) (s1 := sd_up s1 (17 * q + k) (sd_jn h (s1 (17 * qa + k)) (s1 (17 * qb + k)))) (t1 := sd_up t1 (17 * q + k) (mth (17 * qa + k) && mth (17 * qb + k))) (hk := by omega) (hI := hI9) (H := H) (locs := locs) (hP := hP) (hD := hD) (hS := hS) (ls := ls) (hl := (lv_sub hl [0, 3, 4, 5, 6, 7, 8, 9] rfl)) (hk9 := by omega)
                          · refine lv_iconst (v := nI 1) hx hb dX5_join_208 (by decide) ?_
                            refine lv_goto (tgt := 213) hx hb dX5_join_209 (by decide) ?_
                            refine sd_tob (b := mth (17 * qa + k) && mth (17 * qb + k)) (by rw [← ha9.1, ← hb9.1, c6, c7]; rfl) ?_
                            refine sd_zast hx hb hK hP hD hS 4 1 rfl rfl (k := 17 * q + k) (by omega) (by decide) (ws2 := mw am tc (nI 0) mdg msz s1 (sd_up t1 (17 * q + k) (mth (17 * qa + k) && mth (17 * qb + k))) minv isf fsp mfo mwr mpl mny mch mcu mro) (by rw [sd_stZ]; exact rfl) dX5_join_213 (fun H locs hP hD hS => ?_)
                            refine lv_aload_n hx hb dX5_join_214 rfl (lv_at hl 3 rfl) ?_
                            refine va_get (D := D) (ci := 5) (v := .ref (am 3)) (C := RX5) (T := TX5) (N := 15) hx hb hts (fun w h => mm (inX5 w h)) hown hK hP 0 rfl rfl 3 (by decide) (hts _ (mm wf_X5_16)) (fun _ h9 => h9) rfl dX5_join_215 ?_
                            refine lv_iload_n hx hb dX5_join_218 rfl (lv_at hl 4 rfl) ?_
                            refine lv_iload hx hb dX5_join_219 (lv_at hl 2 rfl) ?_
                            refine sd_ri (va_runS (As := [.int (nI q), .int (nI k)]) (rest := [.ref (am 3)]) ⟨hx, hb, hml, hown, hts⟩ (k_X5_home l q k) (sd_cwS hts wd_X5_home wn_X5 wm_X5_91 wi_X5_home nq_X5_home rfl rfl ⟨Nat.le_of_ble_eq_true rfl, Nat.le_of_ble_eq_true rfl⟩) sd_preN rfl rfl hl.1 rfl (lv_room (Nat.le_of_ble_eq_true rfl)) dX5_join_221 ⟨Nat.zero_le _, Nat.zero_le _⟩) (fun r17 hr17 => ?_)
                            subst hr17
                            refine lv_iload hx hb dX5_join_224 (lv_at hl 7 rfl) ?_
                            refine lv_if_ne (tgt := 239) hx hb dX5_join_226 (by decide) (fun c8 => ?_) (fun c8 => ?_)
                            · refine lv_iload hx hb dX5_join_239 (lv_at hl 7 rfl) ?_
                              refine lv_iconst (v := nI 1) hx hb dX5_join_241 (by decide) ?_
                              refine sd_icmp_ne (tgt := 255) hx hb (by omega) (by omega) dX5_join_242 (by decide) (fun c9 => ?_) (fun c9 => ?_)
                              · refine lv_lload hx hb dX5_join_255 (lv_at hl 1 rfl) ?_
                                refine lv_lload hx hb dX5_join_257 (lv_at hl 0 rfl) ?_
                                refine sd_rl (va_runS (As := [.long (sd_L (s1 (17 * qa + k))), .long (sd_L (s1 (17 * qb + k)))]) (rest := [.int (nI (17 * q + k)), .ref (am 3)]) ⟨hx, hb, hml, hown, hts⟩ (k_X5_times l (s1 (17 * qa + k)) (s1 (17 * qb + k))) (sd_cwS hts wd_X5_times wn_X5 wm_X5_70 wi_X5_times nq_X5_times rfl rfl ⟨Nat.le_of_ble_eq_true rfl, Nat.le_of_ble_eq_true rfl⟩) sd_preN rfl rfl hl.1 rfl (lv_room (Nat.le_of_ble_eq_true rfl)) dX5_join_259 ⟨Nat.zero_le _, Nat.zero_le _⟩) (fun r18 hr18 => ?_)
                                subst hr18
                                refine sd_tol (y := sd_L (sd_jn h (s1 (17 * qa + k)) (s1 (17 * qb + k)))) (by rw [sd_jn, if_neg (fun z => c8 (by rw [z]; exact nI_0)), if_neg c9]) ?_
                                refine sd_last hx hb hK hP hD hS 3 0 rfl rfl (k := 17 * q + k) (by omega) (by decide) (ws2 := mw am tc (nI 0) mdg msz (sd_up s1 (17 * q + k) (sd_jn h (s1 (17 * qa + k)) (s1 (17 * qb + k)))) (sd_up t1 (17 * q + k) (mth (17 * qa + k) && mth (17 * qb + k))) minv isf fsp mfo mwr mpl mny mch mcu mro) (by rw [sd_stL]; exact rfl) dX5_join_262 (fun H locs hP hD hS => ?_)
                                refine lv_iinc (v := nI (k + 1)) (lv' := [(7, .int (nI (k + 1))), (10, .long (sd_L (s1 (17 * qb + k)))), (8, .long (sd_L (s1 (17 * qa + k)))), (0, .ref (am 0)), (1, .int (nI q)), (2, .int (nI qa)), (3, .int (nI qb)), (4, .int (nI h)), (5, .int (nI dd)), (6, .int (nI nn))]) hx hb dX5_join_263 hl (k := 2) rfl (nI_1 _) (by decide) rfl (fun ls hl => ?_)
                                refine lv_goto (tgt := 137) hx hb dX5_join_266 (by decide) ?_
                                have hI9 : ∀ i, (17 * q + 1 ≤ i ∧ i < 17 * q + (k + 1) → (sd_up t1 (17 * q + k) (mth (17 * qa + k) && mth (17 * qb + k))) i = (mth (17 * qa + (i - 17 * q)) && mth (17 * qb + (i - 17 * q))) ∧ (sd_up s1 (17 * q + k) (sd_jn h (s1 (17 * qa + k)) (s1 (17 * qb + k)))) i = sd_jn h (msh (17 * qa + (i - 17 * q))) (msh (17 * qb + (i - 17 * q)))) ∧ (¬ (17 * q + 1 ≤ i ∧ i < 17 * q + (k + 1)) → (sd_up t1 (17 * q + k) (mth (17 * qa + k) && mth (17 * qb + k))) i = mth i ∧ (sd_up s1 (17 * q + k) (sd_jn h (s1 (17 * qa + k)) (s1 (17 * qb + k)))) i = msh i) := by
                                  intro i
                                  by_cases ei : i = 17 * q + k
                                  · rw [ei, sd_up_s, sd_up_s, Nat.add_sub_cancel_left, ha9.2, hb9.2]
                                    exact ⟨fun _ => ⟨rfl, rfl⟩, fun z => absurd (by omega) z⟩
                                  · rw [sd_up_n _ _ ei, sd_up_n _ _ ei]
                                    exact ⟨fun z => (hI i).1 (by omega), fun z => (hI i).2 (by omega)⟩
                                exact ih (k := k + 1) (s1 := sd_up s1 (17 * q + k) (sd_jn h (s1 (17 * qa + k)) (s1 (17 * qb + k)))) (t1 := sd_up t1 (17 * q + k) (mth (17 * qa + k) && mth (17 * qb + k))) (hk := by omega) (hI := hI9) (H := H) (locs := locs) (hP := hP) (hD := hD) (hS := hS) (ls := ls) (hl := (lv_sub hl [0, 3, 4, 5, 6, 7, 8, 9] rfl)) (hk9 := by omega)
                              · refine lv_lload hx hb dX5_join_245 (lv_at hl 1 rfl) ?_
                                refine lv_lload hx hb dX5_join_247 (lv_at hl 0 rfl) ?_
                                refine sd_rl (va_runS (As := [.long (sd_L (s1 (17 * qa + k))), .long (sd_L (s1 (17 * qb + k)))]) (rest := [.int (nI (17 * q + k)), .ref (am 3)]) ⟨hx, hb, hml, hown, hts⟩ (k_X5_minus l (s1 (17 * qa + k)) (s1 (17 * qb + k))) (sd_cwS hts wd_X5_minus wn_X5 wm_X5_103 wi_X5_minus nq_X5_minus rfl rfl ⟨Nat.le_of_ble_eq_true rfl, Nat.le_of_ble_eq_true rfl⟩) sd_preN rfl rfl hl.1 rfl (lv_room (Nat.le_of_ble_eq_true rfl)) dX5_join_249 ⟨Nat.zero_le _, Nat.zero_le _⟩) (fun r19 hr19 => ?_)
                                subst hr19
                                refine lv_goto (tgt := 262) hx hb dX5_join_252 (by decide) ?_
                                refine sd_tol (y := sd_L (sd_jn h (s1 (17 * qa + k)) (s1 (17 * qb + k)))) (by rw [sd_jn, if_neg (fun z => c8 (by rw [z]; exact nI_0)), if_pos c9]) ?_
                                refine sd_last hx hb hK hP hD hS 3 0 rfl rfl (k := 17 * q + k) (by omega) (by decide) (ws2 := mw am tc (nI 0) mdg msz (sd_up s1 (17 * q + k) (sd_jn h (s1 (17 * qa + k)) (s1 (17 * qb + k)))) (sd_up t1 (17 * q + k) (mth (17 * qa + k) && mth (17 * qb + k))) minv isf fsp mfo mwr mpl mny mch mcu mro) (by rw [sd_stL]; exact rfl) dX5_join_262 (fun H locs hP hD hS => ?_)
                                refine lv_iinc (v := nI (k + 1)) (lv' := [(7, .int (nI (k + 1))), (10, .long (sd_L (s1 (17 * qb + k)))), (8, .long (sd_L (s1 (17 * qa + k)))), (0, .ref (am 0)), (1, .int (nI q)), (2, .int (nI qa)), (3, .int (nI qb)), (4, .int (nI h)), (5, .int (nI dd)), (6, .int (nI nn))]) hx hb dX5_join_263 hl (k := 2) rfl (nI_1 _) (by decide) rfl (fun ls hl => ?_)
                                refine lv_goto (tgt := 137) hx hb dX5_join_266 (by decide) ?_
                                have hI9 : ∀ i, (17 * q + 1 ≤ i ∧ i < 17 * q + (k + 1) → (sd_up t1 (17 * q + k) (mth (17 * qa + k) && mth (17 * qb + k))) i = (mth (17 * qa + (i - 17 * q)) && mth (17 * qb + (i - 17 * q))) ∧ (sd_up s1 (17 * q + k) (sd_jn h (s1 (17 * qa + k)) (s1 (17 * qb + k)))) i = sd_jn h (msh (17 * qa + (i - 17 * q))) (msh (17 * qb + (i - 17 * q)))) ∧ (¬ (17 * q + 1 ≤ i ∧ i < 17 * q + (k + 1)) → (sd_up t1 (17 * q + k) (mth (17 * qa + k) && mth (17 * qb + k))) i = mth i ∧ (sd_up s1 (17 * q + k) (sd_jn h (s1 (17 * qa + k)) (s1 (17 * qb + k)))) i = msh i) := by
                                  intro i
                                  by_cases ei : i = 17 * q + k
                                  · rw [ei, sd_up_s, sd_up_s, Nat.add_sub_cancel_left, ha9.2, hb9.2]
                                    exact ⟨fun _ => ⟨rfl, rfl⟩, fun z => absurd (by omega) z⟩
                                  · rw [sd_up_n _ _ ei, sd_up_n _ _ ei]
                                    exact ⟨fun z => (hI i).1 (by omega), fun z => (hI i).2 (by omega)⟩
                                exact ih (k := k + 1) (s1 := sd_up s1 (17 * q + k) (sd_jn h (s1 (17 * qa + k)) (s1 (17 * qb + k)))) (t1 := sd_up t1 (17 * q + k) (mth (17 * qa + k) && mth (17 * qb + k))) (hk := by omega) (hI := hI9) (H := H) (locs := locs) (hP := hP) (hD := hD) (hS := hS) (ls := ls) (hl := (lv_sub hl [0, 3, 4, 5, 6, 7, 8, 9] rfl)) (hk9 := by omega)
                            · refine lv_lload hx hb dX5_join_229 (lv_at hl 1 rfl) ?_
                              refine lv_lload hx hb dX5_join_231 (lv_at hl 0 rfl) ?_
                              refine sd_rl (va_runS (As := [.long (sd_L (s1 (17 * qa + k))), .long (sd_L (s1 (17 * qb + k)))]) (rest := [.int (nI (17 * q + k)), .ref (am 3)]) ⟨hx, hb, hml, hown, hts⟩ (k_X5_plus l (s1 (17 * qa + k)) (s1 (17 * qb + k))) (sd_cwS hts wd_X5_plus wn_X5 wm_X5_65 wi_X5_plus nq_X5_plus rfl rfl ⟨Nat.le_of_ble_eq_true rfl, Nat.le_of_ble_eq_true rfl⟩) sd_preN rfl rfl hl.1 rfl (lv_room (Nat.le_of_ble_eq_true rfl)) dX5_join_233 ⟨Nat.zero_le _, Nat.zero_le _⟩) (fun r20 hr20 => ?_)
                              subst hr20
                              refine lv_goto (tgt := 262) hx hb dX5_join_236 (by decide) ?_
                              refine sd_tol (y := sd_L (sd_jn h (s1 (17 * qa + k)) (s1 (17 * qb + k)))) (by rw [sd_jn, if_pos (sd_nI_inj (by omega) (by decide) (c8.trans nI_0.symm))]) ?_
                              refine sd_last hx hb hK hP hD hS 3 0 rfl rfl (k := 17 * q + k) (by omega) (by decide) (ws2 := mw am tc (nI 0) mdg msz (sd_up s1 (17 * q + k) (sd_jn h (s1 (17 * qa + k)) (s1 (17 * qb + k)))) (sd_up t1 (17 * q + k) (mth (17 * qa + k) && mth (17 * qb + k))) minv isf fsp mfo mwr mpl mny mch mcu mro) (by rw [sd_stL]; exact rfl) dX5_join_262 (fun H locs hP hD hS => ?_)
                              refine lv_iinc (v := nI (k + 1)) (lv' := [(7, .int (nI (k + 1))), (10, .long (sd_L (s1 (17 * qb + k)))), (8, .long (sd_L (s1 (17 * qa + k)))), (0, .ref (am 0)), (1, .int (nI q)), (2, .int (nI qa)), (3, .int (nI qb)), (4, .int (nI h)), (5, .int (nI dd)), (6, .int (nI nn))]) hx hb dX5_join_263 hl (k := 2) rfl (nI_1 _) (by decide) rfl (fun ls hl => ?_)
                              refine lv_goto (tgt := 137) hx hb dX5_join_266 (by decide) ?_
                              have hI9 : ∀ i, (17 * q + 1 ≤ i ∧ i < 17 * q + (k + 1) → (sd_up t1 (17 * q + k) (mth (17 * qa + k) && mth (17 * qb + k))) i = (mth (17 * qa + (i - 17 * q)) && mth (17 * qb + (i - 17 * q))) ∧ (sd_up s1 (17 * q + k) (sd_jn h (s1 (17 * qa + k)) (s1 (17 * qb + k)))) i = sd_jn h (msh (17 * qa + (i - 17 * q))) (msh (17 * qb + (i - 17 * q)))) ∧ (¬ (17 * q + 1 ≤ i ∧ i < 17 * q + (k + 1)) → (sd_up t1 (17 * q + k) (mth (17 * qa + k) && mth (17 * qb + k))) i = mth i ∧ (sd_up s1 (17 * q + k) (sd_jn h (s1 (17 * qa + k)) (s1 (17 * qb + k)))) i = msh i) := by
                                intro i
                                by_cases ei : i = 17 * q + k
                                · rw [ei, sd_up_s, sd_up_s, Nat.add_sub_cancel_left, ha9.2, hb9.2]
                                  exact ⟨fun _ => ⟨rfl, rfl⟩, fun z => absurd (by omega) z⟩
                                · rw [sd_up_n _ _ ei, sd_up_n _ _ ei]
                                  exact ⟨fun z => (hI i).1 (by omega), fun z => (hI i).2 (by omega)⟩
                              exact ih (k := k + 1) (s1 := sd_up s1 (17 * q + k) (sd_jn h (s1 (17 * qa + k)) (s1 (17 * qb + k)))) (t1 := sd_up t1 (17 * q + k) (mth (17 * qa + k) && mth (17 * qb + k))) (hk := by omega) (hI := hI9) (H := H) (locs := locs) (hP := hP) (hD := hD) (hS := hS) (ls := ls) (hl := (lv_sub hl [0, 3, 4, 5, 6, 7, 8, 9] rfl)) (hk9 := by omega)
                  · refine lv_aload_n hx hb dX5_join_117 rfl (lv_at hl 1 rfl) ?_
                    refine va_get (D := D) (ci := 5) (v := .ref (am 2)) (C := RX5) (T := TX5) (N := 15) hx hb hts (fun w h => mm (inX5 w h)) hown hK hP 0 rfl rfl 2 (by decide) (hts _ (mm wf_X5_13)) (fun _ h9 => h9) rfl dX5_join_118 ?_
                    refine lv_iload_n hx hb dX5_join_121 rfl (lv_at hl 3 rfl) ?_
                    refine sd_iald hx hb hK hP 2 2 rfl rfl (k := qa) (by omega) (by decide) dX5_join_122 ?_
                    refine lv_goto (tgt := 132) hx hb dX5_join_123 (by decide) ?_
                    obtain ⟨nn, hnn⟩ : ∃ nn, nn = min (msz qa) (msz qb) := ⟨_, rfl⟩
                    refine sd_toi (y := nI nn) (by rw [hnn, Nat.min_eq_left (by omega)]) ?_
                    refine lv_istore (lv' := [(6, .int (nI nn)), (5, .int (nI dd)), (0, .ref (am 0)), (1, .int (nI q)), (2, .int (nI qa)), (3, .int (nI qb)), (4, .int (nI h))]) hx hb dX5_join_132 hl (by decide) rfl (fun ls hl => ?_)
                    refine lv_iconst (v := nI 1) hx hb dX5_join_134 (by decide) ?_
                    refine lv_istore (lv' := [(7, .int (nI 1)), (6, .int (nI nn)), (5, .int (nI dd)), (0, .ref (am 0)), (1, .int (nI q)), (2, .int (nI qa)), (3, .int (nI qb)), (4, .int (nI h))]) hx hb dX5_join_135 hl (by decide) rfl (fun ls hl => ?_)
                    obtain ⟨k, s1, t1, hk, hI, hP9, hD9, hl9⟩ : ∃ (k : Nat) (s1 : Nat → FP) (t1 : Nat → Bool), (1 ≤ k ∧ k ≤ nn + 1) ∧ (∀ i, (17 * q + 1 ≤ i ∧ i < 17 * q + k → t1 i = (mth (17 * qa + (i - 17 * q)) && mth (17 * qb + (i - 17 * q))) ∧ s1 i = sd_jn h (msh (17 * qa + (i - 17 * q))) (msh (17 * qb + (i - 17 * q)))) ∧ (¬ (17 * q + 1 ≤ i ∧ i < 17 * q + k) → t1 i = mth i ∧ s1 i = msh i)) ∧ va_P D vwCl (mw am tc (nI 0) mdg msz s1 t1 minv isf fsp mfo mwr mpl mny mch mcu mro) H ∧ va_D A (mw am tc (nI 0) mdg msz s1 t1 minv isf fsp mfo mwr mpl mny mch mcu mro) ∧ lv_has ls 12 [(7, .int (nI k)), (0, .ref (am 0)), (1, .int (nI q)), (2, .int (nI qa)), (3, .int (nI qb)), (4, .int (nI h)), (5, .int (nI dd)), (6, .int (nI nn))] := ⟨1, msh, mth, ⟨Nat.le_refl 1, by omega⟩, fun i => ⟨fun z => absurd z (by omega), fun _ => ⟨rfl, rfl⟩⟩, hP, hD, (lv_sub hl [0, 3, 4, 5, 6, 7, 2, 1] rfl)⟩
                    replace hl := hl9
                    clear hl9
                    replace hP := hP9
                    replace hD := hD9
                    clear hP9 hD9
                    obtain ⟨k9, hk9⟩ : ∃ k9 : Nat, nn + 1 < k + k9 := ⟨nn + 1, by omega⟩
                    induction k9 generalizing k s1 t1 ls H locs with
                    | zero => exact absurd hk9 (by omega)
                    | succ k9 ih =>
                      refine lv_iload hx hb dX5_join_137 (lv_at hl 0 rfl) ?_
                      refine lv_iload hx hb dX5_join_139 (lv_at hl 7 rfl) ?_
                      refine sd_icmp_gt (tgt := 269) hx hb (by omega) (by omega) dX5_join_141 (by decide) (fun c5 => ?_) (fun c5 => ?_)
                      · have ek : 17 * q + k = 17 * q + nn + 1 := by omega
                        simp only [ek, Nat.lt_succ_iff] at hI
                        rw [hnn] at hI
                        refine lv_aload_n hx hb dX5_join_269 rfl (lv_at hl 1 rfl) ?_
                        refine va_get (D := D) (ci := 5) (v := .ref (am 2)) (C := RX5) (T := TX5) (N := 15) hx hb hts (fun w h => mm (inX5 w h)) hown hK hP 0 rfl rfl 2 (by decide) (hts _ (mm wf_X5_13)) (fun _ h9 => h9) rfl dX5_join_270 ?_
                        refine lv_iload_n hx hb dX5_join_273 rfl (lv_at hl 2 rfl) ?_
                        refine lv_iload hx hb dX5_join_274 (lv_at hl 7 rfl) ?_
                        refine sd_iast hx hb hK hP hD hS 2 2 rfl rfl (k := q) (by omega) (by decide) (ws2 := mw am tc (nI 0) mdg (sd_up msz q nn) s1 t1 minv isf fsp mfo mwr mpl mny mch mcu mro) (by rw [sd_stN]; exact rfl) dX5_join_276 (fun H locs hP hD hS => ?_)
                        refine lv_aload_n hx hb dX5_join_277 rfl (lv_at hl 1 rfl) ?_
                        refine va_get (D := D) (ci := 5) (v := .ref (am 1)) (C := RX5) (T := TX5) (N := 15) hx hb hts (fun w h => mm (inX5 w h)) hown hK hP 0 rfl rfl 1 (by decide) (hts _ (mm wf_X5_7)) (fun _ h9 => h9) rfl dX5_join_278 ?_
                        refine lv_iload_n hx hb dX5_join_281 rfl (lv_at hl 2 rfl) ?_
                        refine lv_iload hx hb dX5_join_282 (lv_at hl 6 rfl) ?_
                        refine sd_iast hx hb hK hP hD hS 1 2 rfl rfl (k := q) (by omega) (by decide) (ws2 := mw am tc (nI 0) (sd_up mdg q dd) (sd_up msz q nn) s1 t1 minv isf fsp mfo mwr mpl mny mch mcu mro) (by rw [sd_stN]; exact rfl) dX5_join_284 (fun H locs hP hD hS => ?_)
                        refine lv_iconst (v := nI 1) hx hb dX5_join_285 (by decide) ?_
                        exact W.zret hx hb hr rfl (fun T9 hT9 hW => ⟨⟨_, (nI 0, sd_up mdg q dd, sd_up msz q nn, s1, t1, minv, isf, fsp, mfo, mwr, mpl, mny, mch, mcu, mro), rfl, ⟨rfl, Or.inl ⟨q, qa, qb, h, ⟨hq, rfl, hqa, rfl, hqb, rfl, ch, rfl, hdd ▸ cd⟩, rfl, by rw [← hdd], by rw [hnn], ⟨rfl, rfl, rfl, rfl, rfl⟩, hI⟩⟩, by rw [hT9]; exact hP, va_K.moved hW.alike hK, hD⟩, hS.F hT9⟩) hS.2.2 dX5_join_286
                      · have hR9 : ∀ i, i < 8 → t1 (17 * i + k) = mth (17 * i + k) ∧ s1 (17 * i + k) = msh (17 * i + k) := fun i hi => (hI (17 * i + k)).2 (by omega)
                        have ha9 := hR9 qa hqa
                        have hb9 := hR9 qb hqb
                        refine lv_aload_n hx hb dX5_join_144 rfl (lv_at hl 1 rfl) ?_
                        refine va_get (D := D) (ci := 5) (v := .ref (am 3)) (C := RX5) (T := TX5) (N := 15) hx hb hts (fun w h => mm (inX5 w h)) hown hK hP 0 rfl rfl 3 (by decide) (hts _ (mm wf_X5_16)) (fun _ h9 => h9) rfl dX5_join_145 ?_
                        refine lv_iload_n hx hb dX5_join_148 rfl (lv_at hl 3 rfl) ?_
                        refine lv_iload hx hb dX5_join_149 (lv_at hl 0 rfl) ?_
                        refine sd_ri (va_runS (As := [.int (nI qa), .int (nI k)]) (rest := [.ref (am 3)]) ⟨hx, hb, hml, hown, hts⟩ (k_X5_home l qa k) (sd_cwS hts wd_X5_home wn_X5 wm_X5_91 wi_X5_home nq_X5_home rfl rfl ⟨Nat.le_of_ble_eq_true rfl, Nat.le_of_ble_eq_true rfl⟩) sd_preN rfl rfl hl.1 rfl (lv_room (Nat.le_of_ble_eq_true rfl)) dX5_join_151 ⟨Nat.zero_le _, Nat.zero_le _⟩) (fun r21 hr21 => ?_)
                        subst hr21
                        refine sd_lald hx hb hK hP 3 0 rfl rfl (k := 17 * qa + k) (by omega) (by decide) dX5_join_154 ?_
                        refine lv_lstore (lv' := [(8, .long (sd_L (s1 (17 * qa + k)))), (7, .int (nI k)), (0, .ref (am 0)), (1, .int (nI q)), (2, .int (nI qa)), (3, .int (nI qb)), (4, .int (nI h)), (5, .int (nI dd)), (6, .int (nI nn))]) hx hb dX5_join_155 hl (by decide) rfl (fun ls hl => ?_)
                        refine lv_aload_n hx hb dX5_join_157 rfl (lv_at hl 2 rfl) ?_
                        refine va_get (D := D) (ci := 5) (v := .ref (am 3)) (C := RX5) (T := TX5) (N := 15) hx hb hts (fun w h => mm (inX5 w h)) hown hK hP 0 rfl rfl 3 (by decide) (hts _ (mm wf_X5_16)) (fun _ h9 => h9) rfl dX5_join_158 ?_
                        refine lv_iload_n hx hb dX5_join_161 rfl (lv_at hl 5 rfl) ?_
                        refine lv_iload hx hb dX5_join_162 (lv_at hl 1 rfl) ?_
                        refine sd_ri (va_runS (As := [.int (nI qb), .int (nI k)]) (rest := [.ref (am 3)]) ⟨hx, hb, hml, hown, hts⟩ (k_X5_home l qb k) (sd_cwS hts wd_X5_home wn_X5 wm_X5_91 wi_X5_home nq_X5_home rfl rfl ⟨Nat.le_of_ble_eq_true rfl, Nat.le_of_ble_eq_true rfl⟩) sd_preN rfl rfl hl.1 rfl (lv_room (Nat.le_of_ble_eq_true rfl)) dX5_join_164 ⟨Nat.zero_le _, Nat.zero_le _⟩) (fun r22 hr22 => ?_)
                        subst hr22
                        refine sd_lald hx hb hK hP 3 0 rfl rfl (k := 17 * qb + k) (by omega) (by decide) dX5_join_167 ?_
                        refine lv_lstore (lv' := [(10, .long (sd_L (s1 (17 * qb + k)))), (8, .long (sd_L (s1 (17 * qa + k)))), (7, .int (nI k)), (0, .ref (am 0)), (1, .int (nI q)), (2, .int (nI qa)), (3, .int (nI qb)), (4, .int (nI h)), (5, .int (nI dd)), (6, .int (nI nn))]) hx hb dX5_join_168 hl (by decide) rfl (fun ls hl => ?_)
                        refine lv_aload_n hx hb dX5_join_170 rfl (lv_at hl 3 rfl) ?_
                        refine va_get (D := D) (ci := 5) (v := .ref (am 4)) (C := RX5) (T := TX5) (N := 15) hx hb hts (fun w h => mm (inX5 w h)) hown hK hP 0 rfl rfl 4 (by decide) (hts _ (mm wf_X5_20)) (fun _ h9 => h9) rfl dX5_join_171 ?_
                        refine lv_iload_n hx hb dX5_join_174 rfl (lv_at hl 4 rfl) ?_
                        refine lv_iload hx hb dX5_join_175 (lv_at hl 2 rfl) ?_
                        refine sd_ri (va_runS (As := [.int (nI q), .int (nI k)]) (rest := [.ref (am 4)]) ⟨hx, hb, hml, hown, hts⟩ (k_X5_home l q k) (sd_cwS hts wd_X5_home wn_X5 wm_X5_91 wi_X5_home nq_X5_home rfl rfl ⟨Nat.le_of_ble_eq_true rfl, Nat.le_of_ble_eq_true rfl⟩) sd_preN rfl rfl hl.1 rfl (lv_room (Nat.le_of_ble_eq_true rfl)) dX5_join_177 ⟨Nat.zero_le _, Nat.zero_le _⟩) (fun r23 hr23 => ?_)
                        subst hr23
                        refine lv_aload_n hx hb dX5_join_180 rfl (lv_at hl 3 rfl) ?_
                        refine va_get (D := D) (ci := 5) (v := .ref (am 4)) (C := RX5) (T := TX5) (N := 15) hx hb hts (fun w h => mm (inX5 w h)) hown hK hP 0 rfl rfl 4 (by decide) (hts _ (mm wf_X5_20)) (fun _ h9 => h9) rfl dX5_join_181 ?_
                        refine lv_iload_n hx hb dX5_join_184 rfl (lv_at hl 5 rfl) ?_
                        refine lv_iload hx hb dX5_join_185 (lv_at hl 2 rfl) ?_
                        refine sd_ri (va_runS (As := [.int (nI qa), .int (nI k)]) (rest := [.ref (am 4), .int (nI (17 * q + k)), .ref (am 4)]) ⟨hx, hb, hml, hown, hts⟩ (k_X5_home l qa k) (sd_cwS hts wd_X5_home wn_X5 wm_X5_91 wi_X5_home nq_X5_home rfl rfl ⟨Nat.le_of_ble_eq_true rfl, Nat.le_of_ble_eq_true rfl⟩) sd_preN rfl rfl hl.1 rfl (lv_room (Nat.le_of_ble_eq_true rfl)) dX5_join_187 ⟨Nat.zero_le _, Nat.zero_le _⟩) (fun r24 hr24 => ?_)
                        subst hr24
                        refine sd_zald hx hb hK hP 4 1 rfl rfl (k := 17 * qa + k) (by omega) (by decide) dX5_join_190 ?_
                        refine sd_if_eqB (tgt := 212) hx hb dX5_join_191 (by decide) (fun c6 => ?_) (fun c6 => ?_)
                        · refine lv_iconst (v := nI 0) hx hb dX5_join_212 (by decide) ?_
                          refine sd_tob (b := mth (17 * qa + k) && mth (17 * qb + k)) (by rw [← ha9.1, c6]; rfl) ?_
                          refine sd_zast hx hb hK hP hD hS 4 1 rfl rfl (k := 17 * q + k) (by omega) (by decide) (ws2 := mw am tc (nI 0) mdg msz s1 (sd_up t1 (17 * q + k) (mth (17 * qa + k) && mth (17 * qb + k))) minv isf fsp mfo mwr mpl mny mch mcu mro) (by rw [sd_stZ]; exact rfl) dX5_join_213 (fun H locs hP hD hS => ?_)
                          refine lv_aload_n hx hb dX5_join_214 rfl (lv_at hl 3 rfl) ?_
                          refine va_get (D := D) (ci := 5) (v := .ref (am 3)) (C := RX5) (T := TX5) (N := 15) hx hb hts (fun w h => mm (inX5 w h)) hown hK hP 0 rfl rfl 3 (by decide) (hts _ (mm wf_X5_16)) (fun _ h9 => h9) rfl dX5_join_215 ?_
                          refine lv_iload_n hx hb dX5_join_218 rfl (lv_at hl 4 rfl) ?_
                          refine lv_iload hx hb dX5_join_219 (lv_at hl 2 rfl) ?_
                          refine sd_ri (va_runS (As := [.int (nI q), .int (nI k)]) (rest := [.ref (am 3)]) ⟨hx, hb, hml, hown, hts⟩ (k_X5_home l q k) (sd_cwS hts wd_X5_home wn_X5 wm_X5_91 wi_X5_home nq_X5_home rfl rfl ⟨Nat.le_of_ble_eq_true rfl, Nat.le_of_ble_eq_true rfl⟩) sd_preN rfl rfl hl.1 rfl (lv_room (Nat.le_of_ble_eq_true rfl)) dX5_join_221 ⟨Nat.zero_le _, Nat.zero_le _⟩) (fun r25 hr25 => ?_)
                          subst hr25
                          refine lv_iload hx hb dX5_join_224 (lv_at hl 7 rfl) ?_
                          refine lv_if_ne (tgt := 239) hx hb dX5_join_226 (by decide) (fun c8 => ?_) (fun c8 => ?_)
                          · refine lv_iload hx hb dX5_join_239 (lv_at hl 7 rfl) ?_
                            refine lv_iconst (v := nI 1) hx hb dX5_join_241 (by decide) ?_
                            refine sd_icmp_ne (tgt := 255) hx hb (by omega) (by omega) dX5_join_242 (by decide) (fun c9 => ?_) (fun c9 => ?_)
                            · refine lv_lload hx hb dX5_join_255 (lv_at hl 1 rfl) ?_
                              refine lv_lload hx hb dX5_join_257 (lv_at hl 0 rfl) ?_
                              refine sd_rl (va_runS (As := [.long (sd_L (s1 (17 * qa + k))), .long (sd_L (s1 (17 * qb + k)))]) (rest := [.int (nI (17 * q + k)), .ref (am 3)]) ⟨hx, hb, hml, hown, hts⟩ (k_X5_times l (s1 (17 * qa + k)) (s1 (17 * qb + k))) (sd_cwS hts wd_X5_times wn_X5 wm_X5_70 wi_X5_times nq_X5_times rfl rfl ⟨Nat.le_of_ble_eq_true rfl, Nat.le_of_ble_eq_true rfl⟩) sd_preN rfl rfl hl.1 rfl (lv_room (Nat.le_of_ble_eq_true rfl)) dX5_join_259 ⟨Nat.zero_le _, Nat.zero_le _⟩) (fun r26 hr26 => ?_)
                              subst hr26
                              refine sd_tol (y := sd_L (sd_jn h (s1 (17 * qa + k)) (s1 (17 * qb + k)))) (by rw [sd_jn, if_neg (fun z => c8 (by rw [z]; exact nI_0)), if_neg c9]) ?_
                              refine sd_last hx hb hK hP hD hS 3 0 rfl rfl (k := 17 * q + k) (by omega) (by decide) (ws2 := mw am tc (nI 0) mdg msz (sd_up s1 (17 * q + k) (sd_jn h (s1 (17 * qa + k)) (s1 (17 * qb + k)))) (sd_up t1 (17 * q + k) (mth (17 * qa + k) && mth (17 * qb + k))) minv isf fsp mfo mwr mpl mny mch mcu mro) (by rw [sd_stL]; exact rfl) dX5_join_262 (fun H locs hP hD hS => ?_)
                              refine lv_iinc (v := nI (k + 1)) (lv' := [(7, .int (nI (k + 1))), (10, .long (sd_L (s1 (17 * qb + k)))), (8, .long (sd_L (s1 (17 * qa + k)))), (0, .ref (am 0)), (1, .int (nI q)), (2, .int (nI qa)), (3, .int (nI qb)), (4, .int (nI h)), (5, .int (nI dd)), (6, .int (nI nn))]) hx hb dX5_join_263 hl (k := 2) rfl (nI_1 _) (by decide) rfl (fun ls hl => ?_)
                              refine lv_goto (tgt := 137) hx hb dX5_join_266 (by decide) ?_
                              have hI9 : ∀ i, (17 * q + 1 ≤ i ∧ i < 17 * q + (k + 1) → (sd_up t1 (17 * q + k) (mth (17 * qa + k) && mth (17 * qb + k))) i = (mth (17 * qa + (i - 17 * q)) && mth (17 * qb + (i - 17 * q))) ∧ (sd_up s1 (17 * q + k) (sd_jn h (s1 (17 * qa + k)) (s1 (17 * qb + k)))) i = sd_jn h (msh (17 * qa + (i - 17 * q))) (msh (17 * qb + (i - 17 * q)))) ∧ (¬ (17 * q + 1 ≤ i ∧ i < 17 * q + (k + 1)) → (sd_up t1 (17 * q + k) (mth (17 * qa + k) && mth (17 * qb + k))) i = mth i ∧ (sd_up s1 (17 * q + k) (sd_jn h (s1 (17 * qa + k)) (s1 (17 * qb + k)))) i = msh i) := by
                                intro i
                                by_cases ei : i = 17 * q + k
                                · rw [ei, sd_up_s, sd_up_s, Nat.add_sub_cancel_left, ha9.2, hb9.2]
                                  exact ⟨fun _ => ⟨rfl, rfl⟩, fun z => absurd (by omega) z⟩
                                · rw [sd_up_n _ _ ei, sd_up_n _ _ ei]
                                  exact ⟨fun z => (hI i).1 (by omega), fun z => (hI i).2 (by omega)⟩
                              exact ih (k := k + 1) (s1 := sd_up s1 (17 * q + k) (sd_jn h (s1 (17 * qa + k)) (s1 (17 * qb + k)))) (t1 := sd_up t1 (17 * q + k) (mth (17 * qa + k) && mth (17 * qb + k))) (hk := by omega) (hI := hI9) (H := H) (locs := locs) (hP := hP) (hD := hD) (hS := hS) (ls := ls) (hl := (lv_sub hl [0, 3, 4, 5, 6, 7, 8, 9] rfl)) (hk9 := by omega)
                            · refine lv_lload hx hb dX5_join_245 (lv_at hl 1 rfl) ?_
                              refine lv_lload hx hb dX5_join_247 (lv_at hl 0 rfl) ?_
                              refine sd_rl (va_runS (As := [.long (sd_L (s1 (17 * qa + k))), .long (sd_L (s1 (17 * qb + k)))]) (rest := [.int (nI (17 * q + k)), .ref (am 3)]) ⟨hx, hb, hml, hown, hts⟩ (k_X5_minus l (s1 (17 * qa + k)) (s1 (17 * qb + k))) (sd_cwS hts wd_X5_minus wn_X5 wm_X5_103 wi_X5_minus nq_X5_minus rfl rfl ⟨Nat.le_of_ble_eq_true rfl, Nat.le_of_ble_eq_true rfl⟩) sd_preN rfl rfl hl.1 rfl (lv_room (Nat.le_of_ble_eq_true rfl)) dX5_join_249 ⟨Nat.zero_le _, Nat.zero_le _⟩) (fun r27 hr27 => ?_)
                              subst hr27
                              refine lv_goto (tgt := 262) hx hb dX5_join_252 (by decide) ?_
                              refine sd_tol (y := sd_L (sd_jn h (s1 (17 * qa + k)) (s1 (17 * qb + k)))) (by rw [sd_jn, if_neg (fun z => c8 (by rw [z]; exact nI_0)), if_pos c9]) ?_
                              refine sd_last hx hb hK hP hD hS 3 0 rfl rfl (k := 17 * q + k) (by omega) (by decide) (ws2 := mw am tc (nI 0) mdg msz (sd_up s1 (17 * q + k) (sd_jn h (s1 (17 * qa + k)) (s1 (17 * qb + k)))) (sd_up t1 (17 * q + k) (mth (17 * qa + k) && mth (17 * qb + k))) minv isf fsp mfo mwr mpl mny mch mcu mro) (by rw [sd_stL]; exact rfl) dX5_join_262 (fun H locs hP hD hS => ?_)
                              refine lv_iinc (v := nI (k + 1)) (lv' := [(7, .int (nI (k + 1))), (10, .long (sd_L (s1 (17 * qb + k)))), (8, .long (sd_L (s1 (17 * qa + k)))), (0, .ref (am 0)), (1, .int (nI q)), (2, .int (nI qa)), (3, .int (nI qb)), (4, .int (nI h)), (5, .int (nI dd)), (6, .int (nI nn))]) hx hb dX5_join_263 hl (k := 2) rfl (nI_1 _) (by decide) rfl (fun ls hl => ?_)
                              refine lv_goto (tgt := 137) hx hb dX5_join_266 (by decide) ?_
                              have hI9 : ∀ i, (17 * q + 1 ≤ i ∧ i < 17 * q + (k + 1) → (sd_up t1 (17 * q + k) (mth (17 * qa + k) && mth (17 * qb + k))) i = (mth (17 * qa + (i - 17 * q)) && mth (17 * qb + (i - 17 * q))) ∧ (sd_up s1 (17 * q + k) (sd_jn h (s1 (17 * qa + k)) (s1 (17 * qb + k)))) i = sd_jn h (msh (17 * qa + (i - 17 * q))) (msh (17 * qb + (i - 17 * q)))) ∧ (¬ (17 * q + 1 ≤ i ∧ i < 17 * q + (k + 1)) → (sd_up t1 (17 * q + k) (mth (17 * qa + k) && mth (17 * qb + k))) i = mth i ∧ (sd_up s1 (17 * q + k) (sd_jn h (s1 (17 * qa + k)) (s1 (17 * qb + k)))) i = msh i) := by
                                intro i
                                by_cases ei : i = 17 * q + k
                                · rw [ei, sd_up_s, sd_up_s, Nat.add_sub_cancel_left, ha9.2, hb9.2]
                                  exact ⟨fun _ => ⟨rfl, rfl⟩, fun z => absurd (by omega) z⟩
                                · rw [sd_up_n _ _ ei, sd_up_n _ _ ei]
                                  exact ⟨fun z => (hI i).1 (by omega), fun z => (hI i).2 (by omega)⟩
                              exact ih (k := k + 1) (s1 := sd_up s1 (17 * q + k) (sd_jn h (s1 (17 * qa + k)) (s1 (17 * qb + k)))) (t1 := sd_up t1 (17 * q + k) (mth (17 * qa + k) && mth (17 * qb + k))) (hk := by omega) (hI := hI9) (H := H) (locs := locs) (hP := hP) (hD := hD) (hS := hS) (ls := ls) (hl := (lv_sub hl [0, 3, 4, 5, 6, 7, 8, 9] rfl)) (hk9 := by omega)
                          · refine lv_lload hx hb dX5_join_229 (lv_at hl 1 rfl) ?_
                            refine lv_lload hx hb dX5_join_231 (lv_at hl 0 rfl) ?_
                            refine sd_rl (va_runS (As := [.long (sd_L (s1 (17 * qa + k))), .long (sd_L (s1 (17 * qb + k)))]) (rest := [.int (nI (17 * q + k)), .ref (am 3)]) ⟨hx, hb, hml, hown, hts⟩ (k_X5_plus l (s1 (17 * qa + k)) (s1 (17 * qb + k))) (sd_cwS hts wd_X5_plus wn_X5 wm_X5_65 wi_X5_plus nq_X5_plus rfl rfl ⟨Nat.le_of_ble_eq_true rfl, Nat.le_of_ble_eq_true rfl⟩) sd_preN rfl rfl hl.1 rfl (lv_room (Nat.le_of_ble_eq_true rfl)) dX5_join_233 ⟨Nat.zero_le _, Nat.zero_le _⟩) (fun r28 hr28 => ?_)
                            subst hr28
                            refine lv_goto (tgt := 262) hx hb dX5_join_236 (by decide) ?_
                            refine sd_tol (y := sd_L (sd_jn h (s1 (17 * qa + k)) (s1 (17 * qb + k)))) (by rw [sd_jn, if_pos (sd_nI_inj (by omega) (by decide) (c8.trans nI_0.symm))]) ?_
                            refine sd_last hx hb hK hP hD hS 3 0 rfl rfl (k := 17 * q + k) (by omega) (by decide) (ws2 := mw am tc (nI 0) mdg msz (sd_up s1 (17 * q + k) (sd_jn h (s1 (17 * qa + k)) (s1 (17 * qb + k)))) (sd_up t1 (17 * q + k) (mth (17 * qa + k) && mth (17 * qb + k))) minv isf fsp mfo mwr mpl mny mch mcu mro) (by rw [sd_stL]; exact rfl) dX5_join_262 (fun H locs hP hD hS => ?_)
                            refine lv_iinc (v := nI (k + 1)) (lv' := [(7, .int (nI (k + 1))), (10, .long (sd_L (s1 (17 * qb + k)))), (8, .long (sd_L (s1 (17 * qa + k)))), (0, .ref (am 0)), (1, .int (nI q)), (2, .int (nI qa)), (3, .int (nI qb)), (4, .int (nI h)), (5, .int (nI dd)), (6, .int (nI nn))]) hx hb dX5_join_263 hl (k := 2) rfl (nI_1 _) (by decide) rfl (fun ls hl => ?_)
                            refine lv_goto (tgt := 137) hx hb dX5_join_266 (by decide) ?_
                            have hI9 : ∀ i, (17 * q + 1 ≤ i ∧ i < 17 * q + (k + 1) → (sd_up t1 (17 * q + k) (mth (17 * qa + k) && mth (17 * qb + k))) i = (mth (17 * qa + (i - 17 * q)) && mth (17 * qb + (i - 17 * q))) ∧ (sd_up s1 (17 * q + k) (sd_jn h (s1 (17 * qa + k)) (s1 (17 * qb + k)))) i = sd_jn h (msh (17 * qa + (i - 17 * q))) (msh (17 * qb + (i - 17 * q)))) ∧ (¬ (17 * q + 1 ≤ i ∧ i < 17 * q + (k + 1)) → (sd_up t1 (17 * q + k) (mth (17 * qa + k) && mth (17 * qb + k))) i = mth i ∧ (sd_up s1 (17 * q + k) (sd_jn h (s1 (17 * qa + k)) (s1 (17 * qb + k)))) i = msh i) := by
                              intro i
                              by_cases ei : i = 17 * q + k
                              · rw [ei, sd_up_s, sd_up_s, Nat.add_sub_cancel_left, ha9.2, hb9.2]
                                exact ⟨fun _ => ⟨rfl, rfl⟩, fun z => absurd (by omega) z⟩
                              · rw [sd_up_n _ _ ei, sd_up_n _ _ ei]
                                exact ⟨fun z => (hI i).1 (by omega), fun z => (hI i).2 (by omega)⟩
                            exact ih (k := k + 1) (s1 := sd_up s1 (17 * q + k) (sd_jn h (s1 (17 * qa + k)) (s1 (17 * qb + k)))) (t1 := sd_up t1 (17 * q + k) (mth (17 * qa + k) && mth (17 * qb + k))) (hk := by omega) (hI := hI9) (H := H) (locs := locs) (hP := hP) (hD := hD) (hS := hS) (ls := ls) (hl := (lv_sub hl [0, 3, 4, 5, 6, 7, 8, 9] rfl)) (hk9 := by omega)
                        · refine lv_aload_n hx hb dX5_join_194 rfl (lv_at hl 3 rfl) ?_
                          refine va_get (D := D) (ci := 5) (v := .ref (am 4)) (C := RX5) (T := TX5) (N := 15) hx hb hts (fun w h => mm (inX5 w h)) hown hK hP 0 rfl rfl 4 (by decide) (hts _ (mm wf_X5_20)) (fun _ h9 => h9) rfl dX5_join_195 ?_
                          refine lv_iload_n hx hb dX5_join_198 rfl (lv_at hl 6 rfl) ?_
                          refine lv_iload hx hb dX5_join_199 (lv_at hl 2 rfl) ?_
                          refine sd_ri (va_runS (As := [.int (nI qb), .int (nI k)]) (rest := [.ref (am 4), .int (nI (17 * q + k)), .ref (am 4)]) ⟨hx, hb, hml, hown, hts⟩ (k_X5_home l qb k) (sd_cwS hts wd_X5_home wn_X5 wm_X5_91 wi_X5_home nq_X5_home rfl rfl ⟨Nat.le_of_ble_eq_true rfl, Nat.le_of_ble_eq_true rfl⟩) sd_preN rfl rfl hl.1 rfl (lv_room (Nat.le_of_ble_eq_true rfl)) dX5_join_201 ⟨Nat.zero_le _, Nat.zero_le _⟩) (fun r29 hr29 => ?_)
                          subst hr29
                          refine sd_zald hx hb hK hP 4 1 rfl rfl (k := 17 * qb + k) (by omega) (by decide) dX5_join_204 ?_
                          refine sd_if_eqB (tgt := 212) hx hb dX5_join_205 (by decide) (fun c7 => ?_) (fun c7 => ?_)
                          · refine lv_iconst (v := nI 0) hx hb dX5_join_212 (by decide) ?_
                            refine sd_tob (b := mth (17 * qa + k) && mth (17 * qb + k)) (by rw [← ha9.1, ← hb9.1, c6, c7]; rfl) ?_
                            refine sd_zast hx hb hK hP hD hS 4 1 rfl rfl (k := 17 * q + k) (by omega) (by decide) (ws2 := mw am tc (nI 0) mdg msz s1 (sd_up t1 (17 * q + k) (mth (17 * qa + k) && mth (17 * qb + k))) minv isf fsp mfo mwr mpl mny mch mcu mro) (by rw [sd_stZ]; exact rfl) dX5_join_213 (fun H locs hP hD hS => ?_)
                            refine lv_aload_n hx hb dX5_join_214 rfl (lv_at hl 3 rfl) ?_
                            refine va_get (D := D) (ci := 5) (v := .ref (am 3)) (C := RX5) (T := TX5) (N := 15) hx hb hts (fun w h => mm (inX5 w h)) hown hK hP 0 rfl rfl 3 (by decide) (hts _ (mm wf_X5_16)) (fun _ h9 => h9) rfl dX5_join_215 ?_
                            refine lv_iload_n hx hb dX5_join_218 rfl (lv_at hl 4 rfl) ?_
                            refine lv_iload hx hb dX5_join_219 (lv_at hl 2 rfl) ?_
                            refine sd_ri (va_runS (As := [.int (nI q), .int (nI k)]) (rest := [.ref (am 3)]) ⟨hx, hb, hml, hown, hts⟩ (k_X5_home l q k) (sd_cwS hts wd_X5_home wn_X5 wm_X5_91 wi_X5_home nq_X5_home rfl rfl ⟨Nat.le_of_ble_eq_true rfl, Nat.le_of_ble_eq_true rfl⟩) sd_preN rfl rfl hl.1 rfl (lv_room (Nat.le_of_ble_eq_true rfl)) dX5_join_221 ⟨Nat.zero_le _, Nat.zero_le _⟩) (fun r30 hr30 => ?_)
                            subst hr30
                            refine lv_iload hx hb dX5_join_224 (lv_at hl 7 rfl) ?_
                            refine lv_if_ne (tgt := 239) hx hb dX5_join_226 (by decide) (fun c8 => ?_) (fun c8 => ?_)
                            · refine lv_iload hx hb dX5_join_239 (lv_at hl 7 rfl) ?_
                              refine lv_iconst (v := nI 1) hx hb dX5_join_241 (by decide) ?_
                              refine sd_icmp_ne (tgt := 255) hx hb (by omega) (by omega) dX5_join_242 (by decide) (fun c9 => ?_) (fun c9 => ?_)
                              · refine lv_lload hx hb dX5_join_255 (lv_at hl 1 rfl) ?_
                                refine lv_lload hx hb dX5_join_257 (lv_at hl 0 rfl) ?_
                                refine sd_rl (va_runS (As := [.long (sd_L (s1 (17 * qa + k))), .long (sd_L (s1 (17 * qb + k)))]) (rest := [.int (nI (17 * q + k)), .ref (am 3)]) ⟨hx, hb, hml, hown, hts⟩ (k_X5_times l (s1 (17 * qa + k)) (s1 (17 * qb + k))) (sd_cwS hts wd_X5_times wn_X5 wm_X5_70 wi_X5_times nq_X5_times rfl rfl ⟨Nat.le_of_ble_eq_true rfl, Nat.le_of_ble_eq_true rfl⟩) sd_preN rfl rfl hl.1 rfl (lv_room (Nat.le_of_ble_eq_true rfl)) dX5_join_259 ⟨Nat.zero_le _, Nat.zero_le _⟩) (fun r31 hr31 => ?_)
                                subst hr31
                                refine sd_tol (y := sd_L (sd_jn h (s1 (17 * qa + k)) (s1 (17 * qb + k)))) (by rw [sd_jn, if_neg (fun z => c8 (by rw [z]; exact nI_0)), if_neg c9]) ?_
                                refine sd_last hx hb hK hP hD hS 3 0 rfl rfl (k := 17 * q + k) (by omega) (by decide) (ws2 := mw am tc (nI 0) mdg msz (sd_up s1 (17 * q + k) (sd_jn h (s1 (17 * qa + k)) (s1 (17 * qb + k)))) (sd_up t1 (17 * q + k) (mth (17 * qa + k) && mth (17 * qb + k))) minv isf fsp mfo mwr mpl mny mch mcu mro) (by rw [sd_stL]; exact rfl) dX5_join_262 (fun H locs hP hD hS => ?_)
                                refine lv_iinc (v := nI (k + 1)) (lv' := [(7, .int (nI (k + 1))), (10, .long (sd_L (s1 (17 * qb + k)))), (8, .long (sd_L (s1 (17 * qa + k)))), (0, .ref (am 0)), (1, .int (nI q)), (2, .int (nI qa)), (3, .int (nI qb)), (4, .int (nI h)), (5, .int (nI dd)), (6, .int (nI nn))]) hx hb dX5_join_263 hl (k := 2) rfl (nI_1 _) (by decide) rfl (fun ls hl => ?_)
                                refine lv_goto (tgt := 137) hx hb dX5_join_266 (by decide) ?_
                                have hI9 : ∀ i, (17 * q + 1 ≤ i ∧ i < 17 * q + (k + 1) → (sd_up t1 (17 * q + k) (mth (17 * qa + k) && mth (17 * qb + k))) i = (mth (17 * qa + (i - 17 * q)) && mth (17 * qb + (i - 17 * q))) ∧ (sd_up s1 (17 * q + k) (sd_jn h (s1 (17 * qa + k)) (s1 (17 * qb + k)))) i = sd_jn h (msh (17 * qa + (i - 17 * q))) (msh (17 * qb + (i - 17 * q)))) ∧ (¬ (17 * q + 1 ≤ i ∧ i < 17 * q + (k + 1)) → (sd_up t1 (17 * q + k) (mth (17 * qa + k) && mth (17 * qb + k))) i = mth i ∧ (sd_up s1 (17 * q + k) (sd_jn h (s1 (17 * qa + k)) (s1 (17 * qb + k)))) i = msh i) := by
                                  intro i
                                  by_cases ei : i = 17 * q + k
                                  · rw [ei, sd_up_s, sd_up_s, Nat.add_sub_cancel_left, ha9.2, hb9.2]
                                    exact ⟨fun _ => ⟨rfl, rfl⟩, fun z => absurd (by omega) z⟩
                                  · rw [sd_up_n _ _ ei, sd_up_n _ _ ei]
                                    exact ⟨fun z => (hI i).1 (by omega), fun z => (hI i).2 (by omega)⟩
                                exact ih (k := k + 1) (s1 := sd_up s1 (17 * q + k) (sd_jn h (s1 (17 * qa + k)) (s1 (17 * qb + k)))) (t1 := sd_up t1 (17 * q + k) (mth (17 * qa + k) && mth (17 * qb + k))) (hk := by omega) (hI := hI9) (H := H) (locs := locs) (hP := hP) (hD := hD) (hS := hS) (ls := ls) (hl := (lv_sub hl [0, 3, 4, 5, 6, 7, 8, 9] rfl)) (hk9 := by omega)
                              · refine lv_lload hx hb dX5_join_245 (lv_at hl 1 rfl) ?_
                                refine lv_lload hx hb dX5_join_247 (lv_at hl 0 rfl) ?_
                                refine sd_rl (va_runS (As := [.long (sd_L (s1 (17 * qa + k))), .long (sd_L (s1 (17 * qb + k)))]) (rest := [.int (nI (17 * q + k)), .ref (am 3)]) ⟨hx, hb, hml, hown, hts⟩ (k_X5_minus l (s1 (17 * qa + k)) (s1 (17 * qb + k))) (sd_cwS hts wd_X5_minus wn_X5 wm_X5_103 wi_X5_minus nq_X5_minus rfl rfl ⟨Nat.le_of_ble_eq_true rfl, Nat.le_of_ble_eq_true rfl⟩) sd_preN rfl rfl hl.1 rfl (lv_room (Nat.le_of_ble_eq_true rfl)) dX5_join_249 ⟨Nat.zero_le _, Nat.zero_le _⟩) (fun r32 hr32 => ?_)
                                subst hr32
                                refine lv_goto (tgt := 262) hx hb dX5_join_252 (by decide) ?_
                                refine sd_tol (y := sd_L (sd_jn h (s1 (17 * qa + k)) (s1 (17 * qb + k)))) (by rw [sd_jn, if_neg (fun z => c8 (by rw [z]; exact nI_0)), if_pos c9]) ?_
                                refine sd_last hx hb hK hP hD hS 3 0 rfl rfl (k := 17 * q + k) (by omega) (by decide) (ws2 := mw am tc (nI 0) mdg msz (sd_up s1 (17 * q + k) (sd_jn h (s1 (17 * qa + k)) (s1 (17 * qb + k)))) (sd_up t1 (17 * q + k) (mth (17 * qa + k) && mth (17 * qb + k))) minv isf fsp mfo mwr mpl mny mch mcu mro) (by rw [sd_stL]; exact rfl) dX5_join_262 (fun H locs hP hD hS => ?_)
                                refine lv_iinc (v := nI (k + 1)) (lv' := [(7, .int (nI (k + 1))), (10, .long (sd_L (s1 (17 * qb + k)))), (8, .long (sd_L (s1 (17 * qa + k)))), (0, .ref (am 0)), (1, .int (nI q)), (2, .int (nI qa)), (3, .int (nI qb)), (4, .int (nI h)), (5, .int (nI dd)), (6, .int (nI nn))]) hx hb dX5_join_263 hl (k := 2) rfl (nI_1 _) (by decide) rfl (fun ls hl => ?_)
                                refine lv_goto (tgt := 137) hx hb dX5_join_266 (by decide) ?_
                                have hI9 : ∀ i, (17 * q + 1 ≤ i ∧ i < 17 * q + (k + 1) → (sd_up t1 (17 * q + k) (mth (17 * qa + k) && mth (17 * qb + k))) i = (mth (17 * qa + (i - 17 * q)) && mth (17 * qb + (i - 17 * q))) ∧ (sd_up s1 (17 * q + k) (sd_jn h (s1 (17 * qa + k)) (s1 (17 * qb + k)))) i = sd_jn h (msh (17 * qa + (i - 17 * q))) (msh (17 * qb + (i - 17 * q)))) ∧ (¬ (17 * q + 1 ≤ i ∧ i < 17 * q + (k + 1)) → (sd_up t1 (17 * q + k) (mth (17 * qa + k) && mth (17 * qb + k))) i = mth i ∧ (sd_up s1 (17 * q + k) (sd_jn h (s1 (17 * qa + k)) (s1 (17 * qb + k)))) i = msh i) := by
                                  intro i
                                  by_cases ei : i = 17 * q + k
                                  · rw [ei, sd_up_s, sd_up_s, Nat.add_sub_cancel_left, ha9.2, hb9.2]
                                    exact ⟨fun _ => ⟨rfl, rfl⟩, fun z => absurd (by omega) z⟩
                                  · rw [sd_up_n _ _ ei, sd_up_n _ _ ei]
                                    exact ⟨fun z => (hI i).1 (by omega), fun z => (hI i).2 (by omega)⟩
                                exact ih (k := k + 1) (s1 := sd_up s1 (17 * q + k) (sd_jn h (s1 (17 * qa + k)) (s1 (17 * qb + k)))) (t1 := sd_up t1 (17 * q + k) (mth (17 * qa + k) && mth (17 * qb + k))) (hk := by omega) (hI := hI9) (H := H) (locs := locs) (hP := hP) (hD := hD) (hS := hS) (ls := ls) (hl := (lv_sub hl [0, 3, 4, 5, 6, 7, 8, 9] rfl)) (hk9 := by omega)
                            · refine lv_lload hx hb dX5_join_229 (lv_at hl 1 rfl) ?_
                              refine lv_lload hx hb dX5_join_231 (lv_at hl 0 rfl) ?_
                              refine sd_rl (va_runS (As := [.long (sd_L (s1 (17 * qa + k))), .long (sd_L (s1 (17 * qb + k)))]) (rest := [.int (nI (17 * q + k)), .ref (am 3)]) ⟨hx, hb, hml, hown, hts⟩ (k_X5_plus l (s1 (17 * qa + k)) (s1 (17 * qb + k))) (sd_cwS hts wd_X5_plus wn_X5 wm_X5_65 wi_X5_plus nq_X5_plus rfl rfl ⟨Nat.le_of_ble_eq_true rfl, Nat.le_of_ble_eq_true rfl⟩) sd_preN rfl rfl hl.1 rfl (lv_room (Nat.le_of_ble_eq_true rfl)) dX5_join_233 ⟨Nat.zero_le _, Nat.zero_le _⟩) (fun r33 hr33 => ?_)
                              subst hr33
                              refine lv_goto (tgt := 262) hx hb dX5_join_236 (by decide) ?_
                              refine sd_tol (y := sd_L (sd_jn h (s1 (17 * qa + k)) (s1 (17 * qb + k)))) (by rw [sd_jn, if_pos (sd_nI_inj (by omega) (by decide) (c8.trans nI_0.symm))]) ?_
                              refine sd_last hx hb hK hP hD hS 3 0 rfl rfl (k := 17 * q + k) (by omega) (by decide) (ws2 := mw am tc (nI 0) mdg msz (sd_up s1 (17 * q + k) (sd_jn h (s1 (17 * qa + k)) (s1 (17 * qb + k)))) (sd_up t1 (17 * q + k) (mth (17 * qa + k) && mth (17 * qb + k))) minv isf fsp mfo mwr mpl mny mch mcu mro) (by rw [sd_stL]; exact rfl) dX5_join_262 (fun H locs hP hD hS => ?_)
                              refine lv_iinc (v := nI (k + 1)) (lv' := [(7, .int (nI (k + 1))), (10, .long (sd_L (s1 (17 * qb + k)))), (8, .long (sd_L (s1 (17 * qa + k)))), (0, .ref (am 0)), (1, .int (nI q)), (2, .int (nI qa)), (3, .int (nI qb)), (4, .int (nI h)), (5, .int (nI dd)), (6, .int (nI nn))]) hx hb dX5_join_263 hl (k := 2) rfl (nI_1 _) (by decide) rfl (fun ls hl => ?_)
                              refine lv_goto (tgt := 137) hx hb dX5_join_266 (by decide) ?_
                              have hI9 : ∀ i, (17 * q + 1 ≤ i ∧ i < 17 * q + (k + 1) → (sd_up t1 (17 * q + k) (mth (17 * qa + k) && mth (17 * qb + k))) i = (mth (17 * qa + (i - 17 * q)) && mth (17 * qb + (i - 17 * q))) ∧ (sd_up s1 (17 * q + k) (sd_jn h (s1 (17 * qa + k)) (s1 (17 * qb + k)))) i = sd_jn h (msh (17 * qa + (i - 17 * q))) (msh (17 * qb + (i - 17 * q)))) ∧ (¬ (17 * q + 1 ≤ i ∧ i < 17 * q + (k + 1)) → (sd_up t1 (17 * q + k) (mth (17 * qa + k) && mth (17 * qb + k))) i = mth i ∧ (sd_up s1 (17 * q + k) (sd_jn h (s1 (17 * qa + k)) (s1 (17 * qb + k)))) i = msh i) := by
                                intro i
                                by_cases ei : i = 17 * q + k
                                · rw [ei, sd_up_s, sd_up_s, Nat.add_sub_cancel_left, ha9.2, hb9.2]
                                  exact ⟨fun _ => ⟨rfl, rfl⟩, fun z => absurd (by omega) z⟩
                                · rw [sd_up_n _ _ ei, sd_up_n _ _ ei]
                                  exact ⟨fun z => (hI i).1 (by omega), fun z => (hI i).2 (by omega)⟩
                              exact ih (k := k + 1) (s1 := sd_up s1 (17 * q + k) (sd_jn h (s1 (17 * qa + k)) (s1 (17 * qb + k)))) (t1 := sd_up t1 (17 * q + k) (mth (17 * qa + k) && mth (17 * qb + k))) (hk := by omega) (hI := hI9) (H := H) (locs := locs) (hP := hP) (hD := hD) (hS := hS) (ls := ls) (hl := (lv_sub hl [0, 3, 4, 5, 6, 7, 8, 9] rfl)) (hk9 := by omega)
                          · refine lv_iconst (v := nI 1) hx hb dX5_join_208 (by decide) ?_
                            refine lv_goto (tgt := 213) hx hb dX5_join_209 (by decide) ?_
                            refine sd_tob (b := mth (17 * qa + k) && mth (17 * qb + k)) (by rw [← ha9.1, ← hb9.1, c6, c7]; rfl) ?_
                            refine sd_zast hx hb hK hP hD hS 4 1 rfl rfl (k := 17 * q + k) (by omega) (by decide) (ws2 := mw am tc (nI 0) mdg msz s1 (sd_up t1 (17 * q + k) (mth (17 * qa + k) && mth (17 * qb + k))) minv isf fsp mfo mwr mpl mny mch mcu mro) (by rw [sd_stZ]; exact rfl) dX5_join_213 (fun H locs hP hD hS => ?_)
                            refine lv_aload_n hx hb dX5_join_214 rfl (lv_at hl 3 rfl) ?_
                            refine va_get (D := D) (ci := 5) (v := .ref (am 3)) (C := RX5) (T := TX5) (N := 15) hx hb hts (fun w h => mm (inX5 w h)) hown hK hP 0 rfl rfl 3 (by decide) (hts _ (mm wf_X5_16)) (fun _ h9 => h9) rfl dX5_join_215 ?_
                            refine lv_iload_n hx hb dX5_join_218 rfl (lv_at hl 4 rfl) ?_
                            refine lv_iload hx hb dX5_join_219 (lv_at hl 2 rfl) ?_
                            refine sd_ri (va_runS (As := [.int (nI q), .int (nI k)]) (rest := [.ref (am 3)]) ⟨hx, hb, hml, hown, hts⟩ (k_X5_home l q k) (sd_cwS hts wd_X5_home wn_X5 wm_X5_91 wi_X5_home nq_X5_home rfl rfl ⟨Nat.le_of_ble_eq_true rfl, Nat.le_of_ble_eq_true rfl⟩) sd_preN rfl rfl hl.1 rfl (lv_room (Nat.le_of_ble_eq_true rfl)) dX5_join_221 ⟨Nat.zero_le _, Nat.zero_le _⟩) (fun r34 hr34 => ?_)
                            subst hr34
                            refine lv_iload hx hb dX5_join_224 (lv_at hl 7 rfl) ?_
                            refine lv_if_ne (tgt := 239) hx hb dX5_join_226 (by decide) (fun c8 => ?_) (fun c8 => ?_)
                            · refine lv_iload hx hb dX5_join_239 (lv_at hl 7 rfl) ?_
                              refine lv_iconst (v := nI 1) hx hb dX5_join_241 (by decide) ?_
                              refine sd_icmp_ne (tgt := 255) hx hb (by omega) (by omega) dX5_join_242 (by decide) (fun c9 => ?_) (fun c9 => ?_)
                              · refine lv_lload hx hb dX5_join_255 (lv_at hl 1 rfl) ?_
                                refine lv_lload hx hb dX5_join_257 (lv_at hl 0 rfl) ?_
                                refine sd_rl (va_runS (As := [.long (sd_L (s1 (17 * qa + k))), .long (sd_L (s1 (17 * qb + k)))]) (rest := [.int (nI (17 * q + k)), .ref (am 3)]) ⟨hx, hb, hml, hown, hts⟩ (k_X5_times l (s1 (17 * qa + k)) (s1 (17 * qb + k))) (sd_cwS hts wd_X5_times wn_X5 wm_X5_70 wi_X5_times nq_X5_times rfl rfl ⟨Nat.le_of_ble_eq_true rfl, Nat.le_of_ble_eq_true rfl⟩) sd_preN rfl rfl hl.1 rfl (lv_room (Nat.le_of_ble_eq_true rfl)) dX5_join_259 ⟨Nat.zero_le _, Nat.zero_le _⟩) (fun r35 hr35 => ?_)
                                subst hr35
                                refine sd_tol (y := sd_L (sd_jn h (s1 (17 * qa + k)) (s1 (17 * qb + k)))) (by rw [sd_jn, if_neg (fun z => c8 (by rw [z]; exact nI_0)), if_neg c9]) ?_
                                refine sd_last hx hb hK hP hD hS 3 0 rfl rfl (k := 17 * q + k) (by omega) (by decide) (ws2 := mw am tc (nI 0) mdg msz (sd_up s1 (17 * q + k) (sd_jn h (s1 (17 * qa + k)) (s1 (17 * qb + k)))) (sd_up t1 (17 * q + k) (mth (17 * qa + k) && mth (17 * qb + k))) minv isf fsp mfo mwr mpl mny mch mcu mro) (by rw [sd_stL]; exact rfl) dX5_join_262 (fun H locs hP hD hS => ?_)
                                refine lv_iinc (v := nI (k + 1)) (lv' := [(7, .int (nI (k + 1))), (10, .long (sd_L (s1 (17 * qb + k)))), (8, .long (sd_L (s1 (17 * qa + k)))), (0, .ref (am 0)), (1, .int (nI q)), (2, .int (nI qa)), (3, .int (nI qb)), (4, .int (nI h)), (5, .int (nI dd)), (6, .int (nI nn))]) hx hb dX5_join_263 hl (k := 2) rfl (nI_1 _) (by decide) rfl (fun ls hl => ?_)
                                refine lv_goto (tgt := 137) hx hb dX5_join_266 (by decide) ?_
                                have hI9 : ∀ i, (17 * q + 1 ≤ i ∧ i < 17 * q + (k + 1) → (sd_up t1 (17 * q + k) (mth (17 * qa + k) && mth (17 * qb + k))) i = (mth (17 * qa + (i - 17 * q)) && mth (17 * qb + (i - 17 * q))) ∧ (sd_up s1 (17 * q + k) (sd_jn h (s1 (17 * qa + k)) (s1 (17 * qb + k)))) i = sd_jn h (msh (17 * qa + (i - 17 * q))) (msh (17 * qb + (i - 17 * q)))) ∧ (¬ (17 * q + 1 ≤ i ∧ i < 17 * q + (k + 1)) → (sd_up t1 (17 * q + k) (mth (17 * qa + k) && mth (17 * qb + k))) i = mth i ∧ (sd_up s1 (17 * q + k) (sd_jn h (s1 (17 * qa + k)) (s1 (17 * qb + k)))) i = msh i) := by
                                  intro i
                                  by_cases ei : i = 17 * q + k
                                  · rw [ei, sd_up_s, sd_up_s, Nat.add_sub_cancel_left, ha9.2, hb9.2]
                                    exact ⟨fun _ => ⟨rfl, rfl⟩, fun z => absurd (by omega) z⟩
                                  · rw [sd_up_n _ _ ei, sd_up_n _ _ ei]
                                    exact ⟨fun z => (hI i).1 (by omega), fun z => (hI i).2 (by omega)⟩
                                exact ih (k := k + 1) (s1 := sd_up s1 (17 * q + k) (sd_jn h (s1 (17 * qa + k)) (s1 (17 * qb + k)))) (t1 := sd_up t1 (17 * q + k) (mth (17 * qa + k) && mth (17 * qb + k))) (hk := by omega) (hI := hI9) (H := H) (locs := locs) (hP := hP) (hD := hD) (hS := hS) (ls := ls) (hl := (lv_sub hl [0, 3, 4, 5, 6, 7, 8, 9] rfl)) (hk9 := by omega)
                              · refine lv_lload hx hb dX5_join_245 (lv_at hl 1 rfl) ?_
                                refine lv_lload hx hb dX5_join_247 (lv_at hl 0 rfl) ?_
                                refine sd_rl (va_runS (As := [.long (sd_L (s1 (17 * qa + k))), .long (sd_L (s1 (17 * qb + k)))]) (rest := [.int (nI (17 * q + k)), .ref (am 3)]) ⟨hx, hb, hml, hown, hts⟩ (k_X5_minus l (s1 (17 * qa + k)) (s1 (17 * qb + k))) (sd_cwS hts wd_X5_minus wn_X5 wm_X5_103 wi_X5_minus nq_X5_minus rfl rfl ⟨Nat.le_of_ble_eq_true rfl, Nat.le_of_ble_eq_true rfl⟩) sd_preN rfl rfl hl.1 rfl (lv_room (Nat.le_of_ble_eq_true rfl)) dX5_join_249 ⟨Nat.zero_le _, Nat.zero_le _⟩) (fun r36 hr36 => ?_)
                                subst hr36
                                refine lv_goto (tgt := 262) hx hb dX5_join_252 (by decide) ?_
                                refine sd_tol (y := sd_L (sd_jn h (s1 (17 * qa + k)) (s1 (17 * qb + k)))) (by rw [sd_jn, if_neg (fun z => c8 (by rw [z]; exact nI_0)), if_pos c9]) ?_
                                refine sd_last hx hb hK hP hD hS 3 0 rfl rfl (k := 17 * q + k) (by omega) (by decide) (ws2 := mw am tc (nI 0) mdg msz (sd_up s1 (17 * q + k) (sd_jn h (s1 (17 * qa + k)) (s1 (17 * qb + k)))) (sd_up t1 (17 * q + k) (mth (17 * qa + k) && mth (17 * qb + k))) minv isf fsp mfo mwr mpl mny mch mcu mro) (by rw [sd_stL]; exact rfl) dX5_join_262 (fun H locs hP hD hS => ?_)
                                refine lv_iinc (v := nI (k + 1)) (lv' := [(7, .int (nI (k + 1))), (10, .long (sd_L (s1 (17 * qb + k)))), (8, .long (sd_L (s1 (17 * qa + k)))), (0, .ref (am 0)), (1, .int (nI q)), (2, .int (nI qa)), (3, .int (nI qb)), (4, .int (nI h)), (5, .int (nI dd)), (6, .int (nI nn))]) hx hb dX5_join_263 hl (k := 2) rfl (nI_1 _) (by decide) rfl (fun ls hl => ?_)
                                refine lv_goto (tgt := 137) hx hb dX5_join_266 (by decide) ?_
                                have hI9 : ∀ i, (17 * q + 1 ≤ i ∧ i < 17 * q + (k + 1) → (sd_up t1 (17 * q + k) (mth (17 * qa + k) && mth (17 * qb + k))) i = (mth (17 * qa + (i - 17 * q)) && mth (17 * qb + (i - 17 * q))) ∧ (sd_up s1 (17 * q + k) (sd_jn h (s1 (17 * qa + k)) (s1 (17 * qb + k)))) i = sd_jn h (msh (17 * qa + (i - 17 * q))) (msh (17 * qb + (i - 17 * q)))) ∧ (¬ (17 * q + 1 ≤ i ∧ i < 17 * q + (k + 1)) → (sd_up t1 (17 * q + k) (mth (17 * qa + k) && mth (17 * qb + k))) i = mth i ∧ (sd_up s1 (17 * q + k) (sd_jn h (s1 (17 * qa + k)) (s1 (17 * qb + k)))) i = msh i) := by
                                  intro i
                                  by_cases ei : i = 17 * q + k
                                  · rw [ei, sd_up_s, sd_up_s, Nat.add_sub_cancel_left, ha9.2, hb9.2]
                                    exact ⟨fun _ => ⟨rfl, rfl⟩, fun z => absurd (by omega) z⟩
                                  · rw [sd_up_n _ _ ei, sd_up_n _ _ ei]
                                    exact ⟨fun z => (hI i).1 (by omega), fun z => (hI i).2 (by omega)⟩
                                exact ih (k := k + 1) (s1 := sd_up s1 (17 * q + k) (sd_jn h (s1 (17 * qa + k)) (s1 (17 * qb + k)))) (t1 := sd_up t1 (17 * q + k) (mth (17 * qa + k) && mth (17 * qb + k))) (hk := by omega) (hI := hI9) (H := H) (locs := locs) (hP := hP) (hD := hD) (hS := hS) (ls := ls) (hl := (lv_sub hl [0, 3, 4, 5, 6, 7, 8, 9] rfl)) (hk9 := by omega)
                            · refine lv_lload hx hb dX5_join_229 (lv_at hl 1 rfl) ?_
                              refine lv_lload hx hb dX5_join_231 (lv_at hl 0 rfl) ?_
                              refine sd_rl (va_runS (As := [.long (sd_L (s1 (17 * qa + k))), .long (sd_L (s1 (17 * qb + k)))]) (rest := [.int (nI (17 * q + k)), .ref (am 3)]) ⟨hx, hb, hml, hown, hts⟩ (k_X5_plus l (s1 (17 * qa + k)) (s1 (17 * qb + k))) (sd_cwS hts wd_X5_plus wn_X5 wm_X5_65 wi_X5_plus nq_X5_plus rfl rfl ⟨Nat.le_of_ble_eq_true rfl, Nat.le_of_ble_eq_true rfl⟩) sd_preN rfl rfl hl.1 rfl (lv_room (Nat.le_of_ble_eq_true rfl)) dX5_join_233 ⟨Nat.zero_le _, Nat.zero_le _⟩) (fun r37 hr37 => ?_)
                              subst hr37
                              refine lv_goto (tgt := 262) hx hb dX5_join_236 (by decide) ?_
                              refine sd_tol (y := sd_L (sd_jn h (s1 (17 * qa + k)) (s1 (17 * qb + k)))) (by rw [sd_jn, if_pos (sd_nI_inj (by omega) (by decide) (c8.trans nI_0.symm))]) ?_
                              refine sd_last hx hb hK hP hD hS 3 0 rfl rfl (k := 17 * q + k) (by omega) (by decide) (ws2 := mw am tc (nI 0) mdg msz (sd_up s1 (17 * q + k) (sd_jn h (s1 (17 * qa + k)) (s1 (17 * qb + k)))) (sd_up t1 (17 * q + k) (mth (17 * qa + k) && mth (17 * qb + k))) minv isf fsp mfo mwr mpl mny mch mcu mro) (by rw [sd_stL]; exact rfl) dX5_join_262 (fun H locs hP hD hS => ?_)
                              refine lv_iinc (v := nI (k + 1)) (lv' := [(7, .int (nI (k + 1))), (10, .long (sd_L (s1 (17 * qb + k)))), (8, .long (sd_L (s1 (17 * qa + k)))), (0, .ref (am 0)), (1, .int (nI q)), (2, .int (nI qa)), (3, .int (nI qb)), (4, .int (nI h)), (5, .int (nI dd)), (6, .int (nI nn))]) hx hb dX5_join_263 hl (k := 2) rfl (nI_1 _) (by decide) rfl (fun ls hl => ?_)
                              refine lv_goto (tgt := 137) hx hb dX5_join_266 (by decide) ?_
                              have hI9 : ∀ i, (17 * q + 1 ≤ i ∧ i < 17 * q + (k + 1) → (sd_up t1 (17 * q + k) (mth (17 * qa + k) && mth (17 * qb + k))) i = (mth (17 * qa + (i - 17 * q)) && mth (17 * qb + (i - 17 * q))) ∧ (sd_up s1 (17 * q + k) (sd_jn h (s1 (17 * qa + k)) (s1 (17 * qb + k)))) i = sd_jn h (msh (17 * qa + (i - 17 * q))) (msh (17 * qb + (i - 17 * q)))) ∧ (¬ (17 * q + 1 ≤ i ∧ i < 17 * q + (k + 1)) → (sd_up t1 (17 * q + k) (mth (17 * qa + k) && mth (17 * qb + k))) i = mth i ∧ (sd_up s1 (17 * q + k) (sd_jn h (s1 (17 * qa + k)) (s1 (17 * qb + k)))) i = msh i) := by
                                intro i
                                by_cases ei : i = 17 * q + k
                                · rw [ei, sd_up_s, sd_up_s, Nat.add_sub_cancel_left, ha9.2, hb9.2]
                                  exact ⟨fun _ => ⟨rfl, rfl⟩, fun z => absurd (by omega) z⟩
                                · rw [sd_up_n _ _ ei, sd_up_n _ _ ei]
                                  exact ⟨fun z => (hI i).1 (by omega), fun z => (hI i).2 (by omega)⟩
                              exact ih (k := k + 1) (s1 := sd_up s1 (17 * q + k) (sd_jn h (s1 (17 * qa + k)) (s1 (17 * qb + k)))) (t1 := sd_up t1 (17 * q + k) (mth (17 * qa + k) && mth (17 * qb + k))) (hk := by omega) (hI := hI9) (H := H) (locs := locs) (hP := hP) (hD := hD) (hS := hS) (ls := ls) (hl := (lv_sub hl [0, 3, 4, 5, 6, 7, 8, 9] rfl)) (hk9 := by omega)
                · refine lv_iconst (v := nI 0) hx hb dX5_join_100 (by decide) ?_
                  exact W.zret hx hb hr rfl (fun T9 hT9 hW => ⟨⟨_, (nI 0, mdg, msz, msh, mth, minv, isf, fsp, mfo, mwr, mpl, mny, mch, mcu, mro), rfl, ⟨rfl, Or.inr ⟨fun ⟨q2, a2, b2, h2, hv⟩ => (by obtain ⟨g1, g2, g3, g4, g5, g6, g7, g8, g9⟩ := hv; have e1 := sd_nI_inj (by omega) (by omega) g4; have e2 := sd_nI_inj (by omega) (by omega) g6; have e3 := sd_nI_inj (by omega) (by omega) g8; subst e1; subst e2; subst e3; rw [← hdd] at g9; omega), rfl, ⟨rfl, rfl, rfl, rfl, rfl, rfl, rfl, rfl, rfl⟩⟩⟩, by rw [hT9]; exact hP, va_K.moved hW.alike hK, hD⟩, hS.F hT9⟩) hS.2.2 dX5_join_101
              · refine lv_aload_n hx hb dX5_join_76 rfl (lv_at hl 0 rfl) ?_
                refine va_get (D := D) (ci := 5) (v := .ref (am 1)) (C := RX5) (T := TX5) (N := 15) hx hb hts (fun w h => mm (inX5 w h)) hown hK hP 0 rfl rfl 1 (by decide) (hts _ (mm wf_X5_7)) (fun _ h9 => h9) rfl dX5_join_77 ?_
                refine lv_iload_n hx hb dX5_join_80 rfl (lv_at hl 2 rfl) ?_
                refine sd_iald hx hb hK hP 1 2 rfl rfl (k := qa) (by omega) (by decide) dX5_join_81 ?_
                refine lv_goto (tgt := 91) hx hb dX5_join_82 (by decide) ?_
                obtain ⟨dd, hdd⟩ : ∃ dd, dd = m_jd (tn, mdg, msz, msh, mth, minv, isf, fsp, mfo, mwr, mpl, mny, mch, mcu, mro) qa qb h := ⟨_, rfl⟩
                have ed : mdg qa = dd := by rw [hdd, m_jd, if_neg c4, Nat.max_eq_left (Nat.le_of_lt c7)]
                have ed2 : mdg qa ≤ 16 := by omega
                rw [ed] at ed2 ⊢
                refine lv_istore (lv' := [(5, .int (nI dd)), (0, .ref (am 0)), (1, .int (nI q)), (2, .int (nI qa)), (3, .int (nI qb)), (4, .int (nI h))]) hx hb dX5_join_91 hl (by decide) rfl (fun ls hl => ?_)
                refine lv_iload hx hb dX5_join_93 (lv_at hl 0 rfl) ?_
                refine lv_bipush (v := nI 8) hx hb dX5_join_95 (by decide) ?_
                refine sd_icmp_le (tgt := 102) hx hb (by omega) (by omega) dX5_join_97 (by decide) (fun cd => ?_) (fun cd => ?_)
                · refine lv_aload_n hx hb dX5_join_102 rfl (lv_at hl 1 rfl) ?_
                  refine va_get (D := D) (ci := 5) (v := .ref (am 2)) (C := RX5) (T := TX5) (N := 15) hx hb hts (fun w h => mm (inX5 w h)) hown hK hP 0 rfl rfl 2 (by decide) (hts _ (mm wf_X5_13)) (fun _ h9 => h9) rfl dX5_join_103 ?_
                  refine lv_iload_n hx hb dX5_join_106 rfl (lv_at hl 3 rfl) ?_
                  refine sd_iald hx hb hK hP 2 2 rfl rfl (k := qa) (by omega) (by decide) dX5_join_107 ?_
                  refine lv_aload_n hx hb dX5_join_108 rfl (lv_at hl 1 rfl) ?_
                  refine va_get (D := D) (ci := 5) (v := .ref (am 2)) (C := RX5) (T := TX5) (N := 15) hx hb hts (fun w h => mm (inX5 w h)) hown hK hP 0 rfl rfl 2 (by decide) (hts _ (mm wf_X5_13)) (fun _ h9 => h9) rfl dX5_join_109 ?_
                  refine lv_iload_n hx hb dX5_join_112 rfl (lv_at hl 4 rfl) ?_
                  refine sd_iald hx hb hK hP 2 2 rfl rfl (k := qb) (by omega) (by decide) dX5_join_113 ?_
                  refine sd_icmp_ge (tgt := 126) hx hb (by omega) (by omega) dX5_join_114 (by decide) (fun cs => ?_) (fun cs => ?_)
                  · refine lv_aload_n hx hb dX5_join_126 rfl (lv_at hl 1 rfl) ?_
                    refine va_get (D := D) (ci := 5) (v := .ref (am 2)) (C := RX5) (T := TX5) (N := 15) hx hb hts (fun w h => mm (inX5 w h)) hown hK hP 0 rfl rfl 2 (by decide) (hts _ (mm wf_X5_13)) (fun _ h9 => h9) rfl dX5_join_127 ?_
                    refine lv_iload_n hx hb dX5_join_130 rfl (lv_at hl 4 rfl) ?_
                    refine sd_iald hx hb hK hP 2 2 rfl rfl (k := qb) (by omega) (by decide) dX5_join_131 ?_
                    obtain ⟨nn, hnn⟩ : ∃ nn, nn = min (msz qa) (msz qb) := ⟨_, rfl⟩
                    refine sd_toi (y := nI nn) (by rw [hnn, Nat.min_eq_right cs]) ?_
                    refine lv_istore (lv' := [(6, .int (nI nn)), (5, .int (nI dd)), (0, .ref (am 0)), (1, .int (nI q)), (2, .int (nI qa)), (3, .int (nI qb)), (4, .int (nI h))]) hx hb dX5_join_132 hl (by decide) rfl (fun ls hl => ?_)
                    refine lv_iconst (v := nI 1) hx hb dX5_join_134 (by decide) ?_
                    refine lv_istore (lv' := [(7, .int (nI 1)), (6, .int (nI nn)), (5, .int (nI dd)), (0, .ref (am 0)), (1, .int (nI q)), (2, .int (nI qa)), (3, .int (nI qb)), (4, .int (nI h))]) hx hb dX5_join_135 hl (by decide) rfl (fun ls hl => ?_)
                    obtain ⟨k, s1, t1, hk, hI, hP9, hD9, hl9⟩ : ∃ (k : Nat) (s1 : Nat → FP) (t1 : Nat → Bool), (1 ≤ k ∧ k ≤ nn + 1) ∧ (∀ i, (17 * q + 1 ≤ i ∧ i < 17 * q + k → t1 i = (mth (17 * qa + (i - 17 * q)) && mth (17 * qb + (i - 17 * q))) ∧ s1 i = sd_jn h (msh (17 * qa + (i - 17 * q))) (msh (17 * qb + (i - 17 * q)))) ∧ (¬ (17 * q + 1 ≤ i ∧ i < 17 * q + k) → t1 i = mth i ∧ s1 i = msh i)) ∧ va_P D vwCl (mw am tc (nI 0) mdg msz s1 t1 minv isf fsp mfo mwr mpl mny mch mcu mro) H ∧ va_D A (mw am tc (nI 0) mdg msz s1 t1 minv isf fsp mfo mwr mpl mny mch mcu mro) ∧ lv_has ls 12 [(7, .int (nI k)), (0, .ref (am 0)), (1, .int (nI q)), (2, .int (nI qa)), (3, .int (nI qb)), (4, .int (nI h)), (5, .int (nI dd)), (6, .int (nI nn))] := ⟨1, msh, mth, ⟨Nat.le_refl 1, by omega⟩, fun i => ⟨fun z => absurd z (by omega), fun _ => ⟨rfl, rfl⟩⟩, hP, hD, (lv_sub hl [0, 3, 4, 5, 6, 7, 2, 1] rfl)⟩
                    replace hl := hl9
                    clear hl9
                    replace hP := hP9
                    replace hD := hD9
                    clear hP9 hD9
                    obtain ⟨k9, hk9⟩ : ∃ k9 : Nat, nn + 1 < k + k9 := ⟨nn + 1, by omega⟩
                    induction k9 generalizing k s1 t1 ls H locs with
                    | zero => exact absurd hk9 (by omega)
                    | succ k9 ih =>
                      refine lv_iload hx hb dX5_join_137 (lv_at hl 0 rfl) ?_
                      refine lv_iload hx hb dX5_join_139 (lv_at hl 7 rfl) ?_
                      refine sd_icmp_gt (tgt := 269) hx hb (by omega) (by omega) dX5_join_141 (by decide) (fun c5 => ?_) (fun c5 => ?_)
                      · have ek : 17 * q + k = 17 * q + nn + 1 := by omega
                        simp only [ek, Nat.lt_succ_iff] at hI
                        rw [hnn] at hI
                        refine lv_aload_n hx hb dX5_join_269 rfl (lv_at hl 1 rfl) ?_
                        refine va_get (D := D) (ci := 5) (v := .ref (am 2)) (C := RX5) (T := TX5) (N := 15) hx hb hts (fun w h => mm (inX5 w h)) hown hK hP 0 rfl rfl 2 (by decide) (hts _ (mm wf_X5_13)) (fun _ h9 => h9) rfl dX5_join_270 ?_
                        refine lv_iload_n hx hb dX5_join_273 rfl (lv_at hl 2 rfl) ?_
                        refine lv_iload hx hb dX5_join_274 (lv_at hl 7 rfl) ?_
                        refine sd_iast hx hb hK hP hD hS 2 2 rfl rfl (k := q) (by omega) (by decide) (ws2 := mw am tc (nI 0) mdg (sd_up msz q nn) s1 t1 minv isf fsp mfo mwr mpl mny mch mcu mro) (by rw [sd_stN]; exact rfl) dX5_join_276 (fun H locs hP hD hS => ?_)
                        refine lv_aload_n hx hb dX5_join_277 rfl (lv_at hl 1 rfl) ?_
                        refine va_get (D := D) (ci := 5) (v := .ref (am 1)) (C := RX5) (T := TX5) (N := 15) hx hb hts (fun w h => mm (inX5 w h)) hown hK hP 0 rfl rfl 1 (by decide) (hts _ (mm wf_X5_7)) (fun _ h9 => h9) rfl dX5_join_278 ?_
                        refine lv_iload_n hx hb dX5_join_281 rfl (lv_at hl 2 rfl) ?_
                        refine lv_iload hx hb dX5_join_282 (lv_at hl 6 rfl) ?_
                        refine sd_iast hx hb hK hP hD hS 1 2 rfl rfl (k := q) (by omega) (by decide) (ws2 := mw am tc (nI 0) (sd_up mdg q dd) (sd_up msz q nn) s1 t1 minv isf fsp mfo mwr mpl mny mch mcu mro) (by rw [sd_stN]; exact rfl) dX5_join_284 (fun H locs hP hD hS => ?_)
                        refine lv_iconst (v := nI 1) hx hb dX5_join_285 (by decide) ?_
                        exact W.zret hx hb hr rfl (fun T9 hT9 hW => ⟨⟨_, (nI 0, sd_up mdg q dd, sd_up msz q nn, s1, t1, minv, isf, fsp, mfo, mwr, mpl, mny, mch, mcu, mro), rfl, ⟨rfl, Or.inl ⟨q, qa, qb, h, ⟨hq, rfl, hqa, rfl, hqb, rfl, ch, rfl, hdd ▸ cd⟩, rfl, by rw [← hdd], by rw [hnn], ⟨rfl, rfl, rfl, rfl, rfl⟩, hI⟩⟩, by rw [hT9]; exact hP, va_K.moved hW.alike hK, hD⟩, hS.F hT9⟩) hS.2.2 dX5_join_286
                      · have hR9 : ∀ i, i < 8 → t1 (17 * i + k) = mth (17 * i + k) ∧ s1 (17 * i + k) = msh (17 * i + k) := fun i hi => (hI (17 * i + k)).2 (by omega)
                        have ha9 := hR9 qa hqa
                        have hb9 := hR9 qb hqb
                        refine lv_aload_n hx hb dX5_join_144 rfl (lv_at hl 1 rfl) ?_
                        refine va_get (D := D) (ci := 5) (v := .ref (am 3)) (C := RX5) (T := TX5) (N := 15) hx hb hts (fun w h => mm (inX5 w h)) hown hK hP 0 rfl rfl 3 (by decide) (hts _ (mm wf_X5_16)) (fun _ h9 => h9) rfl dX5_join_145 ?_
                        refine lv_iload_n hx hb dX5_join_148 rfl (lv_at hl 3 rfl) ?_
                        refine lv_iload hx hb dX5_join_149 (lv_at hl 0 rfl) ?_
                        refine sd_ri (va_runS (As := [.int (nI qa), .int (nI k)]) (rest := [.ref (am 3)]) ⟨hx, hb, hml, hown, hts⟩ (k_X5_home l qa k) (sd_cwS hts wd_X5_home wn_X5 wm_X5_91 wi_X5_home nq_X5_home rfl rfl ⟨Nat.le_of_ble_eq_true rfl, Nat.le_of_ble_eq_true rfl⟩) sd_preN rfl rfl hl.1 rfl (lv_room (Nat.le_of_ble_eq_true rfl)) dX5_join_151 ⟨Nat.zero_le _, Nat.zero_le _⟩) (fun r38 hr38 => ?_)
                        subst hr38
                        refine sd_lald hx hb hK hP 3 0 rfl rfl (k := 17 * qa + k) (by omega) (by decide) dX5_join_154 ?_
                        refine lv_lstore (lv' := [(8, .long (sd_L (s1 (17 * qa + k)))), (7, .int (nI k)), (0, .ref (am 0)), (1, .int (nI q)), (2, .int (nI qa)), (3, .int (nI qb)), (4, .int (nI h)), (5, .int (nI dd)), (6, .int (nI nn))]) hx hb dX5_join_155 hl (by decide) rfl (fun ls hl => ?_)
                        refine lv_aload_n hx hb dX5_join_157 rfl (lv_at hl 2 rfl) ?_
                        refine va_get (D := D) (ci := 5) (v := .ref (am 3)) (C := RX5) (T := TX5) (N := 15) hx hb hts (fun w h => mm (inX5 w h)) hown hK hP 0 rfl rfl 3 (by decide) (hts _ (mm wf_X5_16)) (fun _ h9 => h9) rfl dX5_join_158 ?_
                        refine lv_iload_n hx hb dX5_join_161 rfl (lv_at hl 5 rfl) ?_
                        refine lv_iload hx hb dX5_join_162 (lv_at hl 1 rfl) ?_
                        refine sd_ri (va_runS (As := [.int (nI qb), .int (nI k)]) (rest := [.ref (am 3)]) ⟨hx, hb, hml, hown, hts⟩ (k_X5_home l qb k) (sd_cwS hts wd_X5_home wn_X5 wm_X5_91 wi_X5_home nq_X5_home rfl rfl ⟨Nat.le_of_ble_eq_true rfl, Nat.le_of_ble_eq_true rfl⟩) sd_preN rfl rfl hl.1 rfl (lv_room (Nat.le_of_ble_eq_true rfl)) dX5_join_164 ⟨Nat.zero_le _, Nat.zero_le _⟩) (fun r39 hr39 => ?_)
                        subst hr39
                        refine sd_lald hx hb hK hP 3 0 rfl rfl (k := 17 * qb + k) (by omega) (by decide) dX5_join_167 ?_
                        refine lv_lstore (lv' := [(10, .long (sd_L (s1 (17 * qb + k)))), (8, .long (sd_L (s1 (17 * qa + k)))), (7, .int (nI k)), (0, .ref (am 0)), (1, .int (nI q)), (2, .int (nI qa)), (3, .int (nI qb)), (4, .int (nI h)), (5, .int (nI dd)), (6, .int (nI nn))]) hx hb dX5_join_168 hl (by decide) rfl (fun ls hl => ?_)
                        refine lv_aload_n hx hb dX5_join_170 rfl (lv_at hl 3 rfl) ?_
                        refine va_get (D := D) (ci := 5) (v := .ref (am 4)) (C := RX5) (T := TX5) (N := 15) hx hb hts (fun w h => mm (inX5 w h)) hown hK hP 0 rfl rfl 4 (by decide) (hts _ (mm wf_X5_20)) (fun _ h9 => h9) rfl dX5_join_171 ?_
                        refine lv_iload_n hx hb dX5_join_174 rfl (lv_at hl 4 rfl) ?_
                        refine lv_iload hx hb dX5_join_175 (lv_at hl 2 rfl) ?_
                        refine sd_ri (va_runS (As := [.int (nI q), .int (nI k)]) (rest := [.ref (am 4)]) ⟨hx, hb, hml, hown, hts⟩ (k_X5_home l q k) (sd_cwS hts wd_X5_home wn_X5 wm_X5_91 wi_X5_home nq_X5_home rfl rfl ⟨Nat.le_of_ble_eq_true rfl, Nat.le_of_ble_eq_true rfl⟩) sd_preN rfl rfl hl.1 rfl (lv_room (Nat.le_of_ble_eq_true rfl)) dX5_join_177 ⟨Nat.zero_le _, Nat.zero_le _⟩) (fun r40 hr40 => ?_)
                        subst hr40
                        refine lv_aload_n hx hb dX5_join_180 rfl (lv_at hl 3 rfl) ?_
                        refine va_get (D := D) (ci := 5) (v := .ref (am 4)) (C := RX5) (T := TX5) (N := 15) hx hb hts (fun w h => mm (inX5 w h)) hown hK hP 0 rfl rfl 4 (by decide) (hts _ (mm wf_X5_20)) (fun _ h9 => h9) rfl dX5_join_181 ?_
                        refine lv_iload_n hx hb dX5_join_184 rfl (lv_at hl 5 rfl) ?_
                        refine lv_iload hx hb dX5_join_185 (lv_at hl 2 rfl) ?_
                        refine sd_ri (va_runS (As := [.int (nI qa), .int (nI k)]) (rest := [.ref (am 4), .int (nI (17 * q + k)), .ref (am 4)]) ⟨hx, hb, hml, hown, hts⟩ (k_X5_home l qa k) (sd_cwS hts wd_X5_home wn_X5 wm_X5_91 wi_X5_home nq_X5_home rfl rfl ⟨Nat.le_of_ble_eq_true rfl, Nat.le_of_ble_eq_true rfl⟩) sd_preN rfl rfl hl.1 rfl (lv_room (Nat.le_of_ble_eq_true rfl)) dX5_join_187 ⟨Nat.zero_le _, Nat.zero_le _⟩) (fun r41 hr41 => ?_)
                        subst hr41
                        refine sd_zald hx hb hK hP 4 1 rfl rfl (k := 17 * qa + k) (by omega) (by decide) dX5_join_190 ?_
                        refine sd_if_eqB (tgt := 212) hx hb dX5_join_191 (by decide) (fun c6 => ?_) (fun c6 => ?_)
                        · refine lv_iconst (v := nI 0) hx hb dX5_join_212 (by decide) ?_
                          refine sd_tob (b := mth (17 * qa + k) && mth (17 * qb + k)) (by rw [← ha9.1, c6]; rfl) ?_
                          refine sd_zast hx hb hK hP hD hS 4 1 rfl rfl (k := 17 * q + k) (by omega) (by decide) (ws2 := mw am tc (nI 0) mdg msz s1 (sd_up t1 (17 * q + k) (mth (17 * qa + k) && mth (17 * qb + k))) minv isf fsp mfo mwr mpl mny mch mcu mro) (by rw [sd_stZ]; exact rfl) dX5_join_213 (fun H locs hP hD hS => ?_)
                          refine lv_aload_n hx hb dX5_join_214 rfl (lv_at hl 3 rfl) ?_
                          refine va_get (D := D) (ci := 5) (v := .ref (am 3)) (C := RX5) (T := TX5) (N := 15) hx hb hts (fun w h => mm (inX5 w h)) hown hK hP 0 rfl rfl 3 (by decide) (hts _ (mm wf_X5_16)) (fun _ h9 => h9) rfl dX5_join_215 ?_
                          refine lv_iload_n hx hb dX5_join_218 rfl (lv_at hl 4 rfl) ?_
                          refine lv_iload hx hb dX5_join_219 (lv_at hl 2 rfl) ?_
                          refine sd_ri (va_runS (As := [.int (nI q), .int (nI k)]) (rest := [.ref (am 3)]) ⟨hx, hb, hml, hown, hts⟩ (k_X5_home l q k) (sd_cwS hts wd_X5_home wn_X5 wm_X5_91 wi_X5_home nq_X5_home rfl rfl ⟨Nat.le_of_ble_eq_true rfl, Nat.le_of_ble_eq_true rfl⟩) sd_preN rfl rfl hl.1 rfl (lv_room (Nat.le_of_ble_eq_true rfl)) dX5_join_221 ⟨Nat.zero_le _, Nat.zero_le _⟩) (fun r42 hr42 => ?_)
                          subst hr42
                          refine lv_iload hx hb dX5_join_224 (lv_at hl 7 rfl) ?_
                          refine lv_if_ne (tgt := 239) hx hb dX5_join_226 (by decide) (fun c8 => ?_) (fun c8 => ?_)
                          · refine lv_iload hx hb dX5_join_239 (lv_at hl 7 rfl) ?_
                            refine lv_iconst (v := nI 1) hx hb dX5_join_241 (by decide) ?_
                            refine sd_icmp_ne (tgt := 255) hx hb (by omega) (by omega) dX5_join_242 (by decide) (fun c9 => ?_) (fun c9 => ?_)
                            · refine lv_lload hx hb dX5_join_255 (lv_at hl 1 rfl) ?_
                              refine lv_lload hx hb dX5_join_257 (lv_at hl 0 rfl) ?_
                              refine sd_rl (va_runS (As := [.long (sd_L (s1 (17 * qa + k))), .long (sd_L (s1 (17 * qb + k)))]) (rest := [.int (nI (17 * q + k)), .ref (am 3)]) ⟨hx, hb, hml, hown, hts⟩ (k_X5_times l (s1 (17 * qa + k)) (s1 (17 * qb + k))) (sd_cwS hts wd_X5_times wn_X5 wm_X5_70 wi_X5_times nq_X5_times rfl rfl ⟨Nat.le_of_ble_eq_true rfl, Nat.le_of_ble_eq_true rfl⟩) sd_preN rfl rfl hl.1 rfl (lv_room (Nat.le_of_ble_eq_true rfl)) dX5_join_259 ⟨Nat.zero_le _, Nat.zero_le _⟩) (fun r43 hr43 => ?_)
                              subst hr43
                              refine sd_tol (y := sd_L (sd_jn h (s1 (17 * qa + k)) (s1 (17 * qb + k)))) (by rw [sd_jn, if_neg (fun z => c8 (by rw [z]; exact nI_0)), if_neg c9]) ?_
                              refine sd_last hx hb hK hP hD hS 3 0 rfl rfl (k := 17 * q + k) (by omega) (by decide) (ws2 := mw am tc (nI 0) mdg msz (sd_up s1 (17 * q + k) (sd_jn h (s1 (17 * qa + k)) (s1 (17 * qb + k)))) (sd_up t1 (17 * q + k) (mth (17 * qa + k) && mth (17 * qb + k))) minv isf fsp mfo mwr mpl mny mch mcu mro) (by rw [sd_stL]; exact rfl) dX5_join_262 (fun H locs hP hD hS => ?_)
                              refine lv_iinc (v := nI (k + 1)) (lv' := [(7, .int (nI (k + 1))), (10, .long (sd_L (s1 (17 * qb + k)))), (8, .long (sd_L (s1 (17 * qa + k)))), (0, .ref (am 0)), (1, .int (nI q)), (2, .int (nI qa)), (3, .int (nI qb)), (4, .int (nI h)), (5, .int (nI dd)), (6, .int (nI nn))]) hx hb dX5_join_263 hl (k := 2) rfl (nI_1 _) (by decide) rfl (fun ls hl => ?_)
                              refine lv_goto (tgt := 137) hx hb dX5_join_266 (by decide) ?_
                              have hI9 : ∀ i, (17 * q + 1 ≤ i ∧ i < 17 * q + (k + 1) → (sd_up t1 (17 * q + k) (mth (17 * qa + k) && mth (17 * qb + k))) i = (mth (17 * qa + (i - 17 * q)) && mth (17 * qb + (i - 17 * q))) ∧ (sd_up s1 (17 * q + k) (sd_jn h (s1 (17 * qa + k)) (s1 (17 * qb + k)))) i = sd_jn h (msh (17 * qa + (i - 17 * q))) (msh (17 * qb + (i - 17 * q)))) ∧ (¬ (17 * q + 1 ≤ i ∧ i < 17 * q + (k + 1)) → (sd_up t1 (17 * q + k) (mth (17 * qa + k) && mth (17 * qb + k))) i = mth i ∧ (sd_up s1 (17 * q + k) (sd_jn h (s1 (17 * qa + k)) (s1 (17 * qb + k)))) i = msh i) := by
                                intro i
                                by_cases ei : i = 17 * q + k
                                · rw [ei, sd_up_s, sd_up_s, Nat.add_sub_cancel_left, ha9.2, hb9.2]
                                  exact ⟨fun _ => ⟨rfl, rfl⟩, fun z => absurd (by omega) z⟩
                                · rw [sd_up_n _ _ ei, sd_up_n _ _ ei]
                                  exact ⟨fun z => (hI i).1 (by omega), fun z => (hI i).2 (by omega)⟩
                              exact ih (k := k + 1) (s1 := sd_up s1 (17 * q + k) (sd_jn h (s1 (17 * qa + k)) (s1 (17 * qb + k)))) (t1 := sd_up t1 (17 * q + k) (mth (17 * qa + k) && mth (17 * qb + k))) (hk := by omega) (hI := hI9) (H := H) (locs := locs) (hP := hP) (hD := hD) (hS := hS) (ls := ls) (hl := (lv_sub hl [0, 3, 4, 5, 6, 7, 8, 9] rfl)) (hk9 := by omega)
                            · refine lv_lload hx hb dX5_join_245 (lv_at hl 1 rfl) ?_
                              refine lv_lload hx hb dX5_join_247 (lv_at hl 0 rfl) ?_
                              refine sd_rl (va_runS (As := [.long (sd_L (s1 (17 * qa + k))), .long (sd_L (s1 (17 * qb + k)))]) (rest := [.int (nI (17 * q + k)), .ref (am 3)]) ⟨hx, hb, hml, hown, hts⟩ (k_X5_minus l (s1 (17 * qa + k)) (s1 (17 * qb + k))) (sd_cwS hts wd_X5_minus wn_X5 wm_X5_103 wi_X5_minus nq_X5_minus rfl rfl ⟨Nat.le_of_ble_eq_true rfl, Nat.le_of_ble_eq_true rfl⟩) sd_preN rfl rfl hl.1 rfl (lv_room (Nat.le_of_ble_eq_true rfl)) dX5_join_249 ⟨Nat.zero_le _, Nat.zero_le _⟩) (fun r44 hr44 => ?_)
                              subst hr44
                              refine lv_goto (tgt := 262) hx hb dX5_join_252 (by decide) ?_
                              refine sd_tol (y := sd_L (sd_jn h (s1 (17 * qa + k)) (s1 (17 * qb + k)))) (by rw [sd_jn, if_neg (fun z => c8 (by rw [z]; exact nI_0)), if_pos c9]) ?_
                              refine sd_last hx hb hK hP hD hS 3 0 rfl rfl (k := 17 * q + k) (by omega) (by decide) (ws2 := mw am tc (nI 0) mdg msz (sd_up s1 (17 * q + k) (sd_jn h (s1 (17 * qa + k)) (s1 (17 * qb + k)))) (sd_up t1 (17 * q + k) (mth (17 * qa + k) && mth (17 * qb + k))) minv isf fsp mfo mwr mpl mny mch mcu mro) (by rw [sd_stL]; exact rfl) dX5_join_262 (fun H locs hP hD hS => ?_)
                              refine lv_iinc (v := nI (k + 1)) (lv' := [(7, .int (nI (k + 1))), (10, .long (sd_L (s1 (17 * qb + k)))), (8, .long (sd_L (s1 (17 * qa + k)))), (0, .ref (am 0)), (1, .int (nI q)), (2, .int (nI qa)), (3, .int (nI qb)), (4, .int (nI h)), (5, .int (nI dd)), (6, .int (nI nn))]) hx hb dX5_join_263 hl (k := 2) rfl (nI_1 _) (by decide) rfl (fun ls hl => ?_)
                              refine lv_goto (tgt := 137) hx hb dX5_join_266 (by decide) ?_
                              have hI9 : ∀ i, (17 * q + 1 ≤ i ∧ i < 17 * q + (k + 1) → (sd_up t1 (17 * q + k) (mth (17 * qa + k) && mth (17 * qb + k))) i = (mth (17 * qa + (i - 17 * q)) && mth (17 * qb + (i - 17 * q))) ∧ (sd_up s1 (17 * q + k) (sd_jn h (s1 (17 * qa + k)) (s1 (17 * qb + k)))) i = sd_jn h (msh (17 * qa + (i - 17 * q))) (msh (17 * qb + (i - 17 * q)))) ∧ (¬ (17 * q + 1 ≤ i ∧ i < 17 * q + (k + 1)) → (sd_up t1 (17 * q + k) (mth (17 * qa + k) && mth (17 * qb + k))) i = mth i ∧ (sd_up s1 (17 * q + k) (sd_jn h (s1 (17 * qa + k)) (s1 (17 * qb + k)))) i = msh i) := by
                                intro i
                                by_cases ei : i = 17 * q + k
                                · rw [ei, sd_up_s, sd_up_s, Nat.add_sub_cancel_left, ha9.2, hb9.2]
                                  exact ⟨fun _ => ⟨rfl, rfl⟩, fun z => absurd (by omega) z⟩
                                · rw [sd_up_n _ _ ei, sd_up_n _ _ ei]
                                  exact ⟨fun z => (hI i).1 (by omega), fun z => (hI i).2 (by omega)⟩
                              exact ih (k := k + 1) (s1 := sd_up s1 (17 * q + k) (sd_jn h (s1 (17 * qa + k)) (s1 (17 * qb + k)))) (t1 := sd_up t1 (17 * q + k) (mth (17 * qa + k) && mth (17 * qb + k))) (hk := by omega) (hI := hI9) (H := H) (locs := locs) (hP := hP) (hD := hD) (hS := hS) (ls := ls) (hl := (lv_sub hl [0, 3, 4, 5, 6, 7, 8, 9] rfl)) (hk9 := by omega)
                          · refine lv_lload hx hb dX5_join_229 (lv_at hl 1 rfl) ?_
                            refine lv_lload hx hb dX5_join_231 (lv_at hl 0 rfl) ?_
                            refine sd_rl (va_runS (As := [.long (sd_L (s1 (17 * qa + k))), .long (sd_L (s1 (17 * qb + k)))]) (rest := [.int (nI (17 * q + k)), .ref (am 3)]) ⟨hx, hb, hml, hown, hts⟩ (k_X5_plus l (s1 (17 * qa + k)) (s1 (17 * qb + k))) (sd_cwS hts wd_X5_plus wn_X5 wm_X5_65 wi_X5_plus nq_X5_plus rfl rfl ⟨Nat.le_of_ble_eq_true rfl, Nat.le_of_ble_eq_true rfl⟩) sd_preN rfl rfl hl.1 rfl (lv_room (Nat.le_of_ble_eq_true rfl)) dX5_join_233 ⟨Nat.zero_le _, Nat.zero_le _⟩) (fun r45 hr45 => ?_)
                            subst hr45
                            refine lv_goto (tgt := 262) hx hb dX5_join_236 (by decide) ?_
                            refine sd_tol (y := sd_L (sd_jn h (s1 (17 * qa + k)) (s1 (17 * qb + k)))) (by rw [sd_jn, if_pos (sd_nI_inj (by omega) (by decide) (c8.trans nI_0.symm))]) ?_
                            refine sd_last hx hb hK hP hD hS 3 0 rfl rfl (k := 17 * q + k) (by omega) (by decide) (ws2 := mw am tc (nI 0) mdg msz (sd_up s1 (17 * q + k) (sd_jn h (s1 (17 * qa + k)) (s1 (17 * qb + k)))) (sd_up t1 (17 * q + k) (mth (17 * qa + k) && mth (17 * qb + k))) minv isf fsp mfo mwr mpl mny mch mcu mro) (by rw [sd_stL]; exact rfl) dX5_join_262 (fun H locs hP hD hS => ?_)
                            refine lv_iinc (v := nI (k + 1)) (lv' := [(7, .int (nI (k + 1))), (10, .long (sd_L (s1 (17 * qb + k)))), (8, .long (sd_L (s1 (17 * qa + k)))), (0, .ref (am 0)), (1, .int (nI q)), (2, .int (nI qa)), (3, .int (nI qb)), (4, .int (nI h)), (5, .int (nI dd)), (6, .int (nI nn))]) hx hb dX5_join_263 hl (k := 2) rfl (nI_1 _) (by decide) rfl (fun ls hl => ?_)
                            refine lv_goto (tgt := 137) hx hb dX5_join_266 (by decide) ?_
                            have hI9 : ∀ i, (17 * q + 1 ≤ i ∧ i < 17 * q + (k + 1) → (sd_up t1 (17 * q + k) (mth (17 * qa + k) && mth (17 * qb + k))) i = (mth (17 * qa + (i - 17 * q)) && mth (17 * qb + (i - 17 * q))) ∧ (sd_up s1 (17 * q + k) (sd_jn h (s1 (17 * qa + k)) (s1 (17 * qb + k)))) i = sd_jn h (msh (17 * qa + (i - 17 * q))) (msh (17 * qb + (i - 17 * q)))) ∧ (¬ (17 * q + 1 ≤ i ∧ i < 17 * q + (k + 1)) → (sd_up t1 (17 * q + k) (mth (17 * qa + k) && mth (17 * qb + k))) i = mth i ∧ (sd_up s1 (17 * q + k) (sd_jn h (s1 (17 * qa + k)) (s1 (17 * qb + k)))) i = msh i) := by
                              intro i
                              by_cases ei : i = 17 * q + k
                              · rw [ei, sd_up_s, sd_up_s, Nat.add_sub_cancel_left, ha9.2, hb9.2]
                                exact ⟨fun _ => ⟨rfl, rfl⟩, fun z => absurd (by omega) z⟩
                              · rw [sd_up_n _ _ ei, sd_up_n _ _ ei]
                                exact ⟨fun z => (hI i).1 (by omega), fun z => (hI i).2 (by omega)⟩
                            exact ih (k := k + 1) (s1 := sd_up s1 (17 * q + k) (sd_jn h (s1 (17 * qa + k)) (s1 (17 * qb + k)))) (t1 := sd_up t1 (17 * q + k) (mth (17 * qa + k) && mth (17 * qb + k))) (hk := by omega) (hI := hI9) (H := H) (locs := locs) (hP := hP) (hD := hD) (hS := hS) (ls := ls) (hl := (lv_sub hl [0, 3, 4, 5, 6, 7, 8, 9] rfl)) (hk9 := by omega)
                        · refine lv_aload_n hx hb dX5_join_194 rfl (lv_at hl 3 rfl) ?_
                          refine va_get (D := D) (ci := 5) (v := .ref (am 4)) (C := RX5) (T := TX5) (N := 15) hx hb hts (fun w h => mm (inX5 w h)) hown hK hP 0 rfl rfl 4 (by decide) (hts _ (mm wf_X5_20)) (fun _ h9 => h9) rfl dX5_join_195 ?_
                          refine lv_iload_n hx hb dX5_join_198 rfl (lv_at hl 6 rfl) ?_
                          refine lv_iload hx hb dX5_join_199 (lv_at hl 2 rfl) ?_
                          refine sd_ri (va_runS (As := [.int (nI qb), .int (nI k)]) (rest := [.ref (am 4), .int (nI (17 * q + k)), .ref (am 4)]) ⟨hx, hb, hml, hown, hts⟩ (k_X5_home l qb k) (sd_cwS hts wd_X5_home wn_X5 wm_X5_91 wi_X5_home nq_X5_home rfl rfl ⟨Nat.le_of_ble_eq_true rfl, Nat.le_of_ble_eq_true rfl⟩) sd_preN rfl rfl hl.1 rfl (lv_room (Nat.le_of_ble_eq_true rfl)) dX5_join_201 ⟨Nat.zero_le _, Nat.zero_le _⟩) (fun r46 hr46 => ?_)
                          subst hr46
                          refine sd_zald hx hb hK hP 4 1 rfl rfl (k := 17 * qb + k) (by omega) (by decide) dX5_join_204 ?_
                          refine sd_if_eqB (tgt := 212) hx hb dX5_join_205 (by decide) (fun c7 => ?_) (fun c7 => ?_)
                          · refine lv_iconst (v := nI 0) hx hb dX5_join_212 (by decide) ?_
                            refine sd_tob (b := mth (17 * qa + k) && mth (17 * qb + k)) (by rw [← ha9.1, ← hb9.1, c6, c7]; rfl) ?_
                            refine sd_zast hx hb hK hP hD hS 4 1 rfl rfl (k := 17 * q + k) (by omega) (by decide) (ws2 := mw am tc (nI 0) mdg msz s1 (sd_up t1 (17 * q + k) (mth (17 * qa + k) && mth (17 * qb + k))) minv isf fsp mfo mwr mpl mny mch mcu mro) (by rw [sd_stZ]; exact rfl) dX5_join_213 (fun H locs hP hD hS => ?_)
                            refine lv_aload_n hx hb dX5_join_214 rfl (lv_at hl 3 rfl) ?_
                            refine va_get (D := D) (ci := 5) (v := .ref (am 3)) (C := RX5) (T := TX5) (N := 15) hx hb hts (fun w h => mm (inX5 w h)) hown hK hP 0 rfl rfl 3 (by decide) (hts _ (mm wf_X5_16)) (fun _ h9 => h9) rfl dX5_join_215 ?_
                            refine lv_iload_n hx hb dX5_join_218 rfl (lv_at hl 4 rfl) ?_
                            refine lv_iload hx hb dX5_join_219 (lv_at hl 2 rfl) ?_
                            refine sd_ri (va_runS (As := [.int (nI q), .int (nI k)]) (rest := [.ref (am 3)]) ⟨hx, hb, hml, hown, hts⟩ (k_X5_home l q k) (sd_cwS hts wd_X5_home wn_X5 wm_X5_91 wi_X5_home nq_X5_home rfl rfl ⟨Nat.le_of_ble_eq_true rfl, Nat.le_of_ble_eq_true rfl⟩) sd_preN rfl rfl hl.1 rfl (lv_room (Nat.le_of_ble_eq_true rfl)) dX5_join_221 ⟨Nat.zero_le _, Nat.zero_le _⟩) (fun r47 hr47 => ?_)
                            subst hr47
                            refine lv_iload hx hb dX5_join_224 (lv_at hl 7 rfl) ?_
                            refine lv_if_ne (tgt := 239) hx hb dX5_join_226 (by decide) (fun c8 => ?_) (fun c8 => ?_)
                            · refine lv_iload hx hb dX5_join_239 (lv_at hl 7 rfl) ?_
                              refine lv_iconst (v := nI 1) hx hb dX5_join_241 (by decide) ?_
                              refine sd_icmp_ne (tgt := 255) hx hb (by omega) (by omega) dX5_join_242 (by decide) (fun c9 => ?_) (fun c9 => ?_)
                              · refine lv_lload hx hb dX5_join_255 (lv_at hl 1 rfl) ?_
                                refine lv_lload hx hb dX5_join_257 (lv_at hl 0 rfl) ?_
                                refine sd_rl (va_runS (As := [.long (sd_L (s1 (17 * qa + k))), .long (sd_L (s1 (17 * qb + k)))]) (rest := [.int (nI (17 * q + k)), .ref (am 3)]) ⟨hx, hb, hml, hown, hts⟩ (k_X5_times l (s1 (17 * qa + k)) (s1 (17 * qb + k))) (sd_cwS hts wd_X5_times wn_X5 wm_X5_70 wi_X5_times nq_X5_times rfl rfl ⟨Nat.le_of_ble_eq_true rfl, Nat.le_of_ble_eq_true rfl⟩) sd_preN rfl rfl hl.1 rfl (lv_room (Nat.le_of_ble_eq_true rfl)) dX5_join_259 ⟨Nat.zero_le _, Nat.zero_le _⟩) (fun r48 hr48 => ?_)
                                subst hr48
                                refine sd_tol (y := sd_L (sd_jn h (s1 (17 * qa + k)) (s1 (17 * qb + k)))) (by rw [sd_jn, if_neg (fun z => c8 (by rw [z]; exact nI_0)), if_neg c9]) ?_
                                refine sd_last hx hb hK hP hD hS 3 0 rfl rfl (k := 17 * q + k) (by omega) (by decide) (ws2 := mw am tc (nI 0) mdg msz (sd_up s1 (17 * q + k) (sd_jn h (s1 (17 * qa + k)) (s1 (17 * qb + k)))) (sd_up t1 (17 * q + k) (mth (17 * qa + k) && mth (17 * qb + k))) minv isf fsp mfo mwr mpl mny mch mcu mro) (by rw [sd_stL]; exact rfl) dX5_join_262 (fun H locs hP hD hS => ?_)
                                refine lv_iinc (v := nI (k + 1)) (lv' := [(7, .int (nI (k + 1))), (10, .long (sd_L (s1 (17 * qb + k)))), (8, .long (sd_L (s1 (17 * qa + k)))), (0, .ref (am 0)), (1, .int (nI q)), (2, .int (nI qa)), (3, .int (nI qb)), (4, .int (nI h)), (5, .int (nI dd)), (6, .int (nI nn))]) hx hb dX5_join_263 hl (k := 2) rfl (nI_1 _) (by decide) rfl (fun ls hl => ?_)
                                refine lv_goto (tgt := 137) hx hb dX5_join_266 (by decide) ?_
                                have hI9 : ∀ i, (17 * q + 1 ≤ i ∧ i < 17 * q + (k + 1) → (sd_up t1 (17 * q + k) (mth (17 * qa + k) && mth (17 * qb + k))) i = (mth (17 * qa + (i - 17 * q)) && mth (17 * qb + (i - 17 * q))) ∧ (sd_up s1 (17 * q + k) (sd_jn h (s1 (17 * qa + k)) (s1 (17 * qb + k)))) i = sd_jn h (msh (17 * qa + (i - 17 * q))) (msh (17 * qb + (i - 17 * q)))) ∧ (¬ (17 * q + 1 ≤ i ∧ i < 17 * q + (k + 1)) → (sd_up t1 (17 * q + k) (mth (17 * qa + k) && mth (17 * qb + k))) i = mth i ∧ (sd_up s1 (17 * q + k) (sd_jn h (s1 (17 * qa + k)) (s1 (17 * qb + k)))) i = msh i) := by
                                  intro i
                                  by_cases ei : i = 17 * q + k
                                  · rw [ei, sd_up_s, sd_up_s, Nat.add_sub_cancel_left, ha9.2, hb9.2]
                                    exact ⟨fun _ => ⟨rfl, rfl⟩, fun z => absurd (by omega) z⟩
                                  · rw [sd_up_n _ _ ei, sd_up_n _ _ ei]
                                    exact ⟨fun z => (hI i).1 (by omega), fun z => (hI i).2 (by omega)⟩
                                exact ih (k := k + 1) (s1 := sd_up s1 (17 * q + k) (sd_jn h (s1 (17 * qa + k)) (s1 (17 * qb + k)))) (t1 := sd_up t1 (17 * q + k) (mth (17 * qa + k) && mth (17 * qb + k))) (hk := by omega) (hI := hI9) (H := H) (locs := locs) (hP := hP) (hD := hD) (hS := hS) (ls := ls) (hl := (lv_sub hl [0, 3, 4, 5, 6, 7, 8, 9] rfl)) (hk9 := by omega)
                              · refine lv_lload hx hb dX5_join_245 (lv_at hl 1 rfl) ?_
                                refine lv_lload hx hb dX5_join_247 (lv_at hl 0 rfl) ?_
                                refine sd_rl (va_runS (As := [.long (sd_L (s1 (17 * qa + k))), .long (sd_L (s1 (17 * qb + k)))]) (rest := [.int (nI (17 * q + k)), .ref (am 3)]) ⟨hx, hb, hml, hown, hts⟩ (k_X5_minus l (s1 (17 * qa + k)) (s1 (17 * qb + k))) (sd_cwS hts wd_X5_minus wn_X5 wm_X5_103 wi_X5_minus nq_X5_minus rfl rfl ⟨Nat.le_of_ble_eq_true rfl, Nat.le_of_ble_eq_true rfl⟩) sd_preN rfl rfl hl.1 rfl (lv_room (Nat.le_of_ble_eq_true rfl)) dX5_join_249 ⟨Nat.zero_le _, Nat.zero_le _⟩) (fun r49 hr49 => ?_)
                                subst hr49
                                refine lv_goto (tgt := 262) hx hb dX5_join_252 (by decide) ?_
                                refine sd_tol (y := sd_L (sd_jn h (s1 (17 * qa + k)) (s1 (17 * qb + k)))) (by rw [sd_jn, if_neg (fun z => c8 (by rw [z]; exact nI_0)), if_pos c9]) ?_
                                refine sd_last hx hb hK hP hD hS 3 0 rfl rfl (k := 17 * q + k) (by omega) (by decide) (ws2 := mw am tc (nI 0) mdg msz (sd_up s1 (17 * q + k) (sd_jn h (s1 (17 * qa + k)) (s1 (17 * qb + k)))) (sd_up t1 (17 * q + k) (mth (17 * qa + k) && mth (17 * qb + k))) minv isf fsp mfo mwr mpl mny mch mcu mro) (by rw [sd_stL]; exact rfl) dX5_join_262 (fun H locs hP hD hS => ?_)
                                refine lv_iinc (v := nI (k + 1)) (lv' := [(7, .int (nI (k + 1))), (10, .long (sd_L (s1 (17 * qb + k)))), (8, .long (sd_L (s1 (17 * qa + k)))), (0, .ref (am 0)), (1, .int (nI q)), (2, .int (nI qa)), (3, .int (nI qb)), (4, .int (nI h)), (5, .int (nI dd)), (6, .int (nI nn))]) hx hb dX5_join_263 hl (k := 2) rfl (nI_1 _) (by decide) rfl (fun ls hl => ?_)
                                refine lv_goto (tgt := 137) hx hb dX5_join_266 (by decide) ?_
                                have hI9 : ∀ i, (17 * q + 1 ≤ i ∧ i < 17 * q + (k + 1) → (sd_up t1 (17 * q + k) (mth (17 * qa + k) && mth (17 * qb + k))) i = (mth (17 * qa + (i - 17 * q)) && mth (17 * qb + (i - 17 * q))) ∧ (sd_up s1 (17 * q + k) (sd_jn h (s1 (17 * qa + k)) (s1 (17 * qb + k)))) i = sd_jn h (msh (17 * qa + (i - 17 * q))) (msh (17 * qb + (i - 17 * q)))) ∧ (¬ (17 * q + 1 ≤ i ∧ i < 17 * q + (k + 1)) → (sd_up t1 (17 * q + k) (mth (17 * qa + k) && mth (17 * qb + k))) i = mth i ∧ (sd_up s1 (17 * q + k) (sd_jn h (s1 (17 * qa + k)) (s1 (17 * qb + k)))) i = msh i) := by
                                  intro i
                                  by_cases ei : i = 17 * q + k
                                  · rw [ei, sd_up_s, sd_up_s, Nat.add_sub_cancel_left, ha9.2, hb9.2]
                                    exact ⟨fun _ => ⟨rfl, rfl⟩, fun z => absurd (by omega) z⟩
                                  · rw [sd_up_n _ _ ei, sd_up_n _ _ ei]
                                    exact ⟨fun z => (hI i).1 (by omega), fun z => (hI i).2 (by omega)⟩
                                exact ih (k := k + 1) (s1 := sd_up s1 (17 * q + k) (sd_jn h (s1 (17 * qa + k)) (s1 (17 * qb + k)))) (t1 := sd_up t1 (17 * q + k) (mth (17 * qa + k) && mth (17 * qb + k))) (hk := by omega) (hI := hI9) (H := H) (locs := locs) (hP := hP) (hD := hD) (hS := hS) (ls := ls) (hl := (lv_sub hl [0, 3, 4, 5, 6, 7, 8, 9] rfl)) (hk9 := by omega)
                            · refine lv_lload hx hb dX5_join_229 (lv_at hl 1 rfl) ?_
                              refine lv_lload hx hb dX5_join_231 (lv_at hl 0 rfl) ?_
                              refine sd_rl (va_runS (As := [.long (sd_L (s1 (17 * qa + k))), .long (sd_L (s1 (17 * qb + k)))]) (rest := [.int (nI (17 * q + k)), .ref (am 3)]) ⟨hx, hb, hml, hown, hts⟩ (k_X5_plus l (s1 (17 * qa + k)) (s1 (17 * qb + k))) (sd_cwS hts wd_X5_plus wn_X5 wm_X5_65 wi_X5_plus nq_X5_plus rfl rfl ⟨Nat.le_of_ble_eq_true rfl, Nat.le_of_ble_eq_true rfl⟩) sd_preN rfl rfl hl.1 rfl (lv_room (Nat.le_of_ble_eq_true rfl)) dX5_join_233 ⟨Nat.zero_le _, Nat.zero_le _⟩) (fun r50 hr50 => ?_)
                              subst hr50
                              refine lv_goto (tgt := 262) hx hb dX5_join_236 (by decide) ?_
                              refine sd_tol (y := sd_L (sd_jn h (s1 (17 * qa + k)) (s1 (17 * qb + k)))) (by rw [sd_jn, if_pos (sd_nI_inj (by omega) (by decide) (c8.trans nI_0.symm))]) ?_
                              refine sd_last hx hb hK hP hD hS 3 0 rfl rfl (k := 17 * q + k) (by omega) (by decide) (ws2 := mw am tc (nI 0) mdg msz (sd_up s1 (17 * q + k) (sd_jn h (s1 (17 * qa + k)) (s1 (17 * qb + k)))) (sd_up t1 (17 * q + k) (mth (17 * qa + k) && mth (17 * qb + k))) minv isf fsp mfo mwr mpl mny mch mcu mro) (by rw [sd_stL]; exact rfl) dX5_join_262 (fun H locs hP hD hS => ?_)
                              refine lv_iinc (v := nI (k + 1)) (lv' := [(7, .int (nI (k + 1))), (10, .long (sd_L (s1 (17 * qb + k)))), (8, .long (sd_L (s1 (17 * qa + k)))), (0, .ref (am 0)), (1, .int (nI q)), (2, .int (nI qa)), (3, .int (nI qb)), (4, .int (nI h)), (5, .int (nI dd)), (6, .int (nI nn))]) hx hb dX5_join_263 hl (k := 2) rfl (nI_1 _) (by decide) rfl (fun ls hl => ?_)
                              refine lv_goto (tgt := 137) hx hb dX5_join_266 (by decide) ?_
                              have hI9 : ∀ i, (17 * q + 1 ≤ i ∧ i < 17 * q + (k + 1) → (sd_up t1 (17 * q + k) (mth (17 * qa + k) && mth (17 * qb + k))) i = (mth (17 * qa + (i - 17 * q)) && mth (17 * qb + (i - 17 * q))) ∧ (sd_up s1 (17 * q + k) (sd_jn h (s1 (17 * qa + k)) (s1 (17 * qb + k)))) i = sd_jn h (msh (17 * qa + (i - 17 * q))) (msh (17 * qb + (i - 17 * q)))) ∧ (¬ (17 * q + 1 ≤ i ∧ i < 17 * q + (k + 1)) → (sd_up t1 (17 * q + k) (mth (17 * qa + k) && mth (17 * qb + k))) i = mth i ∧ (sd_up s1 (17 * q + k) (sd_jn h (s1 (17 * qa + k)) (s1 (17 * qb + k)))) i = msh i) := by
                                intro i
                                by_cases ei : i = 17 * q + k
                                · rw [ei, sd_up_s, sd_up_s, Nat.add_sub_cancel_left, ha9.2, hb9.2]
                                  exact ⟨fun _ => ⟨rfl, rfl⟩, fun z => absurd (by omega) z⟩
                                · rw [sd_up_n _ _ ei, sd_up_n _ _ ei]
                                  exact ⟨fun z => (hI i).1 (by omega), fun z => (hI i).2 (by omega)⟩
                              exact ih (k := k + 1) (s1 := sd_up s1 (17 * q + k) (sd_jn h (s1 (17 * qa + k)) (s1 (17 * qb + k)))) (t1 := sd_up t1 (17 * q + k) (mth (17 * qa + k) && mth (17 * qb + k))) (hk := by omega) (hI := hI9) (H := H) (locs := locs) (hP := hP) (hD := hD) (hS := hS) (ls := ls) (hl := (lv_sub hl [0, 3, 4, 5, 6, 7, 8, 9] rfl)) (hk9 := by omega)
                          · refine lv_iconst (v := nI 1) hx hb dX5_join_208 (by decide) ?_
                            refine lv_goto (tgt := 213) hx hb dX5_join_209 (by decide) ?_
                            refine sd_tob (b := mth (17 * qa + k) && mth (17 * qb + k)) (by rw [← ha9.1, ← hb9.1, c6, c7]; rfl) ?_
                            refine sd_zast hx hb hK hP hD hS 4 1 rfl rfl (k := 17 * q + k) (by omega) (by decide) (ws2 := mw am tc (nI 0) mdg msz s1 (sd_up t1 (17 * q + k) (mth (17 * qa + k) && mth (17 * qb + k))) minv isf fsp mfo mwr mpl mny mch mcu mro) (by rw [sd_stZ]; exact rfl) dX5_join_213 (fun H locs hP hD hS => ?_)
                            refine lv_aload_n hx hb dX5_join_214 rfl (lv_at hl 3 rfl) ?_
                            refine va_get (D := D) (ci := 5) (v := .ref (am 3)) (C := RX5) (T := TX5) (N := 15) hx hb hts (fun w h => mm (inX5 w h)) hown hK hP 0 rfl rfl 3 (by decide) (hts _ (mm wf_X5_16)) (fun _ h9 => h9) rfl dX5_join_215 ?_
                            refine lv_iload_n hx hb dX5_join_218 rfl (lv_at hl 4 rfl) ?_
                            refine lv_iload hx hb dX5_join_219 (lv_at hl 2 rfl) ?_
                            refine sd_ri (va_runS (As := [.int (nI q), .int (nI k)]) (rest := [.ref (am 3)]) ⟨hx, hb, hml, hown, hts⟩ (k_X5_home l q k) (sd_cwS hts wd_X5_home wn_X5 wm_X5_91 wi_X5_home nq_X5_home rfl rfl ⟨Nat.le_of_ble_eq_true rfl, Nat.le_of_ble_eq_true rfl⟩) sd_preN rfl rfl hl.1 rfl (lv_room (Nat.le_of_ble_eq_true rfl)) dX5_join_221 ⟨Nat.zero_le _, Nat.zero_le _⟩) (fun r51 hr51 => ?_)
                            subst hr51
                            refine lv_iload hx hb dX5_join_224 (lv_at hl 7 rfl) ?_
                            refine lv_if_ne (tgt := 239) hx hb dX5_join_226 (by decide) (fun c8 => ?_) (fun c8 => ?_)
                            · refine lv_iload hx hb dX5_join_239 (lv_at hl 7 rfl) ?_
                              refine lv_iconst (v := nI 1) hx hb dX5_join_241 (by decide) ?_
                              refine sd_icmp_ne (tgt := 255) hx hb (by omega) (by omega) dX5_join_242 (by decide) (fun c9 => ?_) (fun c9 => ?_)
                              · refine lv_lload hx hb dX5_join_255 (lv_at hl 1 rfl) ?_
                                refine lv_lload hx hb dX5_join_257 (lv_at hl 0 rfl) ?_
                                refine sd_rl (va_runS (As := [.long (sd_L (s1 (17 * qa + k))), .long (sd_L (s1 (17 * qb + k)))]) (rest := [.int (nI (17 * q + k)), .ref (am 3)]) ⟨hx, hb, hml, hown, hts⟩ (k_X5_times l (s1 (17 * qa + k)) (s1 (17 * qb + k))) (sd_cwS hts wd_X5_times wn_X5 wm_X5_70 wi_X5_times nq_X5_times rfl rfl ⟨Nat.le_of_ble_eq_true rfl, Nat.le_of_ble_eq_true rfl⟩) sd_preN rfl rfl hl.1 rfl (lv_room (Nat.le_of_ble_eq_true rfl)) dX5_join_259 ⟨Nat.zero_le _, Nat.zero_le _⟩) (fun r52 hr52 => ?_)
                                subst hr52
                                refine sd_tol (y := sd_L (sd_jn h (s1 (17 * qa + k)) (s1 (17 * qb + k)))) (by rw [sd_jn, if_neg (fun z => c8 (by rw [z]; exact nI_0)), if_neg c9]) ?_
                                refine sd_last hx hb hK hP hD hS 3 0 rfl rfl (k := 17 * q + k) (by omega) (by decide) (ws2 := mw am tc (nI 0) mdg msz (sd_up s1 (17 * q + k) (sd_jn h (s1 (17 * qa + k)) (s1 (17 * qb + k)))) (sd_up t1 (17 * q + k) (mth (17 * qa + k) && mth (17 * qb + k))) minv isf fsp mfo mwr mpl mny mch mcu mro) (by rw [sd_stL]; exact rfl) dX5_join_262 (fun H locs hP hD hS => ?_)
                                refine lv_iinc (v := nI (k + 1)) (lv' := [(7, .int (nI (k + 1))), (10, .long (sd_L (s1 (17 * qb + k)))), (8, .long (sd_L (s1 (17 * qa + k)))), (0, .ref (am 0)), (1, .int (nI q)), (2, .int (nI qa)), (3, .int (nI qb)), (4, .int (nI h)), (5, .int (nI dd)), (6, .int (nI nn))]) hx hb dX5_join_263 hl (k := 2) rfl (nI_1 _) (by decide) rfl (fun ls hl => ?_)
                                refine lv_goto (tgt := 137) hx hb dX5_join_266 (by decide) ?_
                                have hI9 : ∀ i, (17 * q + 1 ≤ i ∧ i < 17 * q + (k + 1) → (sd_up t1 (17 * q + k) (mth (17 * qa + k) && mth (17 * qb + k))) i = (mth (17 * qa + (i - 17 * q)) && mth (17 * qb + (i - 17 * q))) ∧ (sd_up s1 (17 * q + k) (sd_jn h (s1 (17 * qa + k)) (s1 (17 * qb + k)))) i = sd_jn h (msh (17 * qa + (i - 17 * q))) (msh (17 * qb + (i - 17 * q)))) ∧ (¬ (17 * q + 1 ≤ i ∧ i < 17 * q + (k + 1)) → (sd_up t1 (17 * q + k) (mth (17 * qa + k) && mth (17 * qb + k))) i = mth i ∧ (sd_up s1 (17 * q + k) (sd_jn h (s1 (17 * qa + k)) (s1 (17 * qb + k)))) i = msh i) := by
                                  intro i
                                  by_cases ei : i = 17 * q + k
                                  · rw [ei, sd_up_s, sd_up_s, Nat.add_sub_cancel_left, ha9.2, hb9.2]
                                    exact ⟨fun _ => ⟨rfl, rfl⟩, fun z => absurd (by omega) z⟩
                                  · rw [sd_up_n _ _ ei, sd_up_n _ _ ei]
                                    exact ⟨fun z => (hI i).1 (by omega), fun z => (hI i).2 (by omega)⟩
                                exact ih (k := k + 1) (s1 := sd_up s1 (17 * q + k) (sd_jn h (s1 (17 * qa + k)) (s1 (17 * qb + k)))) (t1 := sd_up t1 (17 * q + k) (mth (17 * qa + k) && mth (17 * qb + k))) (hk := by omega) (hI := hI9) (H := H) (locs := locs) (hP := hP) (hD := hD) (hS := hS) (ls := ls) (hl := (lv_sub hl [0, 3, 4, 5, 6, 7, 8, 9] rfl)) (hk9 := by omega)
                              · refine lv_lload hx hb dX5_join_245 (lv_at hl 1 rfl) ?_
                                refine lv_lload hx hb dX5_join_247 (lv_at hl 0 rfl) ?_
                                refine sd_rl (va_runS (As := [.long (sd_L (s1 (17 * qa + k))), .long (sd_L (s1 (17 * qb + k)))]) (rest := [.int (nI (17 * q + k)), .ref (am 3)]) ⟨hx, hb, hml, hown, hts⟩ (k_X5_minus l (s1 (17 * qa + k)) (s1 (17 * qb + k))) (sd_cwS hts wd_X5_minus wn_X5 wm_X5_103 wi_X5_minus nq_X5_minus rfl rfl ⟨Nat.le_of_ble_eq_true rfl, Nat.le_of_ble_eq_true rfl⟩) sd_preN rfl rfl hl.1 rfl (lv_room (Nat.le_of_ble_eq_true rfl)) dX5_join_249 ⟨Nat.zero_le _, Nat.zero_le _⟩) (fun r53 hr53 => ?_)
                                subst hr53
                                refine lv_goto (tgt := 262) hx hb dX5_join_252 (by decide) ?_
                                refine sd_tol (y := sd_L (sd_jn h (s1 (17 * qa + k)) (s1 (17 * qb + k)))) (by rw [sd_jn, if_neg (fun z => c8 (by rw [z]; exact nI_0)), if_pos c9]) ?_
                                refine sd_last hx hb hK hP hD hS 3 0 rfl rfl (k := 17 * q + k) (by omega) (by decide) (ws2 := mw am tc (nI 0) mdg msz (sd_up s1 (17 * q + k) (sd_jn h (s1 (17 * qa + k)) (s1 (17 * qb + k)))) (sd_up t1 (17 * q + k) (mth (17 * qa + k) && mth (17 * qb + k))) minv isf fsp mfo mwr mpl mny mch mcu mro) (by rw [sd_stL]; exact rfl) dX5_join_262 (fun H locs hP hD hS => ?_)
                                refine lv_iinc (v := nI (k + 1)) (lv' := [(7, .int (nI (k + 1))), (10, .long (sd_L (s1 (17 * qb + k)))), (8, .long (sd_L (s1 (17 * qa + k)))), (0, .ref (am 0)), (1, .int (nI q)), (2, .int (nI qa)), (3, .int (nI qb)), (4, .int (nI h)), (5, .int (nI dd)), (6, .int (nI nn))]) hx hb dX5_join_263 hl (k := 2) rfl (nI_1 _) (by decide) rfl (fun ls hl => ?_)
                                refine lv_goto (tgt := 137) hx hb dX5_join_266 (by decide) ?_
                                have hI9 : ∀ i, (17 * q + 1 ≤ i ∧ i < 17 * q + (k + 1) → (sd_up t1 (17 * q + k) (mth (17 * qa + k) && mth (17 * qb + k))) i = (mth (17 * qa + (i - 17 * q)) && mth (17 * qb + (i - 17 * q))) ∧ (sd_up s1 (17 * q + k) (sd_jn h (s1 (17 * qa + k)) (s1 (17 * qb + k)))) i = sd_jn h (msh (17 * qa + (i - 17 * q))) (msh (17 * qb + (i - 17 * q)))) ∧ (¬ (17 * q + 1 ≤ i ∧ i < 17 * q + (k + 1)) → (sd_up t1 (17 * q + k) (mth (17 * qa + k) && mth (17 * qb + k))) i = mth i ∧ (sd_up s1 (17 * q + k) (sd_jn h (s1 (17 * qa + k)) (s1 (17 * qb + k)))) i = msh i) := by
                                  intro i
                                  by_cases ei : i = 17 * q + k
                                  · rw [ei, sd_up_s, sd_up_s, Nat.add_sub_cancel_left, ha9.2, hb9.2]
                                    exact ⟨fun _ => ⟨rfl, rfl⟩, fun z => absurd (by omega) z⟩
                                  · rw [sd_up_n _ _ ei, sd_up_n _ _ ei]
                                    exact ⟨fun z => (hI i).1 (by omega), fun z => (hI i).2 (by omega)⟩
                                exact ih (k := k + 1) (s1 := sd_up s1 (17 * q + k) (sd_jn h (s1 (17 * qa + k)) (s1 (17 * qb + k)))) (t1 := sd_up t1 (17 * q + k) (mth (17 * qa + k) && mth (17 * qb + k))) (hk := by omega) (hI := hI9) (H := H) (locs := locs) (hP := hP) (hD := hD) (hS := hS) (ls := ls) (hl := (lv_sub hl [0, 3, 4, 5, 6, 7, 8, 9] rfl)) (hk9 := by omega)
                            · refine lv_lload hx hb dX5_join_229 (lv_at hl 1 rfl) ?_
                              refine lv_lload hx hb dX5_join_231 (lv_at hl 0 rfl) ?_
                              refine sd_rl (va_runS (As := [.long (sd_L (s1 (17 * qa + k))), .long (sd_L (s1 (17 * qb + k)))]) (rest := [.int (nI (17 * q + k)), .ref (am 3)]) ⟨hx, hb, hml, hown, hts⟩ (k_X5_plus l (s1 (17 * qa + k)) (s1 (17 * qb + k))) (sd_cwS hts wd_X5_plus wn_X5 wm_X5_65 wi_X5_plus nq_X5_plus rfl rfl ⟨Nat.le_of_ble_eq_true rfl, Nat.le_of_ble_eq_true rfl⟩) sd_preN rfl rfl hl.1 rfl (lv_room (Nat.le_of_ble_eq_true rfl)) dX5_join_233 ⟨Nat.zero_le _, Nat.zero_le _⟩) (fun r54 hr54 => ?_)
                              subst hr54
                              refine lv_goto (tgt := 262) hx hb dX5_join_236 (by decide) ?_
                              refine sd_tol (y := sd_L (sd_jn h (s1 (17 * qa + k)) (s1 (17 * qb + k)))) (by rw [sd_jn, if_pos (sd_nI_inj (by omega) (by decide) (c8.trans nI_0.symm))]) ?_
                              refine sd_last hx hb hK hP hD hS 3 0 rfl rfl (k := 17 * q + k) (by omega) (by decide) (ws2 := mw am tc (nI 0) mdg msz (sd_up s1 (17 * q + k) (sd_jn h (s1 (17 * qa + k)) (s1 (17 * qb + k)))) (sd_up t1 (17 * q + k) (mth (17 * qa + k) && mth (17 * qb + k))) minv isf fsp mfo mwr mpl mny mch mcu mro) (by rw [sd_stL]; exact rfl) dX5_join_262 (fun H locs hP hD hS => ?_)
                              refine lv_iinc (v := nI (k + 1)) (lv' := [(7, .int (nI (k + 1))), (10, .long (sd_L (s1 (17 * qb + k)))), (8, .long (sd_L (s1 (17 * qa + k)))), (0, .ref (am 0)), (1, .int (nI q)), (2, .int (nI qa)), (3, .int (nI qb)), (4, .int (nI h)), (5, .int (nI dd)), (6, .int (nI nn))]) hx hb dX5_join_263 hl (k := 2) rfl (nI_1 _) (by decide) rfl (fun ls hl => ?_)
                              refine lv_goto (tgt := 137) hx hb dX5_join_266 (by decide) ?_
                              have hI9 : ∀ i, (17 * q + 1 ≤ i ∧ i < 17 * q + (k + 1) → (sd_up t1 (17 * q + k) (mth (17 * qa + k) && mth (17 * qb + k))) i = (mth (17 * qa + (i - 17 * q)) && mth (17 * qb + (i - 17 * q))) ∧ (sd_up s1 (17 * q + k) (sd_jn h (s1 (17 * qa + k)) (s1 (17 * qb + k)))) i = sd_jn h (msh (17 * qa + (i - 17 * q))) (msh (17 * qb + (i - 17 * q)))) ∧ (¬ (17 * q + 1 ≤ i ∧ i < 17 * q + (k + 1)) → (sd_up t1 (17 * q + k) (mth (17 * qa + k) && mth (17 * qb + k))) i = mth i ∧ (sd_up s1 (17 * q + k) (sd_jn h (s1 (17 * qa + k)) (s1 (17 * qb + k)))) i = msh i) := by
                                intro i
                                by_cases ei : i = 17 * q + k
                                · rw [ei, sd_up_s, sd_up_s, Nat.add_sub_cancel_left, ha9.2, hb9.2]
                                  exact ⟨fun _ => ⟨rfl, rfl⟩, fun z => absurd (by omega) z⟩
                                · rw [sd_up_n _ _ ei, sd_up_n _ _ ei]
                                  exact ⟨fun z => (hI i).1 (by omega), fun z => (hI i).2 (by omega)⟩
                              exact ih (k := k + 1) (s1 := sd_up s1 (17 * q + k) (sd_jn h (s1 (17 * qa + k)) (s1 (17 * qb + k)))) (t1 := sd_up t1 (17 * q + k) (mth (17 * qa + k) && mth (17 * qb + k))) (hk := by omega) (hI := hI9) (H := H) (locs := locs) (hP := hP) (hD := hD) (hS := hS) (ls := ls) (hl := (lv_sub hl [0, 3, 4, 5, 6, 7, 8, 9] rfl)) (hk9 := by omega)
                  · refine lv_aload_n hx hb dX5_join_117 rfl (lv_at hl 1 rfl) ?_
                    refine va_get (D := D) (ci := 5) (v := .ref (am 2)) (C := RX5) (T := TX5) (N := 15) hx hb hts (fun w h => mm (inX5 w h)) hown hK hP 0 rfl rfl 2 (by decide) (hts _ (mm wf_X5_13)) (fun _ h9 => h9) rfl dX5_join_118 ?_
                    refine lv_iload_n hx hb dX5_join_121 rfl (lv_at hl 3 rfl) ?_
                    refine sd_iald hx hb hK hP 2 2 rfl rfl (k := qa) (by omega) (by decide) dX5_join_122 ?_
                    refine lv_goto (tgt := 132) hx hb dX5_join_123 (by decide) ?_
                    obtain ⟨nn, hnn⟩ : ∃ nn, nn = min (msz qa) (msz qb) := ⟨_, rfl⟩
                    refine sd_toi (y := nI nn) (by rw [hnn, Nat.min_eq_left (by omega)]) ?_
                    refine lv_istore (lv' := [(6, .int (nI nn)), (5, .int (nI dd)), (0, .ref (am 0)), (1, .int (nI q)), (2, .int (nI qa)), (3, .int (nI qb)), (4, .int (nI h))]) hx hb dX5_join_132 hl (by decide) rfl (fun ls hl => ?_)
                    refine lv_iconst (v := nI 1) hx hb dX5_join_134 (by decide) ?_
                    refine lv_istore (lv' := [(7, .int (nI 1)), (6, .int (nI nn)), (5, .int (nI dd)), (0, .ref (am 0)), (1, .int (nI q)), (2, .int (nI qa)), (3, .int (nI qb)), (4, .int (nI h))]) hx hb dX5_join_135 hl (by decide) rfl (fun ls hl => ?_)
                    obtain ⟨k, s1, t1, hk, hI, hP9, hD9, hl9⟩ : ∃ (k : Nat) (s1 : Nat → FP) (t1 : Nat → Bool), (1 ≤ k ∧ k ≤ nn + 1) ∧ (∀ i, (17 * q + 1 ≤ i ∧ i < 17 * q + k → t1 i = (mth (17 * qa + (i - 17 * q)) && mth (17 * qb + (i - 17 * q))) ∧ s1 i = sd_jn h (msh (17 * qa + (i - 17 * q))) (msh (17 * qb + (i - 17 * q)))) ∧ (¬ (17 * q + 1 ≤ i ∧ i < 17 * q + k) → t1 i = mth i ∧ s1 i = msh i)) ∧ va_P D vwCl (mw am tc (nI 0) mdg msz s1 t1 minv isf fsp mfo mwr mpl mny mch mcu mro) H ∧ va_D A (mw am tc (nI 0) mdg msz s1 t1 minv isf fsp mfo mwr mpl mny mch mcu mro) ∧ lv_has ls 12 [(7, .int (nI k)), (0, .ref (am 0)), (1, .int (nI q)), (2, .int (nI qa)), (3, .int (nI qb)), (4, .int (nI h)), (5, .int (nI dd)), (6, .int (nI nn))] := ⟨1, msh, mth, ⟨Nat.le_refl 1, by omega⟩, fun i => ⟨fun z => absurd z (by omega), fun _ => ⟨rfl, rfl⟩⟩, hP, hD, (lv_sub hl [0, 3, 4, 5, 6, 7, 2, 1] rfl)⟩
                    replace hl := hl9
                    clear hl9
                    replace hP := hP9
                    replace hD := hD9
                    clear hP9 hD9
                    obtain ⟨k9, hk9⟩ : ∃ k9 : Nat, nn + 1 < k + k9 := ⟨nn + 1, by omega⟩
                    induction k9 generalizing k s1 t1 ls H locs with
                    | zero => exact absurd hk9 (by omega)
                    | succ k9 ih =>
                      refine lv_iload hx hb dX5_join_137 (lv_at hl 0 rfl) ?_
                      refine lv_iload hx hb dX5_join_139 (lv_at hl 7 rfl) ?_
                      refine sd_icmp_gt (tgt := 269) hx hb (by omega) (by omega) dX5_join_141 (by decide) (fun c5 => ?_) (fun c5 => ?_)
                      · have ek : 17 * q + k = 17 * q + nn + 1 := by omega
                        simp only [ek, Nat.lt_succ_iff] at hI
                        rw [hnn] at hI
                        refine lv_aload_n hx hb dX5_join_269 rfl (lv_at hl 1 rfl) ?_
                        refine va_get (D := D) (ci := 5) (v := .ref (am 2)) (C := RX5) (T := TX5) (N := 15) hx hb hts (fun w h => mm (inX5 w h)) hown hK hP 0 rfl rfl 2 (by decide) (hts _ (mm wf_X5_13)) (fun _ h9 => h9) rfl dX5_join_270 ?_
                        refine lv_iload_n hx hb dX5_join_273 rfl (lv_at hl 2 rfl) ?_
                        refine lv_iload hx hb dX5_join_274 (lv_at hl 7 rfl) ?_
                        refine sd_iast hx hb hK hP hD hS 2 2 rfl rfl (k := q) (by omega) (by decide) (ws2 := mw am tc (nI 0) mdg (sd_up msz q nn) s1 t1 minv isf fsp mfo mwr mpl mny mch mcu mro) (by rw [sd_stN]; exact rfl) dX5_join_276 (fun H locs hP hD hS => ?_)
                        refine lv_aload_n hx hb dX5_join_277 rfl (lv_at hl 1 rfl) ?_
                        refine va_get (D := D) (ci := 5) (v := .ref (am 1)) (C := RX5) (T := TX5) (N := 15) hx hb hts (fun w h => mm (inX5 w h)) hown hK hP 0 rfl rfl 1 (by decide) (hts _ (mm wf_X5_7)) (fun _ h9 => h9) rfl dX5_join_278 ?_
                        refine lv_iload_n hx hb dX5_join_281 rfl (lv_at hl 2 rfl) ?_
                        refine lv_iload hx hb dX5_join_282 (lv_at hl 6 rfl) ?_
                        refine sd_iast hx hb hK hP hD hS 1 2 rfl rfl (k := q) (by omega) (by decide) (ws2 := mw am tc (nI 0) (sd_up mdg q dd) (sd_up msz q nn) s1 t1 minv isf fsp mfo mwr mpl mny mch mcu mro) (by rw [sd_stN]; exact rfl) dX5_join_284 (fun H locs hP hD hS => ?_)
                        refine lv_iconst (v := nI 1) hx hb dX5_join_285 (by decide) ?_
                        exact W.zret hx hb hr rfl (fun T9 hT9 hW => ⟨⟨_, (nI 0, sd_up mdg q dd, sd_up msz q nn, s1, t1, minv, isf, fsp, mfo, mwr, mpl, mny, mch, mcu, mro), rfl, ⟨rfl, Or.inl ⟨q, qa, qb, h, ⟨hq, rfl, hqa, rfl, hqb, rfl, ch, rfl, hdd ▸ cd⟩, rfl, by rw [← hdd], by rw [hnn], ⟨rfl, rfl, rfl, rfl, rfl⟩, hI⟩⟩, by rw [hT9]; exact hP, va_K.moved hW.alike hK, hD⟩, hS.F hT9⟩) hS.2.2 dX5_join_286
                      · have hR9 : ∀ i, i < 8 → t1 (17 * i + k) = mth (17 * i + k) ∧ s1 (17 * i + k) = msh (17 * i + k) := fun i hi => (hI (17 * i + k)).2 (by omega)
                        have ha9 := hR9 qa hqa
                        have hb9 := hR9 qb hqb
                        refine lv_aload_n hx hb dX5_join_144 rfl (lv_at hl 1 rfl) ?_
                        refine va_get (D := D) (ci := 5) (v := .ref (am 3)) (C := RX5) (T := TX5) (N := 15) hx hb hts (fun w h => mm (inX5 w h)) hown hK hP 0 rfl rfl 3 (by decide) (hts _ (mm wf_X5_16)) (fun _ h9 => h9) rfl dX5_join_145 ?_
                        refine lv_iload_n hx hb dX5_join_148 rfl (lv_at hl 3 rfl) ?_
                        refine lv_iload hx hb dX5_join_149 (lv_at hl 0 rfl) ?_
                        refine sd_ri (va_runS (As := [.int (nI qa), .int (nI k)]) (rest := [.ref (am 3)]) ⟨hx, hb, hml, hown, hts⟩ (k_X5_home l qa k) (sd_cwS hts wd_X5_home wn_X5 wm_X5_91 wi_X5_home nq_X5_home rfl rfl ⟨Nat.le_of_ble_eq_true rfl, Nat.le_of_ble_eq_true rfl⟩) sd_preN rfl rfl hl.1 rfl (lv_room (Nat.le_of_ble_eq_true rfl)) dX5_join_151 ⟨Nat.zero_le _, Nat.zero_le _⟩) (fun r55 hr55 => ?_)
                        subst hr55
                        refine sd_lald hx hb hK hP 3 0 rfl rfl (k := 17 * qa + k) (by omega) (by decide) dX5_join_154 ?_
                        refine lv_lstore (lv' := [(8, .long (sd_L (s1 (17 * qa + k)))), (7, .int (nI k)), (0, .ref (am 0)), (1, .int (nI q)), (2, .int (nI qa)), (3, .int (nI qb)), (4, .int (nI h)), (5, .int (nI dd)), (6, .int (nI nn))]) hx hb dX5_join_155 hl (by decide) rfl (fun ls hl => ?_)
                        refine lv_aload_n hx hb dX5_join_157 rfl (lv_at hl 2 rfl) ?_
                        refine va_get (D := D) (ci := 5) (v := .ref (am 3)) (C := RX5) (T := TX5) (N := 15) hx hb hts (fun w h => mm (inX5 w h)) hown hK hP 0 rfl rfl 3 (by decide) (hts _ (mm wf_X5_16)) (fun _ h9 => h9) rfl dX5_join_158 ?_
                        refine lv_iload_n hx hb dX5_join_161 rfl (lv_at hl 5 rfl) ?_
                        refine lv_iload hx hb dX5_join_162 (lv_at hl 1 rfl) ?_
                        refine sd_ri (va_runS (As := [.int (nI qb), .int (nI k)]) (rest := [.ref (am 3)]) ⟨hx, hb, hml, hown, hts⟩ (k_X5_home l qb k) (sd_cwS hts wd_X5_home wn_X5 wm_X5_91 wi_X5_home nq_X5_home rfl rfl ⟨Nat.le_of_ble_eq_true rfl, Nat.le_of_ble_eq_true rfl⟩) sd_preN rfl rfl hl.1 rfl (lv_room (Nat.le_of_ble_eq_true rfl)) dX5_join_164 ⟨Nat.zero_le _, Nat.zero_le _⟩) (fun r56 hr56 => ?_)
                        subst hr56
                        refine sd_lald hx hb hK hP 3 0 rfl rfl (k := 17 * qb + k) (by omega) (by decide) dX5_join_167 ?_
                        refine lv_lstore (lv' := [(10, .long (sd_L (s1 (17 * qb + k)))), (8, .long (sd_L (s1 (17 * qa + k)))), (7, .int (nI k)), (0, .ref (am 0)), (1, .int (nI q)), (2, .int (nI qa)), (3, .int (nI qb)), (4, .int (nI h)), (5, .int (nI dd)), (6, .int (nI nn))]) hx hb dX5_join_168 hl (by decide) rfl (fun ls hl => ?_)
                        refine lv_aload_n hx hb dX5_join_170 rfl (lv_at hl 3 rfl) ?_
                        refine va_get (D := D) (ci := 5) (v := .ref (am 4)) (C := RX5) (T := TX5) (N := 15) hx hb hts (fun w h => mm (inX5 w h)) hown hK hP 0 rfl rfl 4 (by decide) (hts _ (mm wf_X5_20)) (fun _ h9 => h9) rfl dX5_join_171 ?_
                        refine lv_iload_n hx hb dX5_join_174 rfl (lv_at hl 4 rfl) ?_
                        refine lv_iload hx hb dX5_join_175 (lv_at hl 2 rfl) ?_
                        refine sd_ri (va_runS (As := [.int (nI q), .int (nI k)]) (rest := [.ref (am 4)]) ⟨hx, hb, hml, hown, hts⟩ (k_X5_home l q k) (sd_cwS hts wd_X5_home wn_X5 wm_X5_91 wi_X5_home nq_X5_home rfl rfl ⟨Nat.le_of_ble_eq_true rfl, Nat.le_of_ble_eq_true rfl⟩) sd_preN rfl rfl hl.1 rfl (lv_room (Nat.le_of_ble_eq_true rfl)) dX5_join_177 ⟨Nat.zero_le _, Nat.zero_le _⟩) (fun r57 hr57 => ?_)
                        subst hr57
                        refine lv_aload_n hx hb dX5_join_180 rfl (lv_at hl 3 rfl) ?_
                        refine va_get (D := D) (ci := 5) (v := .ref (am 4)) (C := RX5) (T := TX5) (N := 15) hx hb hts (fun w h => mm (inX5 w h)) hown hK hP 0 rfl rfl 4 (by decide) (hts _ (mm wf_X5_20)) (fun _ h9 => h9) rfl dX5_join_181 ?_
                        refine lv_iload_n hx hb dX5_join_184 rfl (lv_at hl 5 rfl) ?_
                        refine lv_iload hx hb dX5_join_185 (lv_at hl 2 rfl) ?_
                        refine sd_ri (va_runS (As := [.int (nI qa), .int (nI k)]) (rest := [.ref (am 4), .int (nI (17 * q + k)), .ref (am 4)]) ⟨hx, hb, hml, hown, hts⟩ (k_X5_home l qa k) (sd_cwS hts wd_X5_home wn_X5 wm_X5_91 wi_X5_home nq_X5_home rfl rfl ⟨Nat.le_of_ble_eq_true rfl, Nat.le_of_ble_eq_true rfl⟩) sd_preN rfl rfl hl.1 rfl (lv_room (Nat.le_of_ble_eq_true rfl)) dX5_join_187 ⟨Nat.zero_le _, Nat.zero_le _⟩) (fun r58 hr58 => ?_)
                        subst hr58
                        refine sd_zald hx hb hK hP 4 1 rfl rfl (k := 17 * qa + k) (by omega) (by decide) dX5_join_190 ?_
                        refine sd_if_eqB (tgt := 212) hx hb dX5_join_191 (by decide) (fun c6 => ?_) (fun c6 => ?_)
                        · refine lv_iconst (v := nI 0) hx hb dX5_join_212 (by decide) ?_
                          refine sd_tob (b := mth (17 * qa + k) && mth (17 * qb + k)) (by rw [← ha9.1, c6]; rfl) ?_
                          refine sd_zast hx hb hK hP hD hS 4 1 rfl rfl (k := 17 * q + k) (by omega) (by decide) (ws2 := mw am tc (nI 0) mdg msz s1 (sd_up t1 (17 * q + k) (mth (17 * qa + k) && mth (17 * qb + k))) minv isf fsp mfo mwr mpl mny mch mcu mro) (by rw [sd_stZ]; exact rfl) dX5_join_213 (fun H locs hP hD hS => ?_)
                          refine lv_aload_n hx hb dX5_join_214 rfl (lv_at hl 3 rfl) ?_
                          refine va_get (D := D) (ci := 5) (v := .ref (am 3)) (C := RX5) (T := TX5) (N := 15) hx hb hts (fun w h => mm (inX5 w h)) hown hK hP 0 rfl rfl 3 (by decide) (hts _ (mm wf_X5_16)) (fun _ h9 => h9) rfl dX5_join_215 ?_
                          refine lv_iload_n hx hb dX5_join_218 rfl (lv_at hl 4 rfl) ?_
                          refine lv_iload hx hb dX5_join_219 (lv_at hl 2 rfl) ?_
                          refine sd_ri (va_runS (As := [.int (nI q), .int (nI k)]) (rest := [.ref (am 3)]) ⟨hx, hb, hml, hown, hts⟩ (k_X5_home l q k) (sd_cwS hts wd_X5_home wn_X5 wm_X5_91 wi_X5_home nq_X5_home rfl rfl ⟨Nat.le_of_ble_eq_true rfl, Nat.le_of_ble_eq_true rfl⟩) sd_preN rfl rfl hl.1 rfl (lv_room (Nat.le_of_ble_eq_true rfl)) dX5_join_221 ⟨Nat.zero_le _, Nat.zero_le _⟩) (fun r59 hr59 => ?_)
                          subst hr59
                          refine lv_iload hx hb dX5_join_224 (lv_at hl 7 rfl) ?_
                          refine lv_if_ne (tgt := 239) hx hb dX5_join_226 (by decide) (fun c8 => ?_) (fun c8 => ?_)
                          · refine lv_iload hx hb dX5_join_239 (lv_at hl 7 rfl) ?_
                            refine lv_iconst (v := nI 1) hx hb dX5_join_241 (by decide) ?_
                            refine sd_icmp_ne (tgt := 255) hx hb (by omega) (by omega) dX5_join_242 (by decide) (fun c9 => ?_) (fun c9 => ?_)
                            · refine lv_lload hx hb dX5_join_255 (lv_at hl 1 rfl) ?_
                              refine lv_lload hx hb dX5_join_257 (lv_at hl 0 rfl) ?_
                              refine sd_rl (va_runS (As := [.long (sd_L (s1 (17 * qa + k))), .long (sd_L (s1 (17 * qb + k)))]) (rest := [.int (nI (17 * q + k)), .ref (am 3)]) ⟨hx, hb, hml, hown, hts⟩ (k_X5_times l (s1 (17 * qa + k)) (s1 (17 * qb + k))) (sd_cwS hts wd_X5_times wn_X5 wm_X5_70 wi_X5_times nq_X5_times rfl rfl ⟨Nat.le_of_ble_eq_true rfl, Nat.le_of_ble_eq_true rfl⟩) sd_preN rfl rfl hl.1 rfl (lv_room (Nat.le_of_ble_eq_true rfl)) dX5_join_259 ⟨Nat.zero_le _, Nat.zero_le _⟩) (fun r60 hr60 => ?_)
                              subst hr60
                              refine sd_tol (y := sd_L (sd_jn h (s1 (17 * qa + k)) (s1 (17 * qb + k)))) (by rw [sd_jn, if_neg (fun z => c8 (by rw [z]; exact nI_0)), if_neg c9]) ?_
                              refine sd_last hx hb hK hP hD hS 3 0 rfl rfl (k := 17 * q + k) (by omega) (by decide) (ws2 := mw am tc (nI 0) mdg msz (sd_up s1 (17 * q + k) (sd_jn h (s1 (17 * qa + k)) (s1 (17 * qb + k)))) (sd_up t1 (17 * q + k) (mth (17 * qa + k) && mth (17 * qb + k))) minv isf fsp mfo mwr mpl mny mch mcu mro) (by rw [sd_stL]; exact rfl) dX5_join_262 (fun H locs hP hD hS => ?_)
                              refine lv_iinc (v := nI (k + 1)) (lv' := [(7, .int (nI (k + 1))), (10, .long (sd_L (s1 (17 * qb + k)))), (8, .long (sd_L (s1 (17 * qa + k)))), (0, .ref (am 0)), (1, .int (nI q)), (2, .int (nI qa)), (3, .int (nI qb)), (4, .int (nI h)), (5, .int (nI dd)), (6, .int (nI nn))]) hx hb dX5_join_263 hl (k := 2) rfl (nI_1 _) (by decide) rfl (fun ls hl => ?_)
                              refine lv_goto (tgt := 137) hx hb dX5_join_266 (by decide) ?_
                              have hI9 : ∀ i, (17 * q + 1 ≤ i ∧ i < 17 * q + (k + 1) → (sd_up t1 (17 * q + k) (mth (17 * qa + k) && mth (17 * qb + k))) i = (mth (17 * qa + (i - 17 * q)) && mth (17 * qb + (i - 17 * q))) ∧ (sd_up s1 (17 * q + k) (sd_jn h (s1 (17 * qa + k)) (s1 (17 * qb + k)))) i = sd_jn h (msh (17 * qa + (i - 17 * q))) (msh (17 * qb + (i - 17 * q)))) ∧ (¬ (17 * q + 1 ≤ i ∧ i < 17 * q + (k + 1)) → (sd_up t1 (17 * q + k) (mth (17 * qa + k) && mth (17 * qb + k))) i = mth i ∧ (sd_up s1 (17 * q + k) (sd_jn h (s1 (17 * qa + k)) (s1 (17 * qb + k)))) i = msh i) := by
                                intro i
                                by_cases ei : i = 17 * q + k
                                · rw [ei, sd_up_s, sd_up_s, Nat.add_sub_cancel_left, ha9.2, hb9.2]
                                  exact ⟨fun _ => ⟨rfl, rfl⟩, fun z => absurd (by omega) z⟩
                                · rw [sd_up_n _ _ ei, sd_up_n _ _ ei]
                                  exact ⟨fun z => (hI i).1 (by omega), fun z => (hI i).2 (by omega)⟩
                              exact ih (k := k + 1) (s1 := sd_up s1 (17 * q + k) (sd_jn h (s1 (17 * qa + k)) (s1 (17 * qb + k)))) (t1 := sd_up t1 (17 * q + k) (mth (17 * qa + k) && mth (17 * qb + k))) (hk := by omega) (hI := hI9) (H := H) (locs := locs) (hP := hP) (hD := hD) (hS := hS) (ls := ls) (hl := (lv_sub hl [0, 3, 4, 5, 6, 7, 8, 9] rfl)) (hk9 := by omega)
                            · refine lv_lload hx hb dX5_join_245 (lv_at hl 1 rfl) ?_
                              refine lv_lload hx hb dX5_join_247 (lv_at hl 0 rfl) ?_
                              refine sd_rl (va_runS (As := [.long (sd_L (s1 (17 * qa + k))), .long (sd_L (s1 (17 * qb + k)))]) (rest := [.int (nI (17 * q + k)), .ref (am 3)]) ⟨hx, hb, hml, hown, hts⟩ (k_X5_minus l (s1 (17 * qa + k)) (s1 (17 * qb + k))) (sd_cwS hts wd_X5_minus wn_X5 wm_X5_103 wi_X5_minus nq_X5_minus rfl rfl ⟨Nat.le_of_ble_eq_true rfl, Nat.le_of_ble_eq_true rfl⟩) sd_preN rfl rfl hl.1 rfl (lv_room (Nat.le_of_ble_eq_true rfl)) dX5_join_249 ⟨Nat.zero_le _, Nat.zero_le _⟩) (fun r61 hr61 => ?_)
                              subst hr61
                              refine lv_goto (tgt := 262) hx hb dX5_join_252 (by decide) ?_
                              refine sd_tol (y := sd_L (sd_jn h (s1 (17 * qa + k)) (s1 (17 * qb + k)))) (by rw [sd_jn, if_neg (fun z => c8 (by rw [z]; exact nI_0)), if_pos c9]) ?_
                              refine sd_last hx hb hK hP hD hS 3 0 rfl rfl (k := 17 * q + k) (by omega) (by decide) (ws2 := mw am tc (nI 0) mdg msz (sd_up s1 (17 * q + k) (sd_jn h (s1 (17 * qa + k)) (s1 (17 * qb + k)))) (sd_up t1 (17 * q + k) (mth (17 * qa + k) && mth (17 * qb + k))) minv isf fsp mfo mwr mpl mny mch mcu mro) (by rw [sd_stL]; exact rfl) dX5_join_262 (fun H locs hP hD hS => ?_)
                              refine lv_iinc (v := nI (k + 1)) (lv' := [(7, .int (nI (k + 1))), (10, .long (sd_L (s1 (17 * qb + k)))), (8, .long (sd_L (s1 (17 * qa + k)))), (0, .ref (am 0)), (1, .int (nI q)), (2, .int (nI qa)), (3, .int (nI qb)), (4, .int (nI h)), (5, .int (nI dd)), (6, .int (nI nn))]) hx hb dX5_join_263 hl (k := 2) rfl (nI_1 _) (by decide) rfl (fun ls hl => ?_)
                              refine lv_goto (tgt := 137) hx hb dX5_join_266 (by decide) ?_
                              have hI9 : ∀ i, (17 * q + 1 ≤ i ∧ i < 17 * q + (k + 1) → (sd_up t1 (17 * q + k) (mth (17 * qa + k) && mth (17 * qb + k))) i = (mth (17 * qa + (i - 17 * q)) && mth (17 * qb + (i - 17 * q))) ∧ (sd_up s1 (17 * q + k) (sd_jn h (s1 (17 * qa + k)) (s1 (17 * qb + k)))) i = sd_jn h (msh (17 * qa + (i - 17 * q))) (msh (17 * qb + (i - 17 * q)))) ∧ (¬ (17 * q + 1 ≤ i ∧ i < 17 * q + (k + 1)) → (sd_up t1 (17 * q + k) (mth (17 * qa + k) && mth (17 * qb + k))) i = mth i ∧ (sd_up s1 (17 * q + k) (sd_jn h (s1 (17 * qa + k)) (s1 (17 * qb + k)))) i = msh i) := by
                                intro i
                                by_cases ei : i = 17 * q + k
                                · rw [ei, sd_up_s, sd_up_s, Nat.add_sub_cancel_left, ha9.2, hb9.2]
                                  exact ⟨fun _ => ⟨rfl, rfl⟩, fun z => absurd (by omega) z⟩
                                · rw [sd_up_n _ _ ei, sd_up_n _ _ ei]
                                  exact ⟨fun z => (hI i).1 (by omega), fun z => (hI i).2 (by omega)⟩
                              exact ih (k := k + 1) (s1 := sd_up s1 (17 * q + k) (sd_jn h (s1 (17 * qa + k)) (s1 (17 * qb + k)))) (t1 := sd_up t1 (17 * q + k) (mth (17 * qa + k) && mth (17 * qb + k))) (hk := by omega) (hI := hI9) (H := H) (locs := locs) (hP := hP) (hD := hD) (hS := hS) (ls := ls) (hl := (lv_sub hl [0, 3, 4, 5, 6, 7, 8, 9] rfl)) (hk9 := by omega)
                          · refine lv_lload hx hb dX5_join_229 (lv_at hl 1 rfl) ?_
                            refine lv_lload hx hb dX5_join_231 (lv_at hl 0 rfl) ?_
                            refine sd_rl (va_runS (As := [.long (sd_L (s1 (17 * qa + k))), .long (sd_L (s1 (17 * qb + k)))]) (rest := [.int (nI (17 * q + k)), .ref (am 3)]) ⟨hx, hb, hml, hown, hts⟩ (k_X5_plus l (s1 (17 * qa + k)) (s1 (17 * qb + k))) (sd_cwS hts wd_X5_plus wn_X5 wm_X5_65 wi_X5_plus nq_X5_plus rfl rfl ⟨Nat.le_of_ble_eq_true rfl, Nat.le_of_ble_eq_true rfl⟩) sd_preN rfl rfl hl.1 rfl (lv_room (Nat.le_of_ble_eq_true rfl)) dX5_join_233 ⟨Nat.zero_le _, Nat.zero_le _⟩) (fun r62 hr62 => ?_)
                            subst hr62
                            refine lv_goto (tgt := 262) hx hb dX5_join_236 (by decide) ?_
                            refine sd_tol (y := sd_L (sd_jn h (s1 (17 * qa + k)) (s1 (17 * qb + k)))) (by rw [sd_jn, if_pos (sd_nI_inj (by omega) (by decide) (c8.trans nI_0.symm))]) ?_
                            refine sd_last hx hb hK hP hD hS 3 0 rfl rfl (k := 17 * q + k) (by omega) (by decide) (ws2 := mw am tc (nI 0) mdg msz (sd_up s1 (17 * q + k) (sd_jn h (s1 (17 * qa + k)) (s1 (17 * qb + k)))) (sd_up t1 (17 * q + k) (mth (17 * qa + k) && mth (17 * qb + k))) minv isf fsp mfo mwr mpl mny mch mcu mro) (by rw [sd_stL]; exact rfl) dX5_join_262 (fun H locs hP hD hS => ?_)
                            refine lv_iinc (v := nI (k + 1)) (lv' := [(7, .int (nI (k + 1))), (10, .long (sd_L (s1 (17 * qb + k)))), (8, .long (sd_L (s1 (17 * qa + k)))), (0, .ref (am 0)), (1, .int (nI q)), (2, .int (nI qa)), (3, .int (nI qb)), (4, .int (nI h)), (5, .int (nI dd)), (6, .int (nI nn))]) hx hb dX5_join_263 hl (k := 2) rfl (nI_1 _) (by decide) rfl (fun ls hl => ?_)
                            refine lv_goto (tgt := 137) hx hb dX5_join_266 (by decide) ?_
                            have hI9 : ∀ i, (17 * q + 1 ≤ i ∧ i < 17 * q + (k + 1) → (sd_up t1 (17 * q + k) (mth (17 * qa + k) && mth (17 * qb + k))) i = (mth (17 * qa + (i - 17 * q)) && mth (17 * qb + (i - 17 * q))) ∧ (sd_up s1 (17 * q + k) (sd_jn h (s1 (17 * qa + k)) (s1 (17 * qb + k)))) i = sd_jn h (msh (17 * qa + (i - 17 * q))) (msh (17 * qb + (i - 17 * q)))) ∧ (¬ (17 * q + 1 ≤ i ∧ i < 17 * q + (k + 1)) → (sd_up t1 (17 * q + k) (mth (17 * qa + k) && mth (17 * qb + k))) i = mth i ∧ (sd_up s1 (17 * q + k) (sd_jn h (s1 (17 * qa + k)) (s1 (17 * qb + k)))) i = msh i) := by
                              intro i
                              by_cases ei : i = 17 * q + k
                              · rw [ei, sd_up_s, sd_up_s, Nat.add_sub_cancel_left, ha9.2, hb9.2]
                                exact ⟨fun _ => ⟨rfl, rfl⟩, fun z => absurd (by omega) z⟩
                              · rw [sd_up_n _ _ ei, sd_up_n _ _ ei]
                                exact ⟨fun z => (hI i).1 (by omega), fun z => (hI i).2 (by omega)⟩
                            exact ih (k := k + 1) (s1 := sd_up s1 (17 * q + k) (sd_jn h (s1 (17 * qa + k)) (s1 (17 * qb + k)))) (t1 := sd_up t1 (17 * q + k) (mth (17 * qa + k) && mth (17 * qb + k))) (hk := by omega) (hI := hI9) (H := H) (locs := locs) (hP := hP) (hD := hD) (hS := hS) (ls := ls) (hl := (lv_sub hl [0, 3, 4, 5, 6, 7, 8, 9] rfl)) (hk9 := by omega)
                        · refine lv_aload_n hx hb dX5_join_194 rfl (lv_at hl 3 rfl) ?_
                          refine va_get (D := D) (ci := 5) (v := .ref (am 4)) (C := RX5) (T := TX5) (N := 15) hx hb hts (fun w h => mm (inX5 w h)) hown hK hP 0 rfl rfl 4 (by decide) (hts _ (mm wf_X5_20)) (fun _ h9 => h9) rfl dX5_join_195 ?_
                          refine lv_iload_n hx hb dX5_join_198 rfl (lv_at hl 6 rfl) ?_
                          refine lv_iload hx hb dX5_join_199 (lv_at hl 2 rfl) ?_
                          refine sd_ri (va_runS (As := [.int (nI qb), .int (nI k)]) (rest := [.ref (am 4), .int (nI (17 * q + k)), .ref (am 4)]) ⟨hx, hb, hml, hown, hts⟩ (k_X5_home l qb k) (sd_cwS hts wd_X5_home wn_X5 wm_X5_91 wi_X5_home nq_X5_home rfl rfl ⟨Nat.le_of_ble_eq_true rfl, Nat.le_of_ble_eq_true rfl⟩) sd_preN rfl rfl hl.1 rfl (lv_room (Nat.le_of_ble_eq_true rfl)) dX5_join_201 ⟨Nat.zero_le _, Nat.zero_le _⟩) (fun r63 hr63 => ?_)
                          subst hr63
                          refine sd_zald hx hb hK hP 4 1 rfl rfl (k := 17 * qb + k) (by omega) (by decide) dX5_join_204 ?_
                          refine sd_if_eqB (tgt := 212) hx hb dX5_join_205 (by decide) (fun c7 => ?_) (fun c7 => ?_)
                          · refine lv_iconst (v := nI 0) hx hb dX5_join_212 (by decide) ?_
                            refine sd_tob (b := mth (17 * qa + k) && mth (17 * qb + k)) (by rw [← ha9.1, ← hb9.1, c6, c7]; rfl) ?_
                            refine sd_zast hx hb hK hP hD hS 4 1 rfl rfl (k := 17 * q + k) (by omega) (by decide) (ws2 := mw am tc (nI 0) mdg msz s1 (sd_up t1 (17 * q + k) (mth (17 * qa + k) && mth (17 * qb + k))) minv isf fsp mfo mwr mpl mny mch mcu mro) (by rw [sd_stZ]; exact rfl) dX5_join_213 (fun H locs hP hD hS => ?_)
                            refine lv_aload_n hx hb dX5_join_214 rfl (lv_at hl 3 rfl) ?_
                            refine va_get (D := D) (ci := 5) (v := .ref (am 3)) (C := RX5) (T := TX5) (N := 15) hx hb hts (fun w h => mm (inX5 w h)) hown hK hP 0 rfl rfl 3 (by decide) (hts _ (mm wf_X5_16)) (fun _ h9 => h9) rfl dX5_join_215 ?_
                            refine lv_iload_n hx hb dX5_join_218 rfl (lv_at hl 4 rfl) ?_
                            refine lv_iload hx hb dX5_join_219 (lv_at hl 2 rfl) ?_
                            refine sd_ri (va_runS (As := [.int (nI q), .int (nI k)]) (rest := [.ref (am 3)]) ⟨hx, hb, hml, hown, hts⟩ (k_X5_home l q k) (sd_cwS hts wd_X5_home wn_X5 wm_X5_91 wi_X5_home nq_X5_home rfl rfl ⟨Nat.le_of_ble_eq_true rfl, Nat.le_of_ble_eq_true rfl⟩) sd_preN rfl rfl hl.1 rfl (lv_room (Nat.le_of_ble_eq_true rfl)) dX5_join_221 ⟨Nat.zero_le _, Nat.zero_le _⟩) (fun r64 hr64 => ?_)
                            subst hr64
                            refine lv_iload hx hb dX5_join_224 (lv_at hl 7 rfl) ?_
                            refine lv_if_ne (tgt := 239) hx hb dX5_join_226 (by decide) (fun c8 => ?_) (fun c8 => ?_)
                            · refine lv_iload hx hb dX5_join_239 (lv_at hl 7 rfl) ?_
                              refine lv_iconst (v := nI 1) hx hb dX5_join_241 (by decide) ?_
                              refine sd_icmp_ne (tgt := 255) hx hb (by omega) (by omega) dX5_join_242 (by decide) (fun c9 => ?_) (fun c9 => ?_)
                              · refine lv_lload hx hb dX5_join_255 (lv_at hl 1 rfl) ?_
                                refine lv_lload hx hb dX5_join_257 (lv_at hl 0 rfl) ?_
                                refine sd_rl (va_runS (As := [.long (sd_L (s1 (17 * qa + k))), .long (sd_L (s1 (17 * qb + k)))]) (rest := [.int (nI (17 * q + k)), .ref (am 3)]) ⟨hx, hb, hml, hown, hts⟩ (k_X5_times l (s1 (17 * qa + k)) (s1 (17 * qb + k))) (sd_cwS hts wd_X5_times wn_X5 wm_X5_70 wi_X5_times nq_X5_times rfl rfl ⟨Nat.le_of_ble_eq_true rfl, Nat.le_of_ble_eq_true rfl⟩) sd_preN rfl rfl hl.1 rfl (lv_room (Nat.le_of_ble_eq_true rfl)) dX5_join_259 ⟨Nat.zero_le _, Nat.zero_le _⟩) (fun r65 hr65 => ?_)
                                subst hr65
                                refine sd_tol (y := sd_L (sd_jn h (s1 (17 * qa + k)) (s1 (17 * qb + k)))) (by rw [sd_jn, if_neg (fun z => c8 (by rw [z]; exact nI_0)), if_neg c9]) ?_
                                refine sd_last hx hb hK hP hD hS 3 0 rfl rfl (k := 17 * q + k) (by omega) (by decide) (ws2 := mw am tc (nI 0) mdg msz (sd_up s1 (17 * q + k) (sd_jn h (s1 (17 * qa + k)) (s1 (17 * qb + k)))) (sd_up t1 (17 * q + k) (mth (17 * qa + k) && mth (17 * qb + k))) minv isf fsp mfo mwr mpl mny mch mcu mro) (by rw [sd_stL]; exact rfl) dX5_join_262 (fun H locs hP hD hS => ?_)
                                refine lv_iinc (v := nI (k + 1)) (lv' := [(7, .int (nI (k + 1))), (10, .long (sd_L (s1 (17 * qb + k)))), (8, .long (sd_L (s1 (17 * qa + k)))), (0, .ref (am 0)), (1, .int (nI q)), (2, .int (nI qa)), (3, .int (nI qb)), (4, .int (nI h)), (5, .int (nI dd)), (6, .int (nI nn))]) hx hb dX5_join_263 hl (k := 2) rfl (nI_1 _) (by decide) rfl (fun ls hl => ?_)
                                refine lv_goto (tgt := 137) hx hb dX5_join_266 (by decide) ?_
                                have hI9 : ∀ i, (17 * q + 1 ≤ i ∧ i < 17 * q + (k + 1) → (sd_up t1 (17 * q + k) (mth (17 * qa + k) && mth (17 * qb + k))) i = (mth (17 * qa + (i - 17 * q)) && mth (17 * qb + (i - 17 * q))) ∧ (sd_up s1 (17 * q + k) (sd_jn h (s1 (17 * qa + k)) (s1 (17 * qb + k)))) i = sd_jn h (msh (17 * qa + (i - 17 * q))) (msh (17 * qb + (i - 17 * q)))) ∧ (¬ (17 * q + 1 ≤ i ∧ i < 17 * q + (k + 1)) → (sd_up t1 (17 * q + k) (mth (17 * qa + k) && mth (17 * qb + k))) i = mth i ∧ (sd_up s1 (17 * q + k) (sd_jn h (s1 (17 * qa + k)) (s1 (17 * qb + k)))) i = msh i) := by
                                  intro i
                                  by_cases ei : i = 17 * q + k
                                  · rw [ei, sd_up_s, sd_up_s, Nat.add_sub_cancel_left, ha9.2, hb9.2]
                                    exact ⟨fun _ => ⟨rfl, rfl⟩, fun z => absurd (by omega) z⟩
                                  · rw [sd_up_n _ _ ei, sd_up_n _ _ ei]
                                    exact ⟨fun z => (hI i).1 (by omega), fun z => (hI i).2 (by omega)⟩
                                exact ih (k := k + 1) (s1 := sd_up s1 (17 * q + k) (sd_jn h (s1 (17 * qa + k)) (s1 (17 * qb + k)))) (t1 := sd_up t1 (17 * q + k) (mth (17 * qa + k) && mth (17 * qb + k))) (hk := by omega) (hI := hI9) (H := H) (locs := locs) (hP := hP) (hD := hD) (hS := hS) (ls := ls) (hl := (lv_sub hl [0, 3, 4, 5, 6, 7, 8, 9] rfl)) (hk9 := by omega)
                              · refine lv_lload hx hb dX5_join_245 (lv_at hl 1 rfl) ?_
                                refine lv_lload hx hb dX5_join_247 (lv_at hl 0 rfl) ?_
                                refine sd_rl (va_runS (As := [.long (sd_L (s1 (17 * qa + k))), .long (sd_L (s1 (17 * qb + k)))]) (rest := [.int (nI (17 * q + k)), .ref (am 3)]) ⟨hx, hb, hml, hown, hts⟩ (k_X5_minus l (s1 (17 * qa + k)) (s1 (17 * qb + k))) (sd_cwS hts wd_X5_minus wn_X5 wm_X5_103 wi_X5_minus nq_X5_minus rfl rfl ⟨Nat.le_of_ble_eq_true rfl, Nat.le_of_ble_eq_true rfl⟩) sd_preN rfl rfl hl.1 rfl (lv_room (Nat.le_of_ble_eq_true rfl)) dX5_join_249 ⟨Nat.zero_le _, Nat.zero_le _⟩) (fun r66 hr66 => ?_)
                                subst hr66
                                refine lv_goto (tgt := 262) hx hb dX5_join_252 (by decide) ?_
                                refine sd_tol (y := sd_L (sd_jn h (s1 (17 * qa + k)) (s1 (17 * qb + k)))) (by rw [sd_jn, if_neg (fun z => c8 (by rw [z]; exact nI_0)), if_pos c9]) ?_
                                refine sd_last hx hb hK hP hD hS 3 0 rfl rfl (k := 17 * q + k) (by omega) (by decide) (ws2 := mw am tc (nI 0) mdg msz (sd_up s1 (17 * q + k) (sd_jn h (s1 (17 * qa + k)) (s1 (17 * qb + k)))) (sd_up t1 (17 * q + k) (mth (17 * qa + k) && mth (17 * qb + k))) minv isf fsp mfo mwr mpl mny mch mcu mro) (by rw [sd_stL]; exact rfl) dX5_join_262 (fun H locs hP hD hS => ?_)
                                refine lv_iinc (v := nI (k + 1)) (lv' := [(7, .int (nI (k + 1))), (10, .long (sd_L (s1 (17 * qb + k)))), (8, .long (sd_L (s1 (17 * qa + k)))), (0, .ref (am 0)), (1, .int (nI q)), (2, .int (nI qa)), (3, .int (nI qb)), (4, .int (nI h)), (5, .int (nI dd)), (6, .int (nI nn))]) hx hb dX5_join_263 hl (k := 2) rfl (nI_1 _) (by decide) rfl (fun ls hl => ?_)
                                refine lv_goto (tgt := 137) hx hb dX5_join_266 (by decide) ?_
                                have hI9 : ∀ i, (17 * q + 1 ≤ i ∧ i < 17 * q + (k + 1) → (sd_up t1 (17 * q + k) (mth (17 * qa + k) && mth (17 * qb + k))) i = (mth (17 * qa + (i - 17 * q)) && mth (17 * qb + (i - 17 * q))) ∧ (sd_up s1 (17 * q + k) (sd_jn h (s1 (17 * qa + k)) (s1 (17 * qb + k)))) i = sd_jn h (msh (17 * qa + (i - 17 * q))) (msh (17 * qb + (i - 17 * q)))) ∧ (¬ (17 * q + 1 ≤ i ∧ i < 17 * q + (k + 1)) → (sd_up t1 (17 * q + k) (mth (17 * qa + k) && mth (17 * qb + k))) i = mth i ∧ (sd_up s1 (17 * q + k) (sd_jn h (s1 (17 * qa + k)) (s1 (17 * qb + k)))) i = msh i) := by
                                  intro i
                                  by_cases ei : i = 17 * q + k
                                  · rw [ei, sd_up_s, sd_up_s, Nat.add_sub_cancel_left, ha9.2, hb9.2]
                                    exact ⟨fun _ => ⟨rfl, rfl⟩, fun z => absurd (by omega) z⟩
                                  · rw [sd_up_n _ _ ei, sd_up_n _ _ ei]
                                    exact ⟨fun z => (hI i).1 (by omega), fun z => (hI i).2 (by omega)⟩
                                exact ih (k := k + 1) (s1 := sd_up s1 (17 * q + k) (sd_jn h (s1 (17 * qa + k)) (s1 (17 * qb + k)))) (t1 := sd_up t1 (17 * q + k) (mth (17 * qa + k) && mth (17 * qb + k))) (hk := by omega) (hI := hI9) (H := H) (locs := locs) (hP := hP) (hD := hD) (hS := hS) (ls := ls) (hl := (lv_sub hl [0, 3, 4, 5, 6, 7, 8, 9] rfl)) (hk9 := by omega)
                            · refine lv_lload hx hb dX5_join_229 (lv_at hl 1 rfl) ?_
                              refine lv_lload hx hb dX5_join_231 (lv_at hl 0 rfl) ?_
                              refine sd_rl (va_runS (As := [.long (sd_L (s1 (17 * qa + k))), .long (sd_L (s1 (17 * qb + k)))]) (rest := [.int (nI (17 * q + k)), .ref (am 3)]) ⟨hx, hb, hml, hown, hts⟩ (k_X5_plus l (s1 (17 * qa + k)) (s1 (17 * qb + k))) (sd_cwS hts wd_X5_plus wn_X5 wm_X5_65 wi_X5_plus nq_X5_plus rfl rfl ⟨Nat.le_of_ble_eq_true rfl, Nat.le_of_ble_eq_true rfl⟩) sd_preN rfl rfl hl.1 rfl (lv_room (Nat.le_of_ble_eq_true rfl)) dX5_join_233 ⟨Nat.zero_le _, Nat.zero_le _⟩) (fun r67 hr67 => ?_)
                              subst hr67
                              refine lv_goto (tgt := 262) hx hb dX5_join_236 (by decide) ?_
                              refine sd_tol (y := sd_L (sd_jn h (s1 (17 * qa + k)) (s1 (17 * qb + k)))) (by rw [sd_jn, if_pos (sd_nI_inj (by omega) (by decide) (c8.trans nI_0.symm))]) ?_
                              refine sd_last hx hb hK hP hD hS 3 0 rfl rfl (k := 17 * q + k) (by omega) (by decide) (ws2 := mw am tc (nI 0) mdg msz (sd_up s1 (17 * q + k) (sd_jn h (s1 (17 * qa + k)) (s1 (17 * qb + k)))) (sd_up t1 (17 * q + k) (mth (17 * qa + k) && mth (17 * qb + k))) minv isf fsp mfo mwr mpl mny mch mcu mro) (by rw [sd_stL]; exact rfl) dX5_join_262 (fun H locs hP hD hS => ?_)
                              refine lv_iinc (v := nI (k + 1)) (lv' := [(7, .int (nI (k + 1))), (10, .long (sd_L (s1 (17 * qb + k)))), (8, .long (sd_L (s1 (17 * qa + k)))), (0, .ref (am 0)), (1, .int (nI q)), (2, .int (nI qa)), (3, .int (nI qb)), (4, .int (nI h)), (5, .int (nI dd)), (6, .int (nI nn))]) hx hb dX5_join_263 hl (k := 2) rfl (nI_1 _) (by decide) rfl (fun ls hl => ?_)
                              refine lv_goto (tgt := 137) hx hb dX5_join_266 (by decide) ?_
                              have hI9 : ∀ i, (17 * q + 1 ≤ i ∧ i < 17 * q + (k + 1) → (sd_up t1 (17 * q + k) (mth (17 * qa + k) && mth (17 * qb + k))) i = (mth (17 * qa + (i - 17 * q)) && mth (17 * qb + (i - 17 * q))) ∧ (sd_up s1 (17 * q + k) (sd_jn h (s1 (17 * qa + k)) (s1 (17 * qb + k)))) i = sd_jn h (msh (17 * qa + (i - 17 * q))) (msh (17 * qb + (i - 17 * q)))) ∧ (¬ (17 * q + 1 ≤ i ∧ i < 17 * q + (k + 1)) → (sd_up t1 (17 * q + k) (mth (17 * qa + k) && mth (17 * qb + k))) i = mth i ∧ (sd_up s1 (17 * q + k) (sd_jn h (s1 (17 * qa + k)) (s1 (17 * qb + k)))) i = msh i) := by
                                intro i
                                by_cases ei : i = 17 * q + k
                                · rw [ei, sd_up_s, sd_up_s, Nat.add_sub_cancel_left, ha9.2, hb9.2]
                                  exact ⟨fun _ => ⟨rfl, rfl⟩, fun z => absurd (by omega) z⟩
                                · rw [sd_up_n _ _ ei, sd_up_n _ _ ei]
                                  exact ⟨fun z => (hI i).1 (by omega), fun z => (hI i).2 (by omega)⟩
                              exact ih (k := k + 1) (s1 := sd_up s1 (17 * q + k) (sd_jn h (s1 (17 * qa + k)) (s1 (17 * qb + k)))) (t1 := sd_up t1 (17 * q + k) (mth (17 * qa + k) && mth (17 * qb + k))) (hk := by omega) (hI := hI9) (H := H) (locs := locs) (hP := hP) (hD := hD) (hS := hS) (ls := ls) (hl := (lv_sub hl [0, 3, 4, 5, 6, 7, 8, 9] rfl)) (hk9 := by omega)
                          · refine lv_iconst (v := nI 1) hx hb dX5_join_208 (by decide) ?_
                            refine lv_goto (tgt := 213) hx hb dX5_join_209 (by decide) ?_
                            refine sd_tob (b := mth (17 * qa + k) && mth (17 * qb + k)) (by rw [← ha9.1, ← hb9.1, c6, c7]; rfl) ?_
                            refine sd_zast hx hb hK hP hD hS 4 1 rfl rfl (k := 17 * q + k) (by omega) (by decide) (ws2 := mw am tc (nI 0) mdg msz s1 (sd_up t1 (17 * q + k) (mth (17 * qa + k) && mth (17 * qb + k))) minv isf fsp mfo mwr mpl mny mch mcu mro) (by rw [sd_stZ]; exact rfl) dX5_join_213 (fun H locs hP hD hS => ?_)
                            refine lv_aload_n hx hb dX5_join_214 rfl (lv_at hl 3 rfl) ?_
                            refine va_get (D := D) (ci := 5) (v := .ref (am 3)) (C := RX5) (T := TX5) (N := 15) hx hb hts (fun w h => mm (inX5 w h)) hown hK hP 0 rfl rfl 3 (by decide) (hts _ (mm wf_X5_16)) (fun _ h9 => h9) rfl dX5_join_215 ?_
                            refine lv_iload_n hx hb dX5_join_218 rfl (lv_at hl 4 rfl) ?_
                            refine lv_iload hx hb dX5_join_219 (lv_at hl 2 rfl) ?_
                            refine sd_ri (va_runS (As := [.int (nI q), .int (nI k)]) (rest := [.ref (am 3)]) ⟨hx, hb, hml, hown, hts⟩ (k_X5_home l q k) (sd_cwS hts wd_X5_home wn_X5 wm_X5_91 wi_X5_home nq_X5_home rfl rfl ⟨Nat.le_of_ble_eq_true rfl, Nat.le_of_ble_eq_true rfl⟩) sd_preN rfl rfl hl.1 rfl (lv_room (Nat.le_of_ble_eq_true rfl)) dX5_join_221 ⟨Nat.zero_le _, Nat.zero_le _⟩) (fun r68 hr68 => ?_)
                            subst hr68
                            refine lv_iload hx hb dX5_join_224 (lv_at hl 7 rfl) ?_
                            refine lv_if_ne (tgt := 239) hx hb dX5_join_226 (by decide) (fun c8 => ?_) (fun c8 => ?_)
                            · refine lv_iload hx hb dX5_join_239 (lv_at hl 7 rfl) ?_
                              refine lv_iconst (v := nI 1) hx hb dX5_join_241 (by decide) ?_
                              refine sd_icmp_ne (tgt := 255) hx hb (by omega) (by omega) dX5_join_242 (by decide) (fun c9 => ?_) (fun c9 => ?_)
                              · refine lv_lload hx hb dX5_join_255 (lv_at hl 1 rfl) ?_
                                refine lv_lload hx hb dX5_join_257 (lv_at hl 0 rfl) ?_
                                refine sd_rl (va_runS (As := [.long (sd_L (s1 (17 * qa + k))), .long (sd_L (s1 (17 * qb + k)))]) (rest := [.int (nI (17 * q + k)), .ref (am 3)]) ⟨hx, hb, hml, hown, hts⟩ (k_X5_times l (s1 (17 * qa + k)) (s1 (17 * qb + k))) (sd_cwS hts wd_X5_times wn_X5 wm_X5_70 wi_X5_times nq_X5_times rfl rfl ⟨Nat.le_of_ble_eq_true rfl, Nat.le_of_ble_eq_true rfl⟩) sd_preN rfl rfl hl.1 rfl (lv_room (Nat.le_of_ble_eq_true rfl)) dX5_join_259 ⟨Nat.zero_le _, Nat.zero_le _⟩) (fun r69 hr69 => ?_)
                                subst hr69
                                refine sd_tol (y := sd_L (sd_jn h (s1 (17 * qa + k)) (s1 (17 * qb + k)))) (by rw [sd_jn, if_neg (fun z => c8 (by rw [z]; exact nI_0)), if_neg c9]) ?_
                                refine sd_last hx hb hK hP hD hS 3 0 rfl rfl (k := 17 * q + k) (by omega) (by decide) (ws2 := mw am tc (nI 0) mdg msz (sd_up s1 (17 * q + k) (sd_jn h (s1 (17 * qa + k)) (s1 (17 * qb + k)))) (sd_up t1 (17 * q + k) (mth (17 * qa + k) && mth (17 * qb + k))) minv isf fsp mfo mwr mpl mny mch mcu mro) (by rw [sd_stL]; exact rfl) dX5_join_262 (fun H locs hP hD hS => ?_)
                                refine lv_iinc (v := nI (k + 1)) (lv' := [(7, .int (nI (k + 1))), (10, .long (sd_L (s1 (17 * qb + k)))), (8, .long (sd_L (s1 (17 * qa + k)))), (0, .ref (am 0)), (1, .int (nI q)), (2, .int (nI qa)), (3, .int (nI qb)), (4, .int (nI h)), (5, .int (nI dd)), (6, .int (nI nn))]) hx hb dX5_join_263 hl (k := 2) rfl (nI_1 _) (by decide) rfl (fun ls hl => ?_)
                                refine lv_goto (tgt := 137) hx hb dX5_join_266 (by decide) ?_
                                have hI9 : ∀ i, (17 * q + 1 ≤ i ∧ i < 17 * q + (k + 1) → (sd_up t1 (17 * q + k) (mth (17 * qa + k) && mth (17 * qb + k))) i = (mth (17 * qa + (i - 17 * q)) && mth (17 * qb + (i - 17 * q))) ∧ (sd_up s1 (17 * q + k) (sd_jn h (s1 (17 * qa + k)) (s1 (17 * qb + k)))) i = sd_jn h (msh (17 * qa + (i - 17 * q))) (msh (17 * qb + (i - 17 * q)))) ∧ (¬ (17 * q + 1 ≤ i ∧ i < 17 * q + (k + 1)) → (sd_up t1 (17 * q + k) (mth (17 * qa + k) && mth (17 * qb + k))) i = mth i ∧ (sd_up s1 (17 * q + k) (sd_jn h (s1 (17 * qa + k)) (s1 (17 * qb + k)))) i = msh i) := by
                                  intro i
                                  by_cases ei : i = 17 * q + k
                                  · rw [ei, sd_up_s, sd_up_s, Nat.add_sub_cancel_left, ha9.2, hb9.2]
                                    exact ⟨fun _ => ⟨rfl, rfl⟩, fun z => absurd (by omega) z⟩
                                  · rw [sd_up_n _ _ ei, sd_up_n _ _ ei]
                                    exact ⟨fun z => (hI i).1 (by omega), fun z => (hI i).2 (by omega)⟩
                                exact ih (k := k + 1) (s1 := sd_up s1 (17 * q + k) (sd_jn h (s1 (17 * qa + k)) (s1 (17 * qb + k)))) (t1 := sd_up t1 (17 * q + k) (mth (17 * qa + k) && mth (17 * qb + k))) (hk := by omega) (hI := hI9) (H := H) (locs := locs) (hP := hP) (hD := hD) (hS := hS) (ls := ls) (hl := (lv_sub hl [0, 3, 4, 5, 6, 7, 8, 9] rfl)) (hk9 := by omega)
                              · refine lv_lload hx hb dX5_join_245 (lv_at hl 1 rfl) ?_
                                refine lv_lload hx hb dX5_join_247 (lv_at hl 0 rfl) ?_
                                refine sd_rl (va_runS (As := [.long (sd_L (s1 (17 * qa + k))), .long (sd_L (s1 (17 * qb + k)))]) (rest := [.int (nI (17 * q + k)), .ref (am 3)]) ⟨hx, hb, hml, hown, hts⟩ (k_X5_minus l (s1 (17 * qa + k)) (s1 (17 * qb + k))) (sd_cwS hts wd_X5_minus wn_X5 wm_X5_103 wi_X5_minus nq_X5_minus rfl rfl ⟨Nat.le_of_ble_eq_true rfl, Nat.le_of_ble_eq_true rfl⟩) sd_preN rfl rfl hl.1 rfl (lv_room (Nat.le_of_ble_eq_true rfl)) dX5_join_249 ⟨Nat.zero_le _, Nat.zero_le _⟩) (fun r70 hr70 => ?_)
                                subst hr70
                                refine lv_goto (tgt := 262) hx hb dX5_join_252 (by decide) ?_
                                refine sd_tol (y := sd_L (sd_jn h (s1 (17 * qa + k)) (s1 (17 * qb + k)))) (by rw [sd_jn, if_neg (fun z => c8 (by rw [z]; exact nI_0)), if_pos c9]) ?_
                                refine sd_last hx hb hK hP hD hS 3 0 rfl rfl (k := 17 * q + k) (by omega) (by decide) (ws2 := mw am tc (nI 0) mdg msz (sd_up s1 (17 * q + k) (sd_jn h (s1 (17 * qa + k)) (s1 (17 * qb + k)))) (sd_up t1 (17 * q + k) (mth (17 * qa + k) && mth (17 * qb + k))) minv isf fsp mfo mwr mpl mny mch mcu mro) (by rw [sd_stL]; exact rfl) dX5_join_262 (fun H locs hP hD hS => ?_)
                                refine lv_iinc (v := nI (k + 1)) (lv' := [(7, .int (nI (k + 1))), (10, .long (sd_L (s1 (17 * qb + k)))), (8, .long (sd_L (s1 (17 * qa + k)))), (0, .ref (am 0)), (1, .int (nI q)), (2, .int (nI qa)), (3, .int (nI qb)), (4, .int (nI h)), (5, .int (nI dd)), (6, .int (nI nn))]) hx hb dX5_join_263 hl (k := 2) rfl (nI_1 _) (by decide) rfl (fun ls hl => ?_)
                                refine lv_goto (tgt := 137) hx hb dX5_join_266 (by decide) ?_
                                have hI9 : ∀ i, (17 * q + 1 ≤ i ∧ i < 17 * q + (k + 1) → (sd_up t1 (17 * q + k) (mth (17 * qa + k) && mth (17 * qb + k))) i = (mth (17 * qa + (i - 17 * q)) && mth (17 * qb + (i - 17 * q))) ∧ (sd_up s1 (17 * q + k) (sd_jn h (s1 (17 * qa + k)) (s1 (17 * qb + k)))) i = sd_jn h (msh (17 * qa + (i - 17 * q))) (msh (17 * qb + (i - 17 * q)))) ∧ (¬ (17 * q + 1 ≤ i ∧ i < 17 * q + (k + 1)) → (sd_up t1 (17 * q + k) (mth (17 * qa + k) && mth (17 * qb + k))) i = mth i ∧ (sd_up s1 (17 * q + k) (sd_jn h (s1 (17 * qa + k)) (s1 (17 * qb + k)))) i = msh i) := by
                                  intro i
                                  by_cases ei : i = 17 * q + k
                                  · rw [ei, sd_up_s, sd_up_s, Nat.add_sub_cancel_left, ha9.2, hb9.2]
                                    exact ⟨fun _ => ⟨rfl, rfl⟩, fun z => absurd (by omega) z⟩
                                  · rw [sd_up_n _ _ ei, sd_up_n _ _ ei]
                                    exact ⟨fun z => (hI i).1 (by omega), fun z => (hI i).2 (by omega)⟩
                                exact ih (k := k + 1) (s1 := sd_up s1 (17 * q + k) (sd_jn h (s1 (17 * qa + k)) (s1 (17 * qb + k)))) (t1 := sd_up t1 (17 * q + k) (mth (17 * qa + k) && mth (17 * qb + k))) (hk := by omega) (hI := hI9) (H := H) (locs := locs) (hP := hP) (hD := hD) (hS := hS) (ls := ls) (hl := (lv_sub hl [0, 3, 4, 5, 6, 7, 8, 9] rfl)) (hk9 := by omega)
                            · refine lv_lload hx hb dX5_join_229 (lv_at hl 1 rfl) ?_
                              refine lv_lload hx hb dX5_join_231 (lv_at hl 0 rfl) ?_
                              refine sd_rl (va_runS (As := [.long (sd_L (s1 (17 * qa + k))), .long (sd_L (s1 (17 * qb + k)))]) (rest := [.int (nI (17 * q + k)), .ref (am 3)]) ⟨hx, hb, hml, hown, hts⟩ (k_X5_plus l (s1 (17 * qa + k)) (s1 (17 * qb + k))) (sd_cwS hts wd_X5_plus wn_X5 wm_X5_65 wi_X5_plus nq_X5_plus rfl rfl ⟨Nat.le_of_ble_eq_true rfl, Nat.le_of_ble_eq_true rfl⟩) sd_preN rfl rfl hl.1 rfl (lv_room (Nat.le_of_ble_eq_true rfl)) dX5_join_233 ⟨Nat.zero_le _, Nat.zero_le _⟩) (fun r71 hr71 => ?_)
                              subst hr71
                              refine lv_goto (tgt := 262) hx hb dX5_join_236 (by decide) ?_
                              refine sd_tol (y := sd_L (sd_jn h (s1 (17 * qa + k)) (s1 (17 * qb + k)))) (by rw [sd_jn, if_pos (sd_nI_inj (by omega) (by decide) (c8.trans nI_0.symm))]) ?_
                              refine sd_last hx hb hK hP hD hS 3 0 rfl rfl (k := 17 * q + k) (by omega) (by decide) (ws2 := mw am tc (nI 0) mdg msz (sd_up s1 (17 * q + k) (sd_jn h (s1 (17 * qa + k)) (s1 (17 * qb + k)))) (sd_up t1 (17 * q + k) (mth (17 * qa + k) && mth (17 * qb + k))) minv isf fsp mfo mwr mpl mny mch mcu mro) (by rw [sd_stL]; exact rfl) dX5_join_262 (fun H locs hP hD hS => ?_)
                              refine lv_iinc (v := nI (k + 1)) (lv' := [(7, .int (nI (k + 1))), (10, .long (sd_L (s1 (17 * qb + k)))), (8, .long (sd_L (s1 (17 * qa + k)))), (0, .ref (am 0)), (1, .int (nI q)), (2, .int (nI qa)), (3, .int (nI qb)), (4, .int (nI h)), (5, .int (nI dd)), (6, .int (nI nn))]) hx hb dX5_join_263 hl (k := 2) rfl (nI_1 _) (by decide) rfl (fun ls hl => ?_)
                              refine lv_goto (tgt := 137) hx hb dX5_join_266 (by decide) ?_
                              have hI9 : ∀ i, (17 * q + 1 ≤ i ∧ i < 17 * q + (k + 1) → (sd_up t1 (17 * q + k) (mth (17 * qa + k) && mth (17 * qb + k))) i = (mth (17 * qa + (i - 17 * q)) && mth (17 * qb + (i - 17 * q))) ∧ (sd_up s1 (17 * q + k) (sd_jn h (s1 (17 * qa + k)) (s1 (17 * qb + k)))) i = sd_jn h (msh (17 * qa + (i - 17 * q))) (msh (17 * qb + (i - 17 * q)))) ∧ (¬ (17 * q + 1 ≤ i ∧ i < 17 * q + (k + 1)) → (sd_up t1 (17 * q + k) (mth (17 * qa + k) && mth (17 * qb + k))) i = mth i ∧ (sd_up s1 (17 * q + k) (sd_jn h (s1 (17 * qa + k)) (s1 (17 * qb + k)))) i = msh i) := by
                                intro i
                                by_cases ei : i = 17 * q + k
                                · rw [ei, sd_up_s, sd_up_s, Nat.add_sub_cancel_left, ha9.2, hb9.2]
                                  exact ⟨fun _ => ⟨rfl, rfl⟩, fun z => absurd (by omega) z⟩
                                · rw [sd_up_n _ _ ei, sd_up_n _ _ ei]
                                  exact ⟨fun z => (hI i).1 (by omega), fun z => (hI i).2 (by omega)⟩
                              exact ih (k := k + 1) (s1 := sd_up s1 (17 * q + k) (sd_jn h (s1 (17 * qa + k)) (s1 (17 * qb + k)))) (t1 := sd_up t1 (17 * q + k) (mth (17 * qa + k) && mth (17 * qb + k))) (hk := by omega) (hI := hI9) (H := H) (locs := locs) (hP := hP) (hD := hD) (hS := hS) (ls := ls) (hl := (lv_sub hl [0, 3, 4, 5, 6, 7, 8, 9] rfl)) (hk9 := by omega)
                · refine lv_iconst (v := nI 0) hx hb dX5_join_100 (by decide) ?_
                  exact W.zret hx hb hr rfl (fun T9 hT9 hW => ⟨⟨_, (nI 0, mdg, msz, msh, mth, minv, isf, fsp, mfo, mwr, mpl, mny, mch, mcu, mro), rfl, ⟨rfl, Or.inr ⟨fun ⟨q2, a2, b2, h2, hv⟩ => (by obtain ⟨g1, g2, g3, g4, g5, g6, g7, g8, g9⟩ := hv; have e1 := sd_nI_inj (by omega) (by omega) g4; have e2 := sd_nI_inj (by omega) (by omega) g6; have e3 := sd_nI_inj (by omega) (by omega) g8; subst e1; subst e2; subst e3; rw [← hdd] at g9; omega), rfl, ⟨rfl, rfl, rfl, rfl, rfl, rfl, rfl, rfl, rfl⟩⟩⟩, by rw [hT9]; exact hP, va_K.moved hW.alike hK, hD⟩, hS.F hT9⟩) hS.2.2 dX5_join_101
            · refine lv_aload_n hx hb dX5_join_45 rfl (lv_at hl 0 rfl) ?_
              refine va_get (D := D) (ci := 5) (v := .ref (am 1)) (C := RX5) (T := TX5) (N := 15) hx hb hts (fun w h => mm (inX5 w h)) hown hK hP 0 rfl rfl 1 (by decide) (hts _ (mm wf_X5_7)) (fun _ h9 => h9) rfl dX5_join_46 ?_
              refine lv_iload_n hx hb dX5_join_49 rfl (lv_at hl 2 rfl) ?_
              refine sd_iald hx hb hK hP 1 2 rfl rfl (k := qa) (by omega) (by decide) dX5_join_50 ?_
              refine lv_aload_n hx hb dX5_join_51 rfl (lv_at hl 0 rfl) ?_
              refine va_get (D := D) (ci := 5) (v := .ref (am 1)) (C := RX5) (T := TX5) (N := 15) hx hb hts (fun w h => mm (inX5 w h)) hown hK hP 0 rfl rfl 1 (by decide) (hts _ (mm wf_X5_7)) (fun _ h9 => h9) rfl dX5_join_52 ?_
              refine lv_iload_n hx hb dX5_join_55 rfl (lv_at hl 3 rfl) ?_
              refine sd_iald hx hb hK hP 1 2 rfl rfl (k := qb) (by omega) (by decide) dX5_join_56 ?_
              refine sd_iadd hx hb dX5_join_57 ?_
              refine lv_goto (tgt := 91) hx hb dX5_join_58 (by decide) ?_
              obtain ⟨dd, hdd⟩ : ∃ dd, dd = m_jd (tn, mdg, msz, msh, mth, minv, isf, fsp, mfo, mwr, mpl, mny, mch, mcu, mro) qa qb h := ⟨_, rfl⟩
              have ed : (mdg qa) + (mdg qb) = dd := by rw [hdd, m_jd, if_pos c4]
              have ed2 : (mdg qa) + (mdg qb) ≤ 16 := by omega
              rw [ed] at ed2 ⊢
              refine lv_istore (lv' := [(5, .int (nI dd)), (0, .ref (am 0)), (1, .int (nI q)), (2, .int (nI qa)), (3, .int (nI qb)), (4, .int (nI h))]) hx hb dX5_join_91 hl (by decide) rfl (fun ls hl => ?_)
              refine lv_iload hx hb dX5_join_93 (lv_at hl 0 rfl) ?_
              refine lv_bipush (v := nI 8) hx hb dX5_join_95 (by decide) ?_
              refine sd_icmp_le (tgt := 102) hx hb (by omega) (by omega) dX5_join_97 (by decide) (fun cd => ?_) (fun cd => ?_)
              · refine lv_aload_n hx hb dX5_join_102 rfl (lv_at hl 1 rfl) ?_
                refine va_get (D := D) (ci := 5) (v := .ref (am 2)) (C := RX5) (T := TX5) (N := 15) hx hb hts (fun w h => mm (inX5 w h)) hown hK hP 0 rfl rfl 2 (by decide) (hts _ (mm wf_X5_13)) (fun _ h9 => h9) rfl dX5_join_103 ?_
                refine lv_iload_n hx hb dX5_join_106 rfl (lv_at hl 3 rfl) ?_
                refine sd_iald hx hb hK hP 2 2 rfl rfl (k := qa) (by omega) (by decide) dX5_join_107 ?_
                refine lv_aload_n hx hb dX5_join_108 rfl (lv_at hl 1 rfl) ?_
                refine va_get (D := D) (ci := 5) (v := .ref (am 2)) (C := RX5) (T := TX5) (N := 15) hx hb hts (fun w h => mm (inX5 w h)) hown hK hP 0 rfl rfl 2 (by decide) (hts _ (mm wf_X5_13)) (fun _ h9 => h9) rfl dX5_join_109 ?_
                refine lv_iload_n hx hb dX5_join_112 rfl (lv_at hl 4 rfl) ?_
                refine sd_iald hx hb hK hP 2 2 rfl rfl (k := qb) (by omega) (by decide) dX5_join_113 ?_
                refine sd_icmp_ge (tgt := 126) hx hb (by omega) (by omega) dX5_join_114 (by decide) (fun cs => ?_) (fun cs => ?_)
                · refine lv_aload_n hx hb dX5_join_126 rfl (lv_at hl 1 rfl) ?_
                  refine va_get (D := D) (ci := 5) (v := .ref (am 2)) (C := RX5) (T := TX5) (N := 15) hx hb hts (fun w h => mm (inX5 w h)) hown hK hP 0 rfl rfl 2 (by decide) (hts _ (mm wf_X5_13)) (fun _ h9 => h9) rfl dX5_join_127 ?_
                  refine lv_iload_n hx hb dX5_join_130 rfl (lv_at hl 4 rfl) ?_
                  refine sd_iald hx hb hK hP 2 2 rfl rfl (k := qb) (by omega) (by decide) dX5_join_131 ?_
                  obtain ⟨nn, hnn⟩ : ∃ nn, nn = min (msz qa) (msz qb) := ⟨_, rfl⟩
                  refine sd_toi (y := nI nn) (by rw [hnn, Nat.min_eq_right cs]) ?_
                  refine lv_istore (lv' := [(6, .int (nI nn)), (5, .int (nI dd)), (0, .ref (am 0)), (1, .int (nI q)), (2, .int (nI qa)), (3, .int (nI qb)), (4, .int (nI h))]) hx hb dX5_join_132 hl (by decide) rfl (fun ls hl => ?_)
                  refine lv_iconst (v := nI 1) hx hb dX5_join_134 (by decide) ?_
                  refine lv_istore (lv' := [(7, .int (nI 1)), (6, .int (nI nn)), (5, .int (nI dd)), (0, .ref (am 0)), (1, .int (nI q)), (2, .int (nI qa)), (3, .int (nI qb)), (4, .int (nI h))]) hx hb dX5_join_135 hl (by decide) rfl (fun ls hl => ?_)
                  obtain ⟨k, s1, t1, hk, hI, hP9, hD9, hl9⟩ : ∃ (k : Nat) (s1 : Nat → FP) (t1 : Nat → Bool), (1 ≤ k ∧ k ≤ nn + 1) ∧ (∀ i, (17 * q + 1 ≤ i ∧ i < 17 * q + k → t1 i = (mth (17 * qa + (i - 17 * q)) && mth (17 * qb + (i - 17 * q))) ∧ s1 i = sd_jn h (msh (17 * qa + (i - 17 * q))) (msh (17 * qb + (i - 17 * q)))) ∧ (¬ (17 * q + 1 ≤ i ∧ i < 17 * q + k) → t1 i = mth i ∧ s1 i = msh i)) ∧ va_P D vwCl (mw am tc (nI 0) mdg msz s1 t1 minv isf fsp mfo mwr mpl mny mch mcu mro) H ∧ va_D A (mw am tc (nI 0) mdg msz s1 t1 minv isf fsp mfo mwr mpl mny mch mcu mro) ∧ lv_has ls 12 [(7, .int (nI k)), (0, .ref (am 0)), (1, .int (nI q)), (2, .int (nI qa)), (3, .int (nI qb)), (4, .int (nI h)), (5, .int (nI dd)), (6, .int (nI nn))] := ⟨1, msh, mth, ⟨Nat.le_refl 1, by omega⟩, fun i => ⟨fun z => absurd z (by omega), fun _ => ⟨rfl, rfl⟩⟩, hP, hD, (lv_sub hl [0, 3, 4, 5, 6, 7, 2, 1] rfl)⟩
                  replace hl := hl9
                  clear hl9
                  replace hP := hP9
                  replace hD := hD9
                  clear hP9 hD9
                  obtain ⟨k9, hk9⟩ : ∃ k9 : Nat, nn + 1 < k + k9 := ⟨nn + 1, by omega⟩
                  induction k9 generalizing k s1 t1 ls H locs with
                  | zero => exact absurd hk9 (by omega)
                  | succ k9 ih =>
                    refine lv_iload hx hb dX5_join_137 (lv_at hl 0 rfl) ?_
                    refine lv_iload hx hb dX5_join_139 (lv_at hl 7 rfl) ?_
                    refine sd_icmp_gt (tgt := 269) hx hb (by omega) (by omega) dX5_join_141 (by decide) (fun c5 => ?_) (fun c5 => ?_)
                    · have ek : 17 * q + k = 17 * q + nn + 1 := by omega
                      simp only [ek, Nat.lt_succ_iff] at hI
                      rw [hnn] at hI
                      refine lv_aload_n hx hb dX5_join_269 rfl (lv_at hl 1 rfl) ?_
                      refine va_get (D := D) (ci := 5) (v := .ref (am 2)) (C := RX5) (T := TX5) (N := 15) hx hb hts (fun w h => mm (inX5 w h)) hown hK hP 0 rfl rfl 2 (by decide) (hts _ (mm wf_X5_13)) (fun _ h9 => h9) rfl dX5_join_270 ?_
                      refine lv_iload_n hx hb dX5_join_273 rfl (lv_at hl 2 rfl) ?_
                      refine lv_iload hx hb dX5_join_274 (lv_at hl 7 rfl) ?_
                      refine sd_iast hx hb hK hP hD hS 2 2 rfl rfl (k := q) (by omega) (by decide) (ws2 := mw am tc (nI 0) mdg (sd_up msz q nn) s1 t1 minv isf fsp mfo mwr mpl mny mch mcu mro) (by rw [sd_stN]; exact rfl) dX5_join_276 (fun H locs hP hD hS => ?_)
                      refine lv_aload_n hx hb dX5_join_277 rfl (lv_at hl 1 rfl) ?_
                      refine va_get (D := D) (ci := 5) (v := .ref (am 1)) (C := RX5) (T := TX5) (N := 15) hx hb hts (fun w h => mm (inX5 w h)) hown hK hP 0 rfl rfl 1 (by decide) (hts _ (mm wf_X5_7)) (fun _ h9 => h9) rfl dX5_join_278 ?_
                      refine lv_iload_n hx hb dX5_join_281 rfl (lv_at hl 2 rfl) ?_
                      refine lv_iload hx hb dX5_join_282 (lv_at hl 6 rfl) ?_
                      refine sd_iast hx hb hK hP hD hS 1 2 rfl rfl (k := q) (by omega) (by decide) (ws2 := mw am tc (nI 0) (sd_up mdg q dd) (sd_up msz q nn) s1 t1 minv isf fsp mfo mwr mpl mny mch mcu mro) (by rw [sd_stN]; exact rfl) dX5_join_284 (fun H locs hP hD hS => ?_)
                      refine lv_iconst (v := nI 1) hx hb dX5_join_285 (by decide) ?_
                      exact W.zret hx hb hr rfl (fun T9 hT9 hW => ⟨⟨_, (nI 0, sd_up mdg q dd, sd_up msz q nn, s1, t1, minv, isf, fsp, mfo, mwr, mpl, mny, mch, mcu, mro), rfl, ⟨rfl, Or.inl ⟨q, qa, qb, h, ⟨hq, rfl, hqa, rfl, hqb, rfl, ch, rfl, hdd ▸ cd⟩, rfl, by rw [← hdd], by rw [hnn], ⟨rfl, rfl, rfl, rfl, rfl⟩, hI⟩⟩, by rw [hT9]; exact hP, va_K.moved hW.alike hK, hD⟩, hS.F hT9⟩) hS.2.2 dX5_join_286
                    · have hR9 : ∀ i, i < 8 → t1 (17 * i + k) = mth (17 * i + k) ∧ s1 (17 * i + k) = msh (17 * i + k) := fun i hi => (hI (17 * i + k)).2 (by omega)
                      have ha9 := hR9 qa hqa
                      have hb9 := hR9 qb hqb
                      refine lv_aload_n hx hb dX5_join_144 rfl (lv_at hl 1 rfl) ?_
                      refine va_get (D := D) (ci := 5) (v := .ref (am 3)) (C := RX5) (T := TX5) (N := 15) hx hb hts (fun w h => mm (inX5 w h)) hown hK hP 0 rfl rfl 3 (by decide) (hts _ (mm wf_X5_16)) (fun _ h9 => h9) rfl dX5_join_145 ?_
                      refine lv_iload_n hx hb dX5_join_148 rfl (lv_at hl 3 rfl) ?_
                      refine lv_iload hx hb dX5_join_149 (lv_at hl 0 rfl) ?_
                      refine sd_ri (va_runS (As := [.int (nI qa), .int (nI k)]) (rest := [.ref (am 3)]) ⟨hx, hb, hml, hown, hts⟩ (k_X5_home l qa k) (sd_cwS hts wd_X5_home wn_X5 wm_X5_91 wi_X5_home nq_X5_home rfl rfl ⟨Nat.le_of_ble_eq_true rfl, Nat.le_of_ble_eq_true rfl⟩) sd_preN rfl rfl hl.1 rfl (lv_room (Nat.le_of_ble_eq_true rfl)) dX5_join_151 ⟨Nat.zero_le _, Nat.zero_le _⟩) (fun r72 hr72 => ?_)
                      subst hr72
                      refine sd_lald hx hb hK hP 3 0 rfl rfl (k := 17 * qa + k) (by omega) (by decide) dX5_join_154 ?_
                      refine lv_lstore (lv' := [(8, .long (sd_L (s1 (17 * qa + k)))), (7, .int (nI k)), (0, .ref (am 0)), (1, .int (nI q)), (2, .int (nI qa)), (3, .int (nI qb)), (4, .int (nI h)), (5, .int (nI dd)), (6, .int (nI nn))]) hx hb dX5_join_155 hl (by decide) rfl (fun ls hl => ?_)
                      refine lv_aload_n hx hb dX5_join_157 rfl (lv_at hl 2 rfl) ?_
                      refine va_get (D := D) (ci := 5) (v := .ref (am 3)) (C := RX5) (T := TX5) (N := 15) hx hb hts (fun w h => mm (inX5 w h)) hown hK hP 0 rfl rfl 3 (by decide) (hts _ (mm wf_X5_16)) (fun _ h9 => h9) rfl dX5_join_158 ?_
                      refine lv_iload_n hx hb dX5_join_161 rfl (lv_at hl 5 rfl) ?_
                      refine lv_iload hx hb dX5_join_162 (lv_at hl 1 rfl) ?_
                      refine sd_ri (va_runS (As := [.int (nI qb), .int (nI k)]) (rest := [.ref (am 3)]) ⟨hx, hb, hml, hown, hts⟩ (k_X5_home l qb k) (sd_cwS hts wd_X5_home wn_X5 wm_X5_91 wi_X5_home nq_X5_home rfl rfl ⟨Nat.le_of_ble_eq_true rfl, Nat.le_of_ble_eq_true rfl⟩) sd_preN rfl rfl hl.1 rfl (lv_room (Nat.le_of_ble_eq_true rfl)) dX5_join_164 ⟨Nat.zero_le _, Nat.zero_le _⟩) (fun r73 hr73 => ?_)
                      subst hr73
                      refine sd_lald hx hb hK hP 3 0 rfl rfl (k := 17 * qb + k) (by omega) (by decide) dX5_join_167 ?_
                      refine lv_lstore (lv' := [(10, .long (sd_L (s1 (17 * qb + k)))), (8, .long (sd_L (s1 (17 * qa + k)))), (7, .int (nI k)), (0, .ref (am 0)), (1, .int (nI q)), (2, .int (nI qa)), (3, .int (nI qb)), (4, .int (nI h)), (5, .int (nI dd)), (6, .int (nI nn))]) hx hb dX5_join_168 hl (by decide) rfl (fun ls hl => ?_)
                      refine lv_aload_n hx hb dX5_join_170 rfl (lv_at hl 3 rfl) ?_
                      refine va_get (D := D) (ci := 5) (v := .ref (am 4)) (C := RX5) (T := TX5) (N := 15) hx hb hts (fun w h => mm (inX5 w h)) hown hK hP 0 rfl rfl 4 (by decide) (hts _ (mm wf_X5_20)) (fun _ h9 => h9) rfl dX5_join_171 ?_
                      refine lv_iload_n hx hb dX5_join_174 rfl (lv_at hl 4 rfl) ?_
                      refine lv_iload hx hb dX5_join_175 (lv_at hl 2 rfl) ?_
                      refine sd_ri (va_runS (As := [.int (nI q), .int (nI k)]) (rest := [.ref (am 4)]) ⟨hx, hb, hml, hown, hts⟩ (k_X5_home l q k) (sd_cwS hts wd_X5_home wn_X5 wm_X5_91 wi_X5_home nq_X5_home rfl rfl ⟨Nat.le_of_ble_eq_true rfl, Nat.le_of_ble_eq_true rfl⟩) sd_preN rfl rfl hl.1 rfl (lv_room (Nat.le_of_ble_eq_true rfl)) dX5_join_177 ⟨Nat.zero_le _, Nat.zero_le _⟩) (fun r74 hr74 => ?_)
                      subst hr74
                      refine lv_aload_n hx hb dX5_join_180 rfl (lv_at hl 3 rfl) ?_
                      refine va_get (D := D) (ci := 5) (v := .ref (am 4)) (C := RX5) (T := TX5) (N := 15) hx hb hts (fun w h => mm (inX5 w h)) hown hK hP 0 rfl rfl 4 (by decide) (hts _ (mm wf_X5_20)) (fun _ h9 => h9) rfl dX5_join_181 ?_
                      refine lv_iload_n hx hb dX5_join_184 rfl (lv_at hl 5 rfl) ?_
                      refine lv_iload hx hb dX5_join_185 (lv_at hl 2 rfl) ?_
                      refine sd_ri (va_runS (As := [.int (nI qa), .int (nI k)]) (rest := [.ref (am 4), .int (nI (17 * q + k)), .ref (am 4)]) ⟨hx, hb, hml, hown, hts⟩ (k_X5_home l qa k) (sd_cwS hts wd_X5_home wn_X5 wm_X5_91 wi_X5_home nq_X5_home rfl rfl ⟨Nat.le_of_ble_eq_true rfl, Nat.le_of_ble_eq_true rfl⟩) sd_preN rfl rfl hl.1 rfl (lv_room (Nat.le_of_ble_eq_true rfl)) dX5_join_187 ⟨Nat.zero_le _, Nat.zero_le _⟩) (fun r75 hr75 => ?_)
                      subst hr75
                      refine sd_zald hx hb hK hP 4 1 rfl rfl (k := 17 * qa + k) (by omega) (by decide) dX5_join_190 ?_
                      refine sd_if_eqB (tgt := 212) hx hb dX5_join_191 (by decide) (fun c6 => ?_) (fun c6 => ?_)
                      · refine lv_iconst (v := nI 0) hx hb dX5_join_212 (by decide) ?_
                        refine sd_tob (b := mth (17 * qa + k) && mth (17 * qb + k)) (by rw [← ha9.1, c6]; rfl) ?_
                        refine sd_zast hx hb hK hP hD hS 4 1 rfl rfl (k := 17 * q + k) (by omega) (by decide) (ws2 := mw am tc (nI 0) mdg msz s1 (sd_up t1 (17 * q + k) (mth (17 * qa + k) && mth (17 * qb + k))) minv isf fsp mfo mwr mpl mny mch mcu mro) (by rw [sd_stZ]; exact rfl) dX5_join_213 (fun H locs hP hD hS => ?_)
                        refine lv_aload_n hx hb dX5_join_214 rfl (lv_at hl 3 rfl) ?_
                        refine va_get (D := D) (ci := 5) (v := .ref (am 3)) (C := RX5) (T := TX5) (N := 15) hx hb hts (fun w h => mm (inX5 w h)) hown hK hP 0 rfl rfl 3 (by decide) (hts _ (mm wf_X5_16)) (fun _ h9 => h9) rfl dX5_join_215 ?_
                        refine lv_iload_n hx hb dX5_join_218 rfl (lv_at hl 4 rfl) ?_
                        refine lv_iload hx hb dX5_join_219 (lv_at hl 2 rfl) ?_
                        refine sd_ri (va_runS (As := [.int (nI q), .int (nI k)]) (rest := [.ref (am 3)]) ⟨hx, hb, hml, hown, hts⟩ (k_X5_home l q k) (sd_cwS hts wd_X5_home wn_X5 wm_X5_91 wi_X5_home nq_X5_home rfl rfl ⟨Nat.le_of_ble_eq_true rfl, Nat.le_of_ble_eq_true rfl⟩) sd_preN rfl rfl hl.1 rfl (lv_room (Nat.le_of_ble_eq_true rfl)) dX5_join_221 ⟨Nat.zero_le _, Nat.zero_le _⟩) (fun r76 hr76 => ?_)
                        subst hr76
                        refine lv_iload hx hb dX5_join_224 (lv_at hl 7 rfl) ?_
                        refine lv_if_ne (tgt := 239) hx hb dX5_join_226 (by decide) (fun c8 => ?_) (fun c8 => ?_)
                        · refine lv_iload hx hb dX5_join_239 (lv_at hl 7 rfl) ?_
                          refine lv_iconst (v := nI 1) hx hb dX5_join_241 (by decide) ?_
                          refine sd_icmp_ne (tgt := 255) hx hb (by omega) (by omega) dX5_join_242 (by decide) (fun c9 => ?_) (fun c9 => ?_)
                          · refine lv_lload hx hb dX5_join_255 (lv_at hl 1 rfl) ?_
                            refine lv_lload hx hb dX5_join_257 (lv_at hl 0 rfl) ?_
                            refine sd_rl (va_runS (As := [.long (sd_L (s1 (17 * qa + k))), .long (sd_L (s1 (17 * qb + k)))]) (rest := [.int (nI (17 * q + k)), .ref (am 3)]) ⟨hx, hb, hml, hown, hts⟩ (k_X5_times l (s1 (17 * qa + k)) (s1 (17 * qb + k))) (sd_cwS hts wd_X5_times wn_X5 wm_X5_70 wi_X5_times nq_X5_times rfl rfl ⟨Nat.le_of_ble_eq_true rfl, Nat.le_of_ble_eq_true rfl⟩) sd_preN rfl rfl hl.1 rfl (lv_room (Nat.le_of_ble_eq_true rfl)) dX5_join_259 ⟨Nat.zero_le _, Nat.zero_le _⟩) (fun r77 hr77 => ?_)
                            subst hr77
                            refine sd_tol (y := sd_L (sd_jn h (s1 (17 * qa + k)) (s1 (17 * qb + k)))) (by rw [sd_jn, if_neg (fun z => c8 (by rw [z]; exact nI_0)), if_neg c9]) ?_
                            refine sd_last hx hb hK hP hD hS 3 0 rfl rfl (k := 17 * q + k) (by omega) (by decide) (ws2 := mw am tc (nI 0) mdg msz (sd_up s1 (17 * q + k) (sd_jn h (s1 (17 * qa + k)) (s1 (17 * qb + k)))) (sd_up t1 (17 * q + k) (mth (17 * qa + k) && mth (17 * qb + k))) minv isf fsp mfo mwr mpl mny mch mcu mro) (by rw [sd_stL]; exact rfl) dX5_join_262 (fun H locs hP hD hS => ?_)
                            refine lv_iinc (v := nI (k + 1)) (lv' := [(7, .int (nI (k + 1))), (10, .long (sd_L (s1 (17 * qb + k)))), (8, .long (sd_L (s1 (17 * qa + k)))), (0, .ref (am 0)), (1, .int (nI q)), (2, .int (nI qa)), (3, .int (nI qb)), (4, .int (nI h)), (5, .int (nI dd)), (6, .int (nI nn))]) hx hb dX5_join_263 hl (k := 2) rfl (nI_1 _) (by decide) rfl (fun ls hl => ?_)
                            refine lv_goto (tgt := 137) hx hb dX5_join_266 (by decide) ?_
                            have hI9 : ∀ i, (17 * q + 1 ≤ i ∧ i < 17 * q + (k + 1) → (sd_up t1 (17 * q + k) (mth (17 * qa + k) && mth (17 * qb + k))) i = (mth (17 * qa + (i - 17 * q)) && mth (17 * qb + (i - 17 * q))) ∧ (sd_up s1 (17 * q + k) (sd_jn h (s1 (17 * qa + k)) (s1 (17 * qb + k)))) i = sd_jn h (msh (17 * qa + (i - 17 * q))) (msh (17 * qb + (i - 17 * q)))) ∧ (¬ (17 * q + 1 ≤ i ∧ i < 17 * q + (k + 1)) → (sd_up t1 (17 * q + k) (mth (17 * qa + k) && mth (17 * qb + k))) i = mth i ∧ (sd_up s1 (17 * q + k) (sd_jn h (s1 (17 * qa + k)) (s1 (17 * qb + k)))) i = msh i) := by
                              intro i
                              by_cases ei : i = 17 * q + k
                              · rw [ei, sd_up_s, sd_up_s, Nat.add_sub_cancel_left, ha9.2, hb9.2]
                                exact ⟨fun _ => ⟨rfl, rfl⟩, fun z => absurd (by omega) z⟩
                              · rw [sd_up_n _ _ ei, sd_up_n _ _ ei]
                                exact ⟨fun z => (hI i).1 (by omega), fun z => (hI i).2 (by omega)⟩
                            exact ih (k := k + 1) (s1 := sd_up s1 (17 * q + k) (sd_jn h (s1 (17 * qa + k)) (s1 (17 * qb + k)))) (t1 := sd_up t1 (17 * q + k) (mth (17 * qa + k) && mth (17 * qb + k))) (hk := by omega) (hI := hI9) (H := H) (locs := locs) (hP := hP) (hD := hD) (hS := hS) (ls := ls) (hl := (lv_sub hl [0, 3, 4, 5, 6, 7, 8, 9] rfl)) (hk9 := by omega)
                          · refine lv_lload hx hb dX5_join_245 (lv_at hl 1 rfl) ?_
                            refine lv_lload hx hb dX5_join_247 (lv_at hl 0 rfl) ?_
                            refine sd_rl (va_runS (As := [.long (sd_L (s1 (17 * qa + k))), .long (sd_L (s1 (17 * qb + k)))]) (rest := [.int (nI (17 * q + k)), .ref (am 3)]) ⟨hx, hb, hml, hown, hts⟩ (k_X5_minus l (s1 (17 * qa + k)) (s1 (17 * qb + k))) (sd_cwS hts wd_X5_minus wn_X5 wm_X5_103 wi_X5_minus nq_X5_minus rfl rfl ⟨Nat.le_of_ble_eq_true rfl, Nat.le_of_ble_eq_true rfl⟩) sd_preN rfl rfl hl.1 rfl (lv_room (Nat.le_of_ble_eq_true rfl)) dX5_join_249 ⟨Nat.zero_le _, Nat.zero_le _⟩) (fun r78 hr78 => ?_)
                            subst hr78
                            refine lv_goto (tgt := 262) hx hb dX5_join_252 (by decide) ?_
                            refine sd_tol (y := sd_L (sd_jn h (s1 (17 * qa + k)) (s1 (17 * qb + k)))) (by rw [sd_jn, if_neg (fun z => c8 (by rw [z]; exact nI_0)), if_pos c9]) ?_
                            refine sd_last hx hb hK hP hD hS 3 0 rfl rfl (k := 17 * q + k) (by omega) (by decide) (ws2 := mw am tc (nI 0) mdg msz (sd_up s1 (17 * q + k) (sd_jn h (s1 (17 * qa + k)) (s1 (17 * qb + k)))) (sd_up t1 (17 * q + k) (mth (17 * qa + k) && mth (17 * qb + k))) minv isf fsp mfo mwr mpl mny mch mcu mro) (by rw [sd_stL]; exact rfl) dX5_join_262 (fun H locs hP hD hS => ?_)
                            refine lv_iinc (v := nI (k + 1)) (lv' := [(7, .int (nI (k + 1))), (10, .long (sd_L (s1 (17 * qb + k)))), (8, .long (sd_L (s1 (17 * qa + k)))), (0, .ref (am 0)), (1, .int (nI q)), (2, .int (nI qa)), (3, .int (nI qb)), (4, .int (nI h)), (5, .int (nI dd)), (6, .int (nI nn))]) hx hb dX5_join_263 hl (k := 2) rfl (nI_1 _) (by decide) rfl (fun ls hl => ?_)
                            refine lv_goto (tgt := 137) hx hb dX5_join_266 (by decide) ?_
                            have hI9 : ∀ i, (17 * q + 1 ≤ i ∧ i < 17 * q + (k + 1) → (sd_up t1 (17 * q + k) (mth (17 * qa + k) && mth (17 * qb + k))) i = (mth (17 * qa + (i - 17 * q)) && mth (17 * qb + (i - 17 * q))) ∧ (sd_up s1 (17 * q + k) (sd_jn h (s1 (17 * qa + k)) (s1 (17 * qb + k)))) i = sd_jn h (msh (17 * qa + (i - 17 * q))) (msh (17 * qb + (i - 17 * q)))) ∧ (¬ (17 * q + 1 ≤ i ∧ i < 17 * q + (k + 1)) → (sd_up t1 (17 * q + k) (mth (17 * qa + k) && mth (17 * qb + k))) i = mth i ∧ (sd_up s1 (17 * q + k) (sd_jn h (s1 (17 * qa + k)) (s1 (17 * qb + k)))) i = msh i) := by
                              intro i
                              by_cases ei : i = 17 * q + k
                              · rw [ei, sd_up_s, sd_up_s, Nat.add_sub_cancel_left, ha9.2, hb9.2]
                                exact ⟨fun _ => ⟨rfl, rfl⟩, fun z => absurd (by omega) z⟩
                              · rw [sd_up_n _ _ ei, sd_up_n _ _ ei]
                                exact ⟨fun z => (hI i).1 (by omega), fun z => (hI i).2 (by omega)⟩
                            exact ih (k := k + 1) (s1 := sd_up s1 (17 * q + k) (sd_jn h (s1 (17 * qa + k)) (s1 (17 * qb + k)))) (t1 := sd_up t1 (17 * q + k) (mth (17 * qa + k) && mth (17 * qb + k))) (hk := by omega) (hI := hI9) (H := H) (locs := locs) (hP := hP) (hD := hD) (hS := hS) (ls := ls) (hl := (lv_sub hl [0, 3, 4, 5, 6, 7, 8, 9] rfl)) (hk9 := by omega)
                        · refine lv_lload hx hb dX5_join_229 (lv_at hl 1 rfl) ?_
                          refine lv_lload hx hb dX5_join_231 (lv_at hl 0 rfl) ?_
                          refine sd_rl (va_runS (As := [.long (sd_L (s1 (17 * qa + k))), .long (sd_L (s1 (17 * qb + k)))]) (rest := [.int (nI (17 * q + k)), .ref (am 3)]) ⟨hx, hb, hml, hown, hts⟩ (k_X5_plus l (s1 (17 * qa + k)) (s1 (17 * qb + k))) (sd_cwS hts wd_X5_plus wn_X5 wm_X5_65 wi_X5_plus nq_X5_plus rfl rfl ⟨Nat.le_of_ble_eq_true rfl, Nat.le_of_ble_eq_true rfl⟩) sd_preN rfl rfl hl.1 rfl (lv_room (Nat.le_of_ble_eq_true rfl)) dX5_join_233 ⟨Nat.zero_le _, Nat.zero_le _⟩) (fun r79 hr79 => ?_)
                          subst hr79
                          refine lv_goto (tgt := 262) hx hb dX5_join_236 (by decide) ?_
                          refine sd_tol (y := sd_L (sd_jn h (s1 (17 * qa + k)) (s1 (17 * qb + k)))) (by rw [sd_jn, if_pos (sd_nI_inj (by omega) (by decide) (c8.trans nI_0.symm))]) ?_
                          refine sd_last hx hb hK hP hD hS 3 0 rfl rfl (k := 17 * q + k) (by omega) (by decide) (ws2 := mw am tc (nI 0) mdg msz (sd_up s1 (17 * q + k) (sd_jn h (s1 (17 * qa + k)) (s1 (17 * qb + k)))) (sd_up t1 (17 * q + k) (mth (17 * qa + k) && mth (17 * qb + k))) minv isf fsp mfo mwr mpl mny mch mcu mro) (by rw [sd_stL]; exact rfl) dX5_join_262 (fun H locs hP hD hS => ?_)
                          refine lv_iinc (v := nI (k + 1)) (lv' := [(7, .int (nI (k + 1))), (10, .long (sd_L (s1 (17 * qb + k)))), (8, .long (sd_L (s1 (17 * qa + k)))), (0, .ref (am 0)), (1, .int (nI q)), (2, .int (nI qa)), (3, .int (nI qb)), (4, .int (nI h)), (5, .int (nI dd)), (6, .int (nI nn))]) hx hb dX5_join_263 hl (k := 2) rfl (nI_1 _) (by decide) rfl (fun ls hl => ?_)
                          refine lv_goto (tgt := 137) hx hb dX5_join_266 (by decide) ?_
                          have hI9 : ∀ i, (17 * q + 1 ≤ i ∧ i < 17 * q + (k + 1) → (sd_up t1 (17 * q + k) (mth (17 * qa + k) && mth (17 * qb + k))) i = (mth (17 * qa + (i - 17 * q)) && mth (17 * qb + (i - 17 * q))) ∧ (sd_up s1 (17 * q + k) (sd_jn h (s1 (17 * qa + k)) (s1 (17 * qb + k)))) i = sd_jn h (msh (17 * qa + (i - 17 * q))) (msh (17 * qb + (i - 17 * q)))) ∧ (¬ (17 * q + 1 ≤ i ∧ i < 17 * q + (k + 1)) → (sd_up t1 (17 * q + k) (mth (17 * qa + k) && mth (17 * qb + k))) i = mth i ∧ (sd_up s1 (17 * q + k) (sd_jn h (s1 (17 * qa + k)) (s1 (17 * qb + k)))) i = msh i) := by
                            intro i
                            by_cases ei : i = 17 * q + k
                            · rw [ei, sd_up_s, sd_up_s, Nat.add_sub_cancel_left, ha9.2, hb9.2]
                              exact ⟨fun _ => ⟨rfl, rfl⟩, fun z => absurd (by omega) z⟩
                            · rw [sd_up_n _ _ ei, sd_up_n _ _ ei]
                              exact ⟨fun z => (hI i).1 (by omega), fun z => (hI i).2 (by omega)⟩
                          exact ih (k := k + 1) (s1 := sd_up s1 (17 * q + k) (sd_jn h (s1 (17 * qa + k)) (s1 (17 * qb + k)))) (t1 := sd_up t1 (17 * q + k) (mth (17 * qa + k) && mth (17 * qb + k))) (hk := by omega) (hI := hI9) (H := H) (locs := locs) (hP := hP) (hD := hD) (hS := hS) (ls := ls) (hl := (lv_sub hl [0, 3, 4, 5, 6, 7, 8, 9] rfl)) (hk9 := by omega)
                      · refine lv_aload_n hx hb dX5_join_194 rfl (lv_at hl 3 rfl) ?_
                        refine va_get (D := D) (ci := 5) (v := .ref (am 4)) (C := RX5) (T := TX5) (N := 15) hx hb hts (fun w h => mm (inX5 w h)) hown hK hP 0 rfl rfl 4 (by decide) (hts _ (mm wf_X5_20)) (fun _ h9 => h9) rfl dX5_join_195 ?_
                        refine lv_iload_n hx hb dX5_join_198 rfl (lv_at hl 6 rfl) ?_
                        refine lv_iload hx hb dX5_join_199 (lv_at hl 2 rfl) ?_
                        refine sd_ri (va_runS (As := [.int (nI qb), .int (nI k)]) (rest := [.ref (am 4), .int (nI (17 * q + k)), .ref (am 4)]) ⟨hx, hb, hml, hown, hts⟩ (k_X5_home l qb k) (sd_cwS hts wd_X5_home wn_X5 wm_X5_91 wi_X5_home nq_X5_home rfl rfl ⟨Nat.le_of_ble_eq_true rfl, Nat.le_of_ble_eq_true rfl⟩) sd_preN rfl rfl hl.1 rfl (lv_room (Nat.le_of_ble_eq_true rfl)) dX5_join_201 ⟨Nat.zero_le _, Nat.zero_le _⟩) (fun r80 hr80 => ?_)
                        subst hr80
                        refine sd_zald hx hb hK hP 4 1 rfl rfl (k := 17 * qb + k) (by omega) (by decide) dX5_join_204 ?_
                        refine sd_if_eqB (tgt := 212) hx hb dX5_join_205 (by decide) (fun c7 => ?_) (fun c7 => ?_)
                        · refine lv_iconst (v := nI 0) hx hb dX5_join_212 (by decide) ?_
                          refine sd_tob (b := mth (17 * qa + k) && mth (17 * qb + k)) (by rw [← ha9.1, ← hb9.1, c6, c7]; rfl) ?_
                          refine sd_zast hx hb hK hP hD hS 4 1 rfl rfl (k := 17 * q + k) (by omega) (by decide) (ws2 := mw am tc (nI 0) mdg msz s1 (sd_up t1 (17 * q + k) (mth (17 * qa + k) && mth (17 * qb + k))) minv isf fsp mfo mwr mpl mny mch mcu mro) (by rw [sd_stZ]; exact rfl) dX5_join_213 (fun H locs hP hD hS => ?_)
                          refine lv_aload_n hx hb dX5_join_214 rfl (lv_at hl 3 rfl) ?_
                          refine va_get (D := D) (ci := 5) (v := .ref (am 3)) (C := RX5) (T := TX5) (N := 15) hx hb hts (fun w h => mm (inX5 w h)) hown hK hP 0 rfl rfl 3 (by decide) (hts _ (mm wf_X5_16)) (fun _ h9 => h9) rfl dX5_join_215 ?_
                          refine lv_iload_n hx hb dX5_join_218 rfl (lv_at hl 4 rfl) ?_
                          refine lv_iload hx hb dX5_join_219 (lv_at hl 2 rfl) ?_
                          refine sd_ri (va_runS (As := [.int (nI q), .int (nI k)]) (rest := [.ref (am 3)]) ⟨hx, hb, hml, hown, hts⟩ (k_X5_home l q k) (sd_cwS hts wd_X5_home wn_X5 wm_X5_91 wi_X5_home nq_X5_home rfl rfl ⟨Nat.le_of_ble_eq_true rfl, Nat.le_of_ble_eq_true rfl⟩) sd_preN rfl rfl hl.1 rfl (lv_room (Nat.le_of_ble_eq_true rfl)) dX5_join_221 ⟨Nat.zero_le _, Nat.zero_le _⟩) (fun r81 hr81 => ?_)
                          subst hr81
                          refine lv_iload hx hb dX5_join_224 (lv_at hl 7 rfl) ?_
                          refine lv_if_ne (tgt := 239) hx hb dX5_join_226 (by decide) (fun c8 => ?_) (fun c8 => ?_)
                          · refine lv_iload hx hb dX5_join_239 (lv_at hl 7 rfl) ?_
                            refine lv_iconst (v := nI 1) hx hb dX5_join_241 (by decide) ?_
                            refine sd_icmp_ne (tgt := 255) hx hb (by omega) (by omega) dX5_join_242 (by decide) (fun c9 => ?_) (fun c9 => ?_)
                            · refine lv_lload hx hb dX5_join_255 (lv_at hl 1 rfl) ?_
                              refine lv_lload hx hb dX5_join_257 (lv_at hl 0 rfl) ?_
                              refine sd_rl (va_runS (As := [.long (sd_L (s1 (17 * qa + k))), .long (sd_L (s1 (17 * qb + k)))]) (rest := [.int (nI (17 * q + k)), .ref (am 3)]) ⟨hx, hb, hml, hown, hts⟩ (k_X5_times l (s1 (17 * qa + k)) (s1 (17 * qb + k))) (sd_cwS hts wd_X5_times wn_X5 wm_X5_70 wi_X5_times nq_X5_times rfl rfl ⟨Nat.le_of_ble_eq_true rfl, Nat.le_of_ble_eq_true rfl⟩) sd_preN rfl rfl hl.1 rfl (lv_room (Nat.le_of_ble_eq_true rfl)) dX5_join_259 ⟨Nat.zero_le _, Nat.zero_le _⟩) (fun r82 hr82 => ?_)
                              subst hr82
                              refine sd_tol (y := sd_L (sd_jn h (s1 (17 * qa + k)) (s1 (17 * qb + k)))) (by rw [sd_jn, if_neg (fun z => c8 (by rw [z]; exact nI_0)), if_neg c9]) ?_
                              refine sd_last hx hb hK hP hD hS 3 0 rfl rfl (k := 17 * q + k) (by omega) (by decide) (ws2 := mw am tc (nI 0) mdg msz (sd_up s1 (17 * q + k) (sd_jn h (s1 (17 * qa + k)) (s1 (17 * qb + k)))) (sd_up t1 (17 * q + k) (mth (17 * qa + k) && mth (17 * qb + k))) minv isf fsp mfo mwr mpl mny mch mcu mro) (by rw [sd_stL]; exact rfl) dX5_join_262 (fun H locs hP hD hS => ?_)
                              refine lv_iinc (v := nI (k + 1)) (lv' := [(7, .int (nI (k + 1))), (10, .long (sd_L (s1 (17 * qb + k)))), (8, .long (sd_L (s1 (17 * qa + k)))), (0, .ref (am 0)), (1, .int (nI q)), (2, .int (nI qa)), (3, .int (nI qb)), (4, .int (nI h)), (5, .int (nI dd)), (6, .int (nI nn))]) hx hb dX5_join_263 hl (k := 2) rfl (nI_1 _) (by decide) rfl (fun ls hl => ?_)
                              refine lv_goto (tgt := 137) hx hb dX5_join_266 (by decide) ?_
                              have hI9 : ∀ i, (17 * q + 1 ≤ i ∧ i < 17 * q + (k + 1) → (sd_up t1 (17 * q + k) (mth (17 * qa + k) && mth (17 * qb + k))) i = (mth (17 * qa + (i - 17 * q)) && mth (17 * qb + (i - 17 * q))) ∧ (sd_up s1 (17 * q + k) (sd_jn h (s1 (17 * qa + k)) (s1 (17 * qb + k)))) i = sd_jn h (msh (17 * qa + (i - 17 * q))) (msh (17 * qb + (i - 17 * q)))) ∧ (¬ (17 * q + 1 ≤ i ∧ i < 17 * q + (k + 1)) → (sd_up t1 (17 * q + k) (mth (17 * qa + k) && mth (17 * qb + k))) i = mth i ∧ (sd_up s1 (17 * q + k) (sd_jn h (s1 (17 * qa + k)) (s1 (17 * qb + k)))) i = msh i) := by
                                intro i
                                by_cases ei : i = 17 * q + k
                                · rw [ei, sd_up_s, sd_up_s, Nat.add_sub_cancel_left, ha9.2, hb9.2]
                                  exact ⟨fun _ => ⟨rfl, rfl⟩, fun z => absurd (by omega) z⟩
                                · rw [sd_up_n _ _ ei, sd_up_n _ _ ei]
                                  exact ⟨fun z => (hI i).1 (by omega), fun z => (hI i).2 (by omega)⟩
                              exact ih (k := k + 1) (s1 := sd_up s1 (17 * q + k) (sd_jn h (s1 (17 * qa + k)) (s1 (17 * qb + k)))) (t1 := sd_up t1 (17 * q + k) (mth (17 * qa + k) && mth (17 * qb + k))) (hk := by omega) (hI := hI9) (H := H) (locs := locs) (hP := hP) (hD := hD) (hS := hS) (ls := ls) (hl := (lv_sub hl [0, 3, 4, 5, 6, 7, 8, 9] rfl)) (hk9 := by omega)
                            · refine lv_lload hx hb dX5_join_245 (lv_at hl 1 rfl) ?_
                              refine lv_lload hx hb dX5_join_247 (lv_at hl 0 rfl) ?_
                              refine sd_rl (va_runS (As := [.long (sd_L (s1 (17 * qa + k))), .long (sd_L (s1 (17 * qb + k)))]) (rest := [.int (nI (17 * q + k)), .ref (am 3)]) ⟨hx, hb, hml, hown, hts⟩ (k_X5_minus l (s1 (17 * qa + k)) (s1 (17 * qb + k))) (sd_cwS hts wd_X5_minus wn_X5 wm_X5_103 wi_X5_minus nq_X5_minus rfl rfl ⟨Nat.le_of_ble_eq_true rfl, Nat.le_of_ble_eq_true rfl⟩) sd_preN rfl rfl hl.1 rfl (lv_room (Nat.le_of_ble_eq_true rfl)) dX5_join_249 ⟨Nat.zero_le _, Nat.zero_le _⟩) (fun r83 hr83 => ?_)
                              subst hr83
                              refine lv_goto (tgt := 262) hx hb dX5_join_252 (by decide) ?_
                              refine sd_tol (y := sd_L (sd_jn h (s1 (17 * qa + k)) (s1 (17 * qb + k)))) (by rw [sd_jn, if_neg (fun z => c8 (by rw [z]; exact nI_0)), if_pos c9]) ?_
                              refine sd_last hx hb hK hP hD hS 3 0 rfl rfl (k := 17 * q + k) (by omega) (by decide) (ws2 := mw am tc (nI 0) mdg msz (sd_up s1 (17 * q + k) (sd_jn h (s1 (17 * qa + k)) (s1 (17 * qb + k)))) (sd_up t1 (17 * q + k) (mth (17 * qa + k) && mth (17 * qb + k))) minv isf fsp mfo mwr mpl mny mch mcu mro) (by rw [sd_stL]; exact rfl) dX5_join_262 (fun H locs hP hD hS => ?_)
                              refine lv_iinc (v := nI (k + 1)) (lv' := [(7, .int (nI (k + 1))), (10, .long (sd_L (s1 (17 * qb + k)))), (8, .long (sd_L (s1 (17 * qa + k)))), (0, .ref (am 0)), (1, .int (nI q)), (2, .int (nI qa)), (3, .int (nI qb)), (4, .int (nI h)), (5, .int (nI dd)), (6, .int (nI nn))]) hx hb dX5_join_263 hl (k := 2) rfl (nI_1 _) (by decide) rfl (fun ls hl => ?_)
                              refine lv_goto (tgt := 137) hx hb dX5_join_266 (by decide) ?_
                              have hI9 : ∀ i, (17 * q + 1 ≤ i ∧ i < 17 * q + (k + 1) → (sd_up t1 (17 * q + k) (mth (17 * qa + k) && mth (17 * qb + k))) i = (mth (17 * qa + (i - 17 * q)) && mth (17 * qb + (i - 17 * q))) ∧ (sd_up s1 (17 * q + k) (sd_jn h (s1 (17 * qa + k)) (s1 (17 * qb + k)))) i = sd_jn h (msh (17 * qa + (i - 17 * q))) (msh (17 * qb + (i - 17 * q)))) ∧ (¬ (17 * q + 1 ≤ i ∧ i < 17 * q + (k + 1)) → (sd_up t1 (17 * q + k) (mth (17 * qa + k) && mth (17 * qb + k))) i = mth i ∧ (sd_up s1 (17 * q + k) (sd_jn h (s1 (17 * qa + k)) (s1 (17 * qb + k)))) i = msh i) := by
                                intro i
                                by_cases ei : i = 17 * q + k
                                · rw [ei, sd_up_s, sd_up_s, Nat.add_sub_cancel_left, ha9.2, hb9.2]
                                  exact ⟨fun _ => ⟨rfl, rfl⟩, fun z => absurd (by omega) z⟩
                                · rw [sd_up_n _ _ ei, sd_up_n _ _ ei]
                                  exact ⟨fun z => (hI i).1 (by omega), fun z => (hI i).2 (by omega)⟩
                              exact ih (k := k + 1) (s1 := sd_up s1 (17 * q + k) (sd_jn h (s1 (17 * qa + k)) (s1 (17 * qb + k)))) (t1 := sd_up t1 (17 * q + k) (mth (17 * qa + k) && mth (17 * qb + k))) (hk := by omega) (hI := hI9) (H := H) (locs := locs) (hP := hP) (hD := hD) (hS := hS) (ls := ls) (hl := (lv_sub hl [0, 3, 4, 5, 6, 7, 8, 9] rfl)) (hk9 := by omega)
                          · refine lv_lload hx hb dX5_join_229 (lv_at hl 1 rfl) ?_
                            refine lv_lload hx hb dX5_join_231 (lv_at hl 0 rfl) ?_
                            refine sd_rl (va_runS (As := [.long (sd_L (s1 (17 * qa + k))), .long (sd_L (s1 (17 * qb + k)))]) (rest := [.int (nI (17 * q + k)), .ref (am 3)]) ⟨hx, hb, hml, hown, hts⟩ (k_X5_plus l (s1 (17 * qa + k)) (s1 (17 * qb + k))) (sd_cwS hts wd_X5_plus wn_X5 wm_X5_65 wi_X5_plus nq_X5_plus rfl rfl ⟨Nat.le_of_ble_eq_true rfl, Nat.le_of_ble_eq_true rfl⟩) sd_preN rfl rfl hl.1 rfl (lv_room (Nat.le_of_ble_eq_true rfl)) dX5_join_233 ⟨Nat.zero_le _, Nat.zero_le _⟩) (fun r84 hr84 => ?_)
                            subst hr84
                            refine lv_goto (tgt := 262) hx hb dX5_join_236 (by decide) ?_
                            refine sd_tol (y := sd_L (sd_jn h (s1 (17 * qa + k)) (s1 (17 * qb + k)))) (by rw [sd_jn, if_pos (sd_nI_inj (by omega) (by decide) (c8.trans nI_0.symm))]) ?_
                            refine sd_last hx hb hK hP hD hS 3 0 rfl rfl (k := 17 * q + k) (by omega) (by decide) (ws2 := mw am tc (nI 0) mdg msz (sd_up s1 (17 * q + k) (sd_jn h (s1 (17 * qa + k)) (s1 (17 * qb + k)))) (sd_up t1 (17 * q + k) (mth (17 * qa + k) && mth (17 * qb + k))) minv isf fsp mfo mwr mpl mny mch mcu mro) (by rw [sd_stL]; exact rfl) dX5_join_262 (fun H locs hP hD hS => ?_)
                            refine lv_iinc (v := nI (k + 1)) (lv' := [(7, .int (nI (k + 1))), (10, .long (sd_L (s1 (17 * qb + k)))), (8, .long (sd_L (s1 (17 * qa + k)))), (0, .ref (am 0)), (1, .int (nI q)), (2, .int (nI qa)), (3, .int (nI qb)), (4, .int (nI h)), (5, .int (nI dd)), (6, .int (nI nn))]) hx hb dX5_join_263 hl (k := 2) rfl (nI_1 _) (by decide) rfl (fun ls hl => ?_)
                            refine lv_goto (tgt := 137) hx hb dX5_join_266 (by decide) ?_
                            have hI9 : ∀ i, (17 * q + 1 ≤ i ∧ i < 17 * q + (k + 1) → (sd_up t1 (17 * q + k) (mth (17 * qa + k) && mth (17 * qb + k))) i = (mth (17 * qa + (i - 17 * q)) && mth (17 * qb + (i - 17 * q))) ∧ (sd_up s1 (17 * q + k) (sd_jn h (s1 (17 * qa + k)) (s1 (17 * qb + k)))) i = sd_jn h (msh (17 * qa + (i - 17 * q))) (msh (17 * qb + (i - 17 * q)))) ∧ (¬ (17 * q + 1 ≤ i ∧ i < 17 * q + (k + 1)) → (sd_up t1 (17 * q + k) (mth (17 * qa + k) && mth (17 * qb + k))) i = mth i ∧ (sd_up s1 (17 * q + k) (sd_jn h (s1 (17 * qa + k)) (s1 (17 * qb + k)))) i = msh i) := by
                              intro i
                              by_cases ei : i = 17 * q + k
                              · rw [ei, sd_up_s, sd_up_s, Nat.add_sub_cancel_left, ha9.2, hb9.2]
                                exact ⟨fun _ => ⟨rfl, rfl⟩, fun z => absurd (by omega) z⟩
                              · rw [sd_up_n _ _ ei, sd_up_n _ _ ei]
                                exact ⟨fun z => (hI i).1 (by omega), fun z => (hI i).2 (by omega)⟩
                            exact ih (k := k + 1) (s1 := sd_up s1 (17 * q + k) (sd_jn h (s1 (17 * qa + k)) (s1 (17 * qb + k)))) (t1 := sd_up t1 (17 * q + k) (mth (17 * qa + k) && mth (17 * qb + k))) (hk := by omega) (hI := hI9) (H := H) (locs := locs) (hP := hP) (hD := hD) (hS := hS) (ls := ls) (hl := (lv_sub hl [0, 3, 4, 5, 6, 7, 8, 9] rfl)) (hk9 := by omega)
                        · refine lv_iconst (v := nI 1) hx hb dX5_join_208 (by decide) ?_
                          refine lv_goto (tgt := 213) hx hb dX5_join_209 (by decide) ?_
                          refine sd_tob (b := mth (17 * qa + k) && mth (17 * qb + k)) (by rw [← ha9.1, ← hb9.1, c6, c7]; rfl) ?_
                          refine sd_zast hx hb hK hP hD hS 4 1 rfl rfl (k := 17 * q + k) (by omega) (by decide) (ws2 := mw am tc (nI 0) mdg msz s1 (sd_up t1 (17 * q + k) (mth (17 * qa + k) && mth (17 * qb + k))) minv isf fsp mfo mwr mpl mny mch mcu mro) (by rw [sd_stZ]; exact rfl) dX5_join_213 (fun H locs hP hD hS => ?_)
                          refine lv_aload_n hx hb dX5_join_214 rfl (lv_at hl 3 rfl) ?_
                          refine va_get (D := D) (ci := 5) (v := .ref (am 3)) (C := RX5) (T := TX5) (N := 15) hx hb hts (fun w h => mm (inX5 w h)) hown hK hP 0 rfl rfl 3 (by decide) (hts _ (mm wf_X5_16)) (fun _ h9 => h9) rfl dX5_join_215 ?_
                          refine lv_iload_n hx hb dX5_join_218 rfl (lv_at hl 4 rfl) ?_
                          refine lv_iload hx hb dX5_join_219 (lv_at hl 2 rfl) ?_
                          refine sd_ri (va_runS (As := [.int (nI q), .int (nI k)]) (rest := [.ref (am 3)]) ⟨hx, hb, hml, hown, hts⟩ (k_X5_home l q k) (sd_cwS hts wd_X5_home wn_X5 wm_X5_91 wi_X5_home nq_X5_home rfl rfl ⟨Nat.le_of_ble_eq_true rfl, Nat.le_of_ble_eq_true rfl⟩) sd_preN rfl rfl hl.1 rfl (lv_room (Nat.le_of_ble_eq_true rfl)) dX5_join_221 ⟨Nat.zero_le _, Nat.zero_le _⟩) (fun r85 hr85 => ?_)
                          subst hr85
                          refine lv_iload hx hb dX5_join_224 (lv_at hl 7 rfl) ?_
                          refine lv_if_ne (tgt := 239) hx hb dX5_join_226 (by decide) (fun c8 => ?_) (fun c8 => ?_)
                          · refine lv_iload hx hb dX5_join_239 (lv_at hl 7 rfl) ?_
                            refine lv_iconst (v := nI 1) hx hb dX5_join_241 (by decide) ?_
                            refine sd_icmp_ne (tgt := 255) hx hb (by omega) (by omega) dX5_join_242 (by decide) (fun c9 => ?_) (fun c9 => ?_)
                            · refine lv_lload hx hb dX5_join_255 (lv_at hl 1 rfl) ?_
                              refine lv_lload hx hb dX5_join_257 (lv_at hl 0 rfl) ?_
                              refine sd_rl (va_runS (As := [.long (sd_L (s1 (17 * qa + k))), .long (sd_L (s1 (17 * qb + k)))]) (rest := [.int (nI (17 * q + k)), .ref (am 3)]) ⟨hx, hb, hml, hown, hts⟩ (k_X5_times l (s1 (17 * qa + k)) (s1 (17 * qb + k))) (sd_cwS hts wd_X5_times wn_X5 wm_X5_70 wi_X5_times nq_X5_times rfl rfl ⟨Nat.le_of_ble_eq_true rfl, Nat.le_of_ble_eq_true rfl⟩) sd_preN rfl rfl hl.1 rfl (lv_room (Nat.le_of_ble_eq_true rfl)) dX5_join_259 ⟨Nat.zero_le _, Nat.zero_le _⟩) (fun r86 hr86 => ?_)
                              subst hr86
                              refine sd_tol (y := sd_L (sd_jn h (s1 (17 * qa + k)) (s1 (17 * qb + k)))) (by rw [sd_jn, if_neg (fun z => c8 (by rw [z]; exact nI_0)), if_neg c9]) ?_
                              refine sd_last hx hb hK hP hD hS 3 0 rfl rfl (k := 17 * q + k) (by omega) (by decide) (ws2 := mw am tc (nI 0) mdg msz (sd_up s1 (17 * q + k) (sd_jn h (s1 (17 * qa + k)) (s1 (17 * qb + k)))) (sd_up t1 (17 * q + k) (mth (17 * qa + k) && mth (17 * qb + k))) minv isf fsp mfo mwr mpl mny mch mcu mro) (by rw [sd_stL]; exact rfl) dX5_join_262 (fun H locs hP hD hS => ?_)
                              refine lv_iinc (v := nI (k + 1)) (lv' := [(7, .int (nI (k + 1))), (10, .long (sd_L (s1 (17 * qb + k)))), (8, .long (sd_L (s1 (17 * qa + k)))), (0, .ref (am 0)), (1, .int (nI q)), (2, .int (nI qa)), (3, .int (nI qb)), (4, .int (nI h)), (5, .int (nI dd)), (6, .int (nI nn))]) hx hb dX5_join_263 hl (k := 2) rfl (nI_1 _) (by decide) rfl (fun ls hl => ?_)
                              refine lv_goto (tgt := 137) hx hb dX5_join_266 (by decide) ?_
                              have hI9 : ∀ i, (17 * q + 1 ≤ i ∧ i < 17 * q + (k + 1) → (sd_up t1 (17 * q + k) (mth (17 * qa + k) && mth (17 * qb + k))) i = (mth (17 * qa + (i - 17 * q)) && mth (17 * qb + (i - 17 * q))) ∧ (sd_up s1 (17 * q + k) (sd_jn h (s1 (17 * qa + k)) (s1 (17 * qb + k)))) i = sd_jn h (msh (17 * qa + (i - 17 * q))) (msh (17 * qb + (i - 17 * q)))) ∧ (¬ (17 * q + 1 ≤ i ∧ i < 17 * q + (k + 1)) → (sd_up t1 (17 * q + k) (mth (17 * qa + k) && mth (17 * qb + k))) i = mth i ∧ (sd_up s1 (17 * q + k) (sd_jn h (s1 (17 * qa + k)) (s1 (17 * qb + k)))) i = msh i) := by
                                intro i
                                by_cases ei : i = 17 * q + k
                                · rw [ei, sd_up_s, sd_up_s, Nat.add_sub_cancel_left, ha9.2, hb9.2]
                                  exact ⟨fun _ => ⟨rfl, rfl⟩, fun z => absurd (by omega) z⟩
                                · rw [sd_up_n _ _ ei, sd_up_n _ _ ei]
                                  exact ⟨fun z => (hI i).1 (by omega), fun z => (hI i).2 (by omega)⟩
                              exact ih (k := k + 1) (s1 := sd_up s1 (17 * q + k) (sd_jn h (s1 (17 * qa + k)) (s1 (17 * qb + k)))) (t1 := sd_up t1 (17 * q + k) (mth (17 * qa + k) && mth (17 * qb + k))) (hk := by omega) (hI := hI9) (H := H) (locs := locs) (hP := hP) (hD := hD) (hS := hS) (ls := ls) (hl := (lv_sub hl [0, 3, 4, 5, 6, 7, 8, 9] rfl)) (hk9 := by omega)
                            · refine lv_lload hx hb dX5_join_245 (lv_at hl 1 rfl) ?_
                              refine lv_lload hx hb dX5_join_247 (lv_at hl 0 rfl) ?_
                              refine sd_rl (va_runS (As := [.long (sd_L (s1 (17 * qa + k))), .long (sd_L (s1 (17 * qb + k)))]) (rest := [.int (nI (17 * q + k)), .ref (am 3)]) ⟨hx, hb, hml, hown, hts⟩ (k_X5_minus l (s1 (17 * qa + k)) (s1 (17 * qb + k))) (sd_cwS hts wd_X5_minus wn_X5 wm_X5_103 wi_X5_minus nq_X5_minus rfl rfl ⟨Nat.le_of_ble_eq_true rfl, Nat.le_of_ble_eq_true rfl⟩) sd_preN rfl rfl hl.1 rfl (lv_room (Nat.le_of_ble_eq_true rfl)) dX5_join_249 ⟨Nat.zero_le _, Nat.zero_le _⟩) (fun r87 hr87 => ?_)
                              subst hr87
                              refine lv_goto (tgt := 262) hx hb dX5_join_252 (by decide) ?_
                              refine sd_tol (y := sd_L (sd_jn h (s1 (17 * qa + k)) (s1 (17 * qb + k)))) (by rw [sd_jn, if_neg (fun z => c8 (by rw [z]; exact nI_0)), if_pos c9]) ?_
                              refine sd_last hx hb hK hP hD hS 3 0 rfl rfl (k := 17 * q + k) (by omega) (by decide) (ws2 := mw am tc (nI 0) mdg msz (sd_up s1 (17 * q + k) (sd_jn h (s1 (17 * qa + k)) (s1 (17 * qb + k)))) (sd_up t1 (17 * q + k) (mth (17 * qa + k) && mth (17 * qb + k))) minv isf fsp mfo mwr mpl mny mch mcu mro) (by rw [sd_stL]; exact rfl) dX5_join_262 (fun H locs hP hD hS => ?_)
                              refine lv_iinc (v := nI (k + 1)) (lv' := [(7, .int (nI (k + 1))), (10, .long (sd_L (s1 (17 * qb + k)))), (8, .long (sd_L (s1 (17 * qa + k)))), (0, .ref (am 0)), (1, .int (nI q)), (2, .int (nI qa)), (3, .int (nI qb)), (4, .int (nI h)), (5, .int (nI dd)), (6, .int (nI nn))]) hx hb dX5_join_263 hl (k := 2) rfl (nI_1 _) (by decide) rfl (fun ls hl => ?_)
                              refine lv_goto (tgt := 137) hx hb dX5_join_266 (by decide) ?_
                              have hI9 : ∀ i, (17 * q + 1 ≤ i ∧ i < 17 * q + (k + 1) → (sd_up t1 (17 * q + k) (mth (17 * qa + k) && mth (17 * qb + k))) i = (mth (17 * qa + (i - 17 * q)) && mth (17 * qb + (i - 17 * q))) ∧ (sd_up s1 (17 * q + k) (sd_jn h (s1 (17 * qa + k)) (s1 (17 * qb + k)))) i = sd_jn h (msh (17 * qa + (i - 17 * q))) (msh (17 * qb + (i - 17 * q)))) ∧ (¬ (17 * q + 1 ≤ i ∧ i < 17 * q + (k + 1)) → (sd_up t1 (17 * q + k) (mth (17 * qa + k) && mth (17 * qb + k))) i = mth i ∧ (sd_up s1 (17 * q + k) (sd_jn h (s1 (17 * qa + k)) (s1 (17 * qb + k)))) i = msh i) := by
                                intro i
                                by_cases ei : i = 17 * q + k
                                · rw [ei, sd_up_s, sd_up_s, Nat.add_sub_cancel_left, ha9.2, hb9.2]
                                  exact ⟨fun _ => ⟨rfl, rfl⟩, fun z => absurd (by omega) z⟩
                                · rw [sd_up_n _ _ ei, sd_up_n _ _ ei]
                                  exact ⟨fun z => (hI i).1 (by omega), fun z => (hI i).2 (by omega)⟩
                              exact ih (k := k + 1) (s1 := sd_up s1 (17 * q + k) (sd_jn h (s1 (17 * qa + k)) (s1 (17 * qb + k)))) (t1 := sd_up t1 (17 * q + k) (mth (17 * qa + k) && mth (17 * qb + k))) (hk := by omega) (hI := hI9) (H := H) (locs := locs) (hP := hP) (hD := hD) (hS := hS) (ls := ls) (hl := (lv_sub hl [0, 3, 4, 5, 6, 7, 8, 9] rfl)) (hk9 := by omega)
                          · refine lv_lload hx hb dX5_join_229 (lv_at hl 1 rfl) ?_
                            refine lv_lload hx hb dX5_join_231 (lv_at hl 0 rfl) ?_
                            refine sd_rl (va_runS (As := [.long (sd_L (s1 (17 * qa + k))), .long (sd_L (s1 (17 * qb + k)))]) (rest := [.int (nI (17 * q + k)), .ref (am 3)]) ⟨hx, hb, hml, hown, hts⟩ (k_X5_plus l (s1 (17 * qa + k)) (s1 (17 * qb + k))) (sd_cwS hts wd_X5_plus wn_X5 wm_X5_65 wi_X5_plus nq_X5_plus rfl rfl ⟨Nat.le_of_ble_eq_true rfl, Nat.le_of_ble_eq_true rfl⟩) sd_preN rfl rfl hl.1 rfl (lv_room (Nat.le_of_ble_eq_true rfl)) dX5_join_233 ⟨Nat.zero_le _, Nat.zero_le _⟩) (fun r88 hr88 => ?_)
                            subst hr88
                            refine lv_goto (tgt := 262) hx hb dX5_join_236 (by decide) ?_
                            refine sd_tol (y := sd_L (sd_jn h (s1 (17 * qa + k)) (s1 (17 * qb + k)))) (by rw [sd_jn, if_pos (sd_nI_inj (by omega) (by decide) (c8.trans nI_0.symm))]) ?_
                            refine sd_last hx hb hK hP hD hS 3 0 rfl rfl (k := 17 * q + k) (by omega) (by decide) (ws2 := mw am tc (nI 0) mdg msz (sd_up s1 (17 * q + k) (sd_jn h (s1 (17 * qa + k)) (s1 (17 * qb + k)))) (sd_up t1 (17 * q + k) (mth (17 * qa + k) && mth (17 * qb + k))) minv isf fsp mfo mwr mpl mny mch mcu mro) (by rw [sd_stL]; exact rfl) dX5_join_262 (fun H locs hP hD hS => ?_)
                            refine lv_iinc (v := nI (k + 1)) (lv' := [(7, .int (nI (k + 1))), (10, .long (sd_L (s1 (17 * qb + k)))), (8, .long (sd_L (s1 (17 * qa + k)))), (0, .ref (am 0)), (1, .int (nI q)), (2, .int (nI qa)), (3, .int (nI qb)), (4, .int (nI h)), (5, .int (nI dd)), (6, .int (nI nn))]) hx hb dX5_join_263 hl (k := 2) rfl (nI_1 _) (by decide) rfl (fun ls hl => ?_)
                            refine lv_goto (tgt := 137) hx hb dX5_join_266 (by decide) ?_
                            have hI9 : ∀ i, (17 * q + 1 ≤ i ∧ i < 17 * q + (k + 1) → (sd_up t1 (17 * q + k) (mth (17 * qa + k) && mth (17 * qb + k))) i = (mth (17 * qa + (i - 17 * q)) && mth (17 * qb + (i - 17 * q))) ∧ (sd_up s1 (17 * q + k) (sd_jn h (s1 (17 * qa + k)) (s1 (17 * qb + k)))) i = sd_jn h (msh (17 * qa + (i - 17 * q))) (msh (17 * qb + (i - 17 * q)))) ∧ (¬ (17 * q + 1 ≤ i ∧ i < 17 * q + (k + 1)) → (sd_up t1 (17 * q + k) (mth (17 * qa + k) && mth (17 * qb + k))) i = mth i ∧ (sd_up s1 (17 * q + k) (sd_jn h (s1 (17 * qa + k)) (s1 (17 * qb + k)))) i = msh i) := by
                              intro i
                              by_cases ei : i = 17 * q + k
                              · rw [ei, sd_up_s, sd_up_s, Nat.add_sub_cancel_left, ha9.2, hb9.2]
                                exact ⟨fun _ => ⟨rfl, rfl⟩, fun z => absurd (by omega) z⟩
                              · rw [sd_up_n _ _ ei, sd_up_n _ _ ei]
                                exact ⟨fun z => (hI i).1 (by omega), fun z => (hI i).2 (by omega)⟩
                            exact ih (k := k + 1) (s1 := sd_up s1 (17 * q + k) (sd_jn h (s1 (17 * qa + k)) (s1 (17 * qb + k)))) (t1 := sd_up t1 (17 * q + k) (mth (17 * qa + k) && mth (17 * qb + k))) (hk := by omega) (hI := hI9) (H := H) (locs := locs) (hP := hP) (hD := hD) (hS := hS) (ls := ls) (hl := (lv_sub hl [0, 3, 4, 5, 6, 7, 8, 9] rfl)) (hk9 := by omega)
                · refine lv_aload_n hx hb dX5_join_117 rfl (lv_at hl 1 rfl) ?_
                  refine va_get (D := D) (ci := 5) (v := .ref (am 2)) (C := RX5) (T := TX5) (N := 15) hx hb hts (fun w h => mm (inX5 w h)) hown hK hP 0 rfl rfl 2 (by decide) (hts _ (mm wf_X5_13)) (fun _ h9 => h9) rfl dX5_join_118 ?_
                  refine lv_iload_n hx hb dX5_join_121 rfl (lv_at hl 3 rfl) ?_
                  refine sd_iald hx hb hK hP 2 2 rfl rfl (k := qa) (by omega) (by decide) dX5_join_122 ?_
                  refine lv_goto (tgt := 132) hx hb dX5_join_123 (by decide) ?_
                  obtain ⟨nn, hnn⟩ : ∃ nn, nn = min (msz qa) (msz qb) := ⟨_, rfl⟩
                  refine sd_toi (y := nI nn) (by rw [hnn, Nat.min_eq_left (by omega)]) ?_
                  refine lv_istore (lv' := [(6, .int (nI nn)), (5, .int (nI dd)), (0, .ref (am 0)), (1, .int (nI q)), (2, .int (nI qa)), (3, .int (nI qb)), (4, .int (nI h))]) hx hb dX5_join_132 hl (by decide) rfl (fun ls hl => ?_)
                  refine lv_iconst (v := nI 1) hx hb dX5_join_134 (by decide) ?_
                  refine lv_istore (lv' := [(7, .int (nI 1)), (6, .int (nI nn)), (5, .int (nI dd)), (0, .ref (am 0)), (1, .int (nI q)), (2, .int (nI qa)), (3, .int (nI qb)), (4, .int (nI h))]) hx hb dX5_join_135 hl (by decide) rfl (fun ls hl => ?_)
                  obtain ⟨k, s1, t1, hk, hI, hP9, hD9, hl9⟩ : ∃ (k : Nat) (s1 : Nat → FP) (t1 : Nat → Bool), (1 ≤ k ∧ k ≤ nn + 1) ∧ (∀ i, (17 * q + 1 ≤ i ∧ i < 17 * q + k → t1 i = (mth (17 * qa + (i - 17 * q)) && mth (17 * qb + (i - 17 * q))) ∧ s1 i = sd_jn h (msh (17 * qa + (i - 17 * q))) (msh (17 * qb + (i - 17 * q)))) ∧ (¬ (17 * q + 1 ≤ i ∧ i < 17 * q + k) → t1 i = mth i ∧ s1 i = msh i)) ∧ va_P D vwCl (mw am tc (nI 0) mdg msz s1 t1 minv isf fsp mfo mwr mpl mny mch mcu mro) H ∧ va_D A (mw am tc (nI 0) mdg msz s1 t1 minv isf fsp mfo mwr mpl mny mch mcu mro) ∧ lv_has ls 12 [(7, .int (nI k)), (0, .ref (am 0)), (1, .int (nI q)), (2, .int (nI qa)), (3, .int (nI qb)), (4, .int (nI h)), (5, .int (nI dd)), (6, .int (nI nn))] := ⟨1, msh, mth, ⟨Nat.le_refl 1, by omega⟩, fun i => ⟨fun z => absurd z (by omega), fun _ => ⟨rfl, rfl⟩⟩, hP, hD, (lv_sub hl [0, 3, 4, 5, 6, 7, 2, 1] rfl)⟩
                  replace hl := hl9
                  clear hl9
                  replace hP := hP9
                  replace hD := hD9
                  clear hP9 hD9
                  obtain ⟨k9, hk9⟩ : ∃ k9 : Nat, nn + 1 < k + k9 := ⟨nn + 1, by omega⟩
                  induction k9 generalizing k s1 t1 ls H locs with
                  | zero => exact absurd hk9 (by omega)
                  | succ k9 ih =>
                    refine lv_iload hx hb dX5_join_137 (lv_at hl 0 rfl) ?_
                    refine lv_iload hx hb dX5_join_139 (lv_at hl 7 rfl) ?_
                    refine sd_icmp_gt (tgt := 269) hx hb (by omega) (by omega) dX5_join_141 (by decide) (fun c5 => ?_) (fun c5 => ?_)
                    · have ek : 17 * q + k = 17 * q + nn + 1 := by omega
                      simp only [ek, Nat.lt_succ_iff] at hI
                      rw [hnn] at hI
                      refine lv_aload_n hx hb dX5_join_269 rfl (lv_at hl 1 rfl) ?_
                      refine va_get (D := D) (ci := 5) (v := .ref (am 2)) (C := RX5) (T := TX5) (N := 15) hx hb hts (fun w h => mm (inX5 w h)) hown hK hP 0 rfl rfl 2 (by decide) (hts _ (mm wf_X5_13)) (fun _ h9 => h9) rfl dX5_join_270 ?_
                      refine lv_iload_n hx hb dX5_join_273 rfl (lv_at hl 2 rfl) ?_
                      refine lv_iload hx hb dX5_join_274 (lv_at hl 7 rfl) ?_
                      refine sd_iast hx hb hK hP hD hS 2 2 rfl rfl (k := q) (by omega) (by decide) (ws2 := mw am tc (nI 0) mdg (sd_up msz q nn) s1 t1 minv isf fsp mfo mwr mpl mny mch mcu mro) (by rw [sd_stN]; exact rfl) dX5_join_276 (fun H locs hP hD hS => ?_)
                      refine lv_aload_n hx hb dX5_join_277 rfl (lv_at hl 1 rfl) ?_
                      refine va_get (D := D) (ci := 5) (v := .ref (am 1)) (C := RX5) (T := TX5) (N := 15) hx hb hts (fun w h => mm (inX5 w h)) hown hK hP 0 rfl rfl 1 (by decide) (hts _ (mm wf_X5_7)) (fun _ h9 => h9) rfl dX5_join_278 ?_
                      refine lv_iload_n hx hb dX5_join_281 rfl (lv_at hl 2 rfl) ?_
                      refine lv_iload hx hb dX5_join_282 (lv_at hl 6 rfl) ?_
                      refine sd_iast hx hb hK hP hD hS 1 2 rfl rfl (k := q) (by omega) (by decide) (ws2 := mw am tc (nI 0) (sd_up mdg q dd) (sd_up msz q nn) s1 t1 minv isf fsp mfo mwr mpl mny mch mcu mro) (by rw [sd_stN]; exact rfl) dX5_join_284 (fun H locs hP hD hS => ?_)
                      refine lv_iconst (v := nI 1) hx hb dX5_join_285 (by decide) ?_
                      exact W.zret hx hb hr rfl (fun T9 hT9 hW => ⟨⟨_, (nI 0, sd_up mdg q dd, sd_up msz q nn, s1, t1, minv, isf, fsp, mfo, mwr, mpl, mny, mch, mcu, mro), rfl, ⟨rfl, Or.inl ⟨q, qa, qb, h, ⟨hq, rfl, hqa, rfl, hqb, rfl, ch, rfl, hdd ▸ cd⟩, rfl, by rw [← hdd], by rw [hnn], ⟨rfl, rfl, rfl, rfl, rfl⟩, hI⟩⟩, by rw [hT9]; exact hP, va_K.moved hW.alike hK, hD⟩, hS.F hT9⟩) hS.2.2 dX5_join_286
                    · have hR9 : ∀ i, i < 8 → t1 (17 * i + k) = mth (17 * i + k) ∧ s1 (17 * i + k) = msh (17 * i + k) := fun i hi => (hI (17 * i + k)).2 (by omega)
                      have ha9 := hR9 qa hqa
                      have hb9 := hR9 qb hqb
                      refine lv_aload_n hx hb dX5_join_144 rfl (lv_at hl 1 rfl) ?_
                      refine va_get (D := D) (ci := 5) (v := .ref (am 3)) (C := RX5) (T := TX5) (N := 15) hx hb hts (fun w h => mm (inX5 w h)) hown hK hP 0 rfl rfl 3 (by decide) (hts _ (mm wf_X5_16)) (fun _ h9 => h9) rfl dX5_join_145 ?_
                      refine lv_iload_n hx hb dX5_join_148 rfl (lv_at hl 3 rfl) ?_
                      refine lv_iload hx hb dX5_join_149 (lv_at hl 0 rfl) ?_
                      refine sd_ri (va_runS (As := [.int (nI qa), .int (nI k)]) (rest := [.ref (am 3)]) ⟨hx, hb, hml, hown, hts⟩ (k_X5_home l qa k) (sd_cwS hts wd_X5_home wn_X5 wm_X5_91 wi_X5_home nq_X5_home rfl rfl ⟨Nat.le_of_ble_eq_true rfl, Nat.le_of_ble_eq_true rfl⟩) sd_preN rfl rfl hl.1 rfl (lv_room (Nat.le_of_ble_eq_true rfl)) dX5_join_151 ⟨Nat.zero_le _, Nat.zero_le _⟩) (fun r89 hr89 => ?_)
                      subst hr89
                      refine sd_lald hx hb hK hP 3 0 rfl rfl (k := 17 * qa + k) (by omega) (by decide) dX5_join_154 ?_
                      refine lv_lstore (lv' := [(8, .long (sd_L (s1 (17 * qa + k)))), (7, .int (nI k)), (0, .ref (am 0)), (1, .int (nI q)), (2, .int (nI qa)), (3, .int (nI qb)), (4, .int (nI h)), (5, .int (nI dd)), (6, .int (nI nn))]) hx hb dX5_join_155 hl (by decide) rfl (fun ls hl => ?_)
                      refine lv_aload_n hx hb dX5_join_157 rfl (lv_at hl 2 rfl) ?_
                      refine va_get (D := D) (ci := 5) (v := .ref (am 3)) (C := RX5) (T := TX5) (N := 15) hx hb hts (fun w h => mm (inX5 w h)) hown hK hP 0 rfl rfl 3 (by decide) (hts _ (mm wf_X5_16)) (fun _ h9 => h9) rfl dX5_join_158 ?_
                      refine lv_iload_n hx hb dX5_join_161 rfl (lv_at hl 5 rfl) ?_
                      refine lv_iload hx hb dX5_join_162 (lv_at hl 1 rfl) ?_
                      refine sd_ri (va_runS (As := [.int (nI qb), .int (nI k)]) (rest := [.ref (am 3)]) ⟨hx, hb, hml, hown, hts⟩ (k_X5_home l qb k) (sd_cwS hts wd_X5_home wn_X5 wm_X5_91 wi_X5_home nq_X5_home rfl rfl ⟨Nat.le_of_ble_eq_true rfl, Nat.le_of_ble_eq_true rfl⟩) sd_preN rfl rfl hl.1 rfl (lv_room (Nat.le_of_ble_eq_true rfl)) dX5_join_164 ⟨Nat.zero_le _, Nat.zero_le _⟩) (fun r90 hr90 => ?_)
                      subst hr90
                      refine sd_lald hx hb hK hP 3 0 rfl rfl (k := 17 * qb + k) (by omega) (by decide) dX5_join_167 ?_
                      refine lv_lstore (lv' := [(10, .long (sd_L (s1 (17 * qb + k)))), (8, .long (sd_L (s1 (17 * qa + k)))), (7, .int (nI k)), (0, .ref (am 0)), (1, .int (nI q)), (2, .int (nI qa)), (3, .int (nI qb)), (4, .int (nI h)), (5, .int (nI dd)), (6, .int (nI nn))]) hx hb dX5_join_168 hl (by decide) rfl (fun ls hl => ?_)
                      refine lv_aload_n hx hb dX5_join_170 rfl (lv_at hl 3 rfl) ?_
                      refine va_get (D := D) (ci := 5) (v := .ref (am 4)) (C := RX5) (T := TX5) (N := 15) hx hb hts (fun w h => mm (inX5 w h)) hown hK hP 0 rfl rfl 4 (by decide) (hts _ (mm wf_X5_20)) (fun _ h9 => h9) rfl dX5_join_171 ?_
                      refine lv_iload_n hx hb dX5_join_174 rfl (lv_at hl 4 rfl) ?_
                      refine lv_iload hx hb dX5_join_175 (lv_at hl 2 rfl) ?_
                      refine sd_ri (va_runS (As := [.int (nI q), .int (nI k)]) (rest := [.ref (am 4)]) ⟨hx, hb, hml, hown, hts⟩ (k_X5_home l q k) (sd_cwS hts wd_X5_home wn_X5 wm_X5_91 wi_X5_home nq_X5_home rfl rfl ⟨Nat.le_of_ble_eq_true rfl, Nat.le_of_ble_eq_true rfl⟩) sd_preN rfl rfl hl.1 rfl (lv_room (Nat.le_of_ble_eq_true rfl)) dX5_join_177 ⟨Nat.zero_le _, Nat.zero_le _⟩) (fun r91 hr91 => ?_)
                      subst hr91
                      refine lv_aload_n hx hb dX5_join_180 rfl (lv_at hl 3 rfl) ?_
                      refine va_get (D := D) (ci := 5) (v := .ref (am 4)) (C := RX5) (T := TX5) (N := 15) hx hb hts (fun w h => mm (inX5 w h)) hown hK hP 0 rfl rfl 4 (by decide) (hts _ (mm wf_X5_20)) (fun _ h9 => h9) rfl dX5_join_181 ?_
                      refine lv_iload_n hx hb dX5_join_184 rfl (lv_at hl 5 rfl) ?_
                      refine lv_iload hx hb dX5_join_185 (lv_at hl 2 rfl) ?_
                      refine sd_ri (va_runS (As := [.int (nI qa), .int (nI k)]) (rest := [.ref (am 4), .int (nI (17 * q + k)), .ref (am 4)]) ⟨hx, hb, hml, hown, hts⟩ (k_X5_home l qa k) (sd_cwS hts wd_X5_home wn_X5 wm_X5_91 wi_X5_home nq_X5_home rfl rfl ⟨Nat.le_of_ble_eq_true rfl, Nat.le_of_ble_eq_true rfl⟩) sd_preN rfl rfl hl.1 rfl (lv_room (Nat.le_of_ble_eq_true rfl)) dX5_join_187 ⟨Nat.zero_le _, Nat.zero_le _⟩) (fun r92 hr92 => ?_)
                      subst hr92
                      refine sd_zald hx hb hK hP 4 1 rfl rfl (k := 17 * qa + k) (by omega) (by decide) dX5_join_190 ?_
                      refine sd_if_eqB (tgt := 212) hx hb dX5_join_191 (by decide) (fun c6 => ?_) (fun c6 => ?_)
                      · refine lv_iconst (v := nI 0) hx hb dX5_join_212 (by decide) ?_
                        refine sd_tob (b := mth (17 * qa + k) && mth (17 * qb + k)) (by rw [← ha9.1, c6]; rfl) ?_
                        refine sd_zast hx hb hK hP hD hS 4 1 rfl rfl (k := 17 * q + k) (by omega) (by decide) (ws2 := mw am tc (nI 0) mdg msz s1 (sd_up t1 (17 * q + k) (mth (17 * qa + k) && mth (17 * qb + k))) minv isf fsp mfo mwr mpl mny mch mcu mro) (by rw [sd_stZ]; exact rfl) dX5_join_213 (fun H locs hP hD hS => ?_)
                        refine lv_aload_n hx hb dX5_join_214 rfl (lv_at hl 3 rfl) ?_
                        refine va_get (D := D) (ci := 5) (v := .ref (am 3)) (C := RX5) (T := TX5) (N := 15) hx hb hts (fun w h => mm (inX5 w h)) hown hK hP 0 rfl rfl 3 (by decide) (hts _ (mm wf_X5_16)) (fun _ h9 => h9) rfl dX5_join_215 ?_
                        refine lv_iload_n hx hb dX5_join_218 rfl (lv_at hl 4 rfl) ?_
                        refine lv_iload hx hb dX5_join_219 (lv_at hl 2 rfl) ?_
                        refine sd_ri (va_runS (As := [.int (nI q), .int (nI k)]) (rest := [.ref (am 3)]) ⟨hx, hb, hml, hown, hts⟩ (k_X5_home l q k) (sd_cwS hts wd_X5_home wn_X5 wm_X5_91 wi_X5_home nq_X5_home rfl rfl ⟨Nat.le_of_ble_eq_true rfl, Nat.le_of_ble_eq_true rfl⟩) sd_preN rfl rfl hl.1 rfl (lv_room (Nat.le_of_ble_eq_true rfl)) dX5_join_221 ⟨Nat.zero_le _, Nat.zero_le _⟩) (fun r93 hr93 => ?_)
                        subst hr93
                        refine lv_iload hx hb dX5_join_224 (lv_at hl 7 rfl) ?_
                        refine lv_if_ne (tgt := 239) hx hb dX5_join_226 (by decide) (fun c8 => ?_) (fun c8 => ?_)
                        · refine lv_iload hx hb dX5_join_239 (lv_at hl 7 rfl) ?_
                          refine lv_iconst (v := nI 1) hx hb dX5_join_241 (by decide) ?_
                          refine sd_icmp_ne (tgt := 255) hx hb (by omega) (by omega) dX5_join_242 (by decide) (fun c9 => ?_) (fun c9 => ?_)
                          · refine lv_lload hx hb dX5_join_255 (lv_at hl 1 rfl) ?_
                            refine lv_lload hx hb dX5_join_257 (lv_at hl 0 rfl) ?_
                            refine sd_rl (va_runS (As := [.long (sd_L (s1 (17 * qa + k))), .long (sd_L (s1 (17 * qb + k)))]) (rest := [.int (nI (17 * q + k)), .ref (am 3)]) ⟨hx, hb, hml, hown, hts⟩ (k_X5_times l (s1 (17 * qa + k)) (s1 (17 * qb + k))) (sd_cwS hts wd_X5_times wn_X5 wm_X5_70 wi_X5_times nq_X5_times rfl rfl ⟨Nat.le_of_ble_eq_true rfl, Nat.le_of_ble_eq_true rfl⟩) sd_preN rfl rfl hl.1 rfl (lv_room (Nat.le_of_ble_eq_true rfl)) dX5_join_259 ⟨Nat.zero_le _, Nat.zero_le _⟩) (fun r94 hr94 => ?_)
                            subst hr94
                            refine sd_tol (y := sd_L (sd_jn h (s1 (17 * qa + k)) (s1 (17 * qb + k)))) (by rw [sd_jn, if_neg (fun z => c8 (by rw [z]; exact nI_0)), if_neg c9]) ?_
                            refine sd_last hx hb hK hP hD hS 3 0 rfl rfl (k := 17 * q + k) (by omega) (by decide) (ws2 := mw am tc (nI 0) mdg msz (sd_up s1 (17 * q + k) (sd_jn h (s1 (17 * qa + k)) (s1 (17 * qb + k)))) (sd_up t1 (17 * q + k) (mth (17 * qa + k) && mth (17 * qb + k))) minv isf fsp mfo mwr mpl mny mch mcu mro) (by rw [sd_stL]; exact rfl) dX5_join_262 (fun H locs hP hD hS => ?_)
                            refine lv_iinc (v := nI (k + 1)) (lv' := [(7, .int (nI (k + 1))), (10, .long (sd_L (s1 (17 * qb + k)))), (8, .long (sd_L (s1 (17 * qa + k)))), (0, .ref (am 0)), (1, .int (nI q)), (2, .int (nI qa)), (3, .int (nI qb)), (4, .int (nI h)), (5, .int (nI dd)), (6, .int (nI nn))]) hx hb dX5_join_263 hl (k := 2) rfl (nI_1 _) (by decide) rfl (fun ls hl => ?_)
                            refine lv_goto (tgt := 137) hx hb dX5_join_266 (by decide) ?_
                            have hI9 : ∀ i, (17 * q + 1 ≤ i ∧ i < 17 * q + (k + 1) → (sd_up t1 (17 * q + k) (mth (17 * qa + k) && mth (17 * qb + k))) i = (mth (17 * qa + (i - 17 * q)) && mth (17 * qb + (i - 17 * q))) ∧ (sd_up s1 (17 * q + k) (sd_jn h (s1 (17 * qa + k)) (s1 (17 * qb + k)))) i = sd_jn h (msh (17 * qa + (i - 17 * q))) (msh (17 * qb + (i - 17 * q)))) ∧ (¬ (17 * q + 1 ≤ i ∧ i < 17 * q + (k + 1)) → (sd_up t1 (17 * q + k) (mth (17 * qa + k) && mth (17 * qb + k))) i = mth i ∧ (sd_up s1 (17 * q + k) (sd_jn h (s1 (17 * qa + k)) (s1 (17 * qb + k)))) i = msh i) := by
                              intro i
                              by_cases ei : i = 17 * q + k
                              · rw [ei, sd_up_s, sd_up_s, Nat.add_sub_cancel_left, ha9.2, hb9.2]
                                exact ⟨fun _ => ⟨rfl, rfl⟩, fun z => absurd (by omega) z⟩
                              · rw [sd_up_n _ _ ei, sd_up_n _ _ ei]
                                exact ⟨fun z => (hI i).1 (by omega), fun z => (hI i).2 (by omega)⟩
                            exact ih (k := k + 1) (s1 := sd_up s1 (17 * q + k) (sd_jn h (s1 (17 * qa + k)) (s1 (17 * qb + k)))) (t1 := sd_up t1 (17 * q + k) (mth (17 * qa + k) && mth (17 * qb + k))) (hk := by omega) (hI := hI9) (H := H) (locs := locs) (hP := hP) (hD := hD) (hS := hS) (ls := ls) (hl := (lv_sub hl [0, 3, 4, 5, 6, 7, 8, 9] rfl)) (hk9 := by omega)
                          · refine lv_lload hx hb dX5_join_245 (lv_at hl 1 rfl) ?_
                            refine lv_lload hx hb dX5_join_247 (lv_at hl 0 rfl) ?_
                            refine sd_rl (va_runS (As := [.long (sd_L (s1 (17 * qa + k))), .long (sd_L (s1 (17 * qb + k)))]) (rest := [.int (nI (17 * q + k)), .ref (am 3)]) ⟨hx, hb, hml, hown, hts⟩ (k_X5_minus l (s1 (17 * qa + k)) (s1 (17 * qb + k))) (sd_cwS hts wd_X5_minus wn_X5 wm_X5_103 wi_X5_minus nq_X5_minus rfl rfl ⟨Nat.le_of_ble_eq_true rfl, Nat.le_of_ble_eq_true rfl⟩) sd_preN rfl rfl hl.1 rfl (lv_room (Nat.le_of_ble_eq_true rfl)) dX5_join_249 ⟨Nat.zero_le _, Nat.zero_le _⟩) (fun r95 hr95 => ?_)
                            subst hr95
                            refine lv_goto (tgt := 262) hx hb dX5_join_252 (by decide) ?_
                            refine sd_tol (y := sd_L (sd_jn h (s1 (17 * qa + k)) (s1 (17 * qb + k)))) (by rw [sd_jn, if_neg (fun z => c8 (by rw [z]; exact nI_0)), if_pos c9]) ?_
                            refine sd_last hx hb hK hP hD hS 3 0 rfl rfl (k := 17 * q + k) (by omega) (by decide) (ws2 := mw am tc (nI 0) mdg msz (sd_up s1 (17 * q + k) (sd_jn h (s1 (17 * qa + k)) (s1 (17 * qb + k)))) (sd_up t1 (17 * q + k) (mth (17 * qa + k) && mth (17 * qb + k))) minv isf fsp mfo mwr mpl mny mch mcu mro) (by rw [sd_stL]; exact rfl) dX5_join_262 (fun H locs hP hD hS => ?_)
                            refine lv_iinc (v := nI (k + 1)) (lv' := [(7, .int (nI (k + 1))), (10, .long (sd_L (s1 (17 * qb + k)))), (8, .long (sd_L (s1 (17 * qa + k)))), (0, .ref (am 0)), (1, .int (nI q)), (2, .int (nI qa)), (3, .int (nI qb)), (4, .int (nI h)), (5, .int (nI dd)), (6, .int (nI nn))]) hx hb dX5_join_263 hl (k := 2) rfl (nI_1 _) (by decide) rfl (fun ls hl => ?_)
                            refine lv_goto (tgt := 137) hx hb dX5_join_266 (by decide) ?_
                            have hI9 : ∀ i, (17 * q + 1 ≤ i ∧ i < 17 * q + (k + 1) → (sd_up t1 (17 * q + k) (mth (17 * qa + k) && mth (17 * qb + k))) i = (mth (17 * qa + (i - 17 * q)) && mth (17 * qb + (i - 17 * q))) ∧ (sd_up s1 (17 * q + k) (sd_jn h (s1 (17 * qa + k)) (s1 (17 * qb + k)))) i = sd_jn h (msh (17 * qa + (i - 17 * q))) (msh (17 * qb + (i - 17 * q)))) ∧ (¬ (17 * q + 1 ≤ i ∧ i < 17 * q + (k + 1)) → (sd_up t1 (17 * q + k) (mth (17 * qa + k) && mth (17 * qb + k))) i = mth i ∧ (sd_up s1 (17 * q + k) (sd_jn h (s1 (17 * qa + k)) (s1 (17 * qb + k)))) i = msh i) := by
                              intro i
                              by_cases ei : i = 17 * q + k
                              · rw [ei, sd_up_s, sd_up_s, Nat.add_sub_cancel_left, ha9.2, hb9.2]
                                exact ⟨fun _ => ⟨rfl, rfl⟩, fun z => absurd (by omega) z⟩
                              · rw [sd_up_n _ _ ei, sd_up_n _ _ ei]
                                exact ⟨fun z => (hI i).1 (by omega), fun z => (hI i).2 (by omega)⟩
                            exact ih (k := k + 1) (s1 := sd_up s1 (17 * q + k) (sd_jn h (s1 (17 * qa + k)) (s1 (17 * qb + k)))) (t1 := sd_up t1 (17 * q + k) (mth (17 * qa + k) && mth (17 * qb + k))) (hk := by omega) (hI := hI9) (H := H) (locs := locs) (hP := hP) (hD := hD) (hS := hS) (ls := ls) (hl := (lv_sub hl [0, 3, 4, 5, 6, 7, 8, 9] rfl)) (hk9 := by omega)
                        · refine lv_lload hx hb dX5_join_229 (lv_at hl 1 rfl) ?_
                          refine lv_lload hx hb dX5_join_231 (lv_at hl 0 rfl) ?_
                          refine sd_rl (va_runS (As := [.long (sd_L (s1 (17 * qa + k))), .long (sd_L (s1 (17 * qb + k)))]) (rest := [.int (nI (17 * q + k)), .ref (am 3)]) ⟨hx, hb, hml, hown, hts⟩ (k_X5_plus l (s1 (17 * qa + k)) (s1 (17 * qb + k))) (sd_cwS hts wd_X5_plus wn_X5 wm_X5_65 wi_X5_plus nq_X5_plus rfl rfl ⟨Nat.le_of_ble_eq_true rfl, Nat.le_of_ble_eq_true rfl⟩) sd_preN rfl rfl hl.1 rfl (lv_room (Nat.le_of_ble_eq_true rfl)) dX5_join_233 ⟨Nat.zero_le _, Nat.zero_le _⟩) (fun r96 hr96 => ?_)
                          subst hr96
                          refine lv_goto (tgt := 262) hx hb dX5_join_236 (by decide) ?_
                          refine sd_tol (y := sd_L (sd_jn h (s1 (17 * qa + k)) (s1 (17 * qb + k)))) (by rw [sd_jn, if_pos (sd_nI_inj (by omega) (by decide) (c8.trans nI_0.symm))]) ?_
                          refine sd_last hx hb hK hP hD hS 3 0 rfl rfl (k := 17 * q + k) (by omega) (by decide) (ws2 := mw am tc (nI 0) mdg msz (sd_up s1 (17 * q + k) (sd_jn h (s1 (17 * qa + k)) (s1 (17 * qb + k)))) (sd_up t1 (17 * q + k) (mth (17 * qa + k) && mth (17 * qb + k))) minv isf fsp mfo mwr mpl mny mch mcu mro) (by rw [sd_stL]; exact rfl) dX5_join_262 (fun H locs hP hD hS => ?_)
                          refine lv_iinc (v := nI (k + 1)) (lv' := [(7, .int (nI (k + 1))), (10, .long (sd_L (s1 (17 * qb + k)))), (8, .long (sd_L (s1 (17 * qa + k)))), (0, .ref (am 0)), (1, .int (nI q)), (2, .int (nI qa)), (3, .int (nI qb)), (4, .int (nI h)), (5, .int (nI dd)), (6, .int (nI nn))]) hx hb dX5_join_263 hl (k := 2) rfl (nI_1 _) (by decide) rfl (fun ls hl => ?_)
                          refine lv_goto (tgt := 137) hx hb dX5_join_266 (by decide) ?_
                          have hI9 : ∀ i, (17 * q + 1 ≤ i ∧ i < 17 * q + (k + 1) → (sd_up t1 (17 * q + k) (mth (17 * qa + k) && mth (17 * qb + k))) i = (mth (17 * qa + (i - 17 * q)) && mth (17 * qb + (i - 17 * q))) ∧ (sd_up s1 (17 * q + k) (sd_jn h (s1 (17 * qa + k)) (s1 (17 * qb + k)))) i = sd_jn h (msh (17 * qa + (i - 17 * q))) (msh (17 * qb + (i - 17 * q)))) ∧ (¬ (17 * q + 1 ≤ i ∧ i < 17 * q + (k + 1)) → (sd_up t1 (17 * q + k) (mth (17 * qa + k) && mth (17 * qb + k))) i = mth i ∧ (sd_up s1 (17 * q + k) (sd_jn h (s1 (17 * qa + k)) (s1 (17 * qb + k)))) i = msh i) := by
                            intro i
                            by_cases ei : i = 17 * q + k
                            · rw [ei, sd_up_s, sd_up_s, Nat.add_sub_cancel_left, ha9.2, hb9.2]
                              exact ⟨fun _ => ⟨rfl, rfl⟩, fun z => absurd (by omega) z⟩
                            · rw [sd_up_n _ _ ei, sd_up_n _ _ ei]
                              exact ⟨fun z => (hI i).1 (by omega), fun z => (hI i).2 (by omega)⟩
                          exact ih (k := k + 1) (s1 := sd_up s1 (17 * q + k) (sd_jn h (s1 (17 * qa + k)) (s1 (17 * qb + k)))) (t1 := sd_up t1 (17 * q + k) (mth (17 * qa + k) && mth (17 * qb + k))) (hk := by omega) (hI := hI9) (H := H) (locs := locs) (hP := hP) (hD := hD) (hS := hS) (ls := ls) (hl := (lv_sub hl [0, 3, 4, 5, 6, 7, 8, 9] rfl)) (hk9 := by omega)
                      · refine lv_aload_n hx hb dX5_join_194 rfl (lv_at hl 3 rfl) ?_
                        refine va_get (D := D) (ci := 5) (v := .ref (am 4)) (C := RX5) (T := TX5) (N := 15) hx hb hts (fun w h => mm (inX5 w h)) hown hK hP 0 rfl rfl 4 (by decide) (hts _ (mm wf_X5_20)) (fun _ h9 => h9) rfl dX5_join_195 ?_
                        refine lv_iload_n hx hb dX5_join_198 rfl (lv_at hl 6 rfl) ?_
                        refine lv_iload hx hb dX5_join_199 (lv_at hl 2 rfl) ?_
                        refine sd_ri (va_runS (As := [.int (nI qb), .int (nI k)]) (rest := [.ref (am 4), .int (nI (17 * q + k)), .ref (am 4)]) ⟨hx, hb, hml, hown, hts⟩ (k_X5_home l qb k) (sd_cwS hts wd_X5_home wn_X5 wm_X5_91 wi_X5_home nq_X5_home rfl rfl ⟨Nat.le_of_ble_eq_true rfl, Nat.le_of_ble_eq_true rfl⟩) sd_preN rfl rfl hl.1 rfl (lv_room (Nat.le_of_ble_eq_true rfl)) dX5_join_201 ⟨Nat.zero_le _, Nat.zero_le _⟩) (fun r97 hr97 => ?_)
                        subst hr97
                        refine sd_zald hx hb hK hP 4 1 rfl rfl (k := 17 * qb + k) (by omega) (by decide) dX5_join_204 ?_
                        refine sd_if_eqB (tgt := 212) hx hb dX5_join_205 (by decide) (fun c7 => ?_) (fun c7 => ?_)
                        · refine lv_iconst (v := nI 0) hx hb dX5_join_212 (by decide) ?_
                          refine sd_tob (b := mth (17 * qa + k) && mth (17 * qb + k)) (by rw [← ha9.1, ← hb9.1, c6, c7]; rfl) ?_
                          refine sd_zast hx hb hK hP hD hS 4 1 rfl rfl (k := 17 * q + k) (by omega) (by decide) (ws2 := mw am tc (nI 0) mdg msz s1 (sd_up t1 (17 * q + k) (mth (17 * qa + k) && mth (17 * qb + k))) minv isf fsp mfo mwr mpl mny mch mcu mro) (by rw [sd_stZ]; exact rfl) dX5_join_213 (fun H locs hP hD hS => ?_)
                          refine lv_aload_n hx hb dX5_join_214 rfl (lv_at hl 3 rfl) ?_
                          refine va_get (D := D) (ci := 5) (v := .ref (am 3)) (C := RX5) (T := TX5) (N := 15) hx hb hts (fun w h => mm (inX5 w h)) hown hK hP 0 rfl rfl 3 (by decide) (hts _ (mm wf_X5_16)) (fun _ h9 => h9) rfl dX5_join_215 ?_
                          refine lv_iload_n hx hb dX5_join_218 rfl (lv_at hl 4 rfl) ?_
                          refine lv_iload hx hb dX5_join_219 (lv_at hl 2 rfl) ?_
                          refine sd_ri (va_runS (As := [.int (nI q), .int (nI k)]) (rest := [.ref (am 3)]) ⟨hx, hb, hml, hown, hts⟩ (k_X5_home l q k) (sd_cwS hts wd_X5_home wn_X5 wm_X5_91 wi_X5_home nq_X5_home rfl rfl ⟨Nat.le_of_ble_eq_true rfl, Nat.le_of_ble_eq_true rfl⟩) sd_preN rfl rfl hl.1 rfl (lv_room (Nat.le_of_ble_eq_true rfl)) dX5_join_221 ⟨Nat.zero_le _, Nat.zero_le _⟩) (fun r98 hr98 => ?_)
                          subst hr98
                          refine lv_iload hx hb dX5_join_224 (lv_at hl 7 rfl) ?_
                          refine lv_if_ne (tgt := 239) hx hb dX5_join_226 (by decide) (fun c8 => ?_) (fun c8 => ?_)
                          · refine lv_iload hx hb dX5_join_239 (lv_at hl 7 rfl) ?_
                            refine lv_iconst (v := nI 1) hx hb dX5_join_241 (by decide) ?_
                            refine sd_icmp_ne (tgt := 255) hx hb (by omega) (by omega) dX5_join_242 (by decide) (fun c9 => ?_) (fun c9 => ?_)
                            · refine lv_lload hx hb dX5_join_255 (lv_at hl 1 rfl) ?_
                              refine lv_lload hx hb dX5_join_257 (lv_at hl 0 rfl) ?_
                              refine sd_rl (va_runS (As := [.long (sd_L (s1 (17 * qa + k))), .long (sd_L (s1 (17 * qb + k)))]) (rest := [.int (nI (17 * q + k)), .ref (am 3)]) ⟨hx, hb, hml, hown, hts⟩ (k_X5_times l (s1 (17 * qa + k)) (s1 (17 * qb + k))) (sd_cwS hts wd_X5_times wn_X5 wm_X5_70 wi_X5_times nq_X5_times rfl rfl ⟨Nat.le_of_ble_eq_true rfl, Nat.le_of_ble_eq_true rfl⟩) sd_preN rfl rfl hl.1 rfl (lv_room (Nat.le_of_ble_eq_true rfl)) dX5_join_259 ⟨Nat.zero_le _, Nat.zero_le _⟩) (fun r99 hr99 => ?_)
                              subst hr99
                              refine sd_tol (y := sd_L (sd_jn h (s1 (17 * qa + k)) (s1 (17 * qb + k)))) (by rw [sd_jn, if_neg (fun z => c8 (by rw [z]; exact nI_0)), if_neg c9]) ?_
                              refine sd_last hx hb hK hP hD hS 3 0 rfl rfl (k := 17 * q + k) (by omega) (by decide) (ws2 := mw am tc (nI 0) mdg msz (sd_up s1 (17 * q + k) (sd_jn h (s1 (17 * qa + k)) (s1 (17 * qb + k)))) (sd_up t1 (17 * q + k) (mth (17 * qa + k) && mth (17 * qb + k))) minv isf fsp mfo mwr mpl mny mch mcu mro) (by rw [sd_stL]; exact rfl) dX5_join_262 (fun H locs hP hD hS => ?_)
                              refine lv_iinc (v := nI (k + 1)) (lv' := [(7, .int (nI (k + 1))), (10, .long (sd_L (s1 (17 * qb + k)))), (8, .long (sd_L (s1 (17 * qa + k)))), (0, .ref (am 0)), (1, .int (nI q)), (2, .int (nI qa)), (3, .int (nI qb)), (4, .int (nI h)), (5, .int (nI dd)), (6, .int (nI nn))]) hx hb dX5_join_263 hl (k := 2) rfl (nI_1 _) (by decide) rfl (fun ls hl => ?_)
                              refine lv_goto (tgt := 137) hx hb dX5_join_266 (by decide) ?_
                              have hI9 : ∀ i, (17 * q + 1 ≤ i ∧ i < 17 * q + (k + 1) → (sd_up t1 (17 * q + k) (mth (17 * qa + k) && mth (17 * qb + k))) i = (mth (17 * qa + (i - 17 * q)) && mth (17 * qb + (i - 17 * q))) ∧ (sd_up s1 (17 * q + k) (sd_jn h (s1 (17 * qa + k)) (s1 (17 * qb + k)))) i = sd_jn h (msh (17 * qa + (i - 17 * q))) (msh (17 * qb + (i - 17 * q)))) ∧ (¬ (17 * q + 1 ≤ i ∧ i < 17 * q + (k + 1)) → (sd_up t1 (17 * q + k) (mth (17 * qa + k) && mth (17 * qb + k))) i = mth i ∧ (sd_up s1 (17 * q + k) (sd_jn h (s1 (17 * qa + k)) (s1 (17 * qb + k)))) i = msh i) := by
                                intro i
                                by_cases ei : i = 17 * q + k
                                · rw [ei, sd_up_s, sd_up_s, Nat.add_sub_cancel_left, ha9.2, hb9.2]
                                  exact ⟨fun _ => ⟨rfl, rfl⟩, fun z => absurd (by omega) z⟩
                                · rw [sd_up_n _ _ ei, sd_up_n _ _ ei]
                                  exact ⟨fun z => (hI i).1 (by omega), fun z => (hI i).2 (by omega)⟩
                              exact ih (k := k + 1) (s1 := sd_up s1 (17 * q + k) (sd_jn h (s1 (17 * qa + k)) (s1 (17 * qb + k)))) (t1 := sd_up t1 (17 * q + k) (mth (17 * qa + k) && mth (17 * qb + k))) (hk := by omega) (hI := hI9) (H := H) (locs := locs) (hP := hP) (hD := hD) (hS := hS) (ls := ls) (hl := (lv_sub hl [0, 3, 4, 5, 6, 7, 8, 9] rfl)) (hk9 := by omega)
                            · refine lv_lload hx hb dX5_join_245 (lv_at hl 1 rfl) ?_
                              refine lv_lload hx hb dX5_join_247 (lv_at hl 0 rfl) ?_
                              refine sd_rl (va_runS (As := [.long (sd_L (s1 (17 * qa + k))), .long (sd_L (s1 (17 * qb + k)))]) (rest := [.int (nI (17 * q + k)), .ref (am 3)]) ⟨hx, hb, hml, hown, hts⟩ (k_X5_minus l (s1 (17 * qa + k)) (s1 (17 * qb + k))) (sd_cwS hts wd_X5_minus wn_X5 wm_X5_103 wi_X5_minus nq_X5_minus rfl rfl ⟨Nat.le_of_ble_eq_true rfl, Nat.le_of_ble_eq_true rfl⟩) sd_preN rfl rfl hl.1 rfl (lv_room (Nat.le_of_ble_eq_true rfl)) dX5_join_249 ⟨Nat.zero_le _, Nat.zero_le _⟩) (fun r100 hr100 => ?_)
                              subst hr100
                              refine lv_goto (tgt := 262) hx hb dX5_join_252 (by decide) ?_
                              refine sd_tol (y := sd_L (sd_jn h (s1 (17 * qa + k)) (s1 (17 * qb + k)))) (by rw [sd_jn, if_neg (fun z => c8 (by rw [z]; exact nI_0)), if_pos c9]) ?_
                              refine sd_last hx hb hK hP hD hS 3 0 rfl rfl (k := 17 * q + k) (by omega) (by decide) (ws2 := mw am tc (nI 0) mdg msz (sd_up s1 (17 * q + k) (sd_jn h (s1 (17 * qa + k)) (s1 (17 * qb + k)))) (sd_up t1 (17 * q + k) (mth (17 * qa + k) && mth (17 * qb + k))) minv isf fsp mfo mwr mpl mny mch mcu mro) (by rw [sd_stL]; exact rfl) dX5_join_262 (fun H locs hP hD hS => ?_)
                              refine lv_iinc (v := nI (k + 1)) (lv' := [(7, .int (nI (k + 1))), (10, .long (sd_L (s1 (17 * qb + k)))), (8, .long (sd_L (s1 (17 * qa + k)))), (0, .ref (am 0)), (1, .int (nI q)), (2, .int (nI qa)), (3, .int (nI qb)), (4, .int (nI h)), (5, .int (nI dd)), (6, .int (nI nn))]) hx hb dX5_join_263 hl (k := 2) rfl (nI_1 _) (by decide) rfl (fun ls hl => ?_)
                              refine lv_goto (tgt := 137) hx hb dX5_join_266 (by decide) ?_
                              have hI9 : ∀ i, (17 * q + 1 ≤ i ∧ i < 17 * q + (k + 1) → (sd_up t1 (17 * q + k) (mth (17 * qa + k) && mth (17 * qb + k))) i = (mth (17 * qa + (i - 17 * q)) && mth (17 * qb + (i - 17 * q))) ∧ (sd_up s1 (17 * q + k) (sd_jn h (s1 (17 * qa + k)) (s1 (17 * qb + k)))) i = sd_jn h (msh (17 * qa + (i - 17 * q))) (msh (17 * qb + (i - 17 * q)))) ∧ (¬ (17 * q + 1 ≤ i ∧ i < 17 * q + (k + 1)) → (sd_up t1 (17 * q + k) (mth (17 * qa + k) && mth (17 * qb + k))) i = mth i ∧ (sd_up s1 (17 * q + k) (sd_jn h (s1 (17 * qa + k)) (s1 (17 * qb + k)))) i = msh i) := by
                                intro i
                                by_cases ei : i = 17 * q + k
                                · rw [ei, sd_up_s, sd_up_s, Nat.add_sub_cancel_left, ha9.2, hb9.2]
                                  exact ⟨fun _ => ⟨rfl, rfl⟩, fun z => absurd (by omega) z⟩
                                · rw [sd_up_n _ _ ei, sd_up_n _ _ ei]
                                  exact ⟨fun z => (hI i).1 (by omega), fun z => (hI i).2 (by omega)⟩
                              exact ih (k := k + 1) (s1 := sd_up s1 (17 * q + k) (sd_jn h (s1 (17 * qa + k)) (s1 (17 * qb + k)))) (t1 := sd_up t1 (17 * q + k) (mth (17 * qa + k) && mth (17 * qb + k))) (hk := by omega) (hI := hI9) (H := H) (locs := locs) (hP := hP) (hD := hD) (hS := hS) (ls := ls) (hl := (lv_sub hl [0, 3, 4, 5, 6, 7, 8, 9] rfl)) (hk9 := by omega)
                          · refine lv_lload hx hb dX5_join_229 (lv_at hl 1 rfl) ?_
                            refine lv_lload hx hb dX5_join_231 (lv_at hl 0 rfl) ?_
                            refine sd_rl (va_runS (As := [.long (sd_L (s1 (17 * qa + k))), .long (sd_L (s1 (17 * qb + k)))]) (rest := [.int (nI (17 * q + k)), .ref (am 3)]) ⟨hx, hb, hml, hown, hts⟩ (k_X5_plus l (s1 (17 * qa + k)) (s1 (17 * qb + k))) (sd_cwS hts wd_X5_plus wn_X5 wm_X5_65 wi_X5_plus nq_X5_plus rfl rfl ⟨Nat.le_of_ble_eq_true rfl, Nat.le_of_ble_eq_true rfl⟩) sd_preN rfl rfl hl.1 rfl (lv_room (Nat.le_of_ble_eq_true rfl)) dX5_join_233 ⟨Nat.zero_le _, Nat.zero_le _⟩) (fun r101 hr101 => ?_)
                            subst hr101
                            refine lv_goto (tgt := 262) hx hb dX5_join_236 (by decide) ?_
                            refine sd_tol (y := sd_L (sd_jn h (s1 (17 * qa + k)) (s1 (17 * qb + k)))) (by rw [sd_jn, if_pos (sd_nI_inj (by omega) (by decide) (c8.trans nI_0.symm))]) ?_
                            refine sd_last hx hb hK hP hD hS 3 0 rfl rfl (k := 17 * q + k) (by omega) (by decide) (ws2 := mw am tc (nI 0) mdg msz (sd_up s1 (17 * q + k) (sd_jn h (s1 (17 * qa + k)) (s1 (17 * qb + k)))) (sd_up t1 (17 * q + k) (mth (17 * qa + k) && mth (17 * qb + k))) minv isf fsp mfo mwr mpl mny mch mcu mro) (by rw [sd_stL]; exact rfl) dX5_join_262 (fun H locs hP hD hS => ?_)
                            refine lv_iinc (v := nI (k + 1)) (lv' := [(7, .int (nI (k + 1))), (10, .long (sd_L (s1 (17 * qb + k)))), (8, .long (sd_L (s1 (17 * qa + k)))), (0, .ref (am 0)), (1, .int (nI q)), (2, .int (nI qa)), (3, .int (nI qb)), (4, .int (nI h)), (5, .int (nI dd)), (6, .int (nI nn))]) hx hb dX5_join_263 hl (k := 2) rfl (nI_1 _) (by decide) rfl (fun ls hl => ?_)
                            refine lv_goto (tgt := 137) hx hb dX5_join_266 (by decide) ?_
                            have hI9 : ∀ i, (17 * q + 1 ≤ i ∧ i < 17 * q + (k + 1) → (sd_up t1 (17 * q + k) (mth (17 * qa + k) && mth (17 * qb + k))) i = (mth (17 * qa + (i - 17 * q)) && mth (17 * qb + (i - 17 * q))) ∧ (sd_up s1 (17 * q + k) (sd_jn h (s1 (17 * qa + k)) (s1 (17 * qb + k)))) i = sd_jn h (msh (17 * qa + (i - 17 * q))) (msh (17 * qb + (i - 17 * q)))) ∧ (¬ (17 * q + 1 ≤ i ∧ i < 17 * q + (k + 1)) → (sd_up t1 (17 * q + k) (mth (17 * qa + k) && mth (17 * qb + k))) i = mth i ∧ (sd_up s1 (17 * q + k) (sd_jn h (s1 (17 * qa + k)) (s1 (17 * qb + k)))) i = msh i) := by
                              intro i
                              by_cases ei : i = 17 * q + k
                              · rw [ei, sd_up_s, sd_up_s, Nat.add_sub_cancel_left, ha9.2, hb9.2]
                                exact ⟨fun _ => ⟨rfl, rfl⟩, fun z => absurd (by omega) z⟩
                              · rw [sd_up_n _ _ ei, sd_up_n _ _ ei]
                                exact ⟨fun z => (hI i).1 (by omega), fun z => (hI i).2 (by omega)⟩
                            exact ih (k := k + 1) (s1 := sd_up s1 (17 * q + k) (sd_jn h (s1 (17 * qa + k)) (s1 (17 * qb + k)))) (t1 := sd_up t1 (17 * q + k) (mth (17 * qa + k) && mth (17 * qb + k))) (hk := by omega) (hI := hI9) (H := H) (locs := locs) (hP := hP) (hD := hD) (hS := hS) (ls := ls) (hl := (lv_sub hl [0, 3, 4, 5, 6, 7, 8, 9] rfl)) (hk9 := by omega)
                        · refine lv_iconst (v := nI 1) hx hb dX5_join_208 (by decide) ?_
                          refine lv_goto (tgt := 213) hx hb dX5_join_209 (by decide) ?_
                          refine sd_tob (b := mth (17 * qa + k) && mth (17 * qb + k)) (by rw [← ha9.1, ← hb9.1, c6, c7]; rfl) ?_
                          refine sd_zast hx hb hK hP hD hS 4 1 rfl rfl (k := 17 * q + k) (by omega) (by decide) (ws2 := mw am tc (nI 0) mdg msz s1 (sd_up t1 (17 * q + k) (mth (17 * qa + k) && mth (17 * qb + k))) minv isf fsp mfo mwr mpl mny mch mcu mro) (by rw [sd_stZ]; exact rfl) dX5_join_213 (fun H locs hP hD hS => ?_)
                          refine lv_aload_n hx hb dX5_join_214 rfl (lv_at hl 3 rfl) ?_
                          refine va_get (D := D) (ci := 5) (v := .ref (am 3)) (C := RX5) (T := TX5) (N := 15) hx hb hts (fun w h => mm (inX5 w h)) hown hK hP 0 rfl rfl 3 (by decide) (hts _ (mm wf_X5_16)) (fun _ h9 => h9) rfl dX5_join_215 ?_
                          refine lv_iload_n hx hb dX5_join_218 rfl (lv_at hl 4 rfl) ?_
                          refine lv_iload hx hb dX5_join_219 (lv_at hl 2 rfl) ?_
                          refine sd_ri (va_runS (As := [.int (nI q), .int (nI k)]) (rest := [.ref (am 3)]) ⟨hx, hb, hml, hown, hts⟩ (k_X5_home l q k) (sd_cwS hts wd_X5_home wn_X5 wm_X5_91 wi_X5_home nq_X5_home rfl rfl ⟨Nat.le_of_ble_eq_true rfl, Nat.le_of_ble_eq_true rfl⟩) sd_preN rfl rfl hl.1 rfl (lv_room (Nat.le_of_ble_eq_true rfl)) dX5_join_221 ⟨Nat.zero_le _, Nat.zero_le _⟩) (fun r102 hr102 => ?_)
                          subst hr102
                          refine lv_iload hx hb dX5_join_224 (lv_at hl 7 rfl) ?_
                          refine lv_if_ne (tgt := 239) hx hb dX5_join_226 (by decide) (fun c8 => ?_) (fun c8 => ?_)
                          · refine lv_iload hx hb dX5_join_239 (lv_at hl 7 rfl) ?_
                            refine lv_iconst (v := nI 1) hx hb dX5_join_241 (by decide) ?_
                            refine sd_icmp_ne (tgt := 255) hx hb (by omega) (by omega) dX5_join_242 (by decide) (fun c9 => ?_) (fun c9 => ?_)
                            · refine lv_lload hx hb dX5_join_255 (lv_at hl 1 rfl) ?_
                              refine lv_lload hx hb dX5_join_257 (lv_at hl 0 rfl) ?_
                              refine sd_rl (va_runS (As := [.long (sd_L (s1 (17 * qa + k))), .long (sd_L (s1 (17 * qb + k)))]) (rest := [.int (nI (17 * q + k)), .ref (am 3)]) ⟨hx, hb, hml, hown, hts⟩ (k_X5_times l (s1 (17 * qa + k)) (s1 (17 * qb + k))) (sd_cwS hts wd_X5_times wn_X5 wm_X5_70 wi_X5_times nq_X5_times rfl rfl ⟨Nat.le_of_ble_eq_true rfl, Nat.le_of_ble_eq_true rfl⟩) sd_preN rfl rfl hl.1 rfl (lv_room (Nat.le_of_ble_eq_true rfl)) dX5_join_259 ⟨Nat.zero_le _, Nat.zero_le _⟩) (fun r103 hr103 => ?_)
                              subst hr103
                              refine sd_tol (y := sd_L (sd_jn h (s1 (17 * qa + k)) (s1 (17 * qb + k)))) (by rw [sd_jn, if_neg (fun z => c8 (by rw [z]; exact nI_0)), if_neg c9]) ?_
                              refine sd_last hx hb hK hP hD hS 3 0 rfl rfl (k := 17 * q + k) (by omega) (by decide) (ws2 := mw am tc (nI 0) mdg msz (sd_up s1 (17 * q + k) (sd_jn h (s1 (17 * qa + k)) (s1 (17 * qb + k)))) (sd_up t1 (17 * q + k) (mth (17 * qa + k) && mth (17 * qb + k))) minv isf fsp mfo mwr mpl mny mch mcu mro) (by rw [sd_stL]; exact rfl) dX5_join_262 (fun H locs hP hD hS => ?_)
                              refine lv_iinc (v := nI (k + 1)) (lv' := [(7, .int (nI (k + 1))), (10, .long (sd_L (s1 (17 * qb + k)))), (8, .long (sd_L (s1 (17 * qa + k)))), (0, .ref (am 0)), (1, .int (nI q)), (2, .int (nI qa)), (3, .int (nI qb)), (4, .int (nI h)), (5, .int (nI dd)), (6, .int (nI nn))]) hx hb dX5_join_263 hl (k := 2) rfl (nI_1 _) (by decide) rfl (fun ls hl => ?_)
                              refine lv_goto (tgt := 137) hx hb dX5_join_266 (by decide) ?_
                              have hI9 : ∀ i, (17 * q + 1 ≤ i ∧ i < 17 * q + (k + 1) → (sd_up t1 (17 * q + k) (mth (17 * qa + k) && mth (17 * qb + k))) i = (mth (17 * qa + (i - 17 * q)) && mth (17 * qb + (i - 17 * q))) ∧ (sd_up s1 (17 * q + k) (sd_jn h (s1 (17 * qa + k)) (s1 (17 * qb + k)))) i = sd_jn h (msh (17 * qa + (i - 17 * q))) (msh (17 * qb + (i - 17 * q)))) ∧ (¬ (17 * q + 1 ≤ i ∧ i < 17 * q + (k + 1)) → (sd_up t1 (17 * q + k) (mth (17 * qa + k) && mth (17 * qb + k))) i = mth i ∧ (sd_up s1 (17 * q + k) (sd_jn h (s1 (17 * qa + k)) (s1 (17 * qb + k)))) i = msh i) := by
                                intro i
                                by_cases ei : i = 17 * q + k
                                · rw [ei, sd_up_s, sd_up_s, Nat.add_sub_cancel_left, ha9.2, hb9.2]
                                  exact ⟨fun _ => ⟨rfl, rfl⟩, fun z => absurd (by omega) z⟩
                                · rw [sd_up_n _ _ ei, sd_up_n _ _ ei]
                                  exact ⟨fun z => (hI i).1 (by omega), fun z => (hI i).2 (by omega)⟩
                              exact ih (k := k + 1) (s1 := sd_up s1 (17 * q + k) (sd_jn h (s1 (17 * qa + k)) (s1 (17 * qb + k)))) (t1 := sd_up t1 (17 * q + k) (mth (17 * qa + k) && mth (17 * qb + k))) (hk := by omega) (hI := hI9) (H := H) (locs := locs) (hP := hP) (hD := hD) (hS := hS) (ls := ls) (hl := (lv_sub hl [0, 3, 4, 5, 6, 7, 8, 9] rfl)) (hk9 := by omega)
                            · refine lv_lload hx hb dX5_join_245 (lv_at hl 1 rfl) ?_
                              refine lv_lload hx hb dX5_join_247 (lv_at hl 0 rfl) ?_
                              refine sd_rl (va_runS (As := [.long (sd_L (s1 (17 * qa + k))), .long (sd_L (s1 (17 * qb + k)))]) (rest := [.int (nI (17 * q + k)), .ref (am 3)]) ⟨hx, hb, hml, hown, hts⟩ (k_X5_minus l (s1 (17 * qa + k)) (s1 (17 * qb + k))) (sd_cwS hts wd_X5_minus wn_X5 wm_X5_103 wi_X5_minus nq_X5_minus rfl rfl ⟨Nat.le_of_ble_eq_true rfl, Nat.le_of_ble_eq_true rfl⟩) sd_preN rfl rfl hl.1 rfl (lv_room (Nat.le_of_ble_eq_true rfl)) dX5_join_249 ⟨Nat.zero_le _, Nat.zero_le _⟩) (fun r104 hr104 => ?_)
                              subst hr104
                              refine lv_goto (tgt := 262) hx hb dX5_join_252 (by decide) ?_
                              refine sd_tol (y := sd_L (sd_jn h (s1 (17 * qa + k)) (s1 (17 * qb + k)))) (by rw [sd_jn, if_neg (fun z => c8 (by rw [z]; exact nI_0)), if_pos c9]) ?_
                              refine sd_last hx hb hK hP hD hS 3 0 rfl rfl (k := 17 * q + k) (by omega) (by decide) (ws2 := mw am tc (nI 0) mdg msz (sd_up s1 (17 * q + k) (sd_jn h (s1 (17 * qa + k)) (s1 (17 * qb + k)))) (sd_up t1 (17 * q + k) (mth (17 * qa + k) && mth (17 * qb + k))) minv isf fsp mfo mwr mpl mny mch mcu mro) (by rw [sd_stL]; exact rfl) dX5_join_262 (fun H locs hP hD hS => ?_)
                              refine lv_iinc (v := nI (k + 1)) (lv' := [(7, .int (nI (k + 1))), (10, .long (sd_L (s1 (17 * qb + k)))), (8, .long (sd_L (s1 (17 * qa + k)))), (0, .ref (am 0)), (1, .int (nI q)), (2, .int (nI qa)), (3, .int (nI qb)), (4, .int (nI h)), (5, .int (nI dd)), (6, .int (nI nn))]) hx hb dX5_join_263 hl (k := 2) rfl (nI_1 _) (by decide) rfl (fun ls hl => ?_)
                              refine lv_goto (tgt := 137) hx hb dX5_join_266 (by decide) ?_
                              have hI9 : ∀ i, (17 * q + 1 ≤ i ∧ i < 17 * q + (k + 1) → (sd_up t1 (17 * q + k) (mth (17 * qa + k) && mth (17 * qb + k))) i = (mth (17 * qa + (i - 17 * q)) && mth (17 * qb + (i - 17 * q))) ∧ (sd_up s1 (17 * q + k) (sd_jn h (s1 (17 * qa + k)) (s1 (17 * qb + k)))) i = sd_jn h (msh (17 * qa + (i - 17 * q))) (msh (17 * qb + (i - 17 * q)))) ∧ (¬ (17 * q + 1 ≤ i ∧ i < 17 * q + (k + 1)) → (sd_up t1 (17 * q + k) (mth (17 * qa + k) && mth (17 * qb + k))) i = mth i ∧ (sd_up s1 (17 * q + k) (sd_jn h (s1 (17 * qa + k)) (s1 (17 * qb + k)))) i = msh i) := by
                                intro i
                                by_cases ei : i = 17 * q + k
                                · rw [ei, sd_up_s, sd_up_s, Nat.add_sub_cancel_left, ha9.2, hb9.2]
                                  exact ⟨fun _ => ⟨rfl, rfl⟩, fun z => absurd (by omega) z⟩
                                · rw [sd_up_n _ _ ei, sd_up_n _ _ ei]
                                  exact ⟨fun z => (hI i).1 (by omega), fun z => (hI i).2 (by omega)⟩
                              exact ih (k := k + 1) (s1 := sd_up s1 (17 * q + k) (sd_jn h (s1 (17 * qa + k)) (s1 (17 * qb + k)))) (t1 := sd_up t1 (17 * q + k) (mth (17 * qa + k) && mth (17 * qb + k))) (hk := by omega) (hI := hI9) (H := H) (locs := locs) (hP := hP) (hD := hD) (hS := hS) (ls := ls) (hl := (lv_sub hl [0, 3, 4, 5, 6, 7, 8, 9] rfl)) (hk9 := by omega)
                          · refine lv_lload hx hb dX5_join_229 (lv_at hl 1 rfl) ?_
                            refine lv_lload hx hb dX5_join_231 (lv_at hl 0 rfl) ?_
                            refine sd_rl (va_runS (As := [.long (sd_L (s1 (17 * qa + k))), .long (sd_L (s1 (17 * qb + k)))]) (rest := [.int (nI (17 * q + k)), .ref (am 3)]) ⟨hx, hb, hml, hown, hts⟩ (k_X5_plus l (s1 (17 * qa + k)) (s1 (17 * qb + k))) (sd_cwS hts wd_X5_plus wn_X5 wm_X5_65 wi_X5_plus nq_X5_plus rfl rfl ⟨Nat.le_of_ble_eq_true rfl, Nat.le_of_ble_eq_true rfl⟩) sd_preN rfl rfl hl.1 rfl (lv_room (Nat.le_of_ble_eq_true rfl)) dX5_join_233 ⟨Nat.zero_le _, Nat.zero_le _⟩) (fun r105 hr105 => ?_)
                            subst hr105
                            refine lv_goto (tgt := 262) hx hb dX5_join_236 (by decide) ?_
                            refine sd_tol (y := sd_L (sd_jn h (s1 (17 * qa + k)) (s1 (17 * qb + k)))) (by rw [sd_jn, if_pos (sd_nI_inj (by omega) (by decide) (c8.trans nI_0.symm))]) ?_
                            refine sd_last hx hb hK hP hD hS 3 0 rfl rfl (k := 17 * q + k) (by omega) (by decide) (ws2 := mw am tc (nI 0) mdg msz (sd_up s1 (17 * q + k) (sd_jn h (s1 (17 * qa + k)) (s1 (17 * qb + k)))) (sd_up t1 (17 * q + k) (mth (17 * qa + k) && mth (17 * qb + k))) minv isf fsp mfo mwr mpl mny mch mcu mro) (by rw [sd_stL]; exact rfl) dX5_join_262 (fun H locs hP hD hS => ?_)
                            refine lv_iinc (v := nI (k + 1)) (lv' := [(7, .int (nI (k + 1))), (10, .long (sd_L (s1 (17 * qb + k)))), (8, .long (sd_L (s1 (17 * qa + k)))), (0, .ref (am 0)), (1, .int (nI q)), (2, .int (nI qa)), (3, .int (nI qb)), (4, .int (nI h)), (5, .int (nI dd)), (6, .int (nI nn))]) hx hb dX5_join_263 hl (k := 2) rfl (nI_1 _) (by decide) rfl (fun ls hl => ?_)
                            refine lv_goto (tgt := 137) hx hb dX5_join_266 (by decide) ?_
                            have hI9 : ∀ i, (17 * q + 1 ≤ i ∧ i < 17 * q + (k + 1) → (sd_up t1 (17 * q + k) (mth (17 * qa + k) && mth (17 * qb + k))) i = (mth (17 * qa + (i - 17 * q)) && mth (17 * qb + (i - 17 * q))) ∧ (sd_up s1 (17 * q + k) (sd_jn h (s1 (17 * qa + k)) (s1 (17 * qb + k)))) i = sd_jn h (msh (17 * qa + (i - 17 * q))) (msh (17 * qb + (i - 17 * q)))) ∧ (¬ (17 * q + 1 ≤ i ∧ i < 17 * q + (k + 1)) → (sd_up t1 (17 * q + k) (mth (17 * qa + k) && mth (17 * qb + k))) i = mth i ∧ (sd_up s1 (17 * q + k) (sd_jn h (s1 (17 * qa + k)) (s1 (17 * qb + k)))) i = msh i) := by
                              intro i
                              by_cases ei : i = 17 * q + k
                              · rw [ei, sd_up_s, sd_up_s, Nat.add_sub_cancel_left, ha9.2, hb9.2]
                                exact ⟨fun _ => ⟨rfl, rfl⟩, fun z => absurd (by omega) z⟩
                              · rw [sd_up_n _ _ ei, sd_up_n _ _ ei]
                                exact ⟨fun z => (hI i).1 (by omega), fun z => (hI i).2 (by omega)⟩
                            exact ih (k := k + 1) (s1 := sd_up s1 (17 * q + k) (sd_jn h (s1 (17 * qa + k)) (s1 (17 * qb + k)))) (t1 := sd_up t1 (17 * q + k) (mth (17 * qa + k) && mth (17 * qb + k))) (hk := by omega) (hI := hI9) (H := H) (locs := locs) (hP := hP) (hD := hD) (hS := hS) (ls := ls) (hl := (lv_sub hl [0, 3, 4, 5, 6, 7, 8, 9] rfl)) (hk9 := by omega)
              · refine lv_iconst (v := nI 0) hx hb dX5_join_100 (by decide) ?_
                exact W.zret hx hb hr rfl (fun T9 hT9 hW => ⟨⟨_, (nI 0, mdg, msz, msh, mth, minv, isf, fsp, mfo, mwr, mpl, mny, mch, mcu, mro), rfl, ⟨rfl, Or.inr ⟨fun ⟨q2, a2, b2, h2, hv⟩ => (by obtain ⟨g1, g2, g3, g4, g5, g6, g7, g8, g9⟩ := hv; have e1 := sd_nI_inj (by omega) (by omega) g4; have e2 := sd_nI_inj (by omega) (by omega) g6; have e3 := sd_nI_inj (by omega) (by omega) g8; subst e1; subst e2; subst e3; rw [← hdd] at g9; omega), rfl, ⟨rfl, rfl, rfl, rfl, rfl, rfl, rfl, rfl, rfl⟩⟩⟩, by rw [hT9]; exact hP, va_K.moved hW.alike hK, hD⟩, hS.F hT9⟩) hS.2.2 dX5_join_101
          · refine lv_iconst (v := nI 0) hx hb dX5_join_37 (by decide) ?_
            exact W.zret hx hb hr rfl (fun T9 hT9 hW => ⟨⟨_, (nI 0, mdg, msz, msh, mth, minv, isf, fsp, mfo, mwr, mpl, mny, mch, mcu, mro), rfl, ⟨rfl, Or.inr ⟨fun ⟨q2, a2, b2, h2, hv⟩ => (by obtain ⟨g1, g2, g3, g4, g5, g6, g7, g8, g9⟩ := hv; have e9 := sd_nI_inj hh9 (by omega) g8; omega), rfl, ⟨rfl, rfl, rfl, rfl, rfl, rfl, rfl, rfl, rfl⟩⟩⟩, by rw [hT9]; exact hP, va_K.moved hW.alike hK, hD⟩, hS.F hT9⟩) hS.2.2 dX5_join_38

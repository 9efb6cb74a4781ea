/-! the reference: deal, scale, renew, mend, split, wrong, at, part, share -/
theorem sd_dr_cut {c0 : FP} {t : Nat} {seed : Int64} {f : Nat → FP} (ht : t ≤ 8) (h0 : f 0 = c0) (h : ∀ k, 1 ≤ k → k ≤ t → f k = sd_nx (sd_gs seed k)) (x : FP) : sd_pv f x 0 (t + 1) = sd_ev (sd_dr c0 t seed) x := by
  rw [sd_ev_cut (t := t) ht (fun k h1 _ => by unfold sd_dr; rw [if_neg (by omega), if_neg (by omega)])]
  refine sd_pv_congr x (t + 1) 0 (fun j _ hj => ?_)
  unfold sd_dr
  by_cases e : j = 0
  · rw [if_pos e, e, h0]
  · rw [if_neg e, if_pos (by omega), h j (by omega) (by omega)]
def M_split (x y : Int32) (a : MS) (r : Int32) : Prop :=
  (∃ q, q < 8 ∧ x = nI q ∧ r = (if y = nI 0 then nI (rdg a q) else if y = nI 1 then nI (rsz a q) else if y = nI 2 then nI (sd_cnt (fun j => rth a (17 * q + j)) (rsz a q)) else -1)) ∨ ((¬ ∃ q, q < 8 ∧ x = nI q) ∧ r = -1)
def M_part (x : Int32) (a : MS) (r : Int64) (u : MS) : Prop :=
  (∃ k, k ≤ 8 ∧ x = nI k ∧ rif a = true ∧ rtn u = nI 0 ∧ r = sd_L (rfo a k)) ∨ ((¬ ∃ k, k ≤ 8 ∧ x = nI k ∧ rif a = true) ∧ rtn u = nI 1)
def M_share (x y : Int32) (a : MS) (r : Int64) (u : MS) : Prop :=
  (∃ q k, q < 8 ∧ x = nI q ∧ 1 ≤ k ∧ k ≤ rsz a q ∧ y = nI k ∧ rth a (17 * q + k) = true ∧ rtn u = nI 0 ∧ r = sd_L (rsh a (17 * q + k))) ∨
  ((¬ ∃ q k, q < 8 ∧ x = nI q ∧ 1 ≤ k ∧ k ≤ rsz a q ∧ y = nI k ∧ rth a (17 * q + k) = true) ∧ rtn u = nI 1)

set_option maxHeartbeats 1000000 in
set_option maxRecDepth 100000 in
theorem k_X5_scale (l : Launch) (D : va_G) {am : Nat → Nat} {tc : Nat → ClassId} {tn : Int32} {mdg msz : Nat → Nat} {msh : Nat → FP} {mth : Nat → Bool} {minv : Nat → FP} {isf : Bool} {fsp : Nat} {mfo : Nat → FP} {mwr : Nat → Bool} {mpl : Nat → Nat} {mny : Nat} {mch : Nat → Nat} {mcu mro : Nat → FP} (sz : Nat) (x : Int32) (v v2 : Int64) (hok : ∀ q, q < 8 → mdg q ≤ 8 ∧ msz q ≤ 16) : Met l yX5_scale (Cond.code yX5_scale cX5_scale 7 (some .boolean) :: bg) { frames := 3, cells := 0, slots := 0, locals := 89 } (sd_Wr D vwCl (ty5 tc) (mw am tc tn mdg msz msh mth minv isf fsp mfo mwr mpl mny mch mcu mro) sz [.ref (am 0), .int x, .long v, .long v2]) (va_Qi (S := MS) (fun r u => rtn u = nI 0 ∧ M_scale x v v2 (tn, mdg, msz, msh, mth, minv, isf, fsp, mfo, mwr, mpl, mny, mch, mcu, mro) r u) (sd_B D vwCl (ty5 tc) (va_A (mw am tc tn mdg msz msh mth minv isf fsp mfo mwr mpl mny mch mcu mro) sz) (fun u => mwt am tc u)) (va_A (mw am tc tn mdg msz msh mth minv isf fsp mfo mwr mpl mny mch mcu mro) sz)) 0 0 (va_A (mw am tc tn mdg msz msh mth minv isf fsp mfo mwr mpl mny mch mcu mro) sz) := by
  refine Met.ofW (cc := cX5_scale) (maxL := 7) (ret := some .boolean) (by decide) rfl ?_
  intro p e s m args below meth c s₁ B hml hv
  obtain ⟨rfl, hsz, hP, hK, hD0⟩ := hv
  have hx := B.exec
  have hb := B.bytes
  have hr := B.returns
  have hts := atoms_spec (ws := Cond.code yX5_scale cX5_scale 7 (some .boolean) :: bg) B.pre
  have hown : s.vm.findClass RX5 = some m.cls := findClass_of_methodNamed B.named
  have hlocks := B.notSynchronized
  subst hsz
  have hD := hD0.self (sz := s.heap.size)
  generalize hAe : va_A (mw am tc tn mdg msz msh mth minv isf fsp mfo mwr mpl mny mch mcu mro) s.heap.size = A at hD ⊢
  have hA : ∀ q : Nat, s.heap.size ≤ q → A q := fun q h => by rw [← hAe]; exact Or.inr h
  have hS : va_S A s.heap s.heap [] := va_S.rf
  have hl := lv_entry ([.ref (am 0), .int x, .long v, .long v2]) (n := 7) (Nat.le_of_ble_eq_true rfl)
  rw [lg_entry_eq]
  generalize (lg_sl ([.ref (am 0), .int x, .long v, .long v2]) ++ List.replicate (7 - (lg_sl ([.ref (am 0), .int x, .long v, .long v2])).length) Slot.unset).toArray = ls at hl ⊢
  replace hl : lv_has ls 7 [(0, .ref (am 0)), (1, .int x), (2, .long v), (4, .long v2)] := hl
  refine lv_aload_n hx hb dX5_scale_0 rfl (lv_at hl 0 rfl) ?_
  refine lv_iconst (v := nI 0) hx hb dX5_scale_1 (by decide) ?_
  refine sd_put (ci := 5) (C := RX5) (T := TX5) (N := 15) hx hb hts (fun w h => mm (inX5 w h)) tyX5 tyX5_ok nmX5 hown hK hP hD hS 0 rfl rfl 0 (by decide) (hts _ (mm wf_X5_51)) rfl rfl rfl rfl (Nat.le_of_ble_eq_true rfl) rfl (ws2 := mw am tc (nI 0) mdg msz msh mth minv isf fsp mfo mwr mpl mny mch mcu mro) (rfl) dX5_scale_2 (fun H locs hP hD hS => ?_)
  refine lv_iload_n hx hb dX5_scale_5 rfl (lv_at hl 1 rfl) ?_
  refine sd_ri (va_runS (As := [.int x]) (rest := []) ⟨hx, hb, hml, hown, hts⟩ (k_X5_isSplit l x) (sd_cwS hts wd_X5_isSplit wn_X5 wm_X5_77 wi_X5_isSplit nq_X5_isSplit rfl rfl ⟨Nat.le_of_ble_eq_true rfl, Nat.le_of_ble_eq_true rfl⟩) sd_preN rfl rfl hl.1 rfl (lv_room (Nat.le_of_ble_eq_true rfl)) dX5_scale_6 ⟨Nat.zero_le _, Nat.zero_le _⟩) (fun r1 hr1 => ?_)
  subst hr1
  refine sd_if_neB (tgt := 14) hx hb dX5_scale_9 (by decide) (fun c1 => ?_) (fun c1 => ?_)
  · obtain ⟨q, hix⟩ := Option.isSome_iff_exists.mp c1
    obtain ⟨hq, hxq⟩ := sd_ix_some hix
    clear hix c1
    subst hxq
    have hokq := hok q hq
    refine lv_iconst (v := nI 1) hx hb dX5_scale_14 (by decide) ?_
    refine lv_istore (lv' := [(6, .int (nI 1)), (0, .ref (am 0)), (1, .int (nI q)), (2, .long v), (4, .long v2)]) hx hb dX5_scale_15 hl (by decide) rfl (fun ls hl => ?_)
    obtain ⟨k, s1, hk, hI, hP9, hD9, hl9⟩ : ∃ (k : Nat) (s1 : Nat → FP), (1 ≤ k ∧ k ≤ msz q + 1) ∧ (∀ i, s1 i = (if 17 * q + 1 ≤ i ∧ i < 17 * q + k then msh i * sd_of v + sd_of v2 else msh i)) ∧ va_P D vwCl (mw am tc (nI 0) mdg msz s1 mth minv isf fsp mfo mwr mpl mny mch mcu mro) H ∧ va_D A (mw am tc (nI 0) mdg msz s1 mth minv isf fsp mfo mwr mpl mny mch mcu mro) ∧ lv_has ls 7 [(6, .int (nI k)), (0, .ref (am 0)), (1, .int (nI q)), (2, .long v), (4, .long v2)] := ⟨1, msh, ⟨Nat.le_refl 1, by omega⟩, fun i => by rw [if_neg (by omega)], hP, hD, (lv_sub hl [0, 1, 2, 3, 4] rfl)⟩
    replace hl := hl9
    clear hl9
    replace hP := hP9
    replace hD := hD9
    clear hP9 hD9
    obtain ⟨k9, hk9⟩ : ∃ k9 : Nat, msz q + 1 < k + k9 := ⟨msz q + 1, by omega⟩
    induction k9 generalizing k s1 ls H locs with
    | zero => exact absurd hk9 (by omega)
    | succ k9 ih =>
      refine lv_iload hx hb dX5_scale_17 (lv_at hl 0 rfl) ?_
      refine lv_aload_n hx hb dX5_scale_19 rfl (lv_at hl 1 rfl) ?_
      refine va_get (D := D) (ci := 5) (v := .ref (am 2)) (C := RX5) (T := TX5) (N := 15) hx hb hts (fun w h => mm (inX5 w h)) hown hK hP 0 rfl rfl 2 (by decide) (hts _ (mm wf_X5_13)) (fun _ h9 => h9) rfl dX5_scale_20 ?_
      refine lv_iload_n hx hb dX5_scale_23 rfl (lv_at hl 2 rfl) ?_
      refine sd_iald hx hb hK hP 2 2 rfl rfl (k := q) (by omega) (by decide) dX5_scale_24 ?_
      refine sd_icmp_gt (tgt := 71) hx hb (by omega) (by omega) dX5_scale_25 (by decide) (fun c2 => ?_) (fun c2 => ?_)
      · have hI9 : ∀ i, s1 i = (if 17 * q + 1 ≤ i ∧ i ≤ 17 * q + msz q then msh i * sd_of v + sd_of v2 else msh i) := fun i => by rw [hI, show 17 * q + k = 17 * q + msz q + 1 by omega]; simp only [Nat.lt_succ_iff]
        refine lv_iconst (v := nI 1) hx hb dX5_scale_71 (by decide) ?_
        exact W.zret hx hb hr rfl (fun T9 hT9 hW => ⟨⟨_, (nI 0, mdg, msz, s1, mth, minv, isf, fsp, mfo, mwr, mpl, mny, mch, mcu, mro), rfl, ⟨rfl, Or.inl ⟨q, hq, rfl, rfl, rfl, rfl, rfl, ⟨rfl, rfl, rfl, rfl, rfl⟩, hI9⟩⟩, by rw [hT9]; exact hP, va_K.moved hW.alike hK, hD⟩, hS.F hT9⟩) hS.2.2 dX5_scale_72
      · refine lv_aload_n hx hb dX5_scale_28 rfl (lv_at hl 1 rfl) ?_
        refine va_get (D := D) (ci := 5) (v := .ref (am 3)) (C := RX5) (T := TX5) (N := 15) hx hb hts (fun w h => mm (inX5 w h)) hown hK hP 0 rfl rfl 3 (by decide) (hts _ (mm wf_X5_16)) (fun _ h9 => h9) rfl dX5_scale_29 ?_
        refine lv_iload_n hx hb dX5_scale_32 rfl (lv_at hl 2 rfl) ?_
        refine lv_iload hx hb dX5_scale_33 (lv_at hl 0 rfl) ?_
        refine sd_ri (va_runS (As := [.int (nI q), .int (nI k)]) (rest := [.ref (am 3)]) ⟨hx, hb, hml, hown, hts⟩ (k_X5_home l q k) (sd_cwS hts wd_X5_home wn_X5 wm_X5_91 wi_X5_home nq_X5_home rfl rfl ⟨Nat.le_of_ble_eq_true rfl, Nat.le_of_ble_eq_true rfl⟩) sd_preN rfl rfl hl.1 rfl (lv_room (Nat.le_of_ble_eq_true rfl)) dX5_scale_35 ⟨Nat.zero_le _, Nat.zero_le _⟩) (fun r2 hr2 => ?_)
        subst hr2
        refine lv_aload_n hx hb dX5_scale_38 rfl (lv_at hl 1 rfl) ?_
        refine va_get (D := D) (ci := 5) (v := .ref (am 3)) (C := RX5) (T := TX5) (N := 15) hx hb hts (fun w h => mm (inX5 w h)) hown hK hP 0 rfl rfl 3 (by decide) (hts _ (mm wf_X5_16)) (fun _ h9 => h9) rfl dX5_scale_39 ?_
        refine lv_iload_n hx hb dX5_scale_42 rfl (lv_at hl 2 rfl) ?_
        refine lv_iload hx hb dX5_scale_43 (lv_at hl 0 rfl) ?_
        refine sd_ri (va_runS (As := [.int (nI q), .int (nI k)]) (rest := [.ref (am 3), .int (nI (17 * q + k)), .ref (am 3)]) ⟨hx, hb, hml, hown, hts⟩ (k_X5_home l q k) (sd_cwS hts wd_X5_home wn_X5 wm_X5_91 wi_X5_home nq_X5_home rfl rfl ⟨Nat.le_of_ble_eq_true rfl, Nat.le_of_ble_eq_true rfl⟩) sd_preN rfl rfl hl.1 rfl (lv_room (Nat.le_of_ble_eq_true rfl)) dX5_scale_45 ⟨Nat.zero_le _, Nat.zero_le _⟩) (fun r3 hr3 => ?_)
        subst hr3
        refine sd_lald hx hb hK hP 3 0 rfl rfl (k := 17 * q + k) (by omega) (by decide) dX5_scale_48 ?_
        refine lv_lload_n hx hb dX5_scale_49 rfl (lv_at hl 3 rfl) ?_
        refine sd_rl (va_runS (As := [.long v]) (rest := [.long (sd_L (s1 (17 * q + k))), .int (nI (17 * q + k)), .ref (am 3)]) ⟨hx, hb, hml, hown, hts⟩ (k_X5_modulo l v) (sd_cwS hts wd_X5_modulo wn_X5 wm_X5_84 wi_X5_modulo nq_X5_modulo rfl rfl ⟨Nat.le_of_ble_eq_true rfl, Nat.le_of_ble_eq_true rfl⟩) sd_preN rfl rfl hl.1 rfl (lv_room (Nat.le_of_ble_eq_true rfl)) dX5_scale_50 ⟨Nat.zero_le _, Nat.zero_le _⟩) (fun r4 hr4 => ?_)
        subst hr4
        refine sd_rl (va_runS (As := [.long (sd_L (s1 (17 * q + k))), .long (sd_L (sd_of v))]) (rest := [.int (nI (17 * q + k)), .ref (am 3)]) ⟨hx, hb, hml, hown, hts⟩ (k_X5_times l (s1 (17 * q + k)) (sd_of v)) (sd_cwS hts wd_X5_times wn_X5 wm_X5_70 wi_X5_times nq_X5_times rfl rfl ⟨Nat.le_of_ble_eq_true rfl, Nat.le_of_ble_eq_true rfl⟩) sd_preN rfl rfl hl.1 rfl (lv_room (Nat.le_of_ble_eq_true rfl)) dX5_scale_53 ⟨Nat.zero_le _, Nat.zero_le _⟩) (fun r5 hr5 => ?_)
        subst hr5
        refine lv_lload hx hb dX5_scale_56 (lv_at hl 4 rfl) ?_
        refine sd_rl (va_runS (As := [.long v2]) (rest := [.long (sd_L (s1 (17 * q + k) * sd_of v)), .int (nI (17 * q + k)), .ref (am 3)]) ⟨hx, hb, hml, hown, hts⟩ (k_X5_modulo l v2) (sd_cwS hts wd_X5_modulo wn_X5 wm_X5_84 wi_X5_modulo nq_X5_modulo rfl rfl ⟨Nat.le_of_ble_eq_true rfl, Nat.le_of_ble_eq_true rfl⟩) sd_preN rfl rfl hl.1 rfl (lv_room (Nat.le_of_ble_eq_true rfl)) dX5_scale_58 ⟨Nat.zero_le _, Nat.zero_le _⟩) (fun r6 hr6 => ?_)
        subst hr6
        refine sd_rl (va_runS (As := [.long (sd_L (s1 (17 * q + k) * sd_of v)), .long (sd_L (sd_of v2))]) (rest := [.int (nI (17 * q + k)), .ref (am 3)]) ⟨hx, hb, hml, hown, hts⟩ (k_X5_plus l (s1 (17 * q + k) * sd_of v) (sd_of v2)) (sd_cwS hts wd_X5_plus wn_X5 wm_X5_65 wi_X5_plus nq_X5_plus rfl rfl ⟨Nat.le_of_ble_eq_true rfl, Nat.le_of_ble_eq_true rfl⟩) sd_preN rfl rfl hl.1 rfl (lv_room (Nat.le_of_ble_eq_true rfl)) dX5_scale_61 ⟨Nat.zero_le _, Nat.zero_le _⟩) (fun r7 hr7 => ?_)
        subst hr7
        refine sd_last hx hb hK hP hD hS 3 0 rfl rfl (k := 17 * q + k) (by omega) (by decide) (ws2 := mw am tc (nI 0) mdg msz (sd_up s1 (17 * q + k) (s1 (17 * q + k) * sd_of v + sd_of v2)) mth minv isf fsp mfo mwr mpl mny mch mcu mro) (by rw [sd_stL]; exact rfl) dX5_scale_64 (fun H locs hP hD hS => ?_)
        refine lv_iinc (v := nI (k + 1)) (lv' := [(6, .int (nI (k + 1))), (0, .ref (am 0)), (1, .int (nI q)), (2, .long v), (4, .long v2)]) hx hb dX5_scale_65 hl (k := 0) rfl (nI_1 _) (by decide) rfl (fun ls hl => ?_)
        refine lv_goto (tgt := 17) hx hb dX5_scale_68 (by decide) ?_
        have hI9 : ∀ i, (sd_up s1 (17 * q + k) (s1 (17 * q + k) * sd_of v + sd_of v2)) i = (if 17 * q + 1 ≤ i ∧ i < 17 * q + (k + 1) then msh i * sd_of v + sd_of v2 else msh i) := by
          intro i
          by_cases ei : i = 17 * q + k
          · rw [ei, sd_up_s, hI, if_neg (by omega), if_pos (by omega)]
          · rw [sd_up_n _ _ ei, hI]
            by_cases e2 : 17 * q + 1 ≤ i ∧ i < 17 * q + k
            · rw [if_pos e2, if_pos (by omega)]
            · rw [if_neg e2, if_neg (by omega)]
        exact ih (k := k + 1) (s1 := sd_up s1 (17 * q + k) (s1 (17 * q + k) * sd_of v + sd_of v2)) (hk := by omega) (hI := hI9) (H := H) (locs := locs) (hP := hP) (hD := hD) (hS := hS) (ls := ls) (hl := (lv_sub hl [0, 1, 2, 3, 4] rfl)) (hk9 := by omega)
  · refine lv_iconst (v := nI 0) hx hb dX5_scale_12 (by decide) ?_
    exact W.zret hx hb hr rfl (fun T9 hT9 hW => ⟨⟨_, (nI 0, mdg, msz, msh, mth, minv, isf, fsp, mfo, mwr, mpl, mny, mch, mcu, mro), rfl, ⟨rfl, Or.inr ⟨fun ⟨q, h1, h2⟩ => sd_ix_none (Option.isNone_iff_eq_none.mp (Option.isSome_eq_false_iff.mp c1)) h1 h2, rfl, ⟨rfl, rfl, rfl, rfl, rfl, rfl, rfl, rfl, rfl⟩⟩⟩, by rw [hT9]; exact hP, va_K.moved hW.alike hK, hD⟩, hS.F hT9⟩) hS.2.2 dX5_scale_13

set_option maxHeartbeats 1000000 in
set_option maxRecDepth 100000 in
theorem k_X5_renew (l : Launch) (D : va_G) {am : Nat → Nat} {tc : Nat → ClassId} {tn : Int32} {mdg msz : Nat → Nat} {msh : Nat → FP} {mth : Nat → Bool} {minv : Nat → FP} {isf : Bool} {fsp : Nat} {mfo : Nat → FP} {mwr : Nat → Bool} {mpl : Nat → Nat} {mny : Nat} {mch : Nat → Nat} {mcu mro : Nat → FP} (sz : Nat) (x : Int32) (seed : Int64) (hok : ∀ q, q < 8 → mdg q ≤ 8 ∧ msz q ≤ 16) : Met l yX5_renew (Cond.code yX5_renew cX5_renew 5 (some .boolean) :: bg) { frames := 4, cells := 0, slots := 0, locals := 116 } (sd_Wr D vwCl (ty5 tc) (mw am tc tn mdg msz msh mth minv isf fsp mfo mwr mpl mny mch mcu mro) sz [.ref (am 0), .int x, .long seed]) (va_Qi (S := MS) (fun r u => rtn u = nI 0 ∧ M_renew x seed (tn, mdg, msz, msh, mth, minv, isf, fsp, mfo, mwr, mpl, mny, mch, mcu, mro) r u) (sd_B D vwCl (ty5 tc) (va_A (mw am tc tn mdg msz msh mth minv isf fsp mfo mwr mpl mny mch mcu mro) sz) (fun u => mwt am tc u)) (va_A (mw am tc tn mdg msz msh mth minv isf fsp mfo mwr mpl mny mch mcu mro) sz)) 0 0 (va_A (mw am tc tn mdg msz msh mth minv isf fsp mfo mwr mpl mny mch mcu mro) sz) := by
  refine Met.ofW (cc := cX5_renew) (maxL := 5) (ret := some .boolean) (by decide) rfl ?_
  intro p e s m args below meth c s₁ B hml hv
  obtain ⟨rfl, hsz, hP, hK, hD0⟩ := hv
  have hx := B.exec
  have hb := B.bytes
  have hr := B.returns
  have hts := atoms_spec (ws := Cond.code yX5_renew cX5_renew 5 (some .boolean) :: bg) B.pre
  have hown : s.vm.findClass RX5 = some m.cls := findClass_of_methodNamed B.named
  have hlocks := B.notSynchronized
  subst hsz
  have hD := hD0.self (sz := s.heap.size)
  generalize hAe : va_A (mw am tc tn mdg msz msh mth minv isf fsp mfo mwr mpl mny mch mcu mro) s.heap.size = A at hD ⊢
  have hA : ∀ q : Nat, s.heap.size ≤ q → A q := fun q h => by rw [← hAe]; exact Or.inr h
  have hS : va_S A s.heap s.heap [] := va_S.rf
  have hl := lv_entry ([.ref (am 0), .int x, .long seed]) (n := 5) (Nat.le_of_ble_eq_true rfl)
  rw [lg_entry_eq]
  generalize (lg_sl ([.ref (am 0), .int x, .long seed]) ++ List.replicate (5 - (lg_sl ([.ref (am 0), .int x, .long seed])).length) Slot.unset).toArray = ls at hl ⊢
  replace hl : lv_has ls 5 [(0, .ref (am 0)), (1, .int x), (2, .long seed)] := hl
  refine lv_aload_n hx hb dX5_renew_0 rfl (lv_at hl 0 rfl) ?_
  refine lv_iconst (v := nI 0) hx hb dX5_renew_1 (by decide) ?_
  refine sd_put (ci := 5) (C := RX5) (T := TX5) (N := 15) hx hb hts (fun w h => mm (inX5 w h)) tyX5 tyX5_ok nmX5 hown hK hP hD hS 0 rfl rfl 0 (by decide) (hts _ (mm wf_X5_51)) rfl rfl rfl rfl (Nat.le_of_ble_eq_true rfl) rfl (ws2 := mw am tc (nI 0) mdg msz msh mth minv isf fsp mfo mwr mpl mny mch mcu mro) (rfl) dX5_renew_2 (fun H locs hP hD hS => ?_)
  refine lv_iload_n hx hb dX5_renew_5 rfl (lv_at hl 1 rfl) ?_
  refine sd_ri (va_runS (As := [.int x]) (rest := []) ⟨hx, hb, hml, hown, hts⟩ (k_X5_isSplit l x) (sd_cwS hts wd_X5_isSplit wn_X5 wm_X5_77 wi_X5_isSplit nq_X5_isSplit rfl rfl ⟨Nat.le_of_ble_eq_true rfl, Nat.le_of_ble_eq_true rfl⟩) sd_preN rfl rfl hl.1 rfl (lv_room (Nat.le_of_ble_eq_true rfl)) dX5_renew_6 ⟨Nat.zero_le _, Nat.zero_le _⟩) (fun r1 hr1 => ?_)
  subst hr1
  refine sd_if_neB (tgt := 14) hx hb dX5_renew_9 (by decide) (fun c1 => ?_) (fun c1 => ?_)
  · obtain ⟨q, hix⟩ := Option.isSome_iff_exists.mp c1
    obtain ⟨hq, hxq⟩ := sd_ix_some hix
    clear hix c1
    subst hxq
    have hokq := hok q hq
    refine lv_aload_n hx hb dX5_renew_14 rfl (lv_at hl 0 rfl) ?_
    refine lv_lconst (v := 0) hx hb dX5_renew_15 (by decide) ?_
    refine sd_tol (y := sd_L 0) sd_L_0.symm ?_
    refine lv_aload_n hx hb dX5_renew_16 rfl (lv_at hl 0 rfl) ?_
    refine va_get (D := D) (ci := 5) (v := .ref (am 1)) (C := RX5) (T := TX5) (N := 15) hx hb hts (fun w h => mm (inX5 w h)) hown hK hP 0 rfl rfl 1 (by decide) (hts _ (mm wf_X5_7)) (fun _ h9 => h9) rfl dX5_renew_17 ?_
    refine lv_iload_n hx hb dX5_renew_20 rfl (lv_at hl 1 rfl) ?_
    refine sd_iald hx hb hK hP 1 2 rfl rfl (k := q) (by omega) (by decide) dX5_renew_21 ?_
    refine lv_lload_n hx hb dX5_renew_22 rfl (lv_at hl 2 rfl) ?_
    refine sd_wv (va_runV (As := [.long (sd_L 0), .int (nI (mdg q)), .long seed]) (rest := []) ⟨hx, hb, hml, hown, hts⟩ (k_X5_draw l D _ 0 (mdg q) seed hokq.1) (sd_cwV hts wd_X5_draw wn_X5 wm_X5_87 wi_X5_draw ws_X5_draw nq_X5_draw rfl rfl ⟨Nat.le_of_ble_eq_true rfl, Nat.le_of_ble_eq_true rfl⟩) (sd_preVW hP hK hD (ci := 5) (q0 := 0) rfl rfl rfl) rfl rfl hl.1 rfl (lv_room (Nat.le_of_ble_eq_true rfl)) dX5_renew_23 ⟨Nat.zero_le _, Nat.zero_le _⟩) hD hS hA (fun cA H locs hcA hP hD hS => ?_)
    replace hP : va_P D vwCl (mw am tc (nI 0) mdg msz msh mth minv isf fsp mfo mwr mpl mny mch cA mro) H := hP
    replace hD : va_D A (mw am tc (nI 0) mdg msz msh mth minv isf fsp mfo mwr mpl mny mch cA mro) := hD
    have hev := sd_dr_cut hokq.1 hcA.1 hcA.2
    refine lv_iconst (v := nI 1) hx hb dX5_renew_26 (by decide) ?_
    refine lv_istore (lv' := [(4, .int (nI 1)), (0, .ref (am 0)), (1, .int (nI q)), (2, .long seed)]) hx hb dX5_renew_27 hl (by decide) rfl (fun ls hl => ?_)
    obtain ⟨k, s1, hk, hI, hP9, hD9, hl9⟩ : ∃ (k : Nat) (s1 : Nat → FP), (1 ≤ k ∧ k ≤ msz q + 1) ∧ (∀ i, s1 i = (if 17 * q + 1 ≤ i ∧ i < 17 * q + k then msh i + sd_ev (sd_dr 0 (mdg q) seed) (sd_N (i - 17 * q)) else msh i)) ∧ va_P D vwCl (mw am tc (nI 0) mdg msz s1 mth minv isf fsp mfo mwr mpl mny mch cA mro) H ∧ va_D A (mw am tc (nI 0) mdg msz s1 mth minv isf fsp mfo mwr mpl mny mch cA mro) ∧ lv_has ls 5 [(4, .int (nI k)), (0, .ref (am 0)), (1, .int (nI q))] := ⟨1, msh, ⟨Nat.le_refl 1, by omega⟩, fun i => by rw [if_neg (by omega)], hP, hD, (lv_sub hl [0, 1, 2] rfl)⟩
    replace hl := hl9
    clear hl9
    replace hP := hP9
    replace hD := hD9
    clear hP9 hD9
    obtain ⟨k9, hk9⟩ : ∃ k9 : Nat, msz q + 1 < k + k9 := ⟨msz q + 1, by omega⟩
    induction k9 generalizing k s1 ls H locs with
    | zero => exact absurd hk9 (by omega)
    | succ k9 ih =>
      refine lv_iload hx hb dX5_renew_29 (lv_at hl 0 rfl) ?_
      refine lv_aload_n hx hb dX5_renew_31 rfl (lv_at hl 1 rfl) ?_
      refine va_get (D := D) (ci := 5) (v := .ref (am 2)) (C := RX5) (T := TX5) (N := 15) hx hb hts (fun w h => mm (inX5 w h)) hown hK hP 0 rfl rfl 2 (by decide) (hts _ (mm wf_X5_13)) (fun _ h9 => h9) rfl dX5_renew_32 ?_
      refine lv_iload_n hx hb dX5_renew_35 rfl (lv_at hl 2 rfl) ?_
      refine sd_iald hx hb hK hP 2 2 rfl rfl (k := q) (by omega) (by decide) dX5_renew_36 ?_
      refine sd_icmp_gt (tgt := 88) hx hb (by omega) (by omega) dX5_renew_37 (by decide) (fun c2 => ?_) (fun c2 => ?_)
      · have hI9 : ∀ i, s1 i = (if 17 * q + 1 ≤ i ∧ i ≤ 17 * q + msz q then msh i + sd_ev (sd_dr 0 (mdg q) seed) (sd_N (i - 17 * q)) else msh i) := fun i => by rw [hI, show 17 * q + k = 17 * q + msz q + 1 by omega]; simp only [Nat.lt_succ_iff]
        refine lv_iconst (v := nI 1) hx hb dX5_renew_88 (by decide) ?_
        exact W.zret hx hb hr rfl (fun T9 hT9 hW => ⟨⟨_, (nI 0, mdg, msz, s1, mth, minv, isf, fsp, mfo, mwr, mpl, mny, mch, cA, mro), rfl, ⟨rfl, Or.inl ⟨q, hq, rfl, rfl, rfl, rfl, rfl, ⟨rfl, rfl, rfl, rfl, rfl⟩, hI9⟩⟩, by rw [hT9]; exact hP, va_K.moved hW.alike hK, hD⟩, hS.F hT9⟩) hS.2.2 dX5_renew_89
      · refine lv_aload_n hx hb dX5_renew_40 rfl (lv_at hl 1 rfl) ?_
        refine va_get (D := D) (ci := 5) (v := .ref (am 3)) (C := RX5) (T := TX5) (N := 15) hx hb hts (fun w h => mm (inX5 w h)) hown hK hP 0 rfl rfl 3 (by decide) (hts _ (mm wf_X5_16)) (fun _ h9 => h9) rfl dX5_renew_41 ?_
        refine lv_iload_n hx hb dX5_renew_44 rfl (lv_at hl 2 rfl) ?_
        refine lv_iload hx hb dX5_renew_45 (lv_at hl 0 rfl) ?_
        refine sd_ri (va_runS (As := [.int (nI q), .int (nI k)]) (rest := [.ref (am 3)]) ⟨hx, hb, hml, hown, hts⟩ (k_X5_home l q k) (sd_cwS hts wd_X5_home wn_X5 wm_X5_91 wi_X5_home nq_X5_home rfl rfl ⟨Nat.le_of_ble_eq_true rfl, Nat.le_of_ble_eq_true rfl⟩) sd_preN rfl rfl hl.1 rfl (lv_room (Nat.le_of_ble_eq_true rfl)) dX5_renew_47 ⟨Nat.zero_le _, Nat.zero_le _⟩) (fun r3 hr3 => ?_)
        subst hr3
        refine lv_aload_n hx hb dX5_renew_50 rfl (lv_at hl 1 rfl) ?_
        refine va_get (D := D) (ci := 5) (v := .ref (am 3)) (C := RX5) (T := TX5) (N := 15) hx hb hts (fun w h => mm (inX5 w h)) hown hK hP 0 rfl rfl 3 (by decide) (hts _ (mm wf_X5_16)) (fun _ h9 => h9) rfl dX5_renew_51 ?_
        refine lv_iload_n hx hb dX5_renew_54 rfl (lv_at hl 2 rfl) ?_
        refine lv_iload hx hb dX5_renew_55 (lv_at hl 0 rfl) ?_
        refine sd_ri (va_runS (As := [.int (nI q), .int (nI k)]) (rest := [.ref (am 3), .int (nI (17 * q + k)), .ref (am 3)]) ⟨hx, hb, hml, hown, hts⟩ (k_X5_home l q k) (sd_cwS hts wd_X5_home wn_X5 wm_X5_91 wi_X5_home nq_X5_home rfl rfl ⟨Nat.le_of_ble_eq_true rfl, Nat.le_of_ble_eq_true rfl⟩) sd_preN rfl rfl hl.1 rfl (lv_room (Nat.le_of_ble_eq_true rfl)) dX5_renew_57 ⟨Nat.zero_le _, Nat.zero_le _⟩) (fun r4 hr4 => ?_)
        subst hr4
        refine sd_lald hx hb hK hP 3 0 rfl rfl (k := 17 * q + k) (by omega) (by decide) dX5_renew_60 ?_
        refine lv_aload_n hx hb dX5_renew_61 rfl (lv_at hl 1 rfl) ?_
        refine lv_aload_n hx hb dX5_renew_62 rfl (lv_at hl 1 rfl) ?_
        refine va_get (D := D) (ci := 5) (v := .ref (am 10)) (C := RX5) (T := TX5) (N := 15) hx hb hts (fun w h => mm (inX5 w h)) hown hK hP 0 rfl rfl 13 (by decide) (hts _ (mm wf_X5_39)) (fun _ h9 => h9) rfl dX5_renew_63 ?_
        refine lv_aload_n hx hb dX5_renew_66 rfl (lv_at hl 1 rfl) ?_
        refine va_get (D := D) (ci := 5) (v := .ref (am 1)) (C := RX5) (T := TX5) (N := 15) hx hb hts (fun w h => mm (inX5 w h)) hown hK hP 0 rfl rfl 1 (by decide) (hts _ (mm wf_X5_7)) (fun _ h9 => h9) rfl dX5_renew_67 ?_
        refine lv_iload_n hx hb dX5_renew_70 rfl (lv_at hl 2 rfl) ?_
        refine sd_iald hx hb hK hP 1 2 rfl rfl (k := q) (by omega) (by decide) dX5_renew_71 ?_
        refine lv_iload hx hb dX5_renew_72 (lv_at hl 0 rfl) ?_
        refine lv_i2l (v := lN k) hx hb dX5_renew_74 (nI_l (by omega)) ?_
        refine sd_tol (y := sd_L (sd_N k)) ((sd_N_L (by omega)).symm) ?_
        refine sd_rl (va_runV (As := [.ref (am 10), .int (nI (mdg q)), .long (sd_L (sd_N k))]) (rest := [.long (sd_L (s1 (17 * q + k))), .int (nI (17 * q + k)), .ref (am 3)]) ⟨hx, hb, hml, hown, hts⟩ (k_X5_onCurve_c l D (mdg q) (sd_N k) hokq.1) (sd_cwV hts wd_X5_onCurve wn_X5 wm_X5_95 wi_X5_onCurve ws_X5_onCurve nq_X5_onCurve rfl rfl ⟨Nat.le_of_ble_eq_true rfl, Nat.le_of_ble_eq_true rfl⟩) (sd_preVR hP hK (ci := 5) (q0 := 0) rfl rfl rfl) rfl rfl hl.1 rfl (lv_room (Nat.le_of_ble_eq_true rfl)) dX5_renew_75 ⟨Nat.zero_le _, Nat.zero_le _⟩) (fun r5 hr5 => ?_)
        subst hr5
        refine sd_rl (va_runS (As := [.long (sd_L (s1 (17 * q + k))), .long (sd_L (sd_pv cA (sd_N k) 0 (mdg q + 1)))]) (rest := [.int (nI (17 * q + k)), .ref (am 3)]) ⟨hx, hb, hml, hown, hts⟩ (k_X5_plus l (s1 (17 * q + k)) (sd_pv cA (sd_N k) 0 (mdg q + 1))) (sd_cwS hts wd_X5_plus wn_X5 wm_X5_65 wi_X5_plus nq_X5_plus rfl rfl ⟨Nat.le_of_ble_eq_true rfl, Nat.le_of_ble_eq_true rfl⟩) sd_preN rfl rfl hl.1 rfl (lv_room (Nat.le_of_ble_eq_true rfl)) dX5_renew_78 ⟨Nat.zero_le _, Nat.zero_le _⟩) (fun r6 hr6 => ?_)
        subst hr6
        refine sd_last hx hb hK hP hD hS 3 0 rfl rfl (k := 17 * q + k) (by omega) (by decide) (ws2 := mw am tc (nI 0) mdg msz (sd_up s1 (17 * q + k) (s1 (17 * q + k) + sd_pv cA (sd_N k) 0 (mdg q + 1))) mth minv isf fsp mfo mwr mpl mny mch cA mro) (by rw [sd_stL]; exact rfl) dX5_renew_81 (fun H locs hP hD hS => ?_)
        refine lv_iinc (v := nI (k + 1)) (lv' := [(4, .int (nI (k + 1))), (0, .ref (am 0)), (1, .int (nI q))]) hx hb dX5_renew_82 hl (k := 0) rfl (nI_1 _) (by decide) rfl (fun ls hl => ?_)
        refine lv_goto (tgt := 29) hx hb dX5_renew_85 (by decide) ?_
        have hI9 : ∀ i, (sd_up s1 (17 * q + k) (s1 (17 * q + k) + sd_pv cA (sd_N k) 0 (mdg q + 1))) i = (if 17 * q + 1 ≤ i ∧ i < 17 * q + (k + 1) then msh i + sd_ev (sd_dr 0 (mdg q) seed) (sd_N (i - 17 * q)) else msh i) := by
          intro i
          by_cases ei : i = 17 * q + k
          · rw [ei, sd_up_s, hI, if_neg (by omega), if_pos (by omega), hev, Nat.add_sub_cancel_left]
          · rw [sd_up_n _ _ ei, hI]
            by_cases e2 : 17 * q + 1 ≤ i ∧ i < 17 * q + k
            · rw [if_pos e2, if_pos (by omega)]
            · rw [if_neg e2, if_neg (by omega)]
        exact ih (k := k + 1) (s1 := sd_up s1 (17 * q + k) (s1 (17 * q + k) + sd_pv cA (sd_N k) 0 (mdg q + 1))) (hk := by omega) (hI := hI9) (H := H) (locs := locs) (hP := hP) (hD := hD) (hS := hS) (ls := ls) (hl := (lv_sub hl [0, 1, 2] rfl)) (hk9 := by omega)
  · refine lv_iconst (v := nI 0) hx hb dX5_renew_12 (by decide) ?_
    exact W.zret hx hb hr rfl (fun T9 hT9 hW => ⟨⟨_, (nI 0, mdg, msz, msh, mth, minv, isf, fsp, mfo, mwr, mpl, mny, mch, mcu, mro), rfl, ⟨rfl, Or.inr ⟨fun ⟨q, h1, h2⟩ => sd_ix_none (Option.isNone_iff_eq_none.mp (Option.isSome_eq_false_iff.mp c1)) h1 h2, rfl, ⟨rfl, rfl, rfl, rfl, rfl, rfl, rfl, rfl, rfl⟩⟩⟩, by rw [hT9]; exact hP, va_K.moved hW.alike hK, hD⟩, hS.F hT9⟩) hS.2.2 dX5_renew_13

set_option maxHeartbeats 1000000 in
set_option maxRecDepth 100000 in
theorem k_X5_deal (l : Launch) (D : va_G) {am : Nat → Nat} {tc : Nat → ClassId} {tn : Int32} {mdg msz : Nat → Nat} {msh : Nat → FP} {mth : Nat → Bool} {minv : Nat → FP} {isf : Bool} {fsp : Nat} {mfo : Nat → FP} {mwr : Nat → Bool} {mpl : Nat → Nat} {mny : Nat} {mch : Nat → Nat} {mcu mro : Nat → FP} (sz : Nat) (x y z : Int32) (v seed : Int64) (hok : ∀ q, q < 8 → mdg q ≤ 8 ∧ msz q ≤ 16) : Met l yX5_deal (Cond.code yX5_deal cX5_deal 9 (some .boolean) :: bg) { frames := 4, cells := 0, slots := 0, locals := 116 } (sd_Wr D vwCl (ty5 tc) (mw am tc tn mdg msz msh mth minv isf fsp mfo mwr mpl mny mch mcu mro) sz [.ref (am 0), .int x, .int y, .int z, .long v, .long seed]) (va_Qi (S := MS) (fun r u => rtn u = nI 0 ∧ M_deal x y z v seed (tn, mdg, msz, msh, mth, minv, isf, fsp, mfo, mwr, mpl, mny, mch, mcu, mro) r u) (sd_B D vwCl (ty5 tc) (va_A (mw am tc tn mdg msz msh mth minv isf fsp mfo mwr mpl mny mch mcu mro) sz) (fun u => mwt am tc u)) (va_A (mw am tc tn mdg msz msh mth minv isf fsp mfo mwr mpl mny mch mcu mro) sz)) 0 0 (va_A (mw am tc tn mdg msz msh mth minv isf fsp mfo mwr mpl mny mch mcu mro) sz) := by
  refine Met.ofW (cc := cX5_deal) (maxL := 9) (ret := some .boolean) (by decide) rfl ?_
  intro p e s m args below meth c s₁ B hml hv
  obtain ⟨rfl, hsz, hP, hK, hD0⟩ := hv
  have hx := B.exec
  have hb := B.bytes
  have hr := B.returns
  have hts := atoms_spec (ws := Cond.code yX5_deal cX5_deal 9 (some .boolean) :: bg) B.pre
  have hown : s.vm.findClass RX5 = some m.cls := findClass_of_methodNamed B.named
  have hlocks := B.notSynchronized
  subst hsz
  have hD := hD0.self (sz := s.heap.size)
  generalize hAe : va_A (mw am tc tn mdg msz msh mth minv isf fsp mfo mwr mpl mny mch mcu mro) s.heap.size = A at hD ⊢
  have hA : ∀ q : Nat, s.heap.size ≤ q → A q := fun q h => by rw [← hAe]; exact Or.inr h
  have hS : va_S A s.heap s.heap [] := va_S.rf
  have hl := lv_entry ([.ref (am 0), .int x, .int y, .int z, .long v, .long seed]) (n := 9) (Nat.le_of_ble_eq_true rfl)
  rw [lg_entry_eq]
  generalize (lg_sl ([.ref (am 0), .int x, .int y, .int z, .long v, .long seed]) ++ List.replicate (9 - (lg_sl ([.ref (am 0), .int x, .int y, .int z, .long v, .long seed])).length) Slot.unset).toArray = ls at hl ⊢
  replace hl : lv_has ls 9 [(0, .ref (am 0)), (1, .int x), (2, .int y), (3, .int z), (4, .long v), (6, .long seed)] := hl
  refine lv_aload_n hx hb dX5_deal_0 rfl (lv_at hl 0 rfl) ?_
  refine lv_iconst (v := nI 0) hx hb dX5_deal_1 (by decide) ?_
  refine sd_put (ci := 5) (C := RX5) (T := TX5) (N := 15) hx hb hts (fun w h => mm (inX5 w h)) tyX5 tyX5_ok nmX5 hown hK hP hD hS 0 rfl rfl 0 (by decide) (hts _ (mm wf_X5_51)) rfl rfl rfl rfl (Nat.le_of_ble_eq_true rfl) rfl (ws2 := mw am tc (nI 0) mdg msz msh mth minv isf fsp mfo mwr mpl mny mch mcu mro) (rfl) dX5_deal_2 (fun H locs hP hD hS => ?_)
  refine lv_iload_n hx hb dX5_deal_5 rfl (lv_at hl 1 rfl) ?_
  refine sd_ri (va_runS (As := [.int x]) (rest := []) ⟨hx, hb, hml, hown, hts⟩ (k_X5_isSplit l x) (sd_cwS hts wd_X5_isSplit wn_X5 wm_X5_77 wi_X5_isSplit nq_X5_isSplit rfl rfl ⟨Nat.le_of_ble_eq_true rfl, Nat.le_of_ble_eq_true rfl⟩) sd_preN rfl rfl hl.1 rfl (lv_room (Nat.le_of_ble_eq_true rfl)) dX5_deal_6 ⟨Nat.zero_le _, Nat.zero_le _⟩) (fun r1 hr1 => ?_)
  subst hr1
  refine sd_if_eqB (tgt := 35) hx hb dX5_deal_9 (by decide) (fun c1 => ?_) (fun c1 => ?_)
  · refine lv_iconst (v := nI 0) hx hb dX5_deal_35 (by decide) ?_
    exact W.zret hx hb hr rfl (fun T9 hT9 hW => ⟨⟨_, (nI 0, mdg, msz, msh, mth, minv, isf, fsp, mfo, mwr, mpl, mny, mch, mcu, mro), rfl, ⟨rfl, Or.inr ⟨fun ⟨q2, t2, n2, h1, h2, h3, h4, h5, h6, h7⟩ => sd_ix_none (Option.isNone_iff_eq_none.mp (Option.isSome_eq_false_iff.mp c1)) h1 h2, rfl, ⟨rfl, rfl, rfl, rfl, rfl, rfl, rfl, rfl, rfl⟩⟩⟩, by rw [hT9]; exact hP, va_K.moved hW.alike hK, hD⟩, hS.F hT9⟩) hS.2.2 dX5_deal_36
  · obtain ⟨q, hix⟩ := Option.isSome_iff_exists.mp c1
    obtain ⟨hq, hxq⟩ := sd_ix_some hix
    clear hix c1
    subst hxq
    have hokq := hok q hq
    refine lv_iload_n hx hb dX5_deal_12 rfl (lv_at hl 2 rfl) ?_
    refine lv_if_lt (tgt := 35) hx hb dX5_deal_13 (by decide) (fun c1 => ?_) (fun c1 => ?_)
    · refine lv_iconst (v := nI 0) hx hb dX5_deal_35 (by decide) ?_
      exact W.zret hx hb hr rfl (fun T9 hT9 hW => ⟨⟨_, (nI 0, mdg, msz, msh, mth, minv, isf, fsp, mfo, mwr, mpl, mny, mch, mcu, mro), rfl, ⟨rfl, Or.inr ⟨fun ⟨q2, t2, n2, h1, h2, h3, h4, h5, h6, h7⟩ => absurd c1 (by rw [h4]; exact nI_pos (by omega)), rfl, ⟨rfl, rfl, rfl, rfl, rfl, rfl, rfl, rfl, rfl⟩⟩⟩, by rw [hT9]; exact hP, va_K.moved hW.alike hK, hD⟩, hS.F hT9⟩) hS.2.2 dX5_deal_36
    · obtain ⟨t, ht9, rfl⟩ := nI_of c1
      refine lv_iload_n hx hb dX5_deal_16 rfl (lv_at hl 2 rfl) ?_
      refine lv_bipush (v := nI 8) hx hb dX5_deal_17 (by decide) ?_
      refine sd_icmp_gt (tgt := 35) hx hb (by omega) (by omega) dX5_deal_19 (by decide) (fun c2 => ?_) (fun c2 => ?_)
      · refine lv_iconst (v := nI 0) hx hb dX5_deal_35 (by decide) ?_
        exact W.zret hx hb hr rfl (fun T9 hT9 hW => ⟨⟨_, (nI 0, mdg, msz, msh, mth, minv, isf, fsp, mfo, mwr, mpl, mny, mch, mcu, mro), rfl, ⟨rfl, Or.inr ⟨fun ⟨q2, t2, n2, h1, h2, h3, h4, h5, h6, h7⟩ => (by have e9 := sd_nI_inj ht9 (by omega) h4; omega), rfl, ⟨rfl, rfl, rfl, rfl, rfl, rfl, rfl, rfl, rfl⟩⟩⟩, by rw [hT9]; exact hP, va_K.moved hW.alike hK, hD⟩, hS.F hT9⟩) hS.2.2 dX5_deal_36
      · refine lv_iload_n hx hb dX5_deal_22 rfl (lv_at hl 3 rfl) ?_
        refine lv_iload_n hx hb dX5_deal_23 rfl (lv_at hl 2 rfl) ?_
        refine lv_iconst (v := nI 1) hx hb dX5_deal_24 (by decide) ?_
        refine sd_iadd hx hb dX5_deal_25 ?_
        refine lv_icmp_lt (tgt := 35) hx hb dX5_deal_26 (by decide) (fun c3 => ?_) (fun c3 => ?_)
        · refine lv_iconst (v := nI 0) hx hb dX5_deal_35 (by decide) ?_
          exact W.zret hx hb hr rfl (fun T9 hT9 hW => ⟨⟨_, (nI 0, mdg, msz, msh, mth, minv, isf, fsp, mfo, mwr, mpl, mny, mch, mcu, mro), rfl, ⟨rfl, Or.inr ⟨fun ⟨q2, t2, n2, h1, h2, h3, h4, h5, h6, h7⟩ => (by have e9 := sd_nI_inj ht9 (by omega) h4; rw [h7] at c3; exact absurd c3 (nI_nlt (by omega) (by omega))), rfl, ⟨rfl, rfl, rfl, rfl, rfl, rfl, rfl, rfl, rfl⟩⟩⟩, by rw [hT9]; exact hP, va_K.moved hW.alike hK, hD⟩, hS.F hT9⟩) hS.2.2 dX5_deal_36
        · have hz0 : ¬ z < 0 := fun q9 => c3 (Int32.lt_iff_toInt_lt.mpr (by rw [Int32.lt_iff_toInt_lt, Int32.toInt_zero] at q9; rw [nI_toInt (by omega)]; omega))
          obtain ⟨n, hn9, rfl⟩ := nI_of hz0
          have c3 : t + 1 ≤ n := Nat.not_lt.mp (fun q9 => c3 (nI_lt q9 (by omega)))
          refine lv_iload_n hx hb dX5_deal_29 rfl (lv_at hl 3 rfl) ?_
          refine lv_bipush (v := nI 16) hx hb dX5_deal_30 (by decide) ?_
          refine sd_icmp_le (tgt := 37) hx hb (by omega) (by omega) dX5_deal_32 (by decide) (fun c4 => ?_) (fun c4 => ?_)
          · refine lv_aload_n hx hb dX5_deal_37 rfl (lv_at hl 0 rfl) ?_
            refine va_get (D := D) (ci := 5) (v := .ref (am 1)) (C := RX5) (T := TX5) (N := 15) hx hb hts (fun w h => mm (inX5 w h)) hown hK hP 0 rfl rfl 1 (by decide) (hts _ (mm wf_X5_7)) (fun _ h9 => h9) rfl dX5_deal_38 ?_
            refine lv_iload_n hx hb dX5_deal_41 rfl (lv_at hl 1 rfl) ?_
            refine lv_iload_n hx hb dX5_deal_42 rfl (lv_at hl 2 rfl) ?_
            refine sd_iast hx hb hK hP hD hS 1 2 rfl rfl (k := q) (by omega) (by decide) (ws2 := mw am tc (nI 0) (sd_up mdg q t) msz msh mth minv isf fsp mfo mwr mpl mny mch mcu mro) (by rw [sd_stN]; exact rfl) dX5_deal_43 (fun H locs hP hD hS => ?_)
            refine lv_aload_n hx hb dX5_deal_44 rfl (lv_at hl 0 rfl) ?_
            refine va_get (D := D) (ci := 5) (v := .ref (am 2)) (C := RX5) (T := TX5) (N := 15) hx hb hts (fun w h => mm (inX5 w h)) hown hK hP 0 rfl rfl 2 (by decide) (hts _ (mm wf_X5_13)) (fun _ h9 => h9) rfl dX5_deal_45 ?_
            refine lv_iload_n hx hb dX5_deal_48 rfl (lv_at hl 1 rfl) ?_
            refine lv_iload_n hx hb dX5_deal_49 rfl (lv_at hl 3 rfl) ?_
            refine sd_iast hx hb hK hP hD hS 2 2 rfl rfl (k := q) (by omega) (by decide) (ws2 := mw am tc (nI 0) (sd_up mdg q t) (sd_up msz q n) msh mth minv isf fsp mfo mwr mpl mny mch mcu mro) (by rw [sd_stN]; exact rfl) dX5_deal_50 (fun H locs hP hD hS => ?_)
            refine lv_aload_n hx hb dX5_deal_51 rfl (lv_at hl 0 rfl) ?_
            refine lv_lload hx hb dX5_deal_52 (lv_at hl 4 rfl) ?_
            refine sd_rl (va_runS (As := [.long v]) (rest := [.ref (am 0)]) ⟨hx, hb, hml, hown, hts⟩ (k_X5_modulo l v) (sd_cwS hts wd_X5_modulo wn_X5 wm_X5_84 wi_X5_modulo nq_X5_modulo rfl rfl ⟨Nat.le_of_ble_eq_true rfl, Nat.le_of_ble_eq_true rfl⟩) sd_preN rfl rfl hl.1 rfl (lv_room (Nat.le_of_ble_eq_true rfl)) dX5_deal_54 ⟨Nat.zero_le _, Nat.zero_le _⟩) (fun r2 hr2 => ?_)
            subst hr2
            refine lv_iload_n hx hb dX5_deal_57 rfl (lv_at hl 2 rfl) ?_
            refine lv_lload hx hb dX5_deal_58 (lv_at hl 5 rfl) ?_
            refine sd_wv (va_runV (As := [.long (sd_L (sd_of v)), .int (nI t), .long seed]) (rest := []) ⟨hx, hb, hml, hown, hts⟩ (k_X5_draw l D _ (sd_of v) t seed c2) (sd_cwV hts wd_X5_draw wn_X5 wm_X5_87 wi_X5_draw ws_X5_draw nq_X5_draw rfl rfl ⟨Nat.le_of_ble_eq_true rfl, Nat.le_of_ble_eq_true rfl⟩) (sd_preVW hP hK hD (ci := 5) (q0 := 0) rfl rfl rfl) rfl rfl hl.1 rfl (lv_room (Nat.le_of_ble_eq_true rfl)) dX5_deal_60 ⟨Nat.zero_le _, Nat.zero_le _⟩) hD hS hA (fun cA H locs hcA hP hD hS => ?_)
            replace hP : va_P D vwCl (mw am tc (nI 0) (sd_up mdg q t) (sd_up msz q n) msh mth minv isf fsp mfo mwr mpl mny mch cA mro) H := hP
            replace hD : va_D A (mw am tc (nI 0) (sd_up mdg q t) (sd_up msz q n) msh mth minv isf fsp mfo mwr mpl mny mch cA mro) := hD
            have hev := sd_dr_cut c2 hcA.1 hcA.2
            refine lv_iconst (v := nI 1) hx hb dX5_deal_63 (by decide) ?_
            refine lv_istore (lv' := [(8, .int (nI 1)), (0, .ref (am 0)), (1, .int (nI q)), (2, .int (nI t)), (3, .int (nI n)), (4, .long v), (6, .long seed)]) hx hb dX5_deal_64 hl (by decide) rfl (fun ls hl => ?_)
            obtain ⟨k, s1, t1, hk, hI, hP9, hD9, hl9⟩ : ∃ (k : Nat) (s1 : Nat → FP) (t1 : Nat → Bool), (1 ≤ k ∧ k ≤ n + 1) ∧ (∀ i, s1 i = (if 17 * q + 1 ≤ i ∧ i < 17 * q + k then sd_ev (sd_dr (sd_of v) t seed) (sd_N (i - 17 * q)) else msh i) ∧ t1 i = (if 17 * q + 1 ≤ i ∧ i < 17 * q + k then true else mth i)) ∧ va_P D vwCl (mw am tc (nI 0) (sd_up mdg q t) (sd_up msz q n) s1 t1 minv isf fsp mfo mwr mpl mny mch cA mro) H ∧ va_D A (mw am tc (nI 0) (sd_up mdg q t) (sd_up msz q n) s1 t1 minv isf fsp mfo mwr mpl mny mch cA mro) ∧ lv_has ls 9 [(8, .int (nI k)), (0, .ref (am 0)), (1, .int (nI q)), (2, .int (nI t)), (3, .int (nI n))] := ⟨1, msh, mth, ⟨Nat.le_refl 1, by omega⟩, fun i => ⟨by rw [if_neg (by omega)], by rw [if_neg (by omega)]⟩, hP, hD, (lv_sub hl [0, 1, 2, 3, 4] rfl)⟩
            replace hl := hl9
            clear hl9
            replace hP := hP9
            replace hD := hD9
            clear hP9 hD9
            obtain ⟨k9, hk9⟩ : ∃ k9 : Nat, n + 1 < k + k9 := ⟨n + 1, by omega⟩
            induction k9 generalizing k s1 t1 ls H locs with
            | zero => exact absurd hk9 (by omega)
            | succ k9 ih =>
              refine lv_iload hx hb dX5_deal_66 (lv_at hl 0 rfl) ?_
              refine lv_iload_n hx hb dX5_deal_68 rfl (lv_at hl 4 rfl) ?_
              refine sd_icmp_gt (tgt := 113) hx hb (by omega) (by omega) dX5_deal_69 (by decide) (fun c5 => ?_) (fun c5 => ?_)
              · have hI9 : ∀ i, s1 i = (if 17 * q + 1 ≤ i ∧ i ≤ 17 * q + n then sd_ev (sd_dr (sd_of v) t seed) (sd_N (i - 17 * q)) else msh i) ∧ t1 i = (if 17 * q + 1 ≤ i ∧ i ≤ 17 * q + n then true else mth i) := fun i => by have z9 := hI i; rw [show 17 * q + k = 17 * q + n + 1 by omega] at z9; simp only [Nat.lt_succ_iff] at z9; exact z9
                refine lv_iconst (v := nI 1) hx hb dX5_deal_113 (by decide) ?_
                exact W.zret hx hb hr rfl (fun T9 hT9 hW => ⟨⟨_, (nI 0, sd_up mdg q t, sd_up msz q n, s1, t1, minv, isf, fsp, mfo, mwr, mpl, mny, mch, cA, mro), rfl, ⟨rfl, Or.inl ⟨q, t, n, ⟨hq, rfl, c2, rfl, c3, c4, rfl⟩, rfl, rfl, rfl, ⟨rfl, rfl, rfl, rfl, rfl⟩, hI9⟩⟩, by rw [hT9]; exact hP, va_K.moved hW.alike hK, hD⟩, hS.F hT9⟩) hS.2.2 dX5_deal_114
              · refine lv_aload_n hx hb dX5_deal_72 rfl (lv_at hl 1 rfl) ?_
                refine va_get (D := D) (ci := 5) (v := .ref (am 3)) (C := RX5) (T := TX5) (N := 15) hx hb hts (fun w h => mm (inX5 w h)) hown hK hP 0 rfl rfl 3 (by decide) (hts _ (mm wf_X5_16)) (fun _ h9 => h9) rfl dX5_deal_73 ?_
                refine lv_iload_n hx hb dX5_deal_76 rfl (lv_at hl 2 rfl) ?_
                refine lv_iload hx hb dX5_deal_77 (lv_at hl 0 rfl) ?_
                refine sd_ri (va_runS (As := [.int (nI q), .int (nI k)]) (rest := [.ref (am 3)]) ⟨hx, hb, hml, hown, hts⟩ (k_X5_home l q k) (sd_cwS hts wd_X5_home wn_X5 wm_X5_91 wi_X5_home nq_X5_home rfl rfl ⟨Nat.le_of_ble_eq_true rfl, Nat.le_of_ble_eq_true rfl⟩) sd_preN rfl rfl hl.1 rfl (lv_room (Nat.le_of_ble_eq_true rfl)) dX5_deal_79 ⟨Nat.zero_le _, Nat.zero_le _⟩) (fun r4 hr4 => ?_)
                subst hr4
                refine lv_aload_n hx hb dX5_deal_82 rfl (lv_at hl 1 rfl) ?_
                refine lv_aload_n hx hb dX5_deal_83 rfl (lv_at hl 1 rfl) ?_
                refine va_get (D := D) (ci := 5) (v := .ref (am 10)) (C := RX5) (T := TX5) (N := 15) hx hb hts (fun w h => mm (inX5 w h)) hown hK hP 0 rfl rfl 13 (by decide) (hts _ (mm wf_X5_39)) (fun _ h9 => h9) rfl dX5_deal_84 ?_
                refine lv_iload_n hx hb dX5_deal_87 rfl (lv_at hl 3 rfl) ?_
                refine lv_iload hx hb dX5_deal_88 (lv_at hl 0 rfl) ?_
                refine lv_i2l (v := lN k) hx hb dX5_deal_90 (nI_l (by omega)) ?_
                refine sd_tol (y := sd_L (sd_N k)) ((sd_N_L (by omega)).symm) ?_
                refine sd_rl (va_runV (As := [.ref (am 10), .int (nI t), .long (sd_L (sd_N k))]) (rest := [.int (nI (17 * q + k)), .ref (am 3)]) ⟨hx, hb, hml, hown, hts⟩ (k_X5_onCurve_c l D t (sd_N k) c2) (sd_cwV hts wd_X5_onCurve wn_X5 wm_X5_95 wi_X5_onCurve ws_X5_onCurve nq_X5_onCurve rfl rfl ⟨Nat.le_of_ble_eq_true rfl, Nat.le_of_ble_eq_true rfl⟩) (sd_preVR hP hK (ci := 5) (q0 := 0) rfl rfl rfl) rfl rfl hl.1 rfl (lv_room (Nat.le_of_ble_eq_true rfl)) dX5_deal_91 ⟨Nat.zero_le _, Nat.zero_le _⟩) (fun r5 hr5 => ?_)
                subst hr5
                refine sd_last hx hb hK hP hD hS 3 0 rfl rfl (k := 17 * q + k) (by omega) (by decide) (ws2 := mw am tc (nI 0) (sd_up mdg q t) (sd_up msz q n) (sd_up s1 (17 * q + k) (sd_pv cA (sd_N k) 0 (t + 1))) t1 minv isf fsp mfo mwr mpl mny mch cA mro) (by rw [sd_stL]; exact rfl) dX5_deal_94 (fun H locs hP hD hS => ?_)
                refine lv_aload_n hx hb dX5_deal_95 rfl (lv_at hl 1 rfl) ?_
                refine va_get (D := D) (ci := 5) (v := .ref (am 4)) (C := RX5) (T := TX5) (N := 15) hx hb hts (fun w h => mm (inX5 w h)) hown hK hP 0 rfl rfl 4 (by decide) (hts _ (mm wf_X5_20)) (fun _ h9 => h9) rfl dX5_deal_96 ?_
                refine lv_iload_n hx hb dX5_deal_99 rfl (lv_at hl 2 rfl) ?_
                refine lv_iload hx hb dX5_deal_100 (lv_at hl 0 rfl) ?_
                refine sd_ri (va_runS (As := [.int (nI q), .int (nI k)]) (rest := [.ref (am 4)]) ⟨hx, hb, hml, hown, hts⟩ (k_X5_home l q k) (sd_cwS hts wd_X5_home wn_X5 wm_X5_91 wi_X5_home nq_X5_home rfl rfl ⟨Nat.le_of_ble_eq_true rfl, Nat.le_of_ble_eq_true rfl⟩) sd_preN rfl rfl hl.1 rfl (lv_room (Nat.le_of_ble_eq_true rfl)) dX5_deal_102 ⟨Nat.zero_le _, Nat.zero_le _⟩) (fun r6 hr6 => ?_)
                subst hr6
                refine lv_iconst (v := nI 1) hx hb dX5_deal_105 (by decide) ?_
                refine sd_tob (b := true) rfl ?_
                refine sd_zast hx hb hK hP hD hS 4 1 rfl rfl (k := 17 * q + k) (by omega) (by decide) (ws2 := mw am tc (nI 0) (sd_up mdg q t) (sd_up msz q n) (sd_up s1 (17 * q + k) (sd_pv cA (sd_N k) 0 (t + 1))) (sd_up t1 (17 * q + k) true) minv isf fsp mfo mwr mpl mny mch cA mro) (by rw [sd_stZ]; exact rfl) dX5_deal_106 (fun H locs hP hD hS => ?_)
                refine lv_iinc (v := nI (k + 1)) (lv' := [(8, .int (nI (k + 1))), (0, .ref (am 0)), (1, .int (nI q)), (2, .int (nI t)), (3, .int (nI n))]) hx hb dX5_deal_107 hl (k := 0) rfl (nI_1 _) (by decide) rfl (fun ls hl => ?_)
                refine lv_goto (tgt := 66) hx hb dX5_deal_110 (by decide) ?_
                have hI9 : ∀ i, (sd_up s1 (17 * q + k) (sd_pv cA (sd_N k) 0 (t + 1))) i = (if 17 * q + 1 ≤ i ∧ i < 17 * q + (k + 1) then sd_ev (sd_dr (sd_of v) t seed) (sd_N (i - 17 * q)) else msh i) ∧ (sd_up t1 (17 * q + k) true) i = (if 17 * q + 1 ≤ i ∧ i < 17 * q + (k + 1) then true else mth i) := by
                  intro i
                  by_cases ei : i = 17 * q + k
                  · rw [ei, sd_up_s, sd_up_s]
                    exact ⟨by rw [if_pos (by omega), hev, Nat.add_sub_cancel_left], by rw [if_pos (by omega)]⟩
                  · rw [sd_up_n _ _ ei, sd_up_n _ _ ei, (hI i).1, (hI i).2]
                    by_cases e2 : 17 * q + 1 ≤ i ∧ i < 17 * q + k
                    · exact ⟨by rw [if_pos e2, if_pos (by omega)], by rw [if_pos e2, if_pos (by omega)]⟩
                    · exact ⟨by rw [if_neg e2, if_neg (by omega)], by rw [if_neg e2, if_neg (by omega)]⟩
                exact ih (k := k + 1) (s1 := sd_up s1 (17 * q + k) (sd_pv cA (sd_N k) 0 (t + 1))) (t1 := sd_up t1 (17 * q + k) true) (hk := by omega) (hI := hI9) (H := H) (locs := locs) (hP := hP) (hD := hD) (hS := hS) (ls := ls) (hl := (lv_sub hl [0, 1, 2, 3, 4] rfl)) (hk9 := by omega)
          · refine lv_iconst (v := nI 0) hx hb dX5_deal_35 (by decide) ?_
            exact W.zret hx hb hr rfl (fun T9 hT9 hW => ⟨⟨_, (nI 0, mdg, msz, msh, mth, minv, isf, fsp, mfo, mwr, mpl, mny, mch, mcu, mro), rfl, ⟨rfl, Or.inr ⟨fun ⟨q2, t2, n2, h1, h2, h3, h4, h5, h6, h7⟩ => (by have e9 := sd_nI_inj hn9 (by omega) h7; omega), rfl, ⟨rfl, rfl, rfl, rfl, rfl, rfl, rfl, rfl, rfl⟩⟩⟩, by rw [hT9]; exact hP, va_K.moved hW.alike hK, hD⟩, hS.F hT9⟩) hS.2.2 dX5_deal_36

set_option maxHeartbeats 1000000 in
set_option maxRecDepth 100000 in
theorem k_X5_mend (l : Launch) (D : va_G) {am : Nat → Nat} {tc : Nat → ClassId} {tn : Int32} {mdg msz : Nat → Nat} {msh : Nat → FP} {mth : Nat → Bool} {minv : Nat → FP} {isf : Bool} {fsp : Nat} {mfo : Nat → FP} {mwr : Nat → Bool} {mpl : Nat → Nat} {mny : Nat} {mch : Nat → Nat} {mcu mro : Nat → FP} (sz : Nat)  (hok : ∀ q, q < 8 → mdg q ≤ 8 ∧ msz q ≤ 16) (hfs : isf = true → fsp < 8) : Met l yX5_mend (Cond.code yX5_mend cX5_mend 2 (some .boolean) :: bg) { frames := 4, cells := 0, slots := 0, locals := 116 } (sd_Wr D vwCl (ty5 tc) (mw am tc tn mdg msz msh mth minv isf fsp mfo mwr mpl mny mch mcu mro) sz [.ref (am 0)]) (va_Qi (S := MS) (fun r u => rtn u = nI 0 ∧ M_mend (tn, mdg, msz, msh, mth, minv, isf, fsp, mfo, mwr, mpl, mny, mch, mcu, mro) r u) (sd_B D vwCl (ty5 tc) (va_A (mw am tc tn mdg msz msh mth minv isf fsp mfo mwr mpl mny mch mcu mro) sz) (fun u => mwt am tc u)) (va_A (mw am tc tn mdg msz msh mth minv isf fsp mfo mwr mpl mny mch mcu mro) sz)) 0 0 (va_A (mw am tc tn mdg msz msh mth minv isf fsp mfo mwr mpl mny mch mcu mro) sz) := by
  refine Met.ofW (cc := cX5_mend) (maxL := 2) (ret := some .boolean) (by decide) rfl ?_
  intro p e s m args below meth c s₁ B hml hv
  obtain ⟨rfl, hsz, hP, hK, hD0⟩ := hv
  have hx := B.exec
  have hb := B.bytes
  have hr := B.returns
  have hts := atoms_spec (ws := Cond.code yX5_mend cX5_mend 2 (some .boolean) :: bg) B.pre
  have hown : s.vm.findClass RX5 = some m.cls := findClass_of_methodNamed B.named
  have hlocks := B.notSynchronized
  subst hsz
  have hD := hD0.self (sz := s.heap.size)
  generalize hAe : va_A (mw am tc tn mdg msz msh mth minv isf fsp mfo mwr mpl mny mch mcu mro) s.heap.size = A at hD ⊢
  have hA : ∀ q : Nat, s.heap.size ≤ q → A q := fun q h => by rw [← hAe]; exact Or.inr h
  have hS : va_S A s.heap s.heap [] := va_S.rf
  have hl := lv_entry ([.ref (am 0)]) (n := 2) (Nat.le_of_ble_eq_true rfl)
  rw [lg_entry_eq]
  generalize (lg_sl ([.ref (am 0)]) ++ List.replicate (2 - (lg_sl ([.ref (am 0)])).length) Slot.unset).toArray = ls at hl ⊢
  replace hl : lv_has ls 2 [(0, .ref (am 0))] := hl
  refine lv_aload_n hx hb dX5_mend_0 rfl (lv_at hl 0 rfl) ?_
  refine lv_iconst (v := nI 0) hx hb dX5_mend_1 (by decide) ?_
  refine sd_put (ci := 5) (C := RX5) (T := TX5) (N := 15) hx hb hts (fun w h => mm (inX5 w h)) tyX5 tyX5_ok nmX5 hown hK hP hD hS 0 rfl rfl 0 (by decide) (hts _ (mm wf_X5_51)) rfl rfl rfl rfl (Nat.le_of_ble_eq_true rfl) rfl (ws2 := mw am tc (nI 0) mdg msz msh mth minv isf fsp mfo mwr mpl mny mch mcu mro) (rfl) dX5_mend_2 (fun H locs hP hD hS => ?_)
  refine lv_aload_n hx hb dX5_mend_5 rfl (lv_at hl 0 rfl) ?_
  refine va_get (D := D) (ci := 5) (v := .int (bI isf)) (C := RX5) (T := TX5) (N := 15) hx hb hts (fun w h => mm (inX5 w h)) hown hK hP 0 rfl rfl 6 (by decide) (hts _ (mm wf_X5_128)) (fun _ h9 => h9) rfl dX5_mend_6 ?_
  refine sd_if_neB (tgt := 14) hx hb dX5_mend_9 (by decide) (fun c1 => ?_) (fun c1 => ?_)
  · have hq := hfs c1
    have hokq := hok fsp hq
    refine lv_iconst (v := nI 1) hx hb dX5_mend_14 (by decide) ?_
    refine lv_istore_n (lv' := [(1, .int (nI 1)), (0, .ref (am 0))]) hx hb dX5_mend_15 rfl hl (by decide) rfl (fun ls hl => ?_)
    obtain ⟨k, s1, t1, hk, hI, hP9, hD9, hl9⟩ : ∃ (k : Nat) (s1 : Nat → FP) (t1 : Nat → Bool), (1 ≤ k ∧ k ≤ msz fsp + 1) ∧ (∀ i, s1 i = (if 17 * fsp + 1 ≤ i ∧ i < 17 * fsp + k then sd_ev mfo (sd_N (i - 17 * fsp)) else msh i) ∧ t1 i = (if 17 * fsp + 1 ≤ i ∧ i < 17 * fsp + k then true else mth i)) ∧ va_P D vwCl (mw am tc (nI 0) mdg msz s1 t1 minv isf fsp mfo mwr mpl mny mch mcu mro) H ∧ va_D A (mw am tc (nI 0) mdg msz s1 t1 minv isf fsp mfo mwr mpl mny mch mcu mro) ∧ lv_has ls 2 [(1, .int (nI k)), (0, .ref (am 0))] := ⟨1, msh, mth, ⟨Nat.le_refl 1, by omega⟩, fun i => ⟨by rw [if_neg (by omega)], by rw [if_neg (by omega)]⟩, hP, hD, (lv_sub hl [0, 1] rfl)⟩
    replace hl := hl9
    clear hl9
    replace hP := hP9
    replace hD := hD9
    clear hP9 hD9
    obtain ⟨k9, hk9⟩ : ∃ k9 : Nat, msz fsp + 1 < k + k9 := ⟨msz fsp + 1, by omega⟩
    induction k9 generalizing k s1 t1 ls H locs with
    | zero => exact absurd hk9 (by omega)
    | succ k9 ih =>
      refine lv_iload_n hx hb dX5_mend_16 rfl (lv_at hl 0 rfl) ?_
      refine lv_aload_n hx hb dX5_mend_17 rfl (lv_at hl 1 rfl) ?_
      refine va_get (D := D) (ci := 5) (v := .ref (am 2)) (C := RX5) (T := TX5) (N := 15) hx hb hts (fun w h => mm (inX5 w h)) hown hK hP 0 rfl rfl 2 (by decide) (hts _ (mm wf_X5_13)) (fun _ h9 => h9) rfl dX5_mend_18 ?_
      refine lv_aload_n hx hb dX5_mend_21 rfl (lv_at hl 1 rfl) ?_
      refine va_get (D := D) (ci := 5) (v := .int (nI fsp)) (C := RX5) (T := TX5) (N := 15) hx hb hts (fun w h => mm (inX5 w h)) hown hK hP 0 rfl rfl 7 (by decide) (hts _ (mm wf_X5_132)) (fun _ h9 => h9) rfl dX5_mend_22 ?_
      refine sd_iald hx hb hK hP 2 2 rfl rfl (k := fsp) (by omega) (by decide) dX5_mend_25 ?_
      refine sd_icmp_gt (tgt := 74) hx hb (by omega) (by omega) dX5_mend_26 (by decide) (fun c5 => ?_) (fun c5 => ?_)
      · have hI9 : ∀ i, s1 i = (if 17 * fsp + 1 ≤ i ∧ i ≤ 17 * fsp + msz fsp then sd_ev mfo (sd_N (i - 17 * fsp)) else msh i) ∧ t1 i = (if 17 * fsp + 1 ≤ i ∧ i ≤ 17 * fsp + msz fsp then true else mth i) := fun i => by have z9 := hI i; rw [show 17 * fsp + k = 17 * fsp + msz fsp + 1 by omega] at z9; simp only [Nat.lt_succ_iff] at z9; exact z9
        refine lv_iconst (v := nI 1) hx hb dX5_mend_74 (by decide) ?_
        exact W.zret hx hb hr rfl (fun T9 hT9 hW => ⟨⟨_, (nI 0, mdg, msz, s1, t1, minv, isf, fsp, mfo, mwr, mpl, mny, mch, mcu, mro), rfl, ⟨rfl, Or.inl ⟨c1, rfl, rfl, rfl, ⟨rfl, rfl, rfl, rfl, rfl⟩, hI9⟩⟩, by rw [hT9]; exact hP, va_K.moved hW.alike hK, hD⟩, hS.F hT9⟩) hS.2.2 dX5_mend_75
      · refine lv_aload_n hx hb dX5_mend_29 rfl (lv_at hl 1 rfl) ?_
        refine va_get (D := D) (ci := 5) (v := .ref (am 3)) (C := RX5) (T := TX5) (N := 15) hx hb hts (fun w h => mm (inX5 w h)) hown hK hP 0 rfl rfl 3 (by decide) (hts _ (mm wf_X5_16)) (fun _ h9 => h9) rfl dX5_mend_30 ?_
        refine lv_aload_n hx hb dX5_mend_33 rfl (lv_at hl 1 rfl) ?_
        refine va_get (D := D) (ci := 5) (v := .int (nI fsp)) (C := RX5) (T := TX5) (N := 15) hx hb hts (fun w h => mm (inX5 w h)) hown hK hP 0 rfl rfl 7 (by decide) (hts _ (mm wf_X5_132)) (fun _ h9 => h9) rfl dX5_mend_34 ?_
        refine lv_iload_n hx hb dX5_mend_37 rfl (lv_at hl 0 rfl) ?_
        refine sd_ri (va_runS (As := [.int (nI fsp), .int (nI k)]) (rest := [.ref (am 3)]) ⟨hx, hb, hml, hown, hts⟩ (k_X5_home l fsp k) (sd_cwS hts wd_X5_home wn_X5 wm_X5_91 wi_X5_home nq_X5_home rfl rfl ⟨Nat.le_of_ble_eq_true rfl, Nat.le_of_ble_eq_true rfl⟩) sd_preN rfl rfl hl.1 rfl (lv_room (Nat.le_of_ble_eq_true rfl)) dX5_mend_38 ⟨Nat.zero_le _, Nat.zero_le _⟩) (fun r1 hr1 => ?_)
        subst hr1
        refine lv_aload_n hx hb dX5_mend_41 rfl (lv_at hl 1 rfl) ?_
        refine lv_aload_n hx hb dX5_mend_42 rfl (lv_at hl 1 rfl) ?_
        refine va_get (D := D) (ci := 5) (v := .ref (am 6)) (C := RX5) (T := TX5) (N := 15) hx hb hts (fun w h => mm (inX5 w h)) hown hK hP 0 rfl rfl 8 (by decide) (hts _ (mm wf_X5_27)) (fun _ h9 => h9) rfl dX5_mend_43 ?_
        refine lv_bipush (v := nI 8) hx hb dX5_mend_46 (by decide) ?_
        refine lv_iload_n hx hb dX5_mend_48 rfl (lv_at hl 0 rfl) ?_
        refine lv_i2l (v := lN k) hx hb dX5_mend_49 (nI_l (by omega)) ?_
        refine sd_tol (y := sd_L (sd_N k)) ((sd_N_L (by omega)).symm) ?_
        refine sd_rl (va_runV (As := [.ref (am 6), .int (nI 8), .long (sd_L (sd_N k))]) (rest := [.int (nI (17 * fsp + k)), .ref (am 3)]) ⟨hx, hb, hml, hown, hts⟩ (k_X5_onCurve_f l D 8 (sd_N k) (by decide)) (sd_cwV hts wd_X5_onCurve wn_X5 wm_X5_95 wi_X5_onCurve ws_X5_onCurve nq_X5_onCurve rfl rfl ⟨Nat.le_of_ble_eq_true rfl, Nat.le_of_ble_eq_true rfl⟩) (sd_preVR hP hK (ci := 5) (q0 := 0) rfl rfl rfl) rfl rfl hl.1 rfl (lv_room (Nat.le_of_ble_eq_true rfl)) dX5_mend_50 ⟨Nat.zero_le _, Nat.zero_le _⟩) (fun r2 hr2 => ?_)
        subst hr2
        refine sd_last hx hb hK hP hD hS 3 0 rfl rfl (k := 17 * fsp + k) (by omega) (by decide) (ws2 := mw am tc (nI 0) mdg msz (sd_up s1 (17 * fsp + k) (sd_ev mfo (sd_N k))) t1 minv isf fsp mfo mwr mpl mny mch mcu mro) (by rw [sd_stL]; exact rfl) dX5_mend_53 (fun H locs hP hD hS => ?_)
        refine lv_aload_n hx hb dX5_mend_54 rfl (lv_at hl 1 rfl) ?_
        refine va_get (D := D) (ci := 5) (v := .ref (am 4)) (C := RX5) (T := TX5) (N := 15) hx hb hts (fun w h => mm (inX5 w h)) hown hK hP 0 rfl rfl 4 (by decide) (hts _ (mm wf_X5_20)) (fun _ h9 => h9) rfl dX5_mend_55 ?_
        refine lv_aload_n hx hb dX5_mend_58 rfl (lv_at hl 1 rfl) ?_
        refine va_get (D := D) (ci := 5) (v := .int (nI fsp)) (C := RX5) (T := TX5) (N := 15) hx hb hts (fun w h => mm (inX5 w h)) hown hK hP 0 rfl rfl 7 (by decide) (hts _ (mm wf_X5_132)) (fun _ h9 => h9) rfl dX5_mend_59 ?_
        refine lv_iload_n hx hb dX5_mend_62 rfl (lv_at hl 0 rfl) ?_
        refine sd_ri (va_runS (As := [.int (nI fsp), .int (nI k)]) (rest := [.ref (am 4)]) ⟨hx, hb, hml, hown, hts⟩ (k_X5_home l fsp k) (sd_cwS hts wd_X5_home wn_X5 wm_X5_91 wi_X5_home nq_X5_home rfl rfl ⟨Nat.le_of_ble_eq_true rfl, Nat.le_of_ble_eq_true rfl⟩) sd_preN rfl rfl hl.1 rfl (lv_room (Nat.le_of_ble_eq_true rfl)) dX5_mend_63 ⟨Nat.zero_le _, Nat.zero_le _⟩) (fun r3 hr3 => ?_)
        subst hr3
        refine lv_iconst (v := nI 1) hx hb dX5_mend_66 (by decide) ?_
        refine sd_tob (b := true) rfl ?_
        refine sd_zast hx hb hK hP hD hS 4 1 rfl rfl (k := 17 * fsp + k) (by omega) (by decide) (ws2 := mw am tc (nI 0) mdg msz (sd_up s1 (17 * fsp + k) (sd_ev mfo (sd_N k))) (sd_up t1 (17 * fsp + k) true) minv isf fsp mfo mwr mpl mny mch mcu mro) (by rw [sd_stZ]; exact rfl) dX5_mend_67 (fun H locs hP hD hS => ?_)
        refine lv_iinc (v := nI (k + 1)) (lv' := [(1, .int (nI (k + 1))), (0, .ref (am 0))]) hx hb dX5_mend_68 hl (k := 0) rfl (nI_1 _) (by decide) rfl (fun ls hl => ?_)
        refine lv_goto (tgt := 16) hx hb dX5_mend_71 (by decide) ?_
        have hI9 : ∀ i, (sd_up s1 (17 * fsp + k) (sd_ev mfo (sd_N k))) i = (if 17 * fsp + 1 ≤ i ∧ i < 17 * fsp + (k + 1) then sd_ev mfo (sd_N (i - 17 * fsp)) else msh i) ∧ (sd_up t1 (17 * fsp + k) true) i = (if 17 * fsp + 1 ≤ i ∧ i < 17 * fsp + (k + 1) then true else mth i) := by
          intro i
          by_cases ei : i = 17 * fsp + k
          · rw [ei, sd_up_s, sd_up_s]
            exact ⟨by rw [if_pos (by omega), Nat.add_sub_cancel_left], by rw [if_pos (by omega)]⟩
          · rw [sd_up_n _ _ ei, sd_up_n _ _ ei, (hI i).1, (hI i).2]
            by_cases e2 : 17 * fsp + 1 ≤ i ∧ i < 17 * fsp + k
            · exact ⟨by rw [if_pos e2, if_pos (by omega)], by rw [if_pos e2, if_pos (by omega)]⟩
            · exact ⟨by rw [if_neg e2, if_neg (by omega)], by rw [if_neg e2, if_neg (by omega)]⟩
        exact ih (k := k + 1) (s1 := sd_up s1 (17 * fsp + k) (sd_ev mfo (sd_N k))) (t1 := sd_up t1 (17 * fsp + k) true) (hk := by omega) (hI := hI9) (H := H) (locs := locs) (hP := hP) (hD := hD) (hS := hS) (ls := ls) (hl := (lv_sub hl [0, 1] rfl)) (hk9 := by omega)
  · refine lv_iconst (v := nI 0) hx hb dX5_mend_12 (by decide) ?_
    exact W.zret hx hb hr rfl (fun T9 hT9 hW => ⟨⟨_, (nI 0, mdg, msz, msh, mth, minv, isf, fsp, mfo, mwr, mpl, mny, mch, mcu, mro), rfl, ⟨rfl, Or.inr ⟨c1, rfl, ⟨rfl, rfl, rfl, rfl, rfl, rfl, rfl, rfl, rfl⟩⟩⟩, by rw [hT9]; exact hP, va_K.moved hW.alike hK, hD⟩, hS.F hT9⟩) hS.2.2 dX5_mend_13

set_option maxHeartbeats 1000000 in
set_option maxRecDepth 100000 in
theorem k_X5_split (l : Launch) (D : va_G) {am : Nat → Nat} {tc : Nat → ClassId} {tn : Int32} {mdg msz : Nat → Nat} {msh : Nat → FP} {mth : Nat → Bool} {minv : Nat → FP} {isf : Bool} {fsp : Nat} {mfo : Nat → FP} {mwr : Nat → Bool} {mpl : Nat → Nat} {mny : Nat} {mch : Nat → Nat} {mcu mro : Nat → FP} (sz : Nat) (x y : Int32) (hok : ∀ q, q < 8 → mdg q ≤ 8 ∧ msz q ≤ 16) : Met l yX5_split (Cond.code yX5_split cX5_split 5 (some .int) :: bg) { frames := 1, cells := 0, slots := 0, locals := 21 } (sd_Wr D vwCl (ty5 tc) (mw am tc tn mdg msz msh mth minv isf fsp mfo mwr mpl mny mch mcu mro) sz [.ref (am 0), .int x, .int y]) (va_Qi (S := MS) (fun r u => rtn u = nI 0 ∧ m_same (tn, mdg, msz, msh, mth, minv, isf, fsp, mfo, mwr, mpl, mny, mch, mcu, mro) u ∧ M_split x y (tn, mdg, msz, msh, mth, minv, isf, fsp, mfo, mwr, mpl, mny, mch, mcu, mro) r) (sd_B D vwCl (ty5 tc) (va_A (mw am tc tn mdg msz msh mth minv isf fsp mfo mwr mpl mny mch mcu mro) sz) (fun u => mwt am tc u)) (va_A (mw am tc tn mdg msz msh mth minv isf fsp mfo mwr mpl mny mch mcu mro) sz)) 0 0 (va_A (mw am tc tn mdg msz msh mth minv isf fsp mfo mwr mpl mny mch mcu mro) sz) := by
  refine Met.ofW (cc := cX5_split) (maxL := 5) (ret := some .int) (by decide) rfl ?_
  intro p e s m args below meth c s₁ B hml hv
  obtain ⟨rfl, hsz, hP, hK, hD0⟩ := hv
  have hx := B.exec
  have hb := B.bytes
  have hr := B.returns
  have hts := atoms_spec (ws := Cond.code yX5_split cX5_split 5 (some .int) :: bg) B.pre
  have hown : s.vm.findClass RX5 = some m.cls := findClass_of_methodNamed B.named
  have hlocks := B.notSynchronized
  subst hsz
  have hD := hD0.self (sz := s.heap.size)
  generalize hAe : va_A (mw am tc tn mdg msz msh mth minv isf fsp mfo mwr mpl mny mch mcu mro) s.heap.size = A at hD ⊢
  have hA : ∀ q : Nat, s.heap.size ≤ q → A q := fun q h => by rw [← hAe]; exact Or.inr h
  have hS : va_S A s.heap s.heap [] := va_S.rf
  have hl := lv_entry ([.ref (am 0), .int x, .int y]) (n := 5) (Nat.le_of_ble_eq_true rfl)
  rw [lg_entry_eq]
  generalize (lg_sl ([.ref (am 0), .int x, .int y]) ++ List.replicate (5 - (lg_sl ([.ref (am 0), .int x, .int y])).length) Slot.unset).toArray = ls at hl ⊢
  replace hl : lv_has ls 5 [(0, .ref (am 0)), (1, .int x), (2, .int y)] := hl
  refine lv_aload_n hx hb dX5_split_0 rfl (lv_at hl 0 rfl) ?_
  refine lv_iconst (v := nI 0) hx hb dX5_split_1 (by decide) ?_
  refine sd_put (ci := 5) (C := RX5) (T := TX5) (N := 15) hx hb hts (fun w h => mm (inX5 w h)) tyX5 tyX5_ok nmX5 hown hK hP hD hS 0 rfl rfl 0 (by decide) (hts _ (mm wf_X5_51)) rfl rfl rfl rfl (Nat.le_of_ble_eq_true rfl) rfl (ws2 := mw am tc (nI 0) mdg msz msh mth minv isf fsp mfo mwr mpl mny mch mcu mro) (rfl) dX5_split_2 (fun H locs hP hD hS => ?_)
  refine lv_iload_n hx hb dX5_split_5 rfl (lv_at hl 1 rfl) ?_
  refine sd_ri (va_runS (As := [.int x]) (rest := []) ⟨hx, hb, hml, hown, hts⟩ (k_X5_isSplit l x) (sd_cwS hts wd_X5_isSplit wn_X5 wm_X5_77 wi_X5_isSplit nq_X5_isSplit rfl rfl ⟨Nat.le_of_ble_eq_true rfl, Nat.le_of_ble_eq_true rfl⟩) sd_preN rfl rfl hl.1 rfl (lv_room (Nat.le_of_ble_eq_true rfl)) dX5_split_6 ⟨Nat.zero_le _, Nat.zero_le _⟩) (fun r1 hr1 => ?_)
  subst hr1
  refine sd_if_neB (tgt := 14) hx hb dX5_split_9 (by decide) (fun c1 => ?_) (fun c1 => ?_)
  · obtain ⟨q, hix⟩ := Option.isSome_iff_exists.mp c1
    obtain ⟨hq, hxq⟩ := sd_ix_some hix
    clear hix c1
    subst hxq
    have hokq := hok q hq
    refine lv_iconst (v := nI 0) hx hb dX5_split_14 (by decide) ?_
    refine lv_istore_n (lv' := [(3, .int (nI 0)), (0, .ref (am 0)), (1, .int (nI q)), (2, .int y)]) hx hb dX5_split_15 rfl hl (by decide) rfl (fun ls hl => ?_)
    refine lv_iconst (v := nI 1) hx hb dX5_split_16 (by decide) ?_
    refine lv_istore (lv' := [(4, .int (nI 1)), (3, .int (nI 0)), (0, .ref (am 0)), (1, .int (nI q)), (2, .int y)]) hx hb dX5_split_17 hl (by decide) rfl (fun ls hl => ?_)
    obtain ⟨k, hk, hl9⟩ : ∃ (k : Nat), (1 ≤ k ∧ k ≤ msz q + 1) ∧ lv_has ls 5 [(4, .int (nI k)), (3, .int (nI (sd_cnt (fun j => mth (17 * q + j)) (k - 1)))), (0, .ref (am 0)), (1, .int (nI q)), (2, .int y)] := ⟨1, ⟨Nat.le_refl 1, by omega⟩, (lv_sub hl [0, 1, 2, 3, 4] rfl)⟩
    replace hl := hl9
    clear hl9
    obtain ⟨k9, hk9⟩ : ∃ k9 : Nat, msz q + 1 < k + k9 := ⟨msz q + 1, by omega⟩
    induction k9 generalizing k ls with
    | zero => exact absurd hk9 (by omega)
    | succ k9 ih =>
      refine lv_iload hx hb dX5_split_19 (lv_at hl 0 rfl) ?_
      refine lv_aload_n hx hb dX5_split_21 rfl (lv_at hl 2 rfl) ?_
      refine va_get (D := D) (ci := 5) (v := .ref (am 2)) (C := RX5) (T := TX5) (N := 15) hx hb hts (fun w h => mm (inX5 w h)) hown hK hP 0 rfl rfl 2 (by decide) (hts _ (mm wf_X5_13)) (fun _ h9 => h9) rfl dX5_split_22 ?_
      refine lv_iload_n hx hb dX5_split_25 rfl (lv_at hl 3 rfl) ?_
      refine sd_iald hx hb hK hP 2 2 rfl rfl (k := q) (by omega) (by decide) dX5_split_26 ?_
      refine sd_icmp_gt (tgt := 58) hx hb (by omega) (by omega) dX5_split_27 (by decide) (fun c2 => ?_) (fun c2 => ?_)
      · replace hl : lv_has ls 5 [(4, .int (nI k)), (3, .int (nI (sd_cnt (fun j => mth (17 * q + j)) (msz q)))), (0, .ref (am 0)), (1, .int (nI q)), (2, .int y)] := by rw [show msz q = k - 1 by omega]; exact hl
        refine lv_iload_n hx hb dX5_split_58 rfl (lv_at hl 4 rfl) ?_
        refine lv_if_ne (tgt := 71) hx hb dX5_split_59 (by decide) (fun c3 => ?_) (fun c3 => ?_)
        · refine lv_iload_n hx hb dX5_split_71 rfl (lv_at hl 4 rfl) ?_
          refine lv_iconst (v := nI 1) hx hb dX5_split_72 (by decide) ?_
          refine lv_icmp_ne (tgt := 85) hx hb dX5_split_73 (by decide) (fun c4 => ?_) (fun c4 => ?_)
          · refine lv_iload_n hx hb dX5_split_85 rfl (lv_at hl 4 rfl) ?_
            refine lv_iconst (v := nI 2) hx hb dX5_split_86 (by decide) ?_
            refine lv_icmp_ne (tgt := 94) hx hb dX5_split_87 (by decide) (fun c5 => ?_) (fun c5 => ?_)
            · refine lv_iconst (v := -1) hx hb dX5_split_94 (by decide) ?_
              exact W.iret hx hb hr (fun T9 hT9 hW => ⟨⟨_, (nI 0, mdg, msz, msh, mth, minv, isf, fsp, mfo, mwr, mpl, mny, mch, mcu, mro), rfl, ⟨rfl, ⟨rfl, rfl, rfl, rfl, rfl, rfl, rfl, rfl, rfl⟩, Or.inl ⟨q, hq, rfl, by rw [if_neg (fun z => c3 (z.trans nI_0)), if_neg c4, if_neg c5]⟩⟩, by rw [hT9]; exact hP, va_K.moved hW.alike hK, hD⟩, hS.F hT9⟩) hS.2.2 dX5_split_95
            · refine lv_iload_n hx hb dX5_split_90 rfl (lv_at hl 1 rfl) ?_
              refine lv_goto (tgt := 95) hx hb dX5_split_91 (by decide) ?_
              exact W.iret hx hb hr (fun T9 hT9 hW => ⟨⟨_, (nI 0, mdg, msz, msh, mth, minv, isf, fsp, mfo, mwr, mpl, mny, mch, mcu, mro), rfl, ⟨rfl, ⟨rfl, rfl, rfl, rfl, rfl, rfl, rfl, rfl, rfl⟩, Or.inl ⟨q, hq, rfl, by rw [if_neg (fun z => c3 (z.trans nI_0)), if_neg c4, if_pos c5]⟩⟩, by rw [hT9]; exact hP, va_K.moved hW.alike hK, hD⟩, hS.F hT9⟩) hS.2.2 dX5_split_95
          · refine lv_aload_n hx hb dX5_split_76 rfl (lv_at hl 2 rfl) ?_
            refine va_get (D := D) (ci := 5) (v := .ref (am 2)) (C := RX5) (T := TX5) (N := 15) hx hb hts (fun w h => mm (inX5 w h)) hown hK hP 0 rfl rfl 2 (by decide) (hts _ (mm wf_X5_13)) (fun _ h9 => h9) rfl dX5_split_77 ?_
            refine lv_iload_n hx hb dX5_split_80 rfl (lv_at hl 3 rfl) ?_
            refine sd_iald hx hb hK hP 2 2 rfl rfl (k := q) (by omega) (by decide) dX5_split_81 ?_
            refine lv_goto (tgt := 95) hx hb dX5_split_82 (by decide) ?_
            exact W.iret hx hb hr (fun T9 hT9 hW => ⟨⟨_, (nI 0, mdg, msz, msh, mth, minv, isf, fsp, mfo, mwr, mpl, mny, mch, mcu, mro), rfl, ⟨rfl, ⟨rfl, rfl, rfl, rfl, rfl, rfl, rfl, rfl, rfl⟩, Or.inl ⟨q, hq, rfl, by rw [if_neg (fun z => c3 (z.trans nI_0)), if_pos c4]⟩⟩, by rw [hT9]; exact hP, va_K.moved hW.alike hK, hD⟩, hS.F hT9⟩) hS.2.2 dX5_split_95
        · refine lv_aload_n hx hb dX5_split_62 rfl (lv_at hl 2 rfl) ?_
          refine va_get (D := D) (ci := 5) (v := .ref (am 1)) (C := RX5) (T := TX5) (N := 15) hx hb hts (fun w h => mm (inX5 w h)) hown hK hP 0 rfl rfl 1 (by decide) (hts _ (mm wf_X5_7)) (fun _ h9 => h9) rfl dX5_split_63 ?_
          refine lv_iload_n hx hb dX5_split_66 rfl (lv_at hl 3 rfl) ?_
          refine sd_iald hx hb hK hP 1 2 rfl rfl (k := q) (by omega) (by decide) dX5_split_67 ?_
          refine lv_goto (tgt := 95) hx hb dX5_split_68 (by decide) ?_
          exact W.iret hx hb hr (fun T9 hT9 hW => ⟨⟨_, (nI 0, mdg, msz, msh, mth, minv, isf, fsp, mfo, mwr, mpl, mny, mch, mcu, mro), rfl, ⟨rfl, ⟨rfl, rfl, rfl, rfl, rfl, rfl, rfl, rfl, rfl⟩, Or.inl ⟨q, hq, rfl, by rw [if_pos (c3.trans nI_0.symm)]⟩⟩, by rw [hT9]; exact hP, va_K.moved hW.alike hK, hD⟩, hS.F hT9⟩) hS.2.2 dX5_split_95
      · have hc9 := sd_cnt_le (fun j => mth (17 * q + j)) (k - 1)
        obtain ⟨k, rfl⟩ : ∃ z, k = z + 1 := ⟨k - 1, by omega⟩
        rw [Nat.add_sub_cancel] at hl hc9
        refine lv_iload_n hx hb dX5_split_30 rfl (lv_at hl 1 rfl) ?_
        refine lv_aload_n hx hb dX5_split_31 rfl (lv_at hl 2 rfl) ?_
        refine va_get (D := D) (ci := 5) (v := .ref (am 4)) (C := RX5) (T := TX5) (N := 15) hx hb hts (fun w h => mm (inX5 w h)) hown hK hP 0 rfl rfl 4 (by decide) (hts _ (mm wf_X5_20)) (fun _ h9 => h9) rfl dX5_split_32 ?_
        refine lv_iload_n hx hb dX5_split_35 rfl (lv_at hl 3 rfl) ?_
        refine lv_iload hx hb dX5_split_36 (lv_at hl 0 rfl) ?_
        refine sd_ri (va_runS (As := [.int (nI q), .int (nI (k + 1))]) (rest := [.ref (am 4), .int (nI (sd_cnt (fun j => mth (17 * q + j)) k))]) ⟨hx, hb, hml, hown, hts⟩ (k_X5_home l q (k + 1)) (sd_cwS hts wd_X5_home wn_X5 wm_X5_91 wi_X5_home nq_X5_home rfl rfl ⟨Nat.le_of_ble_eq_true rfl, Nat.le_of_ble_eq_true rfl⟩) sd_preN rfl rfl hl.1 rfl (lv_room (Nat.le_of_ble_eq_true rfl)) dX5_split_38 ⟨Nat.zero_le _, Nat.zero_le _⟩) (fun r2 hr2 => ?_)
        subst hr2
        refine sd_zald hx hb hK hP 4 1 rfl rfl (k := 17 * q + (k + 1)) (by omega) (by decide) dX5_split_41 ?_
        refine sd_if_eqB (tgt := 49) hx hb dX5_split_42 (by decide) (fun c3 => ?_) (fun c3 => ?_)
        · have c4 := sd_cnt_f (b := fun j => mth (17 * q + j)) (n := k) c3
          refine lv_iconst (v := nI 0) hx hb dX5_split_49 (by decide) ?_
          refine sd_iadd hx hb dX5_split_50 ?_
          refine sd_toi (y := nI (sd_cnt (fun j => mth (17 * q + j)) (k + 1))) (by rw [c4, Nat.add_zero]) ?_
          refine lv_istore_n (lv' := [(3, .int (nI (sd_cnt (fun j => mth (17 * q + j)) (k + 1)))), (4, .int (nI (k + 1))), (0, .ref (am 0)), (1, .int (nI q)), (2, .int y)]) hx hb dX5_split_51 rfl hl (by decide) rfl (fun ls hl => ?_)
          refine lv_iinc (v := nI (k + 1 + 1)) (lv' := [(4, .int (nI (k + 1 + 1))), (3, .int (nI (sd_cnt (fun j => mth (17 * q + j)) (k + 1)))), (0, .ref (am 0)), (1, .int (nI q)), (2, .int y)]) hx hb dX5_split_52 hl (k := 1) rfl (nI_1 _) (by decide) rfl (fun ls hl => ?_)
          refine lv_goto (tgt := 19) hx hb dX5_split_55 (by decide) ?_
          exact ih (k := k + 1 + 1) (hk := by omega) (ls := ls) (hl := by rw [Nat.add_sub_cancel]; exact (lv_sub hl [0, 1, 2, 3, 4] rfl)) (hk9 := by omega)
        · have c4 := sd_cnt_t (b := fun j => mth (17 * q + j)) (n := k) c3
          refine lv_iconst (v := nI 1) hx hb dX5_split_45 (by decide) ?_
          refine lv_goto (tgt := 50) hx hb dX5_split_46 (by decide) ?_
          refine sd_iadd hx hb dX5_split_50 ?_
          refine sd_toi (y := nI (sd_cnt (fun j => mth (17 * q + j)) (k + 1))) (by rw [c4]) ?_
          refine lv_istore_n (lv' := [(3, .int (nI (sd_cnt (fun j => mth (17 * q + j)) (k + 1)))), (4, .int (nI (k + 1))), (0, .ref (am 0)), (1, .int (nI q)), (2, .int y)]) hx hb dX5_split_51 rfl hl (by decide) rfl (fun ls hl => ?_)
          refine lv_iinc (v := nI (k + 1 + 1)) (lv' := [(4, .int (nI (k + 1 + 1))), (3, .int (nI (sd_cnt (fun j => mth (17 * q + j)) (k + 1)))), (0, .ref (am 0)), (1, .int (nI q)), (2, .int y)]) hx hb dX5_split_52 hl (k := 1) rfl (nI_1 _) (by decide) rfl (fun ls hl => ?_)
          refine lv_goto (tgt := 19) hx hb dX5_split_55 (by decide) ?_
          exact ih (k := k + 1 + 1) (hk := by omega) (ls := ls) (hl := by rw [Nat.add_sub_cancel]; exact (lv_sub hl [0, 1, 2, 3, 4] rfl)) (hk9 := by omega)
  · refine lv_iconst (v := -1) hx hb dX5_split_12 (by decide) ?_
    exact W.iret hx hb hr (fun T9 hT9 hW => ⟨⟨_, (nI 0, mdg, msz, msh, mth, minv, isf, fsp, mfo, mwr, mpl, mny, mch, mcu, mro), rfl, ⟨rfl, ⟨rfl, rfl, rfl, rfl, rfl, rfl, rfl, rfl, rfl⟩, Or.inr ⟨fun ⟨q, h1, h2⟩ => sd_ix_none (Option.isNone_iff_eq_none.mp (Option.isSome_eq_false_iff.mp c1)) h1 h2, rfl⟩⟩, by rw [hT9]; exact hP, va_K.moved hW.alike hK, hD⟩, hS.F hT9⟩) hS.2.2 dX5_split_13

set_option maxHeartbeats 1000000 in
set_option maxRecDepth 100000 in
theorem k_X5_wrong (l : Launch) (D : va_G) {am : Nat → Nat} {tc : Nat → ClassId} {tn : Int32} {mdg msz : Nat → Nat} {msh : Nat → FP} {mth : Nat → Bool} {minv : Nat → FP} {isf : Bool} {fsp : Nat} {mfo : Nat → FP} {mwr : Nat → Bool} {mpl : Nat → Nat} {mny : Nat} {mch : Nat → Nat} {mcu mro : Nat → FP} (sz : Nat) (x : Int32)  : Met l yX5_wrong (Cond.code yX5_wrong cX5_wrong 2 (some .boolean) :: bg) { frames := 0, cells := 0, slots := 0, locals := 0 } (sd_Wr D vwCl (ty5 tc) (mw am tc tn mdg msz msh mth minv isf fsp mfo mwr mpl mny mch mcu mro) sz [.ref (am 0), .int x]) (va_Qi (S := MS) (fun r u => rtn u = nI 0 ∧ m_same (tn, mdg, msz, msh, mth, minv, isf, fsp, mfo, mwr, mpl, mny, mch, mcu, mro) u ∧ r = bI (isf && sd_hs 16 mwr x)) (sd_B D vwCl (ty5 tc) (va_A (mw am tc tn mdg msz msh mth minv isf fsp mfo mwr mpl mny mch mcu mro) sz) (fun u => mwt am tc u)) (va_A (mw am tc tn mdg msz msh mth minv isf fsp mfo mwr mpl mny mch mcu mro) sz)) 0 0 (va_A (mw am tc tn mdg msz msh mth minv isf fsp mfo mwr mpl mny mch mcu mro) sz) := by
  refine Met.ofW (cc := cX5_wrong) (maxL := 2) (ret := some .boolean) (by decide) rfl ?_
  intro p e s m args below meth c s₁ B hml hv
  obtain ⟨rfl, hsz, hP, hK, hD0⟩ := hv
  have hx := B.exec
  have hb := B.bytes
  have hr := B.returns
  have hts := atoms_spec (ws := Cond.code yX5_wrong cX5_wrong 2 (some .boolean) :: bg) B.pre
  have hown : s.vm.findClass RX5 = some m.cls := findClass_of_methodNamed B.named
  have hlocks := B.notSynchronized
  subst hsz
  have hD := hD0.self (sz := s.heap.size)
  generalize hAe : va_A (mw am tc tn mdg msz msh mth minv isf fsp mfo mwr mpl mny mch mcu mro) s.heap.size = A at hD ⊢
  have hA : ∀ q : Nat, s.heap.size ≤ q → A q := fun q h => by rw [← hAe]; exact Or.inr h
  have hS : va_S A s.heap s.heap [] := va_S.rf
  have hl := lv_entry ([.ref (am 0), .int x]) (n := 2) (Nat.le_of_ble_eq_true rfl)
  rw [lg_entry_eq]
  generalize (lg_sl ([.ref (am 0), .int x]) ++ List.replicate (2 - (lg_sl ([.ref (am 0), .int x])).length) Slot.unset).toArray = ls at hl ⊢
  replace hl : lv_has ls 2 [(0, .ref (am 0)), (1, .int x)] := hl
  refine lv_aload_n hx hb dX5_wrong_0 rfl (lv_at hl 0 rfl) ?_
  refine lv_iconst (v := nI 0) hx hb dX5_wrong_1 (by decide) ?_
  refine sd_put (ci := 5) (C := RX5) (T := TX5) (N := 15) hx hb hts (fun w h => mm (inX5 w h)) tyX5 tyX5_ok nmX5 hown hK hP hD hS 0 rfl rfl 0 (by decide) (hts _ (mm wf_X5_51)) rfl rfl rfl rfl (Nat.le_of_ble_eq_true rfl) rfl (ws2 := mw am tc (nI 0) mdg msz msh mth minv isf fsp mfo mwr mpl mny mch mcu mro) (rfl) dX5_wrong_2 (fun H locs hP hD hS => ?_)
  refine lv_aload_n hx hb dX5_wrong_5 rfl (lv_at hl 0 rfl) ?_
  refine va_get (D := D) (ci := 5) (v := .int (bI isf)) (C := RX5) (T := TX5) (N := 15) hx hb hts (fun w h => mm (inX5 w h)) hown hK hP 0 rfl rfl 6 (by decide) (hts _ (mm wf_X5_128)) (fun _ h9 => h9) rfl dX5_wrong_6 ?_
  refine sd_if_eqB (tgt := 36) hx hb dX5_wrong_9 (by decide) (fun c1 => ?_) (fun c1 => ?_)
  · refine lv_iconst (v := nI 0) hx hb dX5_wrong_36 (by decide) ?_
    exact W.zret hx hb hr rfl (fun T9 hT9 hW => ⟨⟨_, (nI 0, mdg, msz, msh, mth, minv, isf, fsp, mfo, mwr, mpl, mny, mch, mcu, mro), rfl, ⟨rfl, ⟨rfl, rfl, rfl, rfl, rfl, rfl, rfl, rfl, rfl⟩, by rw [c1]; rfl⟩, by rw [hT9]; exact hP, va_K.moved hW.alike hK, hD⟩, hS.F hT9⟩) hS.2.2 dX5_wrong_37
  · refine lv_iload_n hx hb dX5_wrong_12 rfl (lv_at hl 1 rfl) ?_
    refine lv_iconst (v := nI 1) hx hb dX5_wrong_13 (by decide) ?_
    refine lv_icmp_lt (tgt := 36) hx hb dX5_wrong_14 (by decide) (fun c2 => ?_) (fun c2 => ?_)
    · refine lv_iconst (v := nI 0) hx hb dX5_wrong_36 (by decide) ?_
      exact W.zret hx hb hr rfl (fun T9 hT9 hW => ⟨⟨_, (nI 0, mdg, msz, msh, mth, minv, isf, fsp, mfo, mwr, mpl, mny, mch, mcu, mro), rfl, ⟨rfl, ⟨rfl, rfl, rfl, rfl, rfl, rfl, rfl, rfl, rfl⟩, by rw [c1, sd_hs_f _ (sd_hp_lt _ c2)]; rfl⟩, by rw [hT9]; exact hP, va_K.moved hW.alike hK, hD⟩, hS.F hT9⟩) hS.2.2 dX5_wrong_37
    · refine lv_iload_n hx hb dX5_wrong_17 rfl (lv_at hl 1 rfl) ?_
      refine lv_bipush (v := nI 16) hx hb dX5_wrong_18 (by decide) ?_
      refine lv_icmp_gt (tgt := 36) hx hb dX5_wrong_20 (by decide) (fun c3 => ?_) (fun c3 => ?_)
      · refine lv_iconst (v := nI 0) hx hb dX5_wrong_36 (by decide) ?_
        exact W.zret hx hb hr rfl (fun T9 hT9 hW => ⟨⟨_, (nI 0, mdg, msz, msh, mth, minv, isf, fsp, mfo, mwr, mpl, mny, mch, mcu, mro), rfl, ⟨rfl, ⟨rfl, rfl, rfl, rfl, rfl, rfl, rfl, rfl, rfl⟩, by rw [c1, sd_hs_f _ (sd_hp_gt (by omega) c3)]; rfl⟩, by rw [hT9]; exact hP, va_K.moved hW.alike hK, hD⟩, hS.F hT9⟩) hS.2.2 dX5_wrong_37
      · obtain ⟨j, hj1, hj2, rfl⟩ := sd_hp_of (by omega) (sd_hp_in (n := 16) (by omega) c2 c3)
        refine lv_aload_n hx hb dX5_wrong_23 rfl (lv_at hl 0 rfl) ?_
        refine va_get (D := D) (ci := 5) (v := .ref (am 7)) (C := RX5) (T := TX5) (N := 15) hx hb hts (fun w h => mm (inX5 w h)) hown hK hP 0 rfl rfl 9 (by decide) (hts _ (mm wf_X5_30)) (fun _ h9 => h9) rfl dX5_wrong_24 ?_
        refine lv_iload_n hx hb dX5_wrong_27 rfl (lv_at hl 1 rfl) ?_
        refine sd_zald hx hb hK hP 7 1 rfl rfl (k := j) (by omega) (by decide) dX5_wrong_28 ?_
        refine sd_if_eqB (tgt := 36) hx hb dX5_wrong_29 (by decide) (fun c4 => ?_) (fun c4 => ?_)
        · refine lv_iconst (v := nI 0) hx hb dX5_wrong_36 (by decide) ?_
          exact W.zret hx hb hr rfl (fun T9 hT9 hW => ⟨⟨_, (nI 0, mdg, msz, msh, mth, minv, isf, fsp, mfo, mwr, mpl, mny, mch, mcu, mro), rfl, ⟨rfl, ⟨rfl, rfl, rfl, rfl, rfl, rfl, rfl, rfl, rfl⟩, by rw [c1, sd_hs_nI _ (by omega) hj1 hj2, c4]; rfl⟩, by rw [hT9]; exact hP, va_K.moved hW.alike hK, hD⟩, hS.F hT9⟩) hS.2.2 dX5_wrong_37
        · refine lv_iconst (v := nI 1) hx hb dX5_wrong_32 (by decide) ?_
          refine lv_goto (tgt := 37) hx hb dX5_wrong_33 (by decide) ?_
          exact W.zret hx hb hr rfl (fun T9 hT9 hW => ⟨⟨_, (nI 0, mdg, msz, msh, mth, minv, isf, fsp, mfo, mwr, mpl, mny, mch, mcu, mro), rfl, ⟨rfl, ⟨rfl, rfl, rfl, rfl, rfl, rfl, rfl, rfl, rfl⟩, by rw [c1, sd_hs_nI _ (by omega) hj1 hj2, c4]; rfl⟩, by rw [hT9]; exact hP, va_K.moved hW.alike hK, hD⟩, hS.F hT9⟩) hS.2.2 dX5_wrong_37

set_option maxHeartbeats 1000000 in
set_option maxRecDepth 100000 in
theorem k_X5_at (l : Launch) (D : va_G) {am : Nat → Nat} {tc : Nat → ClassId} {tn : Int32} {mdg msz : Nat → Nat} {msh : Nat → FP} {mth : Nat → Bool} {minv : Nat → FP} {isf : Bool} {fsp : Nat} {mfo : Nat → FP} {mwr : Nat → Bool} {mpl : Nat → Nat} {mny : Nat} {mch : Nat → Nat} {mcu mro : Nat → FP} (sz : Nat) (x : Int64)  : Met l yX5_at (Cond.code yX5_at cX5_at 3 (some .long) :: bg) { frames := 4, cells := 0, slots := 0, locals := 116 } (sd_Wr D vwCl (ty5 tc) (mw am tc tn mdg msz msh mth minv isf fsp mfo mwr mpl mny mch mcu mro) sz [.ref (am 0), .long x]) (va_Ql (S := MS) (fun r u => rtn u = (if isf = true then nI 0 else nI 1) ∧ m_same (tn, mdg, msz, msh, mth, minv, isf, fsp, mfo, mwr, mpl, mny, mch, mcu, mro) u ∧ (isf = true → r = sd_L (sd_ev mfo (sd_of x)))) (sd_B D vwCl (ty5 tc) (va_A (mw am tc tn mdg msz msh mth minv isf fsp mfo mwr mpl mny mch mcu mro) sz) (fun u => mwt am tc u)) (va_A (mw am tc tn mdg msz msh mth minv isf fsp mfo mwr mpl mny mch mcu mro) sz)) 0 0 (va_A (mw am tc tn mdg msz msh mth minv isf fsp mfo mwr mpl mny mch mcu mro) sz) := by
  refine Met.ofW (cc := cX5_at) (maxL := 3) (ret := some .long) (by decide) rfl ?_
  intro p e s m args below meth c s₁ B hml hv
  obtain ⟨rfl, hsz, hP, hK, hD0⟩ := hv
  have hx := B.exec
  have hb := B.bytes
  have hr := B.returns
  have hts := atoms_spec (ws := Cond.code yX5_at cX5_at 3 (some .long) :: bg) B.pre
  have hown : s.vm.findClass RX5 = some m.cls := findClass_of_methodNamed B.named
  have hlocks := B.notSynchronized
  subst hsz
  have hD := hD0.self (sz := s.heap.size)
  generalize hAe : va_A (mw am tc tn mdg msz msh mth minv isf fsp mfo mwr mpl mny mch mcu mro) s.heap.size = A at hD ⊢
  have hA : ∀ q : Nat, s.heap.size ≤ q → A q := fun q h => by rw [← hAe]; exact Or.inr h
  have hS : va_S A s.heap s.heap [] := va_S.rf
  have hl := lv_entry ([.ref (am 0), .long x]) (n := 3) (Nat.le_of_ble_eq_true rfl)
  rw [lg_entry_eq]
  generalize (lg_sl ([.ref (am 0), .long x]) ++ List.replicate (3 - (lg_sl ([.ref (am 0), .long x])).length) Slot.unset).toArray = ls at hl ⊢
  replace hl : lv_has ls 3 [(0, .ref (am 0)), (1, .long x)] := hl
  refine lv_aload_n hx hb dX5_at_0 rfl (lv_at hl 0 rfl) ?_
  refine lv_aload_n hx hb dX5_at_1 rfl (lv_at hl 0 rfl) ?_
  refine va_get (D := D) (ci := 5) (v := .int (bI isf)) (C := RX5) (T := TX5) (N := 15) hx hb hts (fun w h => mm (inX5 w h)) hown hK hP 0 rfl rfl 6 (by decide) (hts _ (mm wf_X5_128)) (fun _ h9 => h9) rfl dX5_at_2 ?_
  refine sd_if_eqB (tgt := 12) hx hb dX5_at_5 (by decide) (fun c1 => ?_) (fun c1 => ?_)
  · refine lv_iconst (v := nI 1) hx hb dX5_at_12 (by decide) ?_
    refine sd_put (ci := 5) (C := RX5) (T := TX5) (N := 15) hx hb hts (fun w h => mm (inX5 w h)) tyX5 tyX5_ok nmX5 hown hK hP hD hS 0 rfl rfl 0 (by decide) (hts _ (mm wf_X5_51)) rfl rfl rfl rfl (Nat.le_of_ble_eq_true rfl) rfl (ws2 := mw am tc (nI 1) mdg msz msh mth minv isf fsp mfo mwr mpl mny mch mcu mro) (rfl) dX5_at_13 (fun H locs hP hD hS => ?_)
    refine lv_aload_n hx hb dX5_at_16 rfl (lv_at hl 0 rfl) ?_
    refine va_get (D := D) (ci := 5) (v := .int (bI isf)) (C := RX5) (T := TX5) (N := 15) hx hb hts (fun w h => mm (inX5 w h)) hown hK hP 0 rfl rfl 6 (by decide) (hts _ (mm wf_X5_128)) (fun _ h9 => h9) rfl dX5_at_17 ?_
    refine sd_if_eqB (tgt := 40) hx hb dX5_at_20 (by decide) (fun c2 => ?_) (fun c2 => ?_)
    · refine lv_lconst (v := 0) hx hb dX5_at_40 (by decide) ?_
      exact W.lret hx hb hr (fun T9 hT9 hW => ⟨⟨_, (nI 1, mdg, msz, msh, mth, minv, isf, fsp, mfo, mwr, mpl, mny, mch, mcu, mro), rfl, ⟨by rw [if_neg (by rw [c1]; decide)], ⟨rfl, rfl, rfl, rfl, rfl, rfl, rfl, rfl, rfl⟩, fun z => absurd z (by rw [c1]; decide)⟩, by rw [hT9]; exact hP, va_K.moved hW.alike hK, hD⟩, hS.F hT9⟩) hS.2.2 dX5_at_41
    · exact absurd c2 (by rw [c1]; decide)
  · refine lv_iconst (v := nI 0) hx hb dX5_at_8 (by decide) ?_
    refine lv_goto (tgt := 13) hx hb dX5_at_9 (by decide) ?_
    refine sd_put (ci := 5) (C := RX5) (T := TX5) (N := 15) hx hb hts (fun w h => mm (inX5 w h)) tyX5 tyX5_ok nmX5 hown hK hP hD hS 0 rfl rfl 0 (by decide) (hts _ (mm wf_X5_51)) rfl rfl rfl rfl (Nat.le_of_ble_eq_true rfl) rfl (ws2 := mw am tc (nI 0) mdg msz msh mth minv isf fsp mfo mwr mpl mny mch mcu mro) (rfl) dX5_at_13 (fun H locs hP hD hS => ?_)
    refine lv_aload_n hx hb dX5_at_16 rfl (lv_at hl 0 rfl) ?_
    refine va_get (D := D) (ci := 5) (v := .int (bI isf)) (C := RX5) (T := TX5) (N := 15) hx hb hts (fun w h => mm (inX5 w h)) hown hK hP 0 rfl rfl 6 (by decide) (hts _ (mm wf_X5_128)) (fun _ h9 => h9) rfl dX5_at_17 ?_
    refine sd_if_eqB (tgt := 40) hx hb dX5_at_20 (by decide) (fun c2 => ?_) (fun c2 => ?_)
    · exact absurd c2 (by rw [c1]; decide)
    · refine lv_aload_n hx hb dX5_at_23 rfl (lv_at hl 0 rfl) ?_
      refine lv_aload_n hx hb dX5_at_24 rfl (lv_at hl 0 rfl) ?_
      refine va_get (D := D) (ci := 5) (v := .ref (am 6)) (C := RX5) (T := TX5) (N := 15) hx hb hts (fun w h => mm (inX5 w h)) hown hK hP 0 rfl rfl 8 (by decide) (hts _ (mm wf_X5_27)) (fun _ h9 => h9) rfl dX5_at_25 ?_
      refine lv_bipush (v := nI 8) hx hb dX5_at_28 (by decide) ?_
      refine lv_lload_n hx hb dX5_at_30 rfl (lv_at hl 1 rfl) ?_
      refine sd_rl (va_runS (As := [.long x]) (rest := [.int (nI 8), .ref (am 6), .ref (am 0)]) ⟨hx, hb, hml, hown, hts⟩ (k_X5_modulo l x) (sd_cwS hts wd_X5_modulo wn_X5 wm_X5_84 wi_X5_modulo nq_X5_modulo rfl rfl ⟨Nat.le_of_ble_eq_true rfl, Nat.le_of_ble_eq_true rfl⟩) sd_preN rfl rfl hl.1 rfl (lv_room (Nat.le_of_ble_eq_true rfl)) dX5_at_31 ⟨Nat.zero_le _, Nat.zero_le _⟩) (fun r1 hr1 => ?_)
      subst hr1
      refine sd_rl (va_runV (As := [.ref (am 6), .int (nI 8), .long (sd_L (sd_of x))]) (rest := []) ⟨hx, hb, hml, hown, hts⟩ (k_X5_onCurve_f l D 8 (sd_of x) (by decide)) (sd_cwV hts wd_X5_onCurve wn_X5 wm_X5_95 wi_X5_onCurve ws_X5_onCurve nq_X5_onCurve rfl rfl ⟨Nat.le_of_ble_eq_true rfl, Nat.le_of_ble_eq_true rfl⟩) (sd_preVR hP hK (ci := 5) (q0 := 0) rfl rfl rfl) rfl rfl hl.1 rfl (lv_room (Nat.le_of_ble_eq_true rfl)) dX5_at_34 ⟨Nat.zero_le _, Nat.zero_le _⟩) (fun r2 hr2 => ?_)
      subst hr2
      refine lv_goto (tgt := 41) hx hb dX5_at_37 (by decide) ?_
      exact W.lret hx hb hr (fun T9 hT9 hW => ⟨⟨_, (nI 0, mdg, msz, msh, mth, minv, isf, fsp, mfo, mwr, mpl, mny, mch, mcu, mro), rfl, ⟨by rw [if_pos c1], ⟨rfl, rfl, rfl, rfl, rfl, rfl, rfl, rfl, rfl⟩, fun _ => rfl⟩, by rw [hT9]; exact hP, va_K.moved hW.alike hK, hD⟩, hS.F hT9⟩) hS.2.2 dX5_at_41

set_option maxHeartbeats 1000000 in
set_option maxRecDepth 100000 in
theorem k_X5_part (l : Launch) (D : va_G) {am : Nat → Nat} {tc : Nat → ClassId} {tn : Int32} {mdg msz : Nat → Nat} {msh : Nat → FP} {mth : Nat → Bool} {minv : Nat → FP} {isf : Bool} {fsp : Nat} {mfo : Nat → FP} {mwr : Nat → Bool} {mpl : Nat → Nat} {mny : Nat} {mch : Nat → Nat} {mcu mro : Nat → FP} (sz : Nat) (x : Int32)  : Met l yX5_part (Cond.code yX5_part cX5_part 2 (some .long) :: bg) { frames := 0, cells := 0, slots := 0, locals := 0 } (sd_Wr D vwCl (ty5 tc) (mw am tc tn mdg msz msh mth minv isf fsp mfo mwr mpl mny mch mcu mro) sz [.ref (am 0), .int x]) (va_Ql (S := MS) (fun r u => m_same (tn, mdg, msz, msh, mth, minv, isf, fsp, mfo, mwr, mpl, mny, mch, mcu, mro) u ∧ M_part x (tn, mdg, msz, msh, mth, minv, isf, fsp, mfo, mwr, mpl, mny, mch, mcu, mro) r u) (sd_B D vwCl (ty5 tc) (va_A (mw am tc tn mdg msz msh mth minv isf fsp mfo mwr mpl mny mch mcu mro) sz) (fun u => mwt am tc u)) (va_A (mw am tc tn mdg msz msh mth minv isf fsp mfo mwr mpl mny mch mcu mro) sz)) 0 0 (va_A (mw am tc tn mdg msz msh mth minv isf fsp mfo mwr mpl mny mch mcu mro) sz) := by
  refine Met.ofW (cc := cX5_part) (maxL := 2) (ret := some .long) (by decide) rfl ?_
  intro p e s m args below meth c s₁ B hml hv
  obtain ⟨rfl, hsz, hP, hK, hD0⟩ := hv
  have hx := B.exec
  have hb := B.bytes
  have hr := B.returns
  have hts := atoms_spec (ws := Cond.code yX5_part cX5_part 2 (some .long) :: bg) B.pre
  have hown : s.vm.findClass RX5 = some m.cls := findClass_of_methodNamed B.named
  have hlocks := B.notSynchronized
  subst hsz
  have hD := hD0.self (sz := s.heap.size)
  generalize hAe : va_A (mw am tc tn mdg msz msh mth minv isf fsp mfo mwr mpl mny mch mcu mro) s.heap.size = A at hD ⊢
  have hA : ∀ q : Nat, s.heap.size ≤ q → A q := fun q h => by rw [← hAe]; exact Or.inr h
  have hS : va_S A s.heap s.heap [] := va_S.rf
  have hl := lv_entry ([.ref (am 0), .int x]) (n := 2) (Nat.le_of_ble_eq_true rfl)
  rw [lg_entry_eq]
  generalize (lg_sl ([.ref (am 0), .int x]) ++ List.replicate (2 - (lg_sl ([.ref (am 0), .int x])).length) Slot.unset).toArray = ls at hl ⊢
  replace hl : lv_has ls 2 [(0, .ref (am 0)), (1, .int x)] := hl
  refine lv_aload_n hx hb dX5_part_0 rfl (lv_at hl 0 rfl) ?_
  refine lv_aload_n hx hb dX5_part_1 rfl (lv_at hl 0 rfl) ?_
  refine va_get (D := D) (ci := 5) (v := .int (bI isf)) (C := RX5) (T := TX5) (N := 15) hx hb hts (fun w h => mm (inX5 w h)) hown hK hP 0 rfl rfl 6 (by decide) (hts _ (mm wf_X5_128)) (fun _ h9 => h9) rfl dX5_part_2 ?_
  refine sd_if_eqB (tgt := 22) hx hb dX5_part_5 (by decide) (fun c1 => ?_) (fun c1 => ?_)
  · refine lv_iconst (v := nI 1) hx hb dX5_part_22 (by decide) ?_
    refine sd_put (ci := 5) (C := RX5) (T := TX5) (N := 15) hx hb hts (fun w h => mm (inX5 w h)) tyX5 tyX5_ok nmX5 hown hK hP hD hS 0 rfl rfl 0 (by decide) (hts _ (mm wf_X5_51)) rfl rfl rfl rfl (Nat.le_of_ble_eq_true rfl) rfl (ws2 := mw am tc (nI 1) mdg msz msh mth minv isf fsp mfo mwr mpl mny mch mcu mro) (rfl) dX5_part_23 (fun H locs hP hD hS => ?_)
    refine lv_aload_n hx hb dX5_part_26 rfl (lv_at hl 0 rfl) ?_
    refine va_get (D := D) (ci := 5) (v := .int (nI 1)) (C := RX5) (T := TX5) (N := 15) hx hb hts (fun w h => mm (inX5 w h)) hown hK hP 0 rfl rfl 0 (by decide) (hts _ (mm wf_X5_51)) (fun _ h9 => h9) rfl dX5_part_27 ?_
    refine lv_if_ne (tgt := 42) hx hb dX5_part_30 (by decide) (fun c9 => ?_) (fun c9 => ?_)
    · refine lv_lconst (v := 0) hx hb dX5_part_42 (by decide) ?_
      exact W.lret hx hb hr (fun T9 hT9 hW => ⟨⟨_, (nI 1, mdg, msz, msh, mth, minv, isf, fsp, mfo, mwr, mpl, mny, mch, mcu, mro), rfl, ⟨⟨rfl, rfl, rfl, rfl, rfl, rfl, rfl, rfl, rfl⟩, Or.inr ⟨fun ⟨k, h1, h2, h3⟩ => absurd h3 (by show ¬ isf = true; rw [c1]; decide), rfl⟩⟩, by rw [hT9]; exact hP, va_K.moved hW.alike hK, hD⟩, hS.F hT9⟩) hS.2.2 dX5_part_43
    · exact absurd c9 (by decide)
  · refine lv_iload_n hx hb dX5_part_8 rfl (lv_at hl 1 rfl) ?_
    refine lv_if_lt (tgt := 22) hx hb dX5_part_9 (by decide) (fun c2 => ?_) (fun c2 => ?_)
    · refine lv_iconst (v := nI 1) hx hb dX5_part_22 (by decide) ?_
      refine sd_put (ci := 5) (C := RX5) (T := TX5) (N := 15) hx hb hts (fun w h => mm (inX5 w h)) tyX5 tyX5_ok nmX5 hown hK hP hD hS 0 rfl rfl 0 (by decide) (hts _ (mm wf_X5_51)) rfl rfl rfl rfl (Nat.le_of_ble_eq_true rfl) rfl (ws2 := mw am tc (nI 1) mdg msz msh mth minv isf fsp mfo mwr mpl mny mch mcu mro) (rfl) dX5_part_23 (fun H locs hP hD hS => ?_)
      refine lv_aload_n hx hb dX5_part_26 rfl (lv_at hl 0 rfl) ?_
      refine va_get (D := D) (ci := 5) (v := .int (nI 1)) (C := RX5) (T := TX5) (N := 15) hx hb hts (fun w h => mm (inX5 w h)) hown hK hP 0 rfl rfl 0 (by decide) (hts _ (mm wf_X5_51)) (fun _ h9 => h9) rfl dX5_part_27 ?_
      refine lv_if_ne (tgt := 42) hx hb dX5_part_30 (by decide) (fun c9 => ?_) (fun c9 => ?_)
      · refine lv_lconst (v := 0) hx hb dX5_part_42 (by decide) ?_
        exact W.lret hx hb hr (fun T9 hT9 hW => ⟨⟨_, (nI 1, mdg, msz, msh, mth, minv, isf, fsp, mfo, mwr, mpl, mny, mch, mcu, mro), rfl, ⟨⟨rfl, rfl, rfl, rfl, rfl, rfl, rfl, rfl, rfl⟩, Or.inr ⟨fun ⟨k, h1, h2, h3⟩ => absurd c2 (by rw [h2]; exact nI_pos (by omega)), rfl⟩⟩, by rw [hT9]; exact hP, va_K.moved hW.alike hK, hD⟩, hS.F hT9⟩) hS.2.2 dX5_part_43
      · exact absurd c9 (by decide)
    · obtain ⟨k, hk9, rfl⟩ := nI_of c2
      refine lv_iload_n hx hb dX5_part_12 rfl (lv_at hl 1 rfl) ?_
      refine lv_bipush (v := nI 8) hx hb dX5_part_13 (by decide) ?_
      refine sd_icmp_gt (tgt := 22) hx hb (by omega) (by omega) dX5_part_15 (by decide) (fun c3 => ?_) (fun c3 => ?_)
      · refine lv_iconst (v := nI 1) hx hb dX5_part_22 (by decide) ?_
        refine sd_put (ci := 5) (C := RX5) (T := TX5) (N := 15) hx hb hts (fun w h => mm (inX5 w h)) tyX5 tyX5_ok nmX5 hown hK hP hD hS 0 rfl rfl 0 (by decide) (hts _ (mm wf_X5_51)) rfl rfl rfl rfl (Nat.le_of_ble_eq_true rfl) rfl (ws2 := mw am tc (nI 1) mdg msz msh mth minv isf fsp mfo mwr mpl mny mch mcu mro) (rfl) dX5_part_23 (fun H locs hP hD hS => ?_)
        refine lv_aload_n hx hb dX5_part_26 rfl (lv_at hl 0 rfl) ?_
        refine va_get (D := D) (ci := 5) (v := .int (nI 1)) (C := RX5) (T := TX5) (N := 15) hx hb hts (fun w h => mm (inX5 w h)) hown hK hP 0 rfl rfl 0 (by decide) (hts _ (mm wf_X5_51)) (fun _ h9 => h9) rfl dX5_part_27 ?_
        refine lv_if_ne (tgt := 42) hx hb dX5_part_30 (by decide) (fun c9 => ?_) (fun c9 => ?_)
        · refine lv_lconst (v := 0) hx hb dX5_part_42 (by decide) ?_
          exact W.lret hx hb hr (fun T9 hT9 hW => ⟨⟨_, (nI 1, mdg, msz, msh, mth, minv, isf, fsp, mfo, mwr, mpl, mny, mch, mcu, mro), rfl, ⟨⟨rfl, rfl, rfl, rfl, rfl, rfl, rfl, rfl, rfl⟩, Or.inr ⟨fun ⟨k, h1, h2, h3⟩ => (by have e9 := sd_nI_inj hk9 (by omega) h2; omega), rfl⟩⟩, by rw [hT9]; exact hP, va_K.moved hW.alike hK, hD⟩, hS.F hT9⟩) hS.2.2 dX5_part_43
        · exact absurd c9 (by decide)
      · refine lv_iconst (v := nI 0) hx hb dX5_part_18 (by decide) ?_
        refine lv_goto (tgt := 23) hx hb dX5_part_19 (by decide) ?_
        refine sd_put (ci := 5) (C := RX5) (T := TX5) (N := 15) hx hb hts (fun w h => mm (inX5 w h)) tyX5 tyX5_ok nmX5 hown hK hP hD hS 0 rfl rfl 0 (by decide) (hts _ (mm wf_X5_51)) rfl rfl rfl rfl (Nat.le_of_ble_eq_true rfl) rfl (ws2 := mw am tc (nI 0) mdg msz msh mth minv isf fsp mfo mwr mpl mny mch mcu mro) (rfl) dX5_part_23 (fun H locs hP hD hS => ?_)
        refine lv_aload_n hx hb dX5_part_26 rfl (lv_at hl 0 rfl) ?_
        refine va_get (D := D) (ci := 5) (v := .int (nI 0)) (C := RX5) (T := TX5) (N := 15) hx hb hts (fun w h => mm (inX5 w h)) hown hK hP 0 rfl rfl 0 (by decide) (hts _ (mm wf_X5_51)) (fun _ h9 => h9) rfl dX5_part_27 ?_
        refine lv_if_ne (tgt := 42) hx hb dX5_part_30 (by decide) (fun c4 => ?_) (fun c4 => ?_)
        · exact absurd rfl c4
        · refine lv_aload_n hx hb dX5_part_33 rfl (lv_at hl 0 rfl) ?_
          refine va_get (D := D) (ci := 5) (v := .ref (am 6)) (C := RX5) (T := TX5) (N := 15) hx hb hts (fun w h => mm (inX5 w h)) hown hK hP 0 rfl rfl 8 (by decide) (hts _ (mm wf_X5_27)) (fun _ h9 => h9) rfl dX5_part_34 ?_
          refine lv_iload_n hx hb dX5_part_37 rfl (lv_at hl 1 rfl) ?_
          refine sd_lald hx hb hK hP 6 0 rfl rfl (k := k) (by omega) (by decide) dX5_part_38 ?_
          refine lv_goto (tgt := 43) hx hb dX5_part_39 (by decide) ?_
          exact W.lret hx hb hr (fun T9 hT9 hW => ⟨⟨_, (nI 0, mdg, msz, msh, mth, minv, isf, fsp, mfo, mwr, mpl, mny, mch, mcu, mro), rfl, ⟨⟨rfl, rfl, rfl, rfl, rfl, rfl, rfl, rfl, rfl⟩, Or.inl ⟨k, c3, rfl, c1, rfl, rfl⟩⟩, by rw [hT9]; exact hP, va_K.moved hW.alike hK, hD⟩, hS.F hT9⟩) hS.2.2 dX5_part_43

set_option maxHeartbeats 1000000 in
set_option maxRecDepth 100000 in
theorem k_X5_share (l : Launch) (D : va_G) {am : Nat → Nat} {tc : Nat → ClassId} {tn : Int32} {mdg msz : Nat → Nat} {msh : Nat → FP} {mth : Nat → Bool} {minv : Nat → FP} {isf : Bool} {fsp : Nat} {mfo : Nat → FP} {mwr : Nat → Bool} {mpl : Nat → Nat} {mny : Nat} {mch : Nat → Nat} {mcu mro : Nat → FP} (sz : Nat) (x y : Int32) (hok : ∀ q, q < 8 → mdg q ≤ 8 ∧ msz q ≤ 16) : Met l yX5_share (Cond.code yX5_share cX5_share 3 (some .long) :: bg) { frames := 2, cells := 0, slots := 0, locals := 42 } (sd_Wr D vwCl (ty5 tc) (mw am tc tn mdg msz msh mth minv isf fsp mfo mwr mpl mny mch mcu mro) sz [.ref (am 0), .int x, .int y]) (va_Ql (S := MS) (fun r u => m_same (tn, mdg, msz, msh, mth, minv, isf, fsp, mfo, mwr, mpl, mny, mch, mcu, mro) u ∧ M_share x y (tn, mdg, msz, msh, mth, minv, isf, fsp, mfo, mwr, mpl, mny, mch, mcu, mro) r u) (sd_B D vwCl (ty5 tc) (va_A (mw am tc tn mdg msz msh mth minv isf fsp mfo mwr mpl mny mch mcu mro) sz) (fun u => mwt am tc u)) (va_A (mw am tc tn mdg msz msh mth minv isf fsp mfo mwr mpl mny mch mcu mro) sz)) 0 0 (va_A (mw am tc tn mdg msz msh mth minv isf fsp mfo mwr mpl mny mch mcu mro) sz) := by
  refine Met.ofW (cc := cX5_share) (maxL := 3) (ret := some .long) (by decide) rfl ?_
  intro p e s m args below meth c s₁ B hml hv
  obtain ⟨rfl, hsz, hP, hK, hD0⟩ := hv
  have hx := B.exec
  have hb := B.bytes
  have hr := B.returns
  have hts := atoms_spec (ws := Cond.code yX5_share cX5_share 3 (some .long) :: bg) B.pre
  have hown : s.vm.findClass RX5 = some m.cls := findClass_of_methodNamed B.named
  have hlocks := B.notSynchronized
  subst hsz
  have hD := hD0.self (sz := s.heap.size)
  generalize hAe : va_A (mw am tc tn mdg msz msh mth minv isf fsp mfo mwr mpl mny mch mcu mro) s.heap.size = A at hD ⊢
  have hA : ∀ q : Nat, s.heap.size ≤ q → A q := fun q h => by rw [← hAe]; exact Or.inr h
  have hS : va_S A s.heap s.heap [] := va_S.rf
  have hl := lv_entry ([.ref (am 0), .int x, .int y]) (n := 3) (Nat.le_of_ble_eq_true rfl)
  rw [lg_entry_eq]
  generalize (lg_sl ([.ref (am 0), .int x, .int y]) ++ List.replicate (3 - (lg_sl ([.ref (am 0), .int x, .int y])).length) Slot.unset).toArray = ls at hl ⊢
  replace hl : lv_has ls 3 [(0, .ref (am 0)), (1, .int x), (2, .int y)] := hl
  refine lv_aload_n hx hb dX5_share_0 rfl (lv_at hl 0 rfl) ?_
  refine lv_aload_n hx hb dX5_share_1 rfl (lv_at hl 0 rfl) ?_
  refine lv_iload_n hx hb dX5_share_2 rfl (lv_at hl 1 rfl) ?_
  refine lv_iload_n hx hb dX5_share_3 rfl (lv_at hl 2 rfl) ?_
  refine sd_ri (va_runV (As := [.int x, .int y]) (rest := [.ref (am 0)]) ⟨hx, hb, hml, hown, hts⟩ (k_X5_isPlace l D x y (fun q hq => (hok q hq).2)) (sd_cwV hts wd_X5_isPlace wn_X5 wm_X5_99 wi_X5_isPlace ws_X5_isPlace nq_X5_isPlace rfl rfl ⟨Nat.le_of_ble_eq_true rfl, Nat.le_of_ble_eq_true rfl⟩) (sd_preVR hP hK (ci := 5) (q0 := 0) rfl rfl rfl) rfl rfl hl.1 rfl (lv_room (Nat.le_of_ble_eq_true rfl)) dX5_share_4 ⟨Nat.zero_le _, Nat.zero_le _⟩) (fun r1 hr1 => ?_)
  subst hr1
  refine sd_if_eqB (tgt := 27) hx hb dX5_share_7 (by decide) (fun c1 => ?_) (fun c1 => ?_)
  · refine lv_iconst (v := nI 1) hx hb dX5_share_27 (by decide) ?_
    refine sd_put (ci := 5) (C := RX5) (T := TX5) (N := 15) hx hb hts (fun w h => mm (inX5 w h)) tyX5 tyX5_ok nmX5 hown hK hP hD hS 0 rfl rfl 0 (by decide) (hts _ (mm wf_X5_51)) rfl rfl rfl rfl (Nat.le_of_ble_eq_true rfl) rfl (ws2 := mw am tc (nI 1) mdg msz msh mth minv isf fsp mfo mwr mpl mny mch mcu mro) (rfl) dX5_share_28 (fun H locs hP hD hS => ?_)
    refine lv_aload_n hx hb dX5_share_31 rfl (lv_at hl 0 rfl) ?_
    refine va_get (D := D) (ci := 5) (v := .int (nI 1)) (C := RX5) (T := TX5) (N := 15) hx hb hts (fun w h => mm (inX5 w h)) hown hK hP 0 rfl rfl 0 (by decide) (hts _ (mm wf_X5_51)) (fun _ h9 => h9) rfl dX5_share_32 ?_
    refine lv_if_ne (tgt := 51) hx hb dX5_share_35 (by decide) (fun c9 => ?_) (fun c9 => ?_)
    · refine lv_lconst (v := 0) hx hb dX5_share_51 (by decide) ?_
      exact W.lret hx hb hr (fun T9 hT9 hW => ⟨⟨_, (nI 1, mdg, msz, msh, mth, minv, isf, fsp, mfo, mwr, mpl, mny, mch, mcu, mro), rfl, ⟨⟨rfl, rfl, rfl, rfl, rfl, rfl, rfl, rfl, rfl⟩, Or.inr ⟨fun ⟨q2, k2, h1, h2, h3, h4, h5, h6⟩ => sd_ip_no (fun q hq => (hok q hq).2) c1 ⟨q2, k2, h1, h2, h3, h4, h5⟩, rfl⟩⟩, by rw [hT9]; exact hP, va_K.moved hW.alike hK, hD⟩, hS.F hT9⟩) hS.2.2 dX5_share_52
    · exact absurd c9 (by decide)
  · obtain ⟨q, k, hq, rfl, hk1, hk2, rfl⟩ := sd_ip_of (fun q hq => (hok q hq).2) c1
    have hokq := hok q hq
    refine lv_aload_n hx hb dX5_share_10 rfl (lv_at hl 0 rfl) ?_
    refine va_get (D := D) (ci := 5) (v := .ref (am 4)) (C := RX5) (T := TX5) (N := 15) hx hb hts (fun w h => mm (inX5 w h)) hown hK hP 0 rfl rfl 4 (by decide) (hts _ (mm wf_X5_20)) (fun _ h9 => h9) rfl dX5_share_11 ?_
    refine lv_iload_n hx hb dX5_share_14 rfl (lv_at hl 1 rfl) ?_
    refine lv_iload_n hx hb dX5_share_15 rfl (lv_at hl 2 rfl) ?_
    refine sd_ri (va_runS (As := [.int (nI q), .int (nI k)]) (rest := [.ref (am 4), .ref (am 0)]) ⟨hx, hb, hml, hown, hts⟩ (k_X5_home l q k) (sd_cwS hts wd_X5_home wn_X5 wm_X5_91 wi_X5_home nq_X5_home rfl rfl ⟨Nat.le_of_ble_eq_true rfl, Nat.le_of_ble_eq_true rfl⟩) sd_preN rfl rfl hl.1 rfl (lv_room (Nat.le_of_ble_eq_true rfl)) dX5_share_16 ⟨Nat.zero_le _, Nat.zero_le _⟩) (fun r2 hr2 => ?_)
    subst hr2
    refine sd_zald hx hb hK hP 4 1 rfl rfl (k := 17 * q + k) (by omega) (by decide) dX5_share_19 ?_
    refine sd_if_eqB (tgt := 27) hx hb dX5_share_20 (by decide) (fun c2 => ?_) (fun c2 => ?_)
    · refine lv_iconst (v := nI 1) hx hb dX5_share_27 (by decide) ?_
      refine sd_put (ci := 5) (C := RX5) (T := TX5) (N := 15) hx hb hts (fun w h => mm (inX5 w h)) tyX5 tyX5_ok nmX5 hown hK hP hD hS 0 rfl rfl 0 (by decide) (hts _ (mm wf_X5_51)) rfl rfl rfl rfl (Nat.le_of_ble_eq_true rfl) rfl (ws2 := mw am tc (nI 1) mdg msz msh mth minv isf fsp mfo mwr mpl mny mch mcu mro) (rfl) dX5_share_28 (fun H locs hP hD hS => ?_)
      refine lv_aload_n hx hb dX5_share_31 rfl (lv_at hl 0 rfl) ?_
      refine va_get (D := D) (ci := 5) (v := .int (nI 1)) (C := RX5) (T := TX5) (N := 15) hx hb hts (fun w h => mm (inX5 w h)) hown hK hP 0 rfl rfl 0 (by decide) (hts _ (mm wf_X5_51)) (fun _ h9 => h9) rfl dX5_share_32 ?_
      refine lv_if_ne (tgt := 51) hx hb dX5_share_35 (by decide) (fun c9 => ?_) (fun c9 => ?_)
      · refine lv_lconst (v := 0) hx hb dX5_share_51 (by decide) ?_
        exact W.lret hx hb hr (fun T9 hT9 hW => ⟨⟨_, (nI 1, mdg, msz, msh, mth, minv, isf, fsp, mfo, mwr, mpl, mny, mch, mcu, mro), rfl, ⟨⟨rfl, rfl, rfl, rfl, rfl, rfl, rfl, rfl, rfl⟩, Or.inr ⟨fun ⟨q2, k2, h1, h2, h3, h4, h5, h6⟩ => (by have h4 : k2 ≤ msz q2 := h4; have hokq2 := hok q2 h1; have e1 := sd_nI_inj (by omega) (by omega) h2; subst e1; have e2 := sd_nI_inj (by omega) (by omega) h5; subst e2; have h6 : mth (17 * q + k) = true := h6; rw [c2] at h6; cases h6), rfl⟩⟩, by rw [hT9]; exact hP, va_K.moved hW.alike hK, hD⟩, hS.F hT9⟩) hS.2.2 dX5_share_52
      · exact absurd c9 (by decide)
    · refine lv_iconst (v := nI 0) hx hb dX5_share_23 (by decide) ?_
      refine lv_goto (tgt := 28) hx hb dX5_share_24 (by decide) ?_
      refine sd_put (ci := 5) (C := RX5) (T := TX5) (N := 15) hx hb hts (fun w h => mm (inX5 w h)) tyX5 tyX5_ok nmX5 hown hK hP hD hS 0 rfl rfl 0 (by decide) (hts _ (mm wf_X5_51)) rfl rfl rfl rfl (Nat.le_of_ble_eq_true rfl) rfl (ws2 := mw am tc (nI 0) mdg msz msh mth minv isf fsp mfo mwr mpl mny mch mcu mro) (rfl) dX5_share_28 (fun H locs hP hD hS => ?_)
      refine lv_aload_n hx hb dX5_share_31 rfl (lv_at hl 0 rfl) ?_
      refine va_get (D := D) (ci := 5) (v := .int (nI 0)) (C := RX5) (T := TX5) (N := 15) hx hb hts (fun w h => mm (inX5 w h)) hown hK hP 0 rfl rfl 0 (by decide) (hts _ (mm wf_X5_51)) (fun _ h9 => h9) rfl dX5_share_32 ?_
      refine lv_if_ne (tgt := 51) hx hb dX5_share_35 (by decide) (fun c4 => ?_) (fun c4 => ?_)
      · exact absurd rfl c4
      · refine lv_aload_n hx hb dX5_share_38 rfl (lv_at hl 0 rfl) ?_
        refine va_get (D := D) (ci := 5) (v := .ref (am 3)) (C := RX5) (T := TX5) (N := 15) hx hb hts (fun w h => mm (inX5 w h)) hown hK hP 0 rfl rfl 3 (by decide) (hts _ (mm wf_X5_16)) (fun _ h9 => h9) rfl dX5_share_39 ?_
        refine lv_iload_n hx hb dX5_share_42 rfl (lv_at hl 1 rfl) ?_
        refine lv_iload_n hx hb dX5_share_43 rfl (lv_at hl 2 rfl) ?_
        refine sd_ri (va_runS (As := [.int (nI q), .int (nI k)]) (rest := [.ref (am 3)]) ⟨hx, hb, hml, hown, hts⟩ (k_X5_home l q k) (sd_cwS hts wd_X5_home wn_X5 wm_X5_91 wi_X5_home nq_X5_home rfl rfl ⟨Nat.le_of_ble_eq_true rfl, Nat.le_of_ble_eq_true rfl⟩) sd_preN rfl rfl hl.1 rfl (lv_room (Nat.le_of_ble_eq_true rfl)) dX5_share_44 ⟨Nat.zero_le _, Nat.zero_le _⟩) (fun r3 hr3 => ?_)
        subst hr3
        refine sd_lald hx hb hK hP 3 0 rfl rfl (k := 17 * q + k) (by omega) (by decide) dX5_share_47 ?_
        refine lv_goto (tgt := 52) hx hb dX5_share_48 (by decide) ?_
        exact W.lret hx hb hr (fun T9 hT9 hW => ⟨⟨_, (nI 0, mdg, msz, msh, mth, minv, isf, fsp, mfo, mwr, mpl, mny, mch, mcu, mro), rfl, ⟨⟨rfl, rfl, rfl, rfl, rfl, rfl, rfl, rfl, rfl⟩, Or.inl ⟨q, k, hq, rfl, hk1, hk2, rfl, c2, rfl, rfl⟩⟩, by rw [hT9]; exact hP, va_K.moved hW.alike hK, hD⟩, hS.F hT9⟩) hS.2.2 dX5_share_52

set_option maxHeartbeats 1000000 in
set_option maxRecDepth 100000 in
theorem k_X5_thrown (l : Launch) (D : va_G) {am : Nat → Nat} {tc : Nat → ClassId} {tn : Int32} {mdg msz : Nat → Nat} {msh : Nat → FP} {mth : Nat → Bool} {minv : Nat → FP} {isf : Bool} {fsp : Nat} {mfo : Nat → FP} {mwr : Nat → Bool} {mpl : Nat → Nat} {mny : Nat} {mch : Nat → Nat} {mcu mro : Nat → FP}   : Met l yX5_thrown (Cond.code yX5_thrown cX5_thrown 1 (some .int) :: bg) { frames := 0, cells := 0, slots := 0, locals := 0 } (sd_R D vwCl (ty5 tc) (mw am tc tn mdg msz msh mth minv isf fsp mfo mwr mpl mny mch mcu mro) [.ref (am 0)]) (vp_Si (fun r => r = tn)) 0 0 (fun _ => False) := by
  refine Met.ofW (cc := cX5_thrown) (maxL := 1) (ret := some .int) (by decide) rfl ?_
  intro p e s m args below meth c s₁ B hml hv
  obtain ⟨rfl, hP, hK⟩ := hv
  have hx := B.exec
  have hb := B.bytes
  have hr := B.returns
  have hts := atoms_spec (ws := Cond.code yX5_thrown cX5_thrown 1 (some .int) :: bg) B.pre
  have hown : s.vm.findClass RX5 = some m.cls := findClass_of_methodNamed B.named
  have hlocks := B.notSynchronized
  have hl := lv_entry ([.ref (am 0)]) (n := 1) (Nat.le_of_ble_eq_true rfl)
  rw [lg_entry_eq]
  generalize (lg_sl ([.ref (am 0)]) ++ List.replicate (1 - (lg_sl ([.ref (am 0)])).length) Slot.unset).toArray = ls at hl ⊢
  replace hl : lv_has ls 1 [(0, .ref (am 0))] := hl
  refine lv_aload_n hx hb dX5_thrown_0 rfl (lv_at hl 0 rfl) ?_
  refine va_get (D := D) (ci := 5) (v := .int tn) (C := RX5) (T := TX5) (N := 15) hx hb hts (fun w h => mm (inX5 w h)) hown hK hP 0 rfl rfl 0 (by decide) (hts _ (mm wf_X5_51)) (fun _ h9 => h9) rfl dX5_thrown_1 ?_
  exact W.iret hx hb hr (fun T9 hT9 hW => ⟨_, rfl, rfl, hT9⟩) (fun q h => nomatch h) dX5_thrown_4

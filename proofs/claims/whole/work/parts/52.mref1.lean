/-! the reference: what its methods do -/
abbrev MS : Type := Int32 × (Nat → Nat) × (Nat → Nat) × (Nat → FP) × (Nat → Bool) × (Nat → FP) × Bool × Nat × (Nat → FP) × (Nat → Bool) × (Nat → Nat) × Nat × (Nat → Nat) × (Nat → FP) × (Nat → FP)
abbrev rtn (u : MS) : Int32 := u.1
abbrev rdg (u : MS) : Nat → Nat := u.2.1
abbrev rsz (u : MS) : Nat → Nat := u.2.2.1
abbrev rsh (u : MS) : Nat → FP := u.2.2.2.1
abbrev rth (u : MS) : Nat → Bool := u.2.2.2.2.1
abbrev riv (u : MS) : Nat → FP := u.2.2.2.2.2.1
abbrev rif (u : MS) : Bool := u.2.2.2.2.2.2.1
abbrev rfs (u : MS) : Nat := u.2.2.2.2.2.2.2.1
abbrev rfo (u : MS) : Nat → FP := u.2.2.2.2.2.2.2.2.1
abbrev rwr (u : MS) : Nat → Bool := u.2.2.2.2.2.2.2.2.2.1
abbrev mwt (am : Nat → Nat) (tc : Nat → ClassId) (u : MS) : va_W := mw am tc u.1 u.2.1 u.2.2.1 u.2.2.2.1 u.2.2.2.2.1 u.2.2.2.2.2.1 u.2.2.2.2.2.2.1 u.2.2.2.2.2.2.2.1 u.2.2.2.2.2.2.2.2.1 u.2.2.2.2.2.2.2.2.2.1 u.2.2.2.2.2.2.2.2.2.2.1 u.2.2.2.2.2.2.2.2.2.2.2.1 u.2.2.2.2.2.2.2.2.2.2.2.2.1 u.2.2.2.2.2.2.2.2.2.2.2.2.2.1 u.2.2.2.2.2.2.2.2.2.2.2.2.2.2
def m_fs (v u : MS) : Prop := rif u = rif v ∧ rfs u = rfs v ∧ rfo u = rfo v ∧ rwr u = rwr v ∧ riv u = riv v
def m_same (v u : MS) : Prop := rdg u = rdg v ∧ rsz u = rsz v ∧ rsh u = rsh v ∧ rth u = rth v ∧ m_fs v u
def M_put (x y : Int32) (v : Int64) (a : MS) (r : Int32) (u : MS) : Prop :=
  (∃ q k, q < 8 ∧ x = nI q ∧ 1 ≤ k ∧ k ≤ rsz a q ∧ y = nI k ∧ r = nI 1 ∧ rdg u = rdg a ∧ rsz u = rsz a ∧ rsh u = sd_up (rsh a) (17 * q + k) (sd_of v) ∧ rth u = sd_up (rth a) (17 * q + k) true ∧ m_fs a u) ∨
  ((¬ ∃ q k, q < 8 ∧ x = nI q ∧ 1 ≤ k ∧ k ≤ rsz a q ∧ y = nI k) ∧ r = nI 0 ∧ m_same a u)
def M_lose (x y : Int32) (a : MS) (r : Int32) (u : MS) : Prop :=
  (∃ q k, q < 8 ∧ x = nI q ∧ 1 ≤ k ∧ k ≤ rsz a q ∧ y = nI k ∧ rth a (17 * q + k) = true ∧ r = nI 1 ∧ rdg u = rdg a ∧ rsz u = rsz a ∧ rsh u = rsh a ∧ rth u = sd_up (rth a) (17 * q + k) false ∧ m_fs a u) ∨
  ((¬ ∃ q k, q < 8 ∧ x = nI q ∧ 1 ≤ k ∧ k ≤ rsz a q ∧ y = nI k ∧ rth a (17 * q + k) = true) ∧ r = nI 0 ∧ m_same a u)
def M_scale (x : Int32) (v w : Int64) (a : MS) (r : Int32) (u : MS) : Prop :=
  (∃ q, q < 8 ∧ x = nI q ∧ r = nI 1 ∧ rdg u = rdg a ∧ rsz u = rsz a ∧ rth u = rth a ∧ m_fs a u ∧ ∀ i, rsh u i = (if 17 * q + 1 ≤ i ∧ i ≤ 17 * q + rsz a q then rsh a i * sd_of v + sd_of w else rsh a i)) ∨
  ((¬ ∃ q, q < 8 ∧ x = nI q) ∧ r = nI 0 ∧ m_same a u)
def M_renew (x : Int32) (seed : Int64) (a : MS) (r : Int32) (u : MS) : Prop :=
  (∃ q, q < 8 ∧ x = nI q ∧ r = nI 1 ∧ rdg u = rdg a ∧ rsz u = rsz a ∧ rth u = rth a ∧ m_fs a u ∧ ∀ i, rsh u i = (if 17 * q + 1 ≤ i ∧ i ≤ 17 * q + rsz a q then rsh a i + sd_ev (sd_dr 0 (rdg a q) seed) (sd_N (i - 17 * q)) else rsh a i)) ∨
  ((¬ ∃ q, q < 8 ∧ x = nI q) ∧ r = nI 0 ∧ m_same a u)
def M_deal (x y z : Int32) (v seed : Int64) (a : MS) (r : Int32) (u : MS) : Prop :=
  (∃ q t n, sd_dv x y z q t n ∧ r = nI 1 ∧ rdg u = sd_up (rdg a) q t ∧ rsz u = sd_up (rsz a) q n ∧ m_fs a u ∧ ∀ i, rsh u i = (if 17 * q + 1 ≤ i ∧ i ≤ 17 * q + n then sd_ev (sd_dr (sd_of v) t seed) (sd_N (i - 17 * q)) else rsh a i) ∧ rth u i = (if 17 * q + 1 ≤ i ∧ i ≤ 17 * q + n then true else rth a i)) ∨
  ((¬ ∃ q t n, sd_dv x y z q t n) ∧ r = nI 0 ∧ m_same a u)
def M_mend (a : MS) (r : Int32) (u : MS) : Prop :=
  (rif a = true ∧ r = nI 1 ∧ rdg u = rdg a ∧ rsz u = rsz a ∧ m_fs a u ∧ ∀ i, rsh u i = (if 17 * rfs a + 1 ≤ i ∧ i ≤ 17 * rfs a + rsz a (rfs a) then sd_ev (rfo a) (sd_N (i - 17 * rfs a)) else rsh a i) ∧ rth u i = (if 17 * rfs a + 1 ≤ i ∧ i ≤ 17 * rfs a + rsz a (rfs a) then true else rth a i)) ∨
  (rif a = false ∧ r = nI 0 ∧ m_same a u)
def sd_ip (sz : Nat → Nat) (x y : Int32) : Bool := match sd_ix x with
  | none => false
  | some q => sd_hp (sz q) y
theorem sd_ip_of {sz : Nat → Nat} {x y : Int32} (hs : ∀ q, q < 8 → sz q ≤ 16) (h : sd_ip sz x y = true) : ∃ q k, q < 8 ∧ x = nI q ∧ 1 ≤ k ∧ k ≤ sz q ∧ y = nI k := by
  unfold sd_ip at h
  cases hx : sd_ix x with
  | none => rw [hx] at h; cases h
  | some q =>
    rw [hx] at h
    obtain ⟨h1, h2⟩ := sd_ix_some hx
    have h3 := hs q h1
    obtain ⟨k, k1, k2, k3⟩ := sd_hp_of (by omega) h
    exact ⟨q, k, h1, h2, k1, k2, k3⟩
theorem sd_ip_no {sz : Nat → Nat} {x y : Int32} (hs : ∀ q, q < 8 → sz q ≤ 16) (h : sd_ip sz x y = false) : ¬ ∃ q k, q < 8 ∧ x = nI q ∧ 1 ≤ k ∧ k ≤ sz q ∧ y = nI k := by
  rintro ⟨q, k, h1, h2, h3, h4, h5⟩
  have h6 := hs q h1
  unfold sd_ip at h
  cases hx : sd_ix x with
  | none => exact sd_ix_none hx h1 h2
  | some q2 =>
    rw [hx] at h
    have e := sd_nI_inj (by omega) (by have := (sd_ix_some hx).1; omega) (h2.symm.trans (sd_ix_some hx).2)
    subst e
    have h : sd_hp (sz q) y = false := h
    rw [h5, sd_hp_nI (by omega), decide_eq_true ⟨h3, h4⟩] at h
    cases h

set_option maxHeartbeats 1000000 in
set_option maxRecDepth 100000 in
theorem k_X5_stepped (l : Launch)  (x : Int64)  : Met l yX5_stepped (Cond.code yX5_stepped cX5_stepped 2 (some .long) :: bg) { frames := 0, cells := 0, slots := 0, locals := 0 } (sd_N0 [.long x]) (vp_Sl (fun r => r = x * 6364136223846793005 + 1442695040888963407)) 0 0 (fun _ => False) := by
  refine Met.ofW (cc := cX5_stepped) (maxL := 2) (ret := some .long) (by decide) rfl ?_
  intro p e s m args below meth c s₁ B hml hv
  obtain ⟨rfl, -⟩ := hv
  have hx := B.exec
  have hb := B.bytes
  have hr := B.returns
  have hts := atoms_spec (ws := Cond.code yX5_stepped cX5_stepped 2 (some .long) :: bg) B.pre
  have hown : s.vm.findClass RX5 = some m.cls := findClass_of_methodNamed B.named
  have hlocks := B.notSynchronized
  have hl := lv_entry ([.long x]) (n := 2) (Nat.le_of_ble_eq_true rfl)
  rw [lg_entry_eq]
  generalize (lg_sl ([.long x]) ++ List.replicate (2 - (lg_sl ([.long x])).length) Slot.unset).toArray = ls at hl ⊢
  replace hl : lv_has ls 2 [(0, .long x)] := hl
  refine lv_lload_n hx hb dX5_stepped_0 rfl (lv_at hl 0 rfl) ?_
  refine lv_ldc2 (v := 6364136223846793005) hx hb hown (hts _ (mm wl_X5_73)) dX5_stepped_1 ?_
  refine lv_lmul hx hb dX5_stepped_4 ?_
  refine lv_ldc2 (v := 1442695040888963407) hx hb hown (hts _ (mm wl_X5_75)) dX5_stepped_5 ?_
  refine lv_ladd hx hb dX5_stepped_8 ?_
  exact W.lret hx hb hr (fun T9 hT9 hW => ⟨_, rfl, rfl, hT9⟩) (fun q h => nomatch h) dX5_stepped_9

set_option maxHeartbeats 1000000 in
set_option maxRecDepth 100000 in
theorem k_X5_isSplit (l : Launch)  (x : Int32)  : Met l yX5_isSplit (Cond.code yX5_isSplit cX5_isSplit 1 (some .boolean) :: bg) { frames := 0, cells := 0, slots := 0, locals := 0 } (sd_N0 [.int x]) (vp_Si (fun r => r = bI (sd_ix x).isSome)) 0 0 (fun _ => False) := by
  refine Met.ofW (cc := cX5_isSplit) (maxL := 1) (ret := some .boolean) (by decide) rfl ?_
  intro p e s m args below meth c s₁ B hml hv
  obtain ⟨rfl, -⟩ := hv
  have hx := B.exec
  have hb := B.bytes
  have hr := B.returns
  have hts := atoms_spec (ws := Cond.code yX5_isSplit cX5_isSplit 1 (some .boolean) :: bg) B.pre
  have hown : s.vm.findClass RX5 = some m.cls := findClass_of_methodNamed B.named
  have hlocks := B.notSynchronized
  have hl := lv_entry ([.int x]) (n := 1) (Nat.le_of_ble_eq_true rfl)
  rw [lg_entry_eq]
  generalize (lg_sl ([.int x]) ++ List.replicate (1 - (lg_sl ([.int x])).length) Slot.unset).toArray = ls at hl ⊢
  replace hl : lv_has ls 1 [(0, .int x)] := hl
  refine lv_iload_n hx hb dX5_isSplit_0 rfl (lv_at hl 0 rfl) ?_
  refine lv_if_lt (tgt := 14) hx hb dX5_isSplit_1 (by decide) (fun c1 => ?_) (fun c1 => ?_)
  · refine lv_iconst (v := nI 0) hx hb dX5_isSplit_14 (by decide) ?_
    exact W.zret hx hb hr rfl (fun T9 hT9 hW => ⟨_, rfl, by rw [sd_ix_lt c1]; rfl, hT9⟩) (fun q h => nomatch h) dX5_isSplit_15
  · refine lv_iload_n hx hb dX5_isSplit_4 rfl (lv_at hl 0 rfl) ?_
    refine lv_bipush (v := nI 8) hx hb dX5_isSplit_5 (by decide) ?_
    refine lv_icmp_ge (tgt := 14) hx hb dX5_isSplit_7 (by decide) (fun c2 => ?_) (fun c2 => ?_)
    · refine lv_iconst (v := nI 0) hx hb dX5_isSplit_14 (by decide) ?_
      exact W.zret hx hb hr rfl (fun T9 hT9 hW => ⟨_, rfl, by rw [sd_ix_ge c2]; rfl, hT9⟩) (fun q h => nomatch h) dX5_isSplit_15
    · refine lv_iconst (v := nI 1) hx hb dX5_isSplit_10 (by decide) ?_
      refine lv_goto (tgt := 15) hx hb dX5_isSplit_11 (by decide) ?_
      exact W.zret hx hb hr rfl (fun T9 hT9 hW => ⟨_, rfl, by obtain ⟨j, _, _, hj⟩ := sd_ix_in c1 c2; rw [hj]; rfl, hT9⟩) (fun q h => nomatch h) dX5_isSplit_15

set_option maxHeartbeats 1000000 in
set_option maxRecDepth 100000 in
theorem k_X5_home (l : Launch)  (q k : Nat)  : Met l yX5_home (Cond.code yX5_home cX5_home 2 (some .int) :: bg) { frames := 0, cells := 0, slots := 0, locals := 0 } (sd_N0 [.int (nI q), .int (nI k)]) (vp_Si (fun r => r = nI (17 * q + k))) 0 0 (fun _ => False) := by
  refine Met.ofW (cc := cX5_home) (maxL := 2) (ret := some .int) (by decide) rfl ?_
  intro p e s m args below meth c s₁ B hml hv
  obtain ⟨rfl, -⟩ := hv
  have hx := B.exec
  have hb := B.bytes
  have hr := B.returns
  have hts := atoms_spec (ws := Cond.code yX5_home cX5_home 2 (some .int) :: bg) B.pre
  have hown : s.vm.findClass RX5 = some m.cls := findClass_of_methodNamed B.named
  have hlocks := B.notSynchronized
  have hl := lv_entry ([.int (nI q), .int (nI k)]) (n := 2) (Nat.le_of_ble_eq_true rfl)
  rw [lg_entry_eq]
  generalize (lg_sl ([.int (nI q), .int (nI k)]) ++ List.replicate (2 - (lg_sl ([.int (nI q), .int (nI k)])).length) Slot.unset).toArray = ls at hl ⊢
  replace hl : lv_has ls 2 [(0, .int (nI q)), (1, .int (nI k))] := hl
  refine lv_bipush (v := nI 17) hx hb dX5_home_0 (by decide) ?_
  refine lv_iload_n hx hb dX5_home_2 rfl (lv_at hl 0 rfl) ?_
  refine sd_imul hx hb dX5_home_3 ?_
  refine lv_iload_n hx hb dX5_home_4 rfl (lv_at hl 1 rfl) ?_
  refine sd_iadd hx hb dX5_home_5 ?_
  exact W.iret hx hb hr (fun T9 hT9 hW => ⟨_, rfl, rfl, hT9⟩) (fun q h => nomatch h) dX5_home_6

set_option maxHeartbeats 1000000 in
set_option maxRecDepth 100000 in
theorem k_X5_isPlace (l : Launch) (D : va_G) {am : Nat → Nat} {tc : Nat → ClassId} {tn : Int32} {mdg msz : Nat → Nat} {msh : Nat → FP} {mth : Nat → Bool} {minv : Nat → FP} {isf : Bool} {fsp : Nat} {mfo : Nat → FP} {mwr : Nat → Bool} {mpl : Nat → Nat} {mny : Nat} {mch : Nat → Nat} {mcu mro : Nat → FP} (x y : Int32) (hs : ∀ q, q < 8 → msz q ≤ 16) : Met l yX5_isPlace (Cond.code yX5_isPlace cX5_isPlace 3 (some .boolean) :: bg) { frames := 1, cells := 0, slots := 0, locals := 20 } (sd_R D vwCl (ty5 tc) (mw am tc tn mdg msz msh mth minv isf fsp mfo mwr mpl mny mch mcu mro) [.ref (am 0), .int x, .int y]) (vp_Si (fun r => r = bI (sd_ip msz x y))) 0 0 (fun _ => False) := by
  refine Met.ofW (cc := cX5_isPlace) (maxL := 3) (ret := some .boolean) (by decide) rfl ?_
  intro p e s m args below meth c s₁ B hml hv
  obtain ⟨rfl, hP, hK⟩ := hv
  have hx := B.exec
  have hb := B.bytes
  have hr := B.returns
  have hts := atoms_spec (ws := Cond.code yX5_isPlace cX5_isPlace 3 (some .boolean) :: bg) B.pre
  have hown : s.vm.findClass RX5 = some m.cls := findClass_of_methodNamed B.named
  have hlocks := B.notSynchronized
  have hl := lv_entry ([.ref (am 0), .int x, .int y]) (n := 3) (Nat.le_of_ble_eq_true rfl)
  rw [lg_entry_eq]
  generalize (lg_sl ([.ref (am 0), .int x, .int y]) ++ List.replicate (3 - (lg_sl ([.ref (am 0), .int x, .int y])).length) Slot.unset).toArray = ls at hl ⊢
  replace hl : lv_has ls 3 [(0, .ref (am 0)), (1, .int x), (2, .int y)] := hl
  refine lv_iload_n hx hb dX5_isPlace_0 rfl (lv_at hl 1 rfl) ?_
  refine sd_ri (va_runS (As := [.int x]) (rest := []) ⟨hx, hb, hml, hown, hts⟩ (k_X5_isSplit l x) (sd_cwS hts wd_X5_isSplit wn_X5 wm_X5_77 wi_X5_isSplit nq_X5_isSplit rfl rfl ⟨Nat.le_of_ble_eq_true rfl, Nat.le_of_ble_eq_true rfl⟩) sd_preN rfl rfl hl.1 rfl (lv_room (Nat.le_of_ble_eq_true rfl)) dX5_isPlace_1 ⟨Nat.zero_le _, Nat.zero_le _⟩) (fun r1 hr1 => ?_)
  subst hr1
  refine sd_if_eqB (tgt := 26) hx hb dX5_isPlace_4 (by decide) (fun c1 => ?_) (fun c1 => ?_)
  · refine lv_iconst (v := nI 0) hx hb dX5_isPlace_26 (by decide) ?_
    exact W.zret hx hb hr rfl (fun T9 hT9 hW => ⟨_, rfl, by unfold sd_ip; rw [Option.isSome_eq_false_iff, Option.isNone_iff_eq_none] at c1; rw [c1]; rfl, hT9⟩) (fun q h => nomatch h) dX5_isPlace_27
  · obtain ⟨q, hix⟩ := Option.isSome_iff_exists.mp c1
    obtain ⟨hq, hxq⟩ := sd_ix_some hix
    have hsq := hs q hq
    have hip : sd_ip msz x y = sd_hp (msz q) y := by unfold sd_ip; rw [hix]
    rw [hip]
    clear hip hix c1
    subst hxq
    refine lv_iload_n hx hb dX5_isPlace_7 rfl (lv_at hl 2 rfl) ?_
    refine lv_iconst (v := nI 1) hx hb dX5_isPlace_8 (by decide) ?_
    refine lv_icmp_lt (tgt := 26) hx hb dX5_isPlace_9 (by decide) (fun c2 => ?_) (fun c2 => ?_)
    · refine lv_iconst (v := nI 0) hx hb dX5_isPlace_26 (by decide) ?_
      exact W.zret hx hb hr rfl (fun T9 hT9 hW => ⟨_, rfl, by rw [sd_hp_lt _ c2]; rfl, hT9⟩) (fun q h => nomatch h) dX5_isPlace_27
    · refine lv_iload_n hx hb dX5_isPlace_12 rfl (lv_at hl 2 rfl) ?_
      refine lv_aload_n hx hb dX5_isPlace_13 rfl (lv_at hl 0 rfl) ?_
      refine va_get (D := D) (ci := 5) (v := .ref (am 2)) (C := RX5) (T := TX5) (N := 15) hx hb hts (fun w h => mm (inX5 w h)) hown hK hP 0 rfl rfl 2 (by decide) (hts _ (mm wf_X5_13)) (fun _ h9 => h9) rfl dX5_isPlace_14 ?_
      refine lv_iload_n hx hb dX5_isPlace_17 rfl (lv_at hl 1 rfl) ?_
      refine sd_iald hx hb hK hP 2 2 rfl rfl (k := q) (by omega) (by decide) dX5_isPlace_18 ?_
      refine lv_icmp_gt (tgt := 26) hx hb dX5_isPlace_19 (by decide) (fun c3 => ?_) (fun c3 => ?_)
      · refine lv_iconst (v := nI 0) hx hb dX5_isPlace_26 (by decide) ?_
        exact W.zret hx hb hr rfl (fun T9 hT9 hW => ⟨_, rfl, by rw [sd_hp_gt (by omega) c3]; rfl, hT9⟩) (fun q h => nomatch h) dX5_isPlace_27
      · refine lv_iconst (v := nI 1) hx hb dX5_isPlace_22 (by decide) ?_
        refine lv_goto (tgt := 27) hx hb dX5_isPlace_23 (by decide) ?_
        exact W.zret hx hb hr rfl (fun T9 hT9 hW => ⟨_, rfl, by rw [sd_hp_in (by omega) c2 c3]; rfl, hT9⟩) (fun q h => nomatch h) dX5_isPlace_27

set_option maxHeartbeats 1000000 in
set_option maxRecDepth 100000 in
theorem k_X5_onCurve_c (l : Launch) (D : va_G) {am : Nat → Nat} {tc : Nat → ClassId} {tn : Int32} {mdg msz : Nat → Nat} {msh : Nat → FP} {mth : Nat → Bool} {minv : Nat → FP} {isf : Bool} {fsp : Nat} {mfo : Nat → FP} {mwr : Nat → Bool} {mpl : Nat → Nat} {mny : Nat} {mch : Nat → Nat} {mcu mro : Nat → FP} (t : Nat) (x : FP) (ht : t ≤ 8) : Met l yX5_onCurve (Cond.code yX5_onCurve cX5_onCurve 8 (some .long) :: bg) { frames := 3, cells := 0, slots := 0, locals := 89 } (sd_R D vwCl (ty5 tc) (mw am tc tn mdg msz msh mth minv isf fsp mfo mwr mpl mny mch mcu mro) [.ref (am 0), .ref (am 10), .int (nI t), .long (sd_L x)]) (vp_Sl (fun r => r = sd_L (sd_pv mcu x 0 (t + 1)))) 0 0 (fun _ => False) := by
  refine Met.ofW (cc := cX5_onCurve) (maxL := 8) (ret := some .long) (by decide) rfl ?_
  intro p e s m args below meth c s₁ B hml hv
  obtain ⟨rfl, hP, hK⟩ := hv
  have hx := B.exec
  have hb := B.bytes
  have hr := B.returns
  have hts := atoms_spec (ws := Cond.code yX5_onCurve cX5_onCurve 8 (some .long) :: bg) B.pre
  have hown : s.vm.findClass RX5 = some m.cls := findClass_of_methodNamed B.named
  have hlocks := B.notSynchronized
  have hl := lv_entry ([.ref (am 0), .ref (am 10), .int (nI t), .long (sd_L x)]) (n := 8) (Nat.le_of_ble_eq_true rfl)
  rw [lg_entry_eq]
  generalize (lg_sl ([.ref (am 0), .ref (am 10), .int (nI t), .long (sd_L x)]) ++ List.replicate (8 - (lg_sl ([.ref (am 0), .ref (am 10), .int (nI t), .long (sd_L x)])).length) Slot.unset).toArray = ls at hl ⊢
  replace hl : lv_has ls 8 [(0, .ref (am 0)), (1, .ref (am 10)), (2, .int (nI t)), (3, .long (sd_L x))] := hl
  refine lv_lconst (v := 0) hx hb dX5_onCurve_0 (by decide) ?_
  refine sd_tol (y := sd_L 0) sd_L_0.symm ?_
  refine lv_lstore (lv' := [(5, .long (sd_L 0)), (0, .ref (am 0)), (1, .ref (am 10)), (2, .int (nI t)), (3, .long (sd_L x))]) hx hb dX5_onCurve_1 hl (by decide) rfl (fun ls hl => ?_)
  refine lv_iload_n hx hb dX5_onCurve_3 rfl (lv_at hl 3 rfl) ?_
  refine lv_istore (lv' := [(7, .int (nI t)), (5, .long (sd_L 0)), (0, .ref (am 0)), (1, .ref (am 10)), (2, .int (nI t)), (3, .long (sd_L x))]) hx hb dX5_onCurve_4 hl (by decide) rfl (fun ls hl => ?_)
  replace hl : lv_has ls 8 [(7, .int (nI (t + 1) + (-1))), (5, .long (sd_L 0)), (0, .ref (am 0)), (1, .ref (am 10)), (3, .long (sd_L x))] := by rw [pk_m1]; exact (lv_sub hl [0, 1, 2, 3, 5] rfl)
  obtain ⟨K, y, hK9, hy, hl9⟩ : ∃ (K : Nat) (y : FP), (K ≤ t + 1) ∧ (y = sd_pv mcu x K (t + 1 - K)) ∧ lv_has ls 8 [(7, .int (nI K + (-1))), (5, .long (sd_L y)), (0, .ref (am 0)), (1, .ref (am 10)), (3, .long (sd_L x))] := ⟨t + 1, 0, Nat.le_refl _, by rw [Nat.sub_self]; rfl, (lv_sub hl [0, 1, 2, 3, 4] rfl)⟩
  replace hl := hl9
  clear hl9
  obtain ⟨k9, hk9⟩ : ∃ k9 : Nat, K < k9 := ⟨t + 2, by omega⟩
  induction k9 generalizing K y ls with
  | zero => exact absurd hk9 (by omega)
  | succ k9 ih =>
    rcases K with _ | K
    · rw [sd_m1] at hl
      refine lv_iload hx hb dX5_onCurve_6 (lv_at hl 0 rfl) ?_
      refine lv_if_lt (tgt := 32) hx hb dX5_onCurve_8 (by decide) (fun c1 => ?_) (fun c1 => ?_)
      · refine lv_lload hx hb dX5_onCurve_32 (lv_at hl 1 rfl) ?_
        exact W.lret hx hb hr (fun T9 hT9 hW => ⟨_, rfl, by rw [hy]; rfl, hT9⟩) (fun q h => nomatch h) dX5_onCurve_34
      · exact absurd (by decide) c1
    · rw [pk_m1] at hl
      refine lv_iload hx hb dX5_onCurve_6 (lv_at hl 0 rfl) ?_
      refine lv_if_lt (tgt := 32) hx hb dX5_onCurve_8 (by decide) (fun c1 => ?_) (fun c1 => ?_)
      · exact absurd c1 (nI_pos (by omega))
      · refine lv_lload hx hb dX5_onCurve_11 (lv_at hl 1 rfl) ?_
        refine lv_lload_n hx hb dX5_onCurve_13 rfl (lv_at hl 4 rfl) ?_
        refine sd_rl (va_runS (As := [.long (sd_L y), .long (sd_L x)]) (rest := []) ⟨hx, hb, hml, hown, hts⟩ (k_X5_times l y x) (sd_cwS hts wd_X5_times wn_X5 wm_X5_70 wi_X5_times nq_X5_times rfl rfl ⟨Nat.le_of_ble_eq_true rfl, Nat.le_of_ble_eq_true rfl⟩) sd_preN rfl rfl hl.1 rfl (lv_room (Nat.le_of_ble_eq_true rfl)) dX5_onCurve_14 ⟨Nat.zero_le _, Nat.zero_le _⟩) (fun r1 hr1 => ?_)
        subst hr1
        refine lv_aload_n hx hb dX5_onCurve_17 rfl (lv_at hl 3 rfl) ?_
        refine lv_iload hx hb dX5_onCurve_18 (lv_at hl 0 rfl) ?_
        refine sd_lald hx hb hK hP 10 0 rfl rfl (k := K) (by omega) (by decide) dX5_onCurve_20 ?_
        refine sd_rl (va_runS (As := [.long (sd_L (y * x)), .long (sd_L (mcu K))]) (rest := []) ⟨hx, hb, hml, hown, hts⟩ (k_X5_plus l (y * x) (mcu K)) (sd_cwS hts wd_X5_plus wn_X5 wm_X5_65 wi_X5_plus nq_X5_plus rfl rfl ⟨Nat.le_of_ble_eq_true rfl, Nat.le_of_ble_eq_true rfl⟩) sd_preN rfl rfl hl.1 rfl (lv_room (Nat.le_of_ble_eq_true rfl)) dX5_onCurve_21 ⟨Nat.zero_le _, Nat.zero_le _⟩) (fun r2 hr2 => ?_)
        subst hr2
        refine lv_lstore (lv' := [(5, .long (sd_L (y * x + mcu K))), (7, .int (nI K)), (0, .ref (am 0)), (1, .ref (am 10)), (3, .long (sd_L x))]) hx hb dX5_onCurve_24 hl (by decide) rfl (fun ls hl => ?_)
        refine lv_iinc (v := nI K + (-1)) (lv' := [(7, .int (nI K + (-1))), (5, .long (sd_L (y * x + mcu K))), (0, .ref (am 0)), (1, .ref (am 10)), (3, .long (sd_L x))]) hx hb dX5_onCurve_26 hl (k := 1) rfl (by rw [show Int32.ofInt (-1) = -1 by decide]) (by decide) rfl (fun ls hl => ?_)
        refine lv_goto (tgt := 6) hx hb dX5_onCurve_29 (by decide) ?_
        exact ih (K := K) (y := y * x + mcu K) (hK9 := by omega) (hy := by rw [show t + 1 - K = (t + 1 - (K + 1)) + 1 by omega, sd_pv_s, hy]; grind) (ls := ls) (hl := (lv_sub hl [0, 1, 2, 3, 4] rfl)) (hk9 := by omega)

set_option maxHeartbeats 1000000 in
set_option maxRecDepth 100000 in
theorem k_X5_onCurve_f (l : Launch) (D : va_G) {am : Nat → Nat} {tc : Nat → ClassId} {tn : Int32} {mdg msz : Nat → Nat} {msh : Nat → FP} {mth : Nat → Bool} {minv : Nat → FP} {isf : Bool} {fsp : Nat} {mfo : Nat → FP} {mwr : Nat → Bool} {mpl : Nat → Nat} {mny : Nat} {mch : Nat → Nat} {mcu mro : Nat → FP} (t : Nat) (x : FP) (ht : t ≤ 8) : Met l yX5_onCurve (Cond.code yX5_onCurve cX5_onCurve 8 (some .long) :: bg) { frames := 3, cells := 0, slots := 0, locals := 89 } (sd_R D vwCl (ty5 tc) (mw am tc tn mdg msz msh mth minv isf fsp mfo mwr mpl mny mch mcu mro) [.ref (am 0), .ref (am 6), .int (nI t), .long (sd_L x)]) (vp_Sl (fun r => r = sd_L (sd_pv mfo x 0 (t + 1)))) 0 0 (fun _ => False) := by
  refine Met.ofW (cc := cX5_onCurve) (maxL := 8) (ret := some .long) (by decide) rfl ?_
  intro p e s m args below meth c s₁ B hml hv
  obtain ⟨rfl, hP, hK⟩ := hv
  have hx := B.exec
  have hb := B.bytes
  have hr := B.returns
  have hts := atoms_spec (ws := Cond.code yX5_onCurve cX5_onCurve 8 (some .long) :: bg) B.pre
  have hown : s.vm.findClass RX5 = some m.cls := findClass_of_methodNamed B.named
  have hlocks := B.notSynchronized
  have hl := lv_entry ([.ref (am 0), .ref (am 6), .int (nI t), .long (sd_L x)]) (n := 8) (Nat.le_of_ble_eq_true rfl)
  rw [lg_entry_eq]
  generalize (lg_sl ([.ref (am 0), .ref (am 6), .int (nI t), .long (sd_L x)]) ++ List.replicate (8 - (lg_sl ([.ref (am 0), .ref (am 6), .int (nI t), .long (sd_L x)])).length) Slot.unset).toArray = ls at hl ⊢
  replace hl : lv_has ls 8 [(0, .ref (am 0)), (1, .ref (am 6)), (2, .int (nI t)), (3, .long (sd_L x))] := hl
  refine lv_lconst (v := 0) hx hb dX5_onCurve_0 (by decide) ?_
  refine sd_tol (y := sd_L 0) sd_L_0.symm ?_
  refine lv_lstore (lv' := [(5, .long (sd_L 0)), (0, .ref (am 0)), (1, .ref (am 6)), (2, .int (nI t)), (3, .long (sd_L x))]) hx hb dX5_onCurve_1 hl (by decide) rfl (fun ls hl => ?_)
  refine lv_iload_n hx hb dX5_onCurve_3 rfl (lv_at hl 3 rfl) ?_
  refine lv_istore (lv' := [(7, .int (nI t)), (5, .long (sd_L 0)), (0, .ref (am 0)), (1, .ref (am 6)), (2, .int (nI t)), (3, .long (sd_L x))]) hx hb dX5_onCurve_4 hl (by decide) rfl (fun ls hl => ?_)
  replace hl : lv_has ls 8 [(7, .int (nI (t + 1) + (-1))), (5, .long (sd_L 0)), (0, .ref (am 0)), (1, .ref (am 6)), (3, .long (sd_L x))] := by rw [pk_m1]; exact (lv_sub hl [0, 1, 2, 3, 5] rfl)
  obtain ⟨K, y, hK9, hy, hl9⟩ : ∃ (K : Nat) (y : FP), (K ≤ t + 1) ∧ (y = sd_pv mfo x K (t + 1 - K)) ∧ lv_has ls 8 [(7, .int (nI K + (-1))), (5, .long (sd_L y)), (0, .ref (am 0)), (1, .ref (am 6)), (3, .long (sd_L x))] := ⟨t + 1, 0, Nat.le_refl _, by rw [Nat.sub_self]; rfl, (lv_sub hl [0, 1, 2, 3, 4] rfl)⟩
  replace hl := hl9
  clear hl9
  obtain ⟨k9, hk9⟩ : ∃ k9 : Nat, K < k9 := ⟨t + 2, by omega⟩
  induction k9 generalizing K y ls with
  | zero => exact absurd hk9 (by omega)
  | succ k9 ih =>
    rcases K with _ | K
    · rw [sd_m1] at hl
      refine lv_iload hx hb dX5_onCurve_6 (lv_at hl 0 rfl) ?_
      refine lv_if_lt (tgt := 32) hx hb dX5_onCurve_8 (by decide) (fun c1 => ?_) (fun c1 => ?_)
      · refine lv_lload hx hb dX5_onCurve_32 (lv_at hl 1 rfl) ?_
        exact W.lret hx hb hr (fun T9 hT9 hW => ⟨_, rfl, by rw [hy]; rfl, hT9⟩) (fun q h => nomatch h) dX5_onCurve_34
      · exact absurd (by decide) c1
    · rw [pk_m1] at hl
      refine lv_iload hx hb dX5_onCurve_6 (lv_at hl 0 rfl) ?_
      refine lv_if_lt (tgt := 32) hx hb dX5_onCurve_8 (by decide) (fun c1 => ?_) (fun c1 => ?_)
      · exact absurd c1 (nI_pos (by omega))
      · refine lv_lload hx hb dX5_onCurve_11 (lv_at hl 1 rfl) ?_
        refine lv_lload_n hx hb dX5_onCurve_13 rfl (lv_at hl 4 rfl) ?_
        refine sd_rl (va_runS (As := [.long (sd_L y), .long (sd_L x)]) (rest := []) ⟨hx, hb, hml, hown, hts⟩ (k_X5_times l y x) (sd_cwS hts wd_X5_times wn_X5 wm_X5_70 wi_X5_times nq_X5_times rfl rfl ⟨Nat.le_of_ble_eq_true rfl, Nat.le_of_ble_eq_true rfl⟩) sd_preN rfl rfl hl.1 rfl (lv_room (Nat.le_of_ble_eq_true rfl)) dX5_onCurve_14 ⟨Nat.zero_le _, Nat.zero_le _⟩) (fun r1 hr1 => ?_)
        subst hr1
        refine lv_aload_n hx hb dX5_onCurve_17 rfl (lv_at hl 3 rfl) ?_
        refine lv_iload hx hb dX5_onCurve_18 (lv_at hl 0 rfl) ?_
        refine sd_lald hx hb hK hP 6 0 rfl rfl (k := K) (by omega) (by decide) dX5_onCurve_20 ?_
        refine sd_rl (va_runS (As := [.long (sd_L (y * x)), .long (sd_L (mfo K))]) (rest := []) ⟨hx, hb, hml, hown, hts⟩ (k_X5_plus l (y * x) (mfo K)) (sd_cwS hts wd_X5_plus wn_X5 wm_X5_65 wi_X5_plus nq_X5_plus rfl rfl ⟨Nat.le_of_ble_eq_true rfl, Nat.le_of_ble_eq_true rfl⟩) sd_preN rfl rfl hl.1 rfl (lv_room (Nat.le_of_ble_eq_true rfl)) dX5_onCurve_21 ⟨Nat.zero_le _, Nat.zero_le _⟩) (fun r2 hr2 => ?_)
        subst hr2
        refine lv_lstore (lv' := [(5, .long (sd_L (y * x + mfo K))), (7, .int (nI K)), (0, .ref (am 0)), (1, .ref (am 6)), (3, .long (sd_L x))]) hx hb dX5_onCurve_24 hl (by decide) rfl (fun ls hl => ?_)
        refine lv_iinc (v := nI K + (-1)) (lv' := [(7, .int (nI K + (-1))), (5, .long (sd_L (y * x + mfo K))), (0, .ref (am 0)), (1, .ref (am 6)), (3, .long (sd_L x))]) hx hb dX5_onCurve_26 hl (k := 1) rfl (by rw [show Int32.ofInt (-1) = -1 by decide]) (by decide) rfl (fun ls hl => ?_)
        refine lv_goto (tgt := 6) hx hb dX5_onCurve_29 (by decide) ?_
        exact ih (K := K) (y := y * x + mfo K) (hK9 := by omega) (hy := by rw [show t + 1 - K = (t + 1 - (K + 1)) + 1 by omega, sd_pv_s, hy]; grind) (ls := ls) (hl := (lv_sub hl [0, 1, 2, 3, 4] rfl)) (hk9 := by omega)

set_option maxHeartbeats 1000000 in
set_option maxRecDepth 100000 in
theorem k_X5_draw (l : Launch) (D : va_G) {am : Nat → Nat} {tc : Nat → ClassId} {tn : Int32} {mdg msz : Nat → Nat} {msh : Nat → FP} {mth : Nat → Bool} {minv : Nat → FP} {isf : Bool} {fsp : Nat} {mfo : Nat → FP} {mwr : Nat → Bool} {mpl : Nat → Nat} {mny : Nat} {mch : Nat → Nat} {mcu mro : Nat → FP} (sz : Nat) (c0 : FP) (t : Nat) (seed : Int64) (ht8 : t ≤ 8) : Met l yX5_draw (Cond.code yX5_draw cX5_draw 9 none :: bg) { frames := 1, cells := 0, slots := 0, locals := 27 } (sd_Wr D vwCl (ty5 tc) (mw am tc tn mdg msz msh mth minv isf fsp mfo mwr mpl mny mch mcu mro) sz [.ref (am 0), .long (sd_L c0), .int (nI t), .long seed]) (va_Qv (S := Nat → FP) (fun u : Nat → FP => u 0 = c0 ∧ ∀ k, 1 ≤ k → k ≤ t → u k = sd_nx (sd_gs seed k)) (sd_B D vwCl (ty5 tc) (va_A (mw am tc tn mdg msz msh mth minv isf fsp mfo mwr mpl mny mch mcu mro) sz) (fun u => mw am tc tn mdg msz msh mth minv isf fsp mfo mwr mpl mny mch u mro)) (va_A (mw am tc tn mdg msz msh mth minv isf fsp mfo mwr mpl mny mch mcu mro) sz)) 0 0 (va_A (mw am tc tn mdg msz msh mth minv isf fsp mfo mwr mpl mny mch mcu mro) sz) := by
  refine Met.ofW (cc := cX5_draw) (maxL := 9) (ret := none) (by decide) rfl ?_
  intro p e s m args below meth c s₁ B hml hv
  obtain ⟨rfl, hsz, hP, hK, hD0⟩ := hv
  have hx := B.exec
  have hb := B.bytes
  have hr := B.returns
  have hts := atoms_spec (ws := Cond.code yX5_draw cX5_draw 9 none :: bg) B.pre
  have hown : s.vm.findClass RX5 = some m.cls := findClass_of_methodNamed B.named
  have hlocks := B.notSynchronized
  subst hsz
  have hD := hD0.self (sz := s.heap.size)
  generalize hAe : va_A (mw am tc tn mdg msz msh mth minv isf fsp mfo mwr mpl mny mch mcu mro) s.heap.size = A at hD ⊢
  have hA : ∀ q : Nat, s.heap.size ≤ q → A q := fun q h => by rw [← hAe]; exact Or.inr h
  have hS : va_S A s.heap s.heap [] := va_S.rf
  have hl := lv_entry ([.ref (am 0), .long (sd_L c0), .int (nI t), .long seed]) (n := 9) (Nat.le_of_ble_eq_true rfl)
  rw [lg_entry_eq]
  generalize (lg_sl ([.ref (am 0), .long (sd_L c0), .int (nI t), .long seed]) ++ List.replicate (9 - (lg_sl ([.ref (am 0), .long (sd_L c0), .int (nI t), .long seed])).length) Slot.unset).toArray = ls at hl ⊢
  replace hl : lv_has ls 9 [(0, .ref (am 0)), (1, .long (sd_L c0)), (3, .int (nI t)), (4, .long seed)] := hl
  refine lv_lload hx hb dX5_draw_0 (lv_at hl 3 rfl) ?_
  refine lv_lstore (lv' := [(6, .long seed), (0, .ref (am 0)), (1, .long (sd_L c0)), (3, .int (nI t)), (4, .long seed)]) hx hb dX5_draw_2 hl (by decide) rfl (fun ls hl => ?_)
  refine lv_aload_n hx hb dX5_draw_4 rfl (lv_at hl 1 rfl) ?_
  refine va_get (D := D) (ci := 5) (v := .ref (am 10)) (C := RX5) (T := TX5) (N := 15) hx hb hts (fun w h => mm (inX5 w h)) hown hK hP 0 rfl rfl 13 (by decide) (hts _ (mm wf_X5_39)) (fun _ h9 => h9) rfl dX5_draw_5 ?_
  refine lv_iconst (v := nI 0) hx hb dX5_draw_8 (by decide) ?_
  refine lv_lload_n hx hb dX5_draw_9 rfl (lv_at hl 2 rfl) ?_
  refine sd_last hx hb hK hP hD hS 10 0 rfl rfl (k := 0) (by omega) (by decide) (ws2 := mw am tc tn mdg msz msh mth minv isf fsp mfo mwr mpl mny mch (sd_up mcu 0 c0) mro) (by rw [sd_stL]; exact rfl) dX5_draw_10 (fun H locs hP hD hS => ?_)
  refine lv_iconst (v := nI 1) hx hb dX5_draw_11 (by decide) ?_
  refine lv_istore (lv' := [(8, .int (nI 1)), (6, .long seed), (0, .ref (am 0)), (1, .long (sd_L c0)), (3, .int (nI t)), (4, .long seed)]) hx hb dX5_draw_12 hl (by decide) rfl (fun ls hl => ?_)
  obtain ⟨k, c1, hk, hI, hP9, hD9, hl9⟩ : ∃ (k : Nat) (c1 : Nat → FP), (1 ≤ k ∧ k ≤ t + 1) ∧ (c1 0 = c0 ∧ ∀ j, 1 ≤ j → j < k → c1 j = sd_nx (sd_gs seed j)) ∧ va_P D vwCl (mw am tc tn mdg msz msh mth minv isf fsp mfo mwr mpl mny mch c1 mro) H ∧ va_D A (mw am tc tn mdg msz msh mth minv isf fsp mfo mwr mpl mny mch c1 mro) ∧ lv_has ls 9 [(8, .int (nI k)), (6, .long (sd_gs seed (k - 1))), (0, .ref (am 0)), (3, .int (nI t))] := ⟨1, sd_up mcu 0 c0, ⟨Nat.le_refl 1, by omega⟩, ⟨sd_up_s _ _ _, fun j h1 h2 => absurd h2 (by omega)⟩, hP, hD, (lv_sub hl [0, 1, 2, 4] rfl)⟩
  replace hl := hl9
  clear hl9
  replace hP := hP9
  replace hD := hD9
  clear hP9 hD9
  obtain ⟨k9, hk9⟩ : ∃ k9 : Nat, t + 1 < k + k9 := ⟨t + 1, by omega⟩
  induction k9 generalizing k c1 ls H locs with
  | zero => exact absurd hk9 (by omega)
  | succ k9 ih =>
    refine lv_iload hx hb dX5_draw_14 (lv_at hl 0 rfl) ?_
    refine lv_iload_n hx hb dX5_draw_16 rfl (lv_at hl 3 rfl) ?_
    refine sd_icmp_gt (tgt := 47) hx hb (by omega) (by omega) dX5_draw_17 (by decide) (fun b1 => ?_) (fun b1 => ?_)
    · exact W.vret hx hb hr (fun T9 hT9 hW => ⟨⟨c1, rfl, ⟨hI.1, fun j h1 h2 => hI.2 j h1 (by omega)⟩, by rw [hT9]; exact hP, va_K.moved hW.alike hK, hD⟩, hS.F hT9⟩) hS.2.2 dX5_draw_47
    · refine lv_lload hx hb dX5_draw_20 (lv_at hl 1 rfl) ?_
      refine sd_rl (va_runS (As := [.long (sd_gs seed (k - 1))]) (rest := []) ⟨hx, hb, hml, hown, hts⟩ (k_X5_stepped l (sd_gs seed (k - 1))) (sd_cwS hts wd_X5_stepped wn_X5 wm_X5_81 wi_X5_stepped nq_X5_stepped rfl rfl ⟨Nat.le_of_ble_eq_true rfl, Nat.le_of_ble_eq_true rfl⟩) sd_preN rfl rfl hl.1 rfl (lv_room (Nat.le_of_ble_eq_true rfl)) dX5_draw_22 ⟨Nat.zero_le _, Nat.zero_le _⟩) (fun r1 hr1 => ?_)
      subst hr1
      refine sd_tol (y := sd_gs seed k) (by rw [show k = (k - 1) + 1 by omega]; rfl) ?_
      refine lv_lstore (lv' := [(6, .long (sd_gs seed k)), (8, .int (nI k)), (0, .ref (am 0)), (3, .int (nI t))]) hx hb dX5_draw_25 hl (by decide) rfl (fun ls hl => ?_)
      refine lv_aload_n hx hb dX5_draw_27 rfl (lv_at hl 2 rfl) ?_
      refine va_get (D := D) (ci := 5) (v := .ref (am 10)) (C := RX5) (T := TX5) (N := 15) hx hb hts (fun w h => mm (inX5 w h)) hown hK hP 0 rfl rfl 13 (by decide) (hts _ (mm wf_X5_39)) (fun _ h9 => h9) rfl dX5_draw_28 ?_
      refine lv_iload hx hb dX5_draw_31 (lv_at hl 1 rfl) ?_
      refine lv_lload hx hb dX5_draw_33 (lv_at hl 0 rfl) ?_
      refine lv_iconst (v := nI 3) hx hb dX5_draw_35 (by decide) ?_
      refine lv_lushr (v := lN ((sd_gs seed k).toBitVec.toNat / 8)) hx hb dX5_draw_36 (sd_ush3 _) ?_
      have hbv : (sd_gs seed k).toBitVec.toNat < 2 ^ 64 := (sd_gs seed k).toBitVec.isLt
      refine sd_rl (va_runS (As := [.long (lN ((sd_gs seed k).toBitVec.toNat / 8))]) (rest := [.int (nI k), .ref (am 10)]) ⟨hx, hb, hml, hown, hts⟩ (k_X5_reduced l ((sd_gs seed k).toBitVec.toNat / 8) (by omega)) (sd_cwS hts wd_X5_reduced wn_X5 wm_X5_57 wi_X5_reduced nq_X5_reduced rfl rfl ⟨Nat.le_of_ble_eq_true rfl, Nat.le_of_ble_eq_true rfl⟩) sd_preN rfl rfl hl.1 rfl (lv_room (Nat.le_of_ble_eq_true rfl)) dX5_draw_37 ⟨Nat.zero_le _, Nat.zero_le _⟩) (fun r2 hr2 => ?_)
      subst hr2
      refine sd_last hx hb hK hP hD hS 10 0 rfl rfl (k := k) (by omega) (by decide) (ws2 := mw am tc tn mdg msz msh mth minv isf fsp mfo mwr mpl mny mch (sd_up c1 k (sd_nx (sd_gs seed k))) mro) (by rw [sd_stL]; exact rfl) dX5_draw_40 (fun H locs hP hD hS => ?_)
      refine lv_iinc (v := nI (k + 1)) (lv' := [(8, .int (nI (k + 1))), (6, .long (sd_gs seed k)), (0, .ref (am 0)), (3, .int (nI t))]) hx hb dX5_draw_41 hl (k := 1) rfl (nI_1 _) (by decide) rfl (fun ls hl => ?_)
      refine lv_goto (tgt := 14) hx hb dX5_draw_44 (by decide) ?_
      exact ih (k := k + 1) (c1 := sd_up c1 k (sd_nx (sd_gs seed k))) (hk := by omega) (hI := ⟨by rw [sd_up_n _ _ (by omega)]; exact hI.1, fun j h1 h2 => (Classical.em (j = k)).elim (fun ej => by rw [ej, sd_up_s]) (fun ej => by rw [sd_up_n _ _ ej]; exact hI.2 j h1 (by omega))⟩) (H := H) (locs := locs) (hP := hP) (hD := hD) (hS := hS) (ls := ls) (hl := (lv_sub hl [0, 1, 2, 3] rfl)) (hk9 := by omega)

set_option maxHeartbeats 1000000 in
set_option maxRecDepth 100000 in
theorem k_X5_put (l : Launch) (D : va_G) {am : Nat → Nat} {tc : Nat → ClassId} {tn : Int32} {mdg msz : Nat → Nat} {msh : Nat → FP} {mth : Nat → Bool} {minv : Nat → FP} {isf : Bool} {fsp : Nat} {mfo : Nat → FP} {mwr : Nat → Bool} {mpl : Nat → Nat} {mny : Nat} {mch : Nat → Nat} {mcu mro : Nat → FP} (sz : Nat) (x y : Int32) (v : Int64) (hok : ∀ q, q < 8 → mdg q ≤ 8 ∧ msz q ≤ 16) : Met l yX5_put (Cond.code yX5_put cX5_put 5 (some .boolean) :: bg) { frames := 2, cells := 0, slots := 0, locals := 42 } (sd_Wr D vwCl (ty5 tc) (mw am tc tn mdg msz msh mth minv isf fsp mfo mwr mpl mny mch mcu mro) sz [.ref (am 0), .int x, .int y, .long v]) (va_Qi (S := MS) (fun r u => rtn u = nI 0 ∧ M_put x y v (tn, mdg, msz, msh, mth, minv, isf, fsp, mfo, mwr, mpl, mny, mch, mcu, mro) r u) (sd_B D vwCl (ty5 tc) (va_A (mw am tc tn mdg msz msh mth minv isf fsp mfo mwr mpl mny mch mcu mro) sz) (fun u => mwt am tc u)) (va_A (mw am tc tn mdg msz msh mth minv isf fsp mfo mwr mpl mny mch mcu mro) sz)) 0 0 (va_A (mw am tc tn mdg msz msh mth minv isf fsp mfo mwr mpl mny mch mcu mro) sz) := by
  refine Met.ofW (cc := cX5_put) (maxL := 5) (ret := some .boolean) (by decide) rfl ?_
  intro p e s m args below meth c s₁ B hml hv
  obtain ⟨rfl, hsz, hP, hK, hD0⟩ := hv
  have hx := B.exec
  have hb := B.bytes
  have hr := B.returns
  have hts := atoms_spec (ws := Cond.code yX5_put cX5_put 5 (some .boolean) :: bg) B.pre
  have hown : s.vm.findClass RX5 = some m.cls := findClass_of_methodNamed B.named
  have hlocks := B.notSynchronized
  subst hsz
  have hD := hD0.self (sz := s.heap.size)
  generalize hAe : va_A (mw am tc tn mdg msz msh mth minv isf fsp mfo mwr mpl mny mch mcu mro) s.heap.size = A at hD ⊢
  have hA : ∀ q : Nat, s.heap.size ≤ q → A q := fun q h => by rw [← hAe]; exact Or.inr h
  have hS : va_S A s.heap s.heap [] := va_S.rf
  have hl := lv_entry ([.ref (am 0), .int x, .int y, .long v]) (n := 5) (Nat.le_of_ble_eq_true rfl)
  rw [lg_entry_eq]
  generalize (lg_sl ([.ref (am 0), .int x, .int y, .long v]) ++ List.replicate (5 - (lg_sl ([.ref (am 0), .int x, .int y, .long v])).length) Slot.unset).toArray = ls at hl ⊢
  replace hl : lv_has ls 5 [(0, .ref (am 0)), (1, .int x), (2, .int y), (3, .long v)] := hl
  refine lv_aload_n hx hb dX5_put_0 rfl (lv_at hl 0 rfl) ?_
  refine lv_iconst (v := nI 0) hx hb dX5_put_1 (by decide) ?_
  refine sd_put (ci := 5) (C := RX5) (T := TX5) (N := 15) hx hb hts (fun w h => mm (inX5 w h)) tyX5 tyX5_ok nmX5 hown hK hP hD hS 0 rfl rfl 0 (by decide) (hts _ (mm wf_X5_51)) rfl rfl rfl rfl (Nat.le_of_ble_eq_true rfl) rfl (ws2 := mw am tc (nI 0) mdg msz msh mth minv isf fsp mfo mwr mpl mny mch mcu mro) (rfl) dX5_put_2 (fun H locs hP hD hS => ?_)
  refine lv_aload_n hx hb dX5_put_5 rfl (lv_at hl 0 rfl) ?_
  refine lv_iload_n hx hb dX5_put_6 rfl (lv_at hl 1 rfl) ?_
  refine lv_iload_n hx hb dX5_put_7 rfl (lv_at hl 2 rfl) ?_
  refine sd_ri (va_runV (As := [.int x, .int y]) (rest := []) ⟨hx, hb, hml, hown, hts⟩ (k_X5_isPlace l D x y (fun q hq => (hok q hq).2)) (sd_cwV hts wd_X5_isPlace wn_X5 wm_X5_99 wi_X5_isPlace ws_X5_isPlace nq_X5_isPlace rfl rfl ⟨Nat.le_of_ble_eq_true rfl, Nat.le_of_ble_eq_true rfl⟩) (sd_preVR hP hK (ci := 5) (q0 := 0) rfl rfl rfl) rfl rfl hl.1 rfl (lv_room (Nat.le_of_ble_eq_true rfl)) dX5_put_8 ⟨Nat.zero_le _, Nat.zero_le _⟩) (fun r1 hr1 => ?_)
  subst hr1
  refine sd_if_neB (tgt := 16) hx hb dX5_put_11 (by decide) (fun c1 => ?_) (fun c1 => ?_)
  · obtain ⟨q, k, hq, rfl, hk1, hk2, rfl⟩ := sd_ip_of (fun q hq => (hok q hq).2) c1
    have hokq := hok q hq
    refine lv_aload_n hx hb dX5_put_16 rfl (lv_at hl 0 rfl) ?_
    refine va_get (D := D) (ci := 5) (v := .ref (am 3)) (C := RX5) (T := TX5) (N := 15) hx hb hts (fun w h => mm (inX5 w h)) hown hK hP 0 rfl rfl 3 (by decide) (hts _ (mm wf_X5_16)) (fun _ h9 => h9) rfl dX5_put_17 ?_
    refine lv_iload_n hx hb dX5_put_20 rfl (lv_at hl 1 rfl) ?_
    refine lv_iload_n hx hb dX5_put_21 rfl (lv_at hl 2 rfl) ?_
    refine sd_ri (va_runS (As := [.int (nI q), .int (nI k)]) (rest := [.ref (am 3)]) ⟨hx, hb, hml, hown, hts⟩ (k_X5_home l q k) (sd_cwS hts wd_X5_home wn_X5 wm_X5_91 wi_X5_home nq_X5_home rfl rfl ⟨Nat.le_of_ble_eq_true rfl, Nat.le_of_ble_eq_true rfl⟩) sd_preN rfl rfl hl.1 rfl (lv_room (Nat.le_of_ble_eq_true rfl)) dX5_put_22 ⟨Nat.zero_le _, Nat.zero_le _⟩) (fun r2 hr2 => ?_)
    subst hr2
    refine lv_lload_n hx hb dX5_put_25 rfl (lv_at hl 3 rfl) ?_
    refine sd_rl (va_runS (As := [.long v]) (rest := [.int (nI (17 * q + k)), .ref (am 3)]) ⟨hx, hb, hml, hown, hts⟩ (k_X5_modulo l v) (sd_cwS hts wd_X5_modulo wn_X5 wm_X5_84 wi_X5_modulo nq_X5_modulo rfl rfl ⟨Nat.le_of_ble_eq_true rfl, Nat.le_of_ble_eq_true rfl⟩) sd_preN rfl rfl hl.1 rfl (lv_room (Nat.le_of_ble_eq_true rfl)) dX5_put_26 ⟨Nat.zero_le _, Nat.zero_le _⟩) (fun r3 hr3 => ?_)
    subst hr3
    refine sd_last hx hb hK hP hD hS 3 0 rfl rfl (k := 17 * q + k) (by omega) (by decide) (ws2 := mw am tc (nI 0) mdg msz (sd_up msh (17 * q + k) (sd_of v)) mth minv isf fsp mfo mwr mpl mny mch mcu mro) (by rw [sd_stL]; exact rfl) dX5_put_29 (fun H locs hP hD hS => ?_)
    refine lv_aload_n hx hb dX5_put_30 rfl (lv_at hl 0 rfl) ?_
    refine va_get (D := D) (ci := 5) (v := .ref (am 4)) (C := RX5) (T := TX5) (N := 15) hx hb hts (fun w h => mm (inX5 w h)) hown hK hP 0 rfl rfl 4 (by decide) (hts _ (mm wf_X5_20)) (fun _ h9 => h9) rfl dX5_put_31 ?_
    refine lv_iload_n hx hb dX5_put_34 rfl (lv_at hl 1 rfl) ?_
    refine lv_iload_n hx hb dX5_put_35 rfl (lv_at hl 2 rfl) ?_
    refine sd_ri (va_runS (As := [.int (nI q), .int (nI k)]) (rest := [.ref (am 4)]) ⟨hx, hb, hml, hown, hts⟩ (k_X5_home l q k) (sd_cwS hts wd_X5_home wn_X5 wm_X5_91 wi_X5_home nq_X5_home rfl rfl ⟨Nat.le_of_ble_eq_true rfl, Nat.le_of_ble_eq_true rfl⟩) sd_preN rfl rfl hl.1 rfl (lv_room (Nat.le_of_ble_eq_true rfl)) dX5_put_36 ⟨Nat.zero_le _, Nat.zero_le _⟩) (fun r4 hr4 => ?_)
    subst hr4
    refine lv_iconst (v := nI 1) hx hb dX5_put_39 (by decide) ?_
    refine sd_tob (b := true) rfl ?_
    refine sd_zast hx hb hK hP hD hS 4 1 rfl rfl (k := 17 * q + k) (by omega) (by decide) (ws2 := mw am tc (nI 0) mdg msz (sd_up msh (17 * q + k) (sd_of v)) (sd_up mth (17 * q + k) true) minv isf fsp mfo mwr mpl mny mch mcu mro) (by rw [sd_stZ]; exact rfl) dX5_put_40 (fun H locs hP hD hS => ?_)
    refine lv_iconst (v := nI 1) hx hb dX5_put_41 (by decide) ?_
    exact W.zret hx hb hr rfl (fun T9 hT9 hW => ⟨⟨_, (nI 0, mdg, msz, sd_up msh (17 * q + k) (sd_of v), sd_up mth (17 * q + k) true, minv, isf, fsp, mfo, mwr, mpl, mny, mch, mcu, mro), rfl, ⟨rfl, Or.inl ⟨q, k, hq, rfl, hk1, hk2, rfl, rfl, rfl, rfl, rfl, rfl, ⟨rfl, rfl, rfl, rfl, rfl⟩⟩⟩, by rw [hT9]; exact hP, va_K.moved hW.alike hK, hD⟩, hS.F hT9⟩) hS.2.2 dX5_put_42
  · refine lv_iconst (v := nI 0) hx hb dX5_put_14 (by decide) ?_
    exact W.zret hx hb hr rfl (fun T9 hT9 hW => ⟨⟨_, (nI 0, mdg, msz, msh, mth, minv, isf, fsp, mfo, mwr, mpl, mny, mch, mcu, mro), rfl, ⟨rfl, Or.inr ⟨sd_ip_no (fun q hq => (hok q hq).2) c1, rfl, ⟨rfl, rfl, rfl, rfl, rfl, rfl, rfl, rfl, rfl⟩⟩⟩, by rw [hT9]; exact hP, va_K.moved hW.alike hK, hD⟩, hS.F hT9⟩) hS.2.2 dX5_put_15

set_option maxHeartbeats 1000000 in
set_option maxRecDepth 100000 in
theorem k_X5_lose (l : Launch) (D : va_G) {am : Nat → Nat} {tc : Nat → ClassId} {tn : Int32} {mdg msz : Nat → Nat} {msh : Nat → FP} {mth : Nat → Bool} {minv : Nat → FP} {isf : Bool} {fsp : Nat} {mfo : Nat → FP} {mwr : Nat → Bool} {mpl : Nat → Nat} {mny : Nat} {mch : Nat → Nat} {mcu mro : Nat → FP} (sz : Nat) (x y : Int32) (hok : ∀ q, q < 8 → mdg q ≤ 8 ∧ msz q ≤ 16) : Met l yX5_lose (Cond.code yX5_lose cX5_lose 3 (some .boolean) :: bg) { frames := 2, cells := 0, slots := 0, locals := 42 } (sd_Wr D vwCl (ty5 tc) (mw am tc tn mdg msz msh mth minv isf fsp mfo mwr mpl mny mch mcu mro) sz [.ref (am 0), .int x, .int y]) (va_Qi (S := MS) (fun r u => rtn u = nI 0 ∧ M_lose x y (tn, mdg, msz, msh, mth, minv, isf, fsp, mfo, mwr, mpl, mny, mch, mcu, mro) r u) (sd_B D vwCl (ty5 tc) (va_A (mw am tc tn mdg msz msh mth minv isf fsp mfo mwr mpl mny mch mcu mro) sz) (fun u => mwt am tc u)) (va_A (mw am tc tn mdg msz msh mth minv isf fsp mfo mwr mpl mny mch mcu mro) sz)) 0 0 (va_A (mw am tc tn mdg msz msh mth minv isf fsp mfo mwr mpl mny mch mcu mro) sz) := by
  refine Met.ofW (cc := cX5_lose) (maxL := 3) (ret := some .boolean) (by decide) rfl ?_
  intro p e s m args below meth c s₁ B hml hv
  obtain ⟨rfl, hsz, hP, hK, hD0⟩ := hv
  have hx := B.exec
  have hb := B.bytes
  have hr := B.returns
  have hts := atoms_spec (ws := Cond.code yX5_lose cX5_lose 3 (some .boolean) :: bg) B.pre
  have hown : s.vm.findClass RX5 = some m.cls := findClass_of_methodNamed B.named
  have hlocks := B.notSynchronized
  subst hsz
  have hD := hD0.self (sz := s.heap.size)
  generalize hAe : va_A (mw am tc tn mdg msz msh mth minv isf fsp mfo mwr mpl mny mch mcu mro) s.heap.size = A at hD ⊢
  have hA : ∀ q : Nat, s.heap.size ≤ q → A q := fun q h => by rw [← hAe]; exact Or.inr h
  have hS : va_S A s.heap s.heap [] := va_S.rf
  have hl := lv_entry ([.ref (am 0), .int x, .int y]) (n := 3) (Nat.le_of_ble_eq_true rfl)
  rw [lg_entry_eq]
  generalize (lg_sl ([.ref (am 0), .int x, .int y]) ++ List.replicate (3 - (lg_sl ([.ref (am 0), .int x, .int y])).length) Slot.unset).toArray = ls at hl ⊢
  replace hl : lv_has ls 3 [(0, .ref (am 0)), (1, .int x), (2, .int y)] := hl
  refine lv_aload_n hx hb dX5_lose_0 rfl (lv_at hl 0 rfl) ?_
  refine lv_iconst (v := nI 0) hx hb dX5_lose_1 (by decide) ?_
  refine sd_put (ci := 5) (C := RX5) (T := TX5) (N := 15) hx hb hts (fun w h => mm (inX5 w h)) tyX5 tyX5_ok nmX5 hown hK hP hD hS 0 rfl rfl 0 (by decide) (hts _ (mm wf_X5_51)) rfl rfl rfl rfl (Nat.le_of_ble_eq_true rfl) rfl (ws2 := mw am tc (nI 0) mdg msz msh mth minv isf fsp mfo mwr mpl mny mch mcu mro) (rfl) dX5_lose_2 (fun H locs hP hD hS => ?_)
  refine lv_aload_n hx hb dX5_lose_5 rfl (lv_at hl 0 rfl) ?_
  refine lv_iload_n hx hb dX5_lose_6 rfl (lv_at hl 1 rfl) ?_
  refine lv_iload_n hx hb dX5_lose_7 rfl (lv_at hl 2 rfl) ?_
  refine sd_ri (va_runV (As := [.int x, .int y]) (rest := []) ⟨hx, hb, hml, hown, hts⟩ (k_X5_isPlace l D x y (fun q hq => (hok q hq).2)) (sd_cwV hts wd_X5_isPlace wn_X5 wm_X5_99 wi_X5_isPlace ws_X5_isPlace nq_X5_isPlace rfl rfl ⟨Nat.le_of_ble_eq_true rfl, Nat.le_of_ble_eq_true rfl⟩) (sd_preVR hP hK (ci := 5) (q0 := 0) rfl rfl rfl) rfl rfl hl.1 rfl (lv_room (Nat.le_of_ble_eq_true rfl)) dX5_lose_8 ⟨Nat.zero_le _, Nat.zero_le _⟩) (fun r1 hr1 => ?_)
  subst hr1
  refine sd_if_eqB (tgt := 27) hx hb dX5_lose_11 (by decide) (fun c1 => ?_) (fun c1 => ?_)
  · refine lv_iconst (v := nI 0) hx hb dX5_lose_27 (by decide) ?_
    exact W.zret hx hb hr rfl (fun T9 hT9 hW => ⟨⟨_, (nI 0, mdg, msz, msh, mth, minv, isf, fsp, mfo, mwr, mpl, mny, mch, mcu, mro), rfl, ⟨rfl, Or.inr ⟨fun ⟨q, k, h1, h2, h3, h4, h5, _⟩ => sd_ip_no (fun q hq => (hok q hq).2) c1 ⟨q, k, h1, h2, h3, h4, h5⟩, rfl, ⟨rfl, rfl, rfl, rfl, rfl, rfl, rfl, rfl, rfl⟩⟩⟩, by rw [hT9]; exact hP, va_K.moved hW.alike hK, hD⟩, hS.F hT9⟩) hS.2.2 dX5_lose_28
  · obtain ⟨q, k, hq, rfl, hk1, hk2, rfl⟩ := sd_ip_of (fun q hq => (hok q hq).2) c1
    have hokq := hok q hq
    refine lv_aload_n hx hb dX5_lose_14 rfl (lv_at hl 0 rfl) ?_
    refine va_get (D := D) (ci := 5) (v := .ref (am 4)) (C := RX5) (T := TX5) (N := 15) hx hb hts (fun w h => mm (inX5 w h)) hown hK hP 0 rfl rfl 4 (by decide) (hts _ (mm wf_X5_20)) (fun _ h9 => h9) rfl dX5_lose_15 ?_
    refine lv_iload_n hx hb dX5_lose_18 rfl (lv_at hl 1 rfl) ?_
    refine lv_iload_n hx hb dX5_lose_19 rfl (lv_at hl 2 rfl) ?_
    refine sd_ri (va_runS (As := [.int (nI q), .int (nI k)]) (rest := [.ref (am 4)]) ⟨hx, hb, hml, hown, hts⟩ (k_X5_home l q k) (sd_cwS hts wd_X5_home wn_X5 wm_X5_91 wi_X5_home nq_X5_home rfl rfl ⟨Nat.le_of_ble_eq_true rfl, Nat.le_of_ble_eq_true rfl⟩) sd_preN rfl rfl hl.1 rfl (lv_room (Nat.le_of_ble_eq_true rfl)) dX5_lose_20 ⟨Nat.zero_le _, Nat.zero_le _⟩) (fun r2 hr2 => ?_)
    subst hr2
    refine sd_zald hx hb hK hP 4 1 rfl rfl (k := 17 * q + k) (by omega) (by decide) dX5_lose_23 ?_
    refine sd_if_neB (tgt := 29) hx hb dX5_lose_24 (by decide) (fun c2 => ?_) (fun c2 => ?_)
    · refine lv_aload_n hx hb dX5_lose_29 rfl (lv_at hl 0 rfl) ?_
      refine va_get (D := D) (ci := 5) (v := .ref (am 4)) (C := RX5) (T := TX5) (N := 15) hx hb hts (fun w h => mm (inX5 w h)) hown hK hP 0 rfl rfl 4 (by decide) (hts _ (mm wf_X5_20)) (fun _ h9 => h9) rfl dX5_lose_30 ?_
      refine lv_iload_n hx hb dX5_lose_33 rfl (lv_at hl 1 rfl) ?_
      refine lv_iload_n hx hb dX5_lose_34 rfl (lv_at hl 2 rfl) ?_
      refine sd_ri (va_runS (As := [.int (nI q), .int (nI k)]) (rest := [.ref (am 4)]) ⟨hx, hb, hml, hown, hts⟩ (k_X5_home l q k) (sd_cwS hts wd_X5_home wn_X5 wm_X5_91 wi_X5_home nq_X5_home rfl rfl ⟨Nat.le_of_ble_eq_true rfl, Nat.le_of_ble_eq_true rfl⟩) sd_preN rfl rfl hl.1 rfl (lv_room (Nat.le_of_ble_eq_true rfl)) dX5_lose_35 ⟨Nat.zero_le _, Nat.zero_le _⟩) (fun r3 hr3 => ?_)
      subst hr3
      refine lv_iconst (v := nI 0) hx hb dX5_lose_38 (by decide) ?_
      refine sd_tob (b := false) rfl ?_
      refine sd_zast hx hb hK hP hD hS 4 1 rfl rfl (k := 17 * q + k) (by omega) (by decide) (ws2 := mw am tc (nI 0) mdg msz msh (sd_up mth (17 * q + k) false) minv isf fsp mfo mwr mpl mny mch mcu mro) (by rw [sd_stZ]; exact rfl) dX5_lose_39 (fun H locs hP hD hS => ?_)
      refine lv_iconst (v := nI 1) hx hb dX5_lose_40 (by decide) ?_
      exact W.zret hx hb hr rfl (fun T9 hT9 hW => ⟨⟨_, (nI 0, mdg, msz, msh, sd_up mth (17 * q + k) false, minv, isf, fsp, mfo, mwr, mpl, mny, mch, mcu, mro), rfl, ⟨rfl, Or.inl ⟨q, k, hq, rfl, hk1, hk2, rfl, c2, rfl, rfl, rfl, rfl, rfl, ⟨rfl, rfl, rfl, rfl, rfl⟩⟩⟩, by rw [hT9]; exact hP, va_K.moved hW.alike hK, hD⟩, hS.F hT9⟩) hS.2.2 dX5_lose_41
    · refine lv_iconst (v := nI 0) hx hb dX5_lose_27 (by decide) ?_
      exact W.zret hx hb hr rfl (fun T9 hT9 hW => ⟨⟨_, (nI 0, mdg, msz, msh, mth, minv, isf, fsp, mfo, mwr, mpl, mny, mch, mcu, mro), rfl, ⟨rfl, Or.inr ⟨fun ⟨q2, k2, h1, h2, h3, h4, h5, h6⟩ => (by have h4 : k2 ≤ msz q2 := h4; have hokq2 := hok q2 h1; have e1 := sd_nI_inj (by omega) (by omega) h2; subst e1; have e2 := sd_nI_inj (by omega) (by omega) h5; subst e2; have h6 : mth (17 * q + k) = true := h6; rw [c2] at h6; cases h6), rfl, ⟨rfl, rfl, rfl, rfl, rfl, rfl, rfl, rfl, rfl⟩⟩⟩, by rw [hT9]; exact hP, va_K.moved hW.alike hK, hD⟩, hS.F hT9⟩) hS.2.2 dX5_lose_28

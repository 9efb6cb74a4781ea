/-! the desk's methods: what each does, in words for the state -/
abbrev DS : Type := (Nat → Nat) × (Nat → Nat) × (Nat → Nat → FP) × (Nat → Nat → Bool) × (Nat → Nat → FP) × (Nat → Nat → FP) × (Nat → Bool) × (Nat → FP) × (Nat → Int32) × (Nat → Bool) × Int32
abbrev sdg (u : DS) : Nat → Nat := u.1
abbrev spl (u : DS) : Nat → Nat := u.2.1
abbrev svl (u : DS) : Nat → Nat → FP := u.2.2.1
abbrev sth (u : DS) : Nat → Nat → Bool := u.2.2.2.1
abbrev scu (u : DS) : Nat → Nat → FP := u.2.2.2.2.1
abbrev sfw (u : DS) : Nat → Bool := u.2.2.2.2.2.2.2.2.2.1
abbrev sff (u : DS) : Int32 := u.2.2.2.2.2.2.2.2.2.2
abbrev dwt (ad : Nat → Nat) (tc : Nat → ClassId) (u : DS) : va_W := dw ad tc u.1 u.2.1 u.2.2.1 u.2.2.2.1 u.2.2.2.2.1 u.2.2.2.2.2.1 u.2.2.2.2.2.2.1 u.2.2.2.2.2.2.2.1 u.2.2.2.2.2.2.2.2.1 u.2.2.2.2.2.2.2.2.2.1 u.2.2.2.2.2.2.2.2.2.2
/-- what was FOUND stays -/
def sd_fs (v u : DS) : Prop := scu u 2 = scu v 2 ∧ sfw u = sfw v ∧ sff u = sff v
def sd_same (v u : DS) : Prop := sdg u = sdg v ∧ spl u = spl v ∧ svl u = svl v ∧ sth u = sth v ∧ sd_fs v u
def sd_OK (v : DS) : Prop := ∀ q, q < 8 → sdg v q ≤ 8 ∧ spl v q ≤ 16
/-- a number of a split -/
def sd_ix (x : Int32) : Option Nat := if 0 ≤ x.toInt ∧ x.toInt < 8 then some x.toInt.toNat else none
theorem sd_ix_some {x : Int32} {q : Nat} (h : sd_ix x = some q) : q < 8 ∧ x = nI q := by
  unfold sd_ix at h
  by_cases c : 0 ≤ x.toInt ∧ x.toInt < 8
  · rw [if_pos c] at h
    have e := Option.some.inj h
    refine ⟨by omega, Int32.toInt_inj.mp ?_⟩
    rw [nI_toInt (by omega)]
    omega
  · rw [if_neg c] at h
    cases h
theorem sd_ix_none {x : Int32} (h : sd_ix x = none) {q : Nat} (hq : q < 8) : x ≠ nI q := by
  intro e
  unfold sd_ix at h
  rw [e, nI_toInt (by omega), if_pos (by omega)] at h
  cases h
theorem sd_ix_lt {x : Int32} (h : x < 0) : sd_ix x = none := by
  rw [Int32.lt_iff_toInt_lt, Int32.toInt_zero] at h
  exact if_neg (by omega)
theorem sd_ix_ge {x : Int32} (h : nI 8 ≤ x) : sd_ix x = none := by
  rw [Int32.le_iff_toInt_le, nI_toInt (by decide)] at h
  exact if_neg (by omega)
theorem sd_ix_in {x : Int32} (h1 : ¬ x < 0) (h2 : ¬ nI 8 ≤ x) : ∃ j, j < 8 ∧ x = nI j ∧ sd_ix x = some j := by
  rw [Int32.lt_iff_toInt_lt, Int32.toInt_zero] at h1
  rw [Int32.le_iff_toInt_le, nI_toInt (by decide)] at h2
  have h : sd_ix x = some x.toInt.toNat := if_pos (by omega)
  exact ⟨x.toInt.toNat, (sd_ix_some h).1, (sd_ix_some h).2, h⟩
theorem sd_nI_inj {a b : Nat} (ha : a < 2 ^ 31) (hb : b < 2 ^ 31) (h : nI a = nI b) : a = b := (nI_eq ha hb).mp h
/-- the curve that a generator draws -/
def sd_dr (c0 : FP) (t : Nat) (seed : Int64) (k : Nat) : FP := if k = 0 then c0 else if k ≤ t then sd_nx (sd_gs seed k) else 0
theorem sd_dr_ev {c0 : FP} {t : Nat} {seed : Int64} {f : Nat → FP} (h0 : f 0 = c0) (h : ∀ k, 1 ≤ k → k ≤ 8 → f k = (if k ≤ t then sd_nx (sd_gs seed k) else 0)) (x : FP) : sd_ev f x = sd_ev (sd_dr c0 t seed) x := by
  refine sd_pv_congr x 9 0 (fun j _ hj => ?_)
  unfold sd_dr
  by_cases e : j = 0
  · rw [if_pos e, e, h0]
  · rw [if_neg e, h j (by omega) (by omega)]
def sd_jn (h : Nat) (x y : FP) : FP := if h = 0 then x + y else if h = 1 then x - y else x * y
section
variable {p : Program} {l : Launch} {e : Env} {R : Room} {s : State} {m : MethodId} {args : Array Value} {below : List Frame} {meth : Method} {c : Code} {H : Heap} {locs : List Loc} {cells slots : Nat} {Q : State → Prop} {pc : Nat} {ls : Array Slot} {rest : List Value}
theorem sd_top {v v2 : Value} (h : v = v2) (kk : W p l e R s m args below meth c H locs cells slots Q (F0 m pc ls (v2 :: rest))) : W p l e R s m args below meth c H locs cells slots Q (F0 m pc ls (v :: rest)) := h ▸ kk
end
def P_put (x y : Int32) (v : Int64) (a : DS) (r : Int32) (u : DS) : Prop :=
  (∃ q k, q < 8 ∧ x = nI q ∧ 1 ≤ k ∧ k ≤ spl a q ∧ y = nI k ∧ r = nI 1 ∧ sdg u = sdg a ∧ spl u = spl a ∧ svl u = sd_up (svl a) q (sd_up (svl a q) k (sd_of v)) ∧ sth u = sd_up (sth a) q (sd_up (sth a q) k true) ∧ sd_fs a u) ∨
  ((¬ ∃ q k, q < 8 ∧ x = nI q ∧ 1 ≤ k ∧ k ≤ spl a q ∧ y = nI k) ∧ r = nI 0 ∧ sd_same a u)
def P_lose (x y : Int32) (a : DS) (r : Int32) (u : DS) : Prop :=
  (∃ q k, q < 8 ∧ x = nI q ∧ 1 ≤ k ∧ k ≤ spl a q ∧ y = nI k ∧ sth a q k = true ∧ r = nI 1 ∧ sdg u = sdg a ∧ spl u = spl a ∧ svl u = svl a ∧ sth u = sd_up (sth a) q (sd_up (sth a q) k false) ∧ sd_fs a u) ∨
  ((¬ ∃ q k, q < 8 ∧ x = nI q ∧ 1 ≤ k ∧ k ≤ spl a q ∧ y = nI k ∧ sth a q k = true) ∧ r = nI 0 ∧ sd_same a u)
def P_scale (x : Int32) (v w : Int64) (a : DS) (r : Int32) (u : DS) : Prop :=
  (∃ q, q < 8 ∧ x = nI q ∧ r = nI 1 ∧ sdg u = sdg a ∧ spl u = spl a ∧ sth u = sth a ∧ sd_fs a u ∧ (∀ i j, i ≠ q → svl u i j = svl a i j) ∧ ∀ j, 1 ≤ j → j ≤ spl a q → sth a q j = true → svl u q j = svl a q j * sd_of v + sd_of w) ∨
  ((¬ ∃ q, q < 8 ∧ x = nI q) ∧ r = nI 0 ∧ sd_same a u)
def P_renew (x : Int32) (seed : Int64) (a : DS) (r : Int32) (u : DS) : Prop :=
  (∃ q, q < 8 ∧ x = nI q ∧ r = nI 1 ∧ sdg u = sdg a ∧ spl u = spl a ∧ sth u = sth a ∧ sd_fs a u ∧ (∀ i j, i ≠ q → svl u i j = svl a i j) ∧ ∀ j, 1 ≤ j → j ≤ spl a q → sth a q j = true → svl u q j = svl a q j + sd_ev (sd_dr 0 (sdg a q) seed) (sd_N j)) ∨
  ((¬ ∃ q, q < 8 ∧ x = nI q) ∧ r = nI 0 ∧ sd_same a u)
def sd_dv (x y z : Int32) (q t n : Nat) : Prop := q < 8 ∧ x = nI q ∧ t ≤ 8 ∧ y = nI t ∧ t + 1 ≤ n ∧ n ≤ 16 ∧ z = nI n
def P_deal (x y z : Int32) (v seed : Int64) (a : DS) (r : Int32) (u : DS) : Prop :=
  (∃ q t n, sd_dv x y z q t n ∧ r = nI 1 ∧ sdg u = sd_up (sdg a) q t ∧ spl u = sd_up (spl a) q n ∧ sd_fs a u ∧ ∀ i j, svl u i j = (if i = q ∧ 1 ≤ j ∧ j ≤ n then sd_ev (sd_dr (sd_of v) t seed) (sd_N j) else svl a i j) ∧ sth u i j = (if i = q ∧ 1 ≤ j ∧ j ≤ n then true else sth a i j)) ∨
  ((¬ ∃ q t n, sd_dv x y z q t n) ∧ r = nI 0 ∧ sd_same a u)
def sd_jd (a : DS) (qa qb h : Nat) : Nat := if h = 2 then sdg a qa + sdg a qb else max (sdg a qa) (sdg a qb)
def sd_jv (a : DS) (x y z w : Int32) (q qa qb h : Nat) : Prop := q < 8 ∧ x = nI q ∧ qa < 8 ∧ y = nI qa ∧ qb < 8 ∧ z = nI qb ∧ h ≤ 2 ∧ w = nI h ∧ sd_jd a qa qb h ≤ 8
def P_join (x y z w : Int32) (a : DS) (r : Int32) (u : DS) : Prop :=
  (∃ q qa qb h, sd_jv a x y z w q qa qb h ∧ r = nI 1 ∧ sdg u = sd_up (sdg a) q (sd_jd a qa qb h) ∧ spl u = sd_up (spl a) q (min (spl a qa) (spl a qb)) ∧ sd_fs a u ∧ (∀ i j, i ≠ q → svl u i j = svl a i j ∧ sth u i j = sth a i j) ∧
    ∀ j, 1 ≤ j → j ≤ min (spl a qa) (spl a qb) → sth u q j = (sth a qa j && sth a qb j) ∧ (sth a qa j = true → sth a qb j = true → svl u q j = sd_jn h (svl a qa j) (svl a qb j))) ∨
  ((¬ ∃ q qa qb h, sd_jv a x y z w q qa qb h) ∧ r = nI 0 ∧ sd_same a u)
def P_mend (a : DS) (r : Int32) (u : DS) : Prop :=
  (∃ q, q < 8 ∧ sff a = nI q ∧ r = nI 1 ∧ sdg u = sdg a ∧ spl u = spl a ∧ sd_fs a u ∧ ∀ i j, svl u i j = (if i = q ∧ 1 ≤ j ∧ j ≤ spl a q then sd_ev (scu a 2) (sd_N j) else svl a i j) ∧ sth u i j = (if i = q ∧ 1 ≤ j ∧ j ≤ spl a q then true else sth a i j)) ∨
  ((¬ ∃ q, q < 8 ∧ sff a = nI q) ∧ r = nI 0 ∧ sd_same a u)
def P_split (x y : Int32) (a : DS) (r : Int32) : Prop :=
  (∃ q, q < 8 ∧ x = nI q ∧ r = (if y = nI 0 then nI (sdg a q) else if y = nI 1 then nI (spl a q) else if y = nI 2 then nI (sd_cnt (sth a q) (spl a q)) else -1)) ∨ ((¬ ∃ q, q < 8 ∧ x = nI q) ∧ r = -1)

set_option maxHeartbeats 1000000 in
set_option maxRecDepth 100000 in
theorem k_X4_splitOrNull (l : Launch) (D : va_G) {ad : Nat → Nat} {tc : Nat → ClassId} {dg pl : Nat → Nat} {vl : Nat → Nat → FP} {th : Nat → Nat → Bool} {cu mx : Nat → Nat → FP} {us : Nat → Bool} {so : Nat → FP} {rr : Nat → Int32} {fw : Nat → Bool} {ff : Int32} (x : Int32)  : Met l yX4_splitOrNull (Cond.code yX4_splitOrNull cX4_splitOrNull 2 (some (.object "SplitDesk$Split")) :: bg) { frames := 0, cells := 0, slots := 0, locals := 0 } (sd_R D vwCl (ty5 tc) (dw ad tc dg pl vl th cu mx us so rr fw ff) [.ref (ad 0), .int x]) (va_Sq (fun r => r = (sd_ix x).map (fun j => ad (14 + 3 * j)))) 0 0 (fun _ => False) := by
  refine Met.ofW (cc := cX4_splitOrNull) (maxL := 2) (ret := some (.object "SplitDesk$Split")) (by decide) rfl ?_
  intro p e s m args below meth c s₁ B hml hv
  obtain ⟨rfl, hP, hK⟩ := hv
  have hx := B.exec
  have hb := B.bytes
  have hr := B.returns
  have hts := atoms_spec (ws := Cond.code yX4_splitOrNull cX4_splitOrNull 2 (some (.object "SplitDesk$Split")) :: bg) B.pre
  have hown : s.vm.findClass RX4 = some m.cls := findClass_of_methodNamed B.named
  have hlocks := B.notSynchronized
  have hl := lv_entry ([.ref (ad 0), .int x]) (n := 2) (Nat.le_of_ble_eq_true rfl)
  rw [lg_entry_eq]
  generalize (lg_sl ([.ref (ad 0), .int x]) ++ List.replicate (2 - (lg_sl ([.ref (ad 0), .int x])).length) Slot.unset).toArray = ls at hl ⊢
  replace hl : lv_has ls 2 [(0, .ref (ad 0)), (1, .int x)] := hl
  refine lv_iload_n hx hb dX4_splitOrNull_0 rfl (lv_at hl 1 rfl) ?_
  refine lv_if_lt (tgt := 19) hx hb dX4_splitOrNull_1 (by decide) (fun c1 => ?_) (fun c1 => ?_)
  · refine lv_null hx hb dX4_splitOrNull_19 ?_
    exact W.aret hx hb hr (Or.inl ⟨_, rfl⟩) (Or.inl rfl) (fun T9 hT9 hW => ⟨none, rfl, by rw [sd_ix_lt c1]; rfl, hT9⟩) (fun q h => nomatch h) dX4_splitOrNull_20
  · refine lv_iload_n hx hb dX4_splitOrNull_4 rfl (lv_at hl 1 rfl) ?_
    refine lv_bipush (v := nI 8) hx hb dX4_splitOrNull_5 (by decide) ?_
    refine lv_icmp_ge (tgt := 19) hx hb dX4_splitOrNull_7 (by decide) (fun c2 => ?_) (fun c2 => ?_)
    · refine lv_null hx hb dX4_splitOrNull_19 ?_
      exact W.aret hx hb hr (Or.inl ⟨_, rfl⟩) (Or.inl rfl) (fun T9 hT9 hW => ⟨none, rfl, by rw [sd_ix_ge c2]; rfl, hT9⟩) (fun q h => nomatch h) dX4_splitOrNull_20
    · obtain ⟨j, hj, rfl, hix⟩ := sd_ix_in c1 c2
      refine lv_aload_n hx hb dX4_splitOrNull_10 rfl (lv_at hl 0 rfl) ?_
      refine va_get (D := D) (ci := 4) (v := .ref (ad 1)) (C := RX4) (T := TX4) (N := 6) hx hb hts (fun w h => mm (inX4 w h)) hown hK hP 0 dw_desk rfl 0 (by decide) (hts _ (mm wf_X4_11)) (fun _ h9 => h9) rfl dX4_splitOrNull_11 ?_
      refine lv_iload_n hx hb dX4_splitOrNull_14 rfl (lv_at hl 1 rfl) ?_
      refine sd_aldq hx hb hK hP 1 3 dw_splits rfl (k := j) (by omega) (by decide) rfl dX4_splitOrNull_15 ?_
      refine lv_goto (tgt := 20) hx hb dX4_splitOrNull_16 (by decide) ?_
      exact W.aret hx hb hr (Or.inl ⟨_, rfl⟩) (Or.inr ⟨_, rfl⟩) (fun T9 hT9 hW => ⟨some (ad (14 + 3 * j)), rfl, by rw [hix]; rfl, hT9⟩) (fun q h => nomatch h) dX4_splitOrNull_20

set_option maxHeartbeats 1000000 in
set_option maxRecDepth 100000 in
theorem k_X4_put (l : Launch) (D : va_G) {ad : Nat → Nat} {tc : Nat → ClassId} {dg pl : Nat → Nat} {vl : Nat → Nat → FP} {th : Nat → Nat → Bool} {cu mx : Nat → Nat → FP} {us : Nat → Bool} {so : Nat → FP} {rr : Nat → Int32} {fw : Nat → Bool} {ff : Int32} (sz : Nat) (x y : Int32) (v : Int64) (hok : ∀ q, q < 8 → dg q ≤ 8 ∧ pl q ≤ 16) : Met l yX4_put (Cond.code yX4_put cX4_put 6 (some .boolean) :: bg) { frames := 2, cells := 0, slots := 0, locals := 46 } (sd_Wr D vwCl (ty5 tc) (dw ad tc dg pl vl th cu mx us so rr fw ff) sz [.ref (ad 0), .int x, .int y, .long v]) (va_Qi (S := DS) (fun r u => P_put x y v (dg, pl, vl, th, cu, mx, us, so, rr, fw, ff) r u) (sd_B D vwCl (ty5 tc) (va_A (dw ad tc dg pl vl th cu mx us so rr fw ff) sz) (fun u => dwt ad tc u)) (va_A (dw ad tc dg pl vl th cu mx us so rr fw ff) sz)) 0 0 (va_A (dw ad tc dg pl vl th cu mx us so rr fw ff) sz) := by
  refine Met.ofW (cc := cX4_put) (maxL := 6) (ret := some .boolean) (by decide) rfl ?_
  intro p e s m args below meth c s₁ B hml hv
  obtain ⟨rfl, hsz, hP, hK, hD0⟩ := hv
  have hx := B.exec
  have hb := B.bytes
  have hr := B.returns
  have hts := atoms_spec (ws := Cond.code yX4_put cX4_put 6 (some .boolean) :: bg) B.pre
  have hown : s.vm.findClass RX4 = some m.cls := findClass_of_methodNamed B.named
  have hlocks := B.notSynchronized
  subst hsz
  have hD := hD0.self (sz := s.heap.size)
  generalize hAe : va_A (dw ad tc dg pl vl th cu mx us so rr fw ff) s.heap.size = A at hD ⊢
  have hA : ∀ q : Nat, s.heap.size ≤ q → A q := fun q h => by rw [← hAe]; exact Or.inr h
  have hS : va_S A s.heap s.heap [] := va_S.rf
  have hl := lv_entry ([.ref (ad 0), .int x, .int y, .long v]) (n := 6) (Nat.le_of_ble_eq_true rfl)
  rw [lg_entry_eq]
  generalize (lg_sl ([.ref (ad 0), .int x, .int y, .long v]) ++ List.replicate (6 - (lg_sl ([.ref (ad 0), .int x, .int y, .long v])).length) Slot.unset).toArray = ls at hl ⊢
  replace hl : lv_has ls 6 [(0, .ref (ad 0)), (1, .int x), (2, .int y), (3, .long v)] := hl
  refine lv_aload_n hx hb dX4_put_0 rfl (lv_at hl 0 rfl) ?_
  refine lv_iload_n hx hb dX4_put_1 rfl (lv_at hl 1 rfl) ?_
  refine va_csq (va_runV (As := [.int x]) (rest := []) ⟨hx, hb, hml, hown, hts⟩ (k_X4_splitOrNull l D x) (sd_cwV hts wd_X4_splitOrNull wn_X4 wm_X4_41 wi_X4_splitOrNull ws_X4_splitOrNull nq_X4_splitOrNull rfl rfl ⟨Nat.le_of_ble_eq_true rfl, Nat.le_of_ble_eq_true rfl⟩) (sd_preVR hP hK (ci := 4) (q0 := 0) rfl rfl dw_desk) rfl rfl hl.1 rfl (lv_room (Nat.le_of_ble_eq_true rfl)) dX4_put_2 ⟨Nat.zero_le _, Nat.zero_le _⟩).run (fun r1 hr1 => ?_)
  subst hr1
  rcases hixq : sd_ix x with _ | q
  · refine sd_top (v2 := .null) rfl ?_
    refine lv_astoreN (lv' := [(5, .null), (0, .ref (ad 0)), (1, .int x), (2, .int y), (3, .long v)]) hx hb dX4_put_5 hl (by decide) rfl (fun ls hl => ?_)
    refine lv_aloadN hx hb dX4_put_7 (lv_at hl 0 rfl) ?_
    refine lv_ifnullN (tgt := 21) hx hb dX4_put_9 (by decide) ?_
    refine lv_iconst (v := nI 0) hx hb dX4_put_21 (by decide) ?_
    exact W.zret hx hb hr rfl (fun T9 hT9 hW => ⟨⟨_, (dg, pl, vl, th, cu, mx, us, so, rr, fw, ff), rfl, Or.inr ⟨fun ⟨q, k, h1, h2, _⟩ => sd_ix_none hixq h1 h2, rfl, ⟨rfl, rfl, rfl, rfl, rfl, rfl, rfl⟩⟩, by rw [hT9]; exact hP, va_K.moved hW.alike hK, hD⟩, hS.F hT9⟩) hS.2.2 dX4_put_22
  · obtain ⟨hq, hxq⟩ := sd_ix_some hixq
    refine sd_top (v2 := .ref (ad (14 + 3 * q))) rfl ?_
    refine lv_astore (lv' := [(5, .ref (ad (14 + 3 * q))), (0, .ref (ad 0)), (1, .int x), (2, .int y), (3, .long v)]) hx hb dX4_put_5 hl (by decide) rfl (fun ls hl => ?_)
    refine lv_aload hx hb dX4_put_7 (lv_at hl 0 rfl) ?_
    refine lv_ifnull hx hb dX4_put_9 ?_
    refine lv_aload hx hb dX4_put_12 (lv_at hl 0 rfl) ?_
    refine lv_iload_n hx hb dX4_put_14 rfl (lv_at hl 3 rfl) ?_
    refine sd_ri (va_runV (As := [.int y]) (rest := []) ⟨hx, hb, hml, hown, hts⟩ (k_X3_hasPlace l D q y hq (hok q hq).2) (sd_cwV hts wd_X3_hasPlace wn_X3 wm_X4_63 wi_X3_hasPlace ws_X3_hasPlace nq_X3_hasPlace rfl rfl ⟨Nat.le_of_ble_eq_true rfl, Nat.le_of_ble_eq_true rfl⟩) (sd_preVR hP hK (ci := 3) (q0 := (14 + 3 * q)) rfl rfl (dw_sp hq)) rfl rfl hl.1 rfl (lv_room (Nat.le_of_ble_eq_true rfl)) dX4_put_15 ⟨Nat.zero_le _, Nat.zero_le _⟩) (fun r4 hr4 => ?_)
    subst hr4
    refine sd_if_neB (tgt := 23) hx hb dX4_put_18 (by decide) (fun c1 => ?_) (fun c1 => ?_)
    · have hokq := hok q hq
      obtain ⟨k, hk1, hk2, rfl⟩ := sd_hp_of (by omega) c1
      refine lv_aload hx hb dX4_put_23 (lv_at hl 0 rfl) ?_
      refine lv_iload_n hx hb dX4_put_25 rfl (lv_at hl 3 rfl) ?_
      refine lv_lload_n hx hb dX4_put_26 rfl (lv_at hl 4 rfl) ?_
      refine sd_rl (va_runS (As := [.long v]) (rest := [.int (nI k), .ref (ad (14 + 3 * q))]) ⟨hx, hb, hml, hown, hts⟩ (k_X2_of l v) (sd_cwS hts wd_X2_of wn_X2 wm_X4_45 wi_X2_of nq_X2_of rfl rfl ⟨Nat.le_of_ble_eq_true rfl, Nat.le_of_ble_eq_true rfl⟩) sd_preN rfl rfl hl.1 rfl (lv_room (Nat.le_of_ble_eq_true rfl)) dX4_put_27 ⟨Nat.zero_le _, Nat.zero_le _⟩) (fun r5 hr5 => ?_)
      subst hr5
      refine sd_wv (va_runV (As := [.int (nI k), .long (sd_L (sd_of v))]) (rest := []) ⟨hx, hb, hml, hown, hts⟩ (k_X3_keep l D _ q k (sd_of v) hq (by omega)) (sd_cwV hts wd_X3_keep wn_X3 wm_X4_67 wi_X3_keep ws_X3_keep nq_X3_keep rfl rfl ⟨Nat.le_of_ble_eq_true rfl, Nat.le_of_ble_eq_true rfl⟩) (sd_preVW hP hK hD (ci := 3) (q0 := (14 + 3 * q)) rfl rfl (dw_sp hq)) rfl rfl hl.1 rfl (lv_room (Nat.le_of_ble_eq_true rfl)) dX4_put_30 ⟨Nat.zero_le _, Nat.zero_le _⟩) hD hS hA (fun u7 H locs hu7 hP hD hS => ?_)
      replace hP : va_P D vwCl (dw ad tc dg pl (sd_up vl q (sd_up (vl q) k (sd_of v))) (sd_up th q (sd_up (th q) k true)) cu mx us so rr fw ff) H := hP
      replace hD : va_D A (dw ad tc dg pl (sd_up vl q (sd_up (vl q) k (sd_of v))) (sd_up th q (sd_up (th q) k true)) cu mx us so rr fw ff) := hD
      refine lv_iconst (v := nI 1) hx hb dX4_put_33 (by decide) ?_
      exact W.zret hx hb hr rfl (fun T9 hT9 hW => ⟨⟨_, (dg, pl, sd_up vl q (sd_up (vl q) k (sd_of v)), sd_up th q (sd_up (th q) k true), cu, mx, us, so, rr, fw, ff), rfl, Or.inl ⟨q, k, hq, hxq, hk1, hk2, rfl, rfl, rfl, rfl, rfl, rfl, rfl, rfl, rfl⟩, by rw [hT9]; exact hP, va_K.moved hW.alike hK, hD⟩, hS.F hT9⟩) hS.2.2 dX4_put_34
    · refine lv_iconst (v := nI 0) hx hb dX4_put_21 (by decide) ?_
      exact W.zret hx hb hr rfl (fun T9 hT9 hW => ⟨⟨_, (dg, pl, vl, th, cu, mx, us, so, rr, fw, ff), rfl, Or.inr ⟨fun ⟨q2, k, h1, h2, h3, h4, h5⟩ => (by have e9 := sd_nI_inj (by omega) (by omega) (hxq.symm.trans h2); subst e9; have hokq := (hok q hq).2; have h4 : k ≤ pl q := h4; rw [h5, sd_hp_nI (by omega), decide_eq_true ⟨h3, h4⟩] at c1; cases c1), rfl, ⟨rfl, rfl, rfl, rfl, rfl, rfl, rfl⟩⟩, by rw [hT9]; exact hP, va_K.moved hW.alike hK, hD⟩, hS.F hT9⟩) hS.2.2 dX4_put_22

set_option maxHeartbeats 1000000 in
set_option maxRecDepth 100000 in
theorem k_X4_lose (l : Launch) (D : va_G) {ad : Nat → Nat} {tc : Nat → ClassId} {dg pl : Nat → Nat} {vl : Nat → Nat → FP} {th : Nat → Nat → Bool} {cu mx : Nat → Nat → FP} {us : Nat → Bool} {so : Nat → FP} {rr : Nat → Int32} {fw : Nat → Bool} {ff : Int32} (sz : Nat) (x y : Int32) (hok : ∀ q, q < 8 → dg q ≤ 8 ∧ pl q ≤ 16) : Met l yX4_lose (Cond.code yX4_lose cX4_lose 4 (some .boolean) :: bg) { frames := 2, cells := 0, slots := 0, locals := 42 } (sd_Wr D vwCl (ty5 tc) (dw ad tc dg pl vl th cu mx us so rr fw ff) sz [.ref (ad 0), .int x, .int y]) (va_Qi (S := DS) (fun r u => P_lose x y (dg, pl, vl, th, cu, mx, us, so, rr, fw, ff) r u) (sd_B D vwCl (ty5 tc) (va_A (dw ad tc dg pl vl th cu mx us so rr fw ff) sz) (fun u => dwt ad tc u)) (va_A (dw ad tc dg pl vl th cu mx us so rr fw ff) sz)) 0 0 (va_A (dw ad tc dg pl vl th cu mx us so rr fw ff) sz) := by
  refine Met.ofW (cc := cX4_lose) (maxL := 4) (ret := some .boolean) (by decide) rfl ?_
  intro p e s m args below meth c s₁ B hml hv
  obtain ⟨rfl, hsz, hP, hK, hD0⟩ := hv
  have hx := B.exec
  have hb := B.bytes
  have hr := B.returns
  have hts := atoms_spec (ws := Cond.code yX4_lose cX4_lose 4 (some .boolean) :: bg) B.pre
  have hown : s.vm.findClass RX4 = some m.cls := findClass_of_methodNamed B.named
  have hlocks := B.notSynchronized
  subst hsz
  have hD := hD0.self (sz := s.heap.size)
  generalize hAe : va_A (dw ad tc dg pl vl th cu mx us so rr fw ff) s.heap.size = A at hD ⊢
  have hA : ∀ q : Nat, s.heap.size ≤ q → A q := fun q h => by rw [← hAe]; exact Or.inr h
  have hS : va_S A s.heap s.heap [] := va_S.rf
  have hl := lv_entry ([.ref (ad 0), .int x, .int y]) (n := 4) (Nat.le_of_ble_eq_true rfl)
  rw [lg_entry_eq]
  generalize (lg_sl ([.ref (ad 0), .int x, .int y]) ++ List.replicate (4 - (lg_sl ([.ref (ad 0), .int x, .int y])).length) Slot.unset).toArray = ls at hl ⊢
  replace hl : lv_has ls 4 [(0, .ref (ad 0)), (1, .int x), (2, .int y)] := hl
  refine lv_aload_n hx hb dX4_lose_0 rfl (lv_at hl 0 rfl) ?_
  refine lv_iload_n hx hb dX4_lose_1 rfl (lv_at hl 1 rfl) ?_
  refine va_csq (va_runV (As := [.int x]) (rest := []) ⟨hx, hb, hml, hown, hts⟩ (k_X4_splitOrNull l D x) (sd_cwV hts wd_X4_splitOrNull wn_X4 wm_X4_41 wi_X4_splitOrNull ws_X4_splitOrNull nq_X4_splitOrNull rfl rfl ⟨Nat.le_of_ble_eq_true rfl, Nat.le_of_ble_eq_true rfl⟩) (sd_preVR hP hK (ci := 4) (q0 := 0) rfl rfl dw_desk) rfl rfl hl.1 rfl (lv_room (Nat.le_of_ble_eq_true rfl)) dX4_lose_2 ⟨Nat.zero_le _, Nat.zero_le _⟩).run (fun r1 hr1 => ?_)
  subst hr1
  rcases hixq : sd_ix x with _ | q
  · refine sd_top (v2 := .null) rfl ?_
    refine lv_astore_nN (lv' := [(3, .null), (0, .ref (ad 0)), (1, .int x), (2, .int y)]) hx hb dX4_lose_5 rfl hl (by decide) rfl (fun ls hl => ?_)
    refine lv_aload_nN hx hb dX4_lose_6 rfl (lv_at hl 0 rfl) ?_
    refine lv_ifnullN (tgt := 18) hx hb dX4_lose_7 (by decide) ?_
    refine lv_iconst (v := nI 0) hx hb dX4_lose_18 (by decide) ?_
    exact W.zret hx hb hr rfl (fun T9 hT9 hW => ⟨⟨_, (dg, pl, vl, th, cu, mx, us, so, rr, fw, ff), rfl, Or.inr ⟨fun ⟨q, k, h1, h2, _⟩ => sd_ix_none hixq h1 h2, rfl, ⟨rfl, rfl, rfl, rfl, rfl, rfl, rfl⟩⟩, by rw [hT9]; exact hP, va_K.moved hW.alike hK, hD⟩, hS.F hT9⟩) hS.2.2 dX4_lose_19
  · obtain ⟨hq, hxq⟩ := sd_ix_some hixq
    refine sd_top (v2 := .ref (ad (14 + 3 * q))) rfl ?_
    refine lv_astore_n (lv' := [(3, .ref (ad (14 + 3 * q))), (0, .ref (ad 0)), (1, .int x), (2, .int y)]) hx hb dX4_lose_5 rfl hl (by decide) rfl (fun ls hl => ?_)
    refine lv_aload_n hx hb dX4_lose_6 rfl (lv_at hl 0 rfl) ?_
    refine lv_ifnull hx hb dX4_lose_7 ?_
    refine lv_aload_n hx hb dX4_lose_10 rfl (lv_at hl 0 rfl) ?_
    refine lv_iload_n hx hb dX4_lose_11 rfl (lv_at hl 3 rfl) ?_
    refine sd_ri (va_runV (As := [.int y]) (rest := []) ⟨hx, hb, hml, hown, hts⟩ (k_X3_hasShare l D q y hq (hok q hq).2) (sd_cwV hts wd_X3_hasShare wn_X3 wm_X4_71 wi_X3_hasShare ws_X3_hasShare nq_X3_hasShare rfl rfl ⟨Nat.le_of_ble_eq_true rfl, Nat.le_of_ble_eq_true rfl⟩) (sd_preVR hP hK (ci := 3) (q0 := (14 + 3 * q)) rfl rfl (dw_sp hq)) rfl rfl hl.1 rfl (lv_room (Nat.le_of_ble_eq_true rfl)) dX4_lose_12 ⟨Nat.zero_le _, Nat.zero_le _⟩) (fun r4 hr4 => ?_)
    subst hr4
    refine sd_if_neB (tgt := 20) hx hb dX4_lose_15 (by decide) (fun c1 => ?_) (fun c1 => ?_)
    · have hokq := hok q hq
      obtain ⟨k, hk1, hk2, hk3, rfl⟩ := sd_hs_of (by omega) c1
      refine lv_aload_n hx hb dX4_lose_20 rfl (lv_at hl 0 rfl) ?_
      refine lv_iload_n hx hb dX4_lose_21 rfl (lv_at hl 3 rfl) ?_
      refine sd_wv (va_runV (As := [.int (nI k)]) (rest := []) ⟨hx, hb, hml, hown, hts⟩ (k_X3_drop l D _ q k hq (by omega)) (sd_cwV hts wd_X3_drop wn_X3 wm_X4_74 wi_X3_drop ws_X3_drop nq_X3_drop rfl rfl ⟨Nat.le_of_ble_eq_true rfl, Nat.le_of_ble_eq_true rfl⟩) (sd_preVW hP hK hD (ci := 3) (q0 := (14 + 3 * q)) rfl rfl (dw_sp hq)) rfl rfl hl.1 rfl (lv_room (Nat.le_of_ble_eq_true rfl)) dX4_lose_22 ⟨Nat.zero_le _, Nat.zero_le _⟩) hD hS hA (fun u6 H locs hu6 hP hD hS => ?_)
      replace hP : va_P D vwCl (dw ad tc dg pl vl (sd_up th q (sd_up (th q) k false)) cu mx us so rr fw ff) H := hP
      replace hD : va_D A (dw ad tc dg pl vl (sd_up th q (sd_up (th q) k false)) cu mx us so rr fw ff) := hD
      refine lv_iconst (v := nI 1) hx hb dX4_lose_25 (by decide) ?_
      exact W.zret hx hb hr rfl (fun T9 hT9 hW => ⟨⟨_, (dg, pl, vl, sd_up th q (sd_up (th q) k false), cu, mx, us, so, rr, fw, ff), rfl, Or.inl ⟨q, k, hq, hxq, hk1, hk2, rfl, hk3, rfl, rfl, rfl, rfl, rfl, rfl, rfl, rfl⟩, by rw [hT9]; exact hP, va_K.moved hW.alike hK, hD⟩, hS.F hT9⟩) hS.2.2 dX4_lose_26
    · refine lv_iconst (v := nI 0) hx hb dX4_lose_18 (by decide) ?_
      exact W.zret hx hb hr rfl (fun T9 hT9 hW => ⟨⟨_, (dg, pl, vl, th, cu, mx, us, so, rr, fw, ff), rfl, Or.inr ⟨fun ⟨q2, k, h1, h2, h3, h4, h5, h6⟩ => (by have e9 := sd_nI_inj (by omega) (by omega) (hxq.symm.trans h2); subst e9; have hokq := (hok q hq).2; have h4 : k ≤ pl q := h4; have h6 : th q k = true := h6; rw [h5, sd_hs_nI _ (by omega) h3 h4, h6] at c1; cases c1), rfl, ⟨rfl, rfl, rfl, rfl, rfl, rfl, rfl⟩⟩, by rw [hT9]; exact hP, va_K.moved hW.alike hK, hD⟩, hS.F hT9⟩) hS.2.2 dX4_lose_19

set_option maxHeartbeats 1000000 in
set_option maxRecDepth 100000 in
theorem k_X4_wrong (l : Launch) (D : va_G) {ad : Nat → Nat} {tc : Nat → ClassId} {dg pl : Nat → Nat} {vl : Nat → Nat → FP} {th : Nat → Nat → Bool} {cu mx : Nat → Nat → FP} {us : Nat → Bool} {so : Nat → FP} {rr : Nat → Int32} {fw : Nat → Bool} {ff : Int32} (x : Int32)  : Met l yX4_wrong (Cond.code yX4_wrong cX4_wrong 2 (some .boolean) :: bg) { frames := 0, cells := 0, slots := 0, locals := 0 } (sd_R D vwCl (ty5 tc) (dw ad tc dg pl vl th cu mx us so rr fw ff) [.ref (ad 0), .int x]) (vp_Si (fun r => r = bI (sd_hs 16 fw x))) 0 0 (fun _ => False) := by
  refine Met.ofW (cc := cX4_wrong) (maxL := 2) (ret := some .boolean) (by decide) rfl ?_
  intro p e s m args below meth c s₁ B hml hv
  obtain ⟨rfl, hP, hK⟩ := hv
  have hx := B.exec
  have hb := B.bytes
  have hr := B.returns
  have hts := atoms_spec (ws := Cond.code yX4_wrong cX4_wrong 2 (some .boolean) :: bg) B.pre
  have hown : s.vm.findClass RX4 = some m.cls := findClass_of_methodNamed B.named
  have hlocks := B.notSynchronized
  have hl := lv_entry ([.ref (ad 0), .int x]) (n := 2) (Nat.le_of_ble_eq_true rfl)
  rw [lg_entry_eq]
  generalize (lg_sl ([.ref (ad 0), .int x]) ++ List.replicate (2 - (lg_sl ([.ref (ad 0), .int x])).length) Slot.unset).toArray = ls at hl ⊢
  replace hl : lv_has ls 2 [(0, .ref (ad 0)), (1, .int x)] := hl
  refine lv_iload_n hx hb dX4_wrong_0 rfl (lv_at hl 1 rfl) ?_
  refine lv_iconst (v := nI 1) hx hb dX4_wrong_1 (by decide) ?_
  refine lv_icmp_lt (tgt := 24) hx hb dX4_wrong_2 (by decide) (fun c1 => ?_) (fun c1 => ?_)
  · refine lv_iconst (v := nI 0) hx hb dX4_wrong_24 (by decide) ?_
    exact W.zret hx hb hr rfl (fun T9 hT9 hW => ⟨_, rfl, by rw [sd_hs_f _ (sd_hp_lt _ c1)]; rfl, hT9⟩) (fun q h => nomatch h) dX4_wrong_25
  · refine lv_iload_n hx hb dX4_wrong_5 rfl (lv_at hl 1 rfl) ?_
    refine lv_bipush (v := nI 16) hx hb dX4_wrong_6 (by decide) ?_
    refine lv_icmp_gt (tgt := 24) hx hb dX4_wrong_8 (by decide) (fun c2 => ?_) (fun c2 => ?_)
    · refine lv_iconst (v := nI 0) hx hb dX4_wrong_24 (by decide) ?_
      exact W.zret hx hb hr rfl (fun T9 hT9 hW => ⟨_, rfl, by rw [sd_hs_f _ (sd_hp_gt (by omega) c2)]; rfl, hT9⟩) (fun q h => nomatch h) dX4_wrong_25
    · obtain ⟨j, hj1, hj2, rfl⟩ := sd_hp_of (by omega) (sd_hp_in (n := 16) (by omega) c1 c2)
      refine lv_aload_n hx hb dX4_wrong_11 rfl (lv_at hl 0 rfl) ?_
      refine va_get (D := D) (ci := 4) (v := .ref (ad 13)) (C := RX4) (T := TX4) (N := 6) hx hb hts (fun w h => mm (inX4 w h)) hown hK hP 0 dw_desk rfl 4 (by decide) (hts _ (mm wf_X4_32)) (fun _ h9 => h9) rfl dX4_wrong_12 ?_
      refine lv_iload_n hx hb dX4_wrong_15 rfl (lv_at hl 1 rfl) ?_
      refine sd_zald hx hb hK hP 13 1 dw_fw rfl (k := j) (by omega) (by decide) dX4_wrong_16 ?_
      refine sd_if_eqB (tgt := 24) hx hb dX4_wrong_17 (by decide) (fun c3 => ?_) (fun c3 => ?_)
      · refine lv_iconst (v := nI 0) hx hb dX4_wrong_24 (by decide) ?_
        exact W.zret hx hb hr rfl (fun T9 hT9 hW => ⟨_, rfl, by rw [sd_hs_nI _ (by omega) hj1 hj2, c3]; rfl, hT9⟩) (fun q h => nomatch h) dX4_wrong_25
      · refine lv_iconst (v := nI 1) hx hb dX4_wrong_20 (by decide) ?_
        refine lv_goto (tgt := 25) hx hb dX4_wrong_21 (by decide) ?_
        exact W.zret hx hb hr rfl (fun T9 hT9 hW => ⟨_, rfl, by rw [sd_hs_nI _ (by omega) hj1 hj2, c3]; rfl, hT9⟩) (fun q h => nomatch h) dX4_wrong_25

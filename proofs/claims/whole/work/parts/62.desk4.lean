/-! the desk's methods that may throw: find, at, part, share -/
theorem sd_xN0 : decode prog_16_method_4_code 0 = .ok (.aload_n 0, 1) := by decide +kernel
theorem sd_xN1 : decode prog_16_method_4_code 1 = .ok (.aload_n 1, 1) := by decide +kernel
theorem sd_xN2 : decode prog_16_method_4_code 2 = .ok (.invokespecial 13, 3) := by decide +kernel
theorem sd_xN5 : decode prog_16_method_4_code 5 = .ok (.return_, 1) := by decide +kernel
theorem sd_hatA {args : Array Value} {s : State} (h : ∀ w ∈ bg, w.before args s = true) (hE : sd_Ev s) : ∀ w ∈ sd_atA, w.before args s = true :=
  vx_hat (fun w q => h w (sd_atA_g w q)) (fun w q => by rw [sd_atA_n] at q; exact q) (fun w q => have z : w ∈ sd_dcl ++ [.castable eN eN, .castable eA eA, .castable eS eS] := (List.mem_append.mp q).elim (fun a => List.mem_append_left _ a) (fun a => List.mem_append_right _ (by rw [List.mem_singleton.mp a]; exact List.mem_cons_of_mem _ List.mem_cons_self)); va_Nw.use (sd_nw w z) (hE.1 w z))
theorem sd_hatT {args : Array Value} {s : State} (h : ∀ w ∈ bg, w.before args s = true) (hE : sd_Ev s) : ∀ w ∈ sd_atT, w.before args s = true :=
  vx_hat (fun w q => h w (sd_atT_g w q)) (fun w q => by rw [sd_atT_n] at q; exact q) (fun w q => have z : w ∈ sd_dcl ++ [.castable eN eN, .castable eA eA, .castable eS eS] := (List.mem_append.mp q).elim (fun a => List.mem_append_left _ a) (fun a => List.mem_append_right _ (by rw [List.mem_singleton.mp a]; exact List.mem_cons_of_mem _ (List.mem_cons_of_mem _ List.mem_cons_self))); va_Nw.use (sd_nw w z) (hE.1 w z))
theorem sd_hatN {args : Array Value} {s : State} (h : ∀ w ∈ bg, w.before args s = true) (hE : sd_Ev s) : ∀ w ∈ sd_atN, w.before args s = true :=
  vx_hat (fun w q => h w (sd_atN_g w q)) (fun w q => by rw [sd_atN_n] at q; exact q) (fun w q => have z : w ∈ sd_dcl ++ [.castable eN eN, .castable eA eA, .castable eS eS] := (List.mem_append.mp q).elim (fun a => List.mem_append_left _ a) (fun a => List.mem_append_right _ (by rw [List.mem_singleton.mp a]; exact List.mem_cons_self)); va_Nw.use (sd_nw w z) (hE.1 w z))
theorem sd_hx {S : Type} {XP : String → S → Prop} {w : S → va_W} {E : String} {u : S} {D : va_G} {cl : List vw_C} {tys : List (ClassId × FieldType)} {A : Nat → Prop} {s : State} {H : Heap} {locs : List Loc} (hP : va_P D cl (w u) H) (hK : va_K D cl tys s) (hD : va_D A (w u)) (hS : va_S A s.heap H locs) (hx : XP E u) :
    ∀ t : State, s.vm.Alike t.vm → H.size ≤ t.heap.size → (∀ q : Nat, q < H.size → t.heap[q]? = H[q]?) → vx_X (fun _ : S => True) (fun E u t => XP E u ∧ sd_B D cl tys A w u t) A E s t :=
  fun t hv hz hk => ⟨u, trivial, ⟨hx, hP.kept (fun k q hq => hk q.1 (vx_lt hP hq)), va_K.moved hv hK, hD⟩, Nat.le_trans hS.1 hz, fun q h1 h2 => (hk q (Nat.lt_of_lt_of_le h1 hS.1)).trans (hS.2.1 q h1 h2)⟩
theorem sd_ev_c {f g : Nat → FP} (h : ∀ k, k < 9 → f k = g k) (x : FP) : sd_ev f x = sd_ev g x := sd_pv_congr x 9 0 (fun k _ hk => h k (by omega))
theorem sd_ms_c {th : Nat → Bool} {v f g : Nat → FP} (h : ∀ k, k < 9 → f k = g k) (j : Nat) : sd_ms th v f j = sd_ms th v g j := by
  unfold sd_ms
  rw [sd_ev_c h]
theorem sd_mk_c {n : Nat} {th : Nat → Bool} {v f g : Nat → FP} (h : ∀ k, k < 9 → f k = g k) (j : Nat) : sd_mk n th v f j = sd_mk n th v g j := by
  unfold sd_mk
  rw [sd_ms_c h]
theorem sd_cm_c {th : Nat → Bool} {v f g : Nat → FP} (h : ∀ k, k < 9 → f k = g k) (n : Nat) : sd_cnt (sd_ms th v f) n = sd_cnt (sd_ms th v g) n := sd_cnt_congr n (fun j _ _ => sd_ms_c h j)
theorem sd_Fd_c {t n e : Nat} {th : Nat → Bool} {v f g : Nat → FP} (h : ∀ k, k < 9 → f k = g k) (hf : sd_Fd t n e th v f) : sd_Fd t n e th v g := ⟨fun k h1 h2 => (h k h2).symm.trans (hf.1 k h1 h2), by rw [← sd_cm_c h]; exact hf.2⟩
def P_fv (a : DS) (x y : Int32) (q e : Nat) : Prop := q < 8 ∧ x = nI q ∧ e ≤ 7 ∧ y = nI e ∧ sdg a q + 1 + 2 * e ≤ sd_cnt (sth a q) (spl a q)
def P_find (x y : Int32) (a : DS) (r : Int32) (u : DS) : Prop := ∃ q e, P_fv a x y q e ∧ sdg u = sdg a ∧ spl u = spl a ∧ svl u = svl a ∧ sth u = sth a ∧ sff u = nI q ∧ sd_Fd (sdg a q) (spl a q) e (sth a q) (svl a q) (scu u 2) ∧
  (∀ j, 1 ≤ j → j ≤ 16 → sfw u j = sd_mk (spl a q) (sth a q) (svl a q) (scu u 2) j) ∧ r = nI (sd_cnt (sd_ms (sth a q) (svl a q) (scu u 2)) (spl a q))
def PX_find (x y : Int32) (a : DS) (E : String) (u : DS) : Prop := sd_same a u ∧ ((E = eA ∧ ¬ ∃ q e, P_fv a x y q e) ∨ (E = eS ∧ ∃ q e, P_fv a x y q e ∧ ¬ ∃ f, sd_Fd (sdg a q) (spl a q) e (sth a q) (svl a q) f))
def P_at (x : Int64) (a : DS) (r : Int64) (u : DS) : Prop := sd_same a u ∧ sff a ≠ -1 ∧ r = sd_L (sd_ev (scu a 2) (sd_of x))
def PX_at (a : DS) (E : String) (u : DS) : Prop := sd_same a u ∧ E = eN ∧ sff a = -1
def P_part (x : Int32) (a : DS) (r : Int64) (u : DS) : Prop := sd_same a u ∧ ∃ k, k ≤ 8 ∧ x = nI k ∧ sff a ≠ -1 ∧ r = sd_L (scu a 2 k)
def PX_part (x : Int32) (a : DS) (E : String) (u : DS) : Prop := sd_same a u ∧ E = eN ∧ ¬ ∃ k, k ≤ 8 ∧ x = nI k ∧ sff a ≠ -1
def P_sv (x y : Int32) (a : DS) (q k : Nat) : Prop := q < 8 ∧ x = nI q ∧ 1 ≤ k ∧ k ≤ spl a q ∧ y = nI k ∧ sth a q k = true
def P_share (x y : Int32) (a : DS) (r : Int64) (u : DS) : Prop := sd_same a u ∧ ∃ q k, P_sv x y a q k ∧ r = sd_L (svl a q k)
def PX_share (x y : Int32) (a : DS) (E : String) (u : DS) : Prop := sd_same a u ∧ E = eN ∧ ¬ ∃ q k, P_sv x y a q k

set_option maxHeartbeats 1000000 in
set_option maxRecDepth 100000 in
theorem k_X4_at (l : Launch) (D : va_G) {ad : Nat → Nat} {tc : Nat → ClassId} {dg pl : Nat → Nat} {vl : Nat → Nat → FP} {th : Nat → Nat → Bool} {cu mx : Nat → Nat → FP} {us : Nat → Bool} {so : Nat → FP} {rr : Nat → Int32} {fw : Nat → Bool} {ff : Int32} (sz : Nat) (x : Int64)  (hl9 : l.stackTraces = false) : vx_Met l yX4_at (Cond.code yX4_at cX4_at 3 (some .long) :: bg) { frames := 6, cells := 1, slots := 6, locals := 82 } (sd_Xr D vwCl (ty5 tc) (dw ad tc dg pl vl th cu mx us so rr fw ff) sz [.ref (ad 0), .long x]) (va_Ql (S := DS) (fun r u => P_at x (dg, pl, vl, th, cu, mx, us, so, rr, fw, ff) r u) (sd_B D vwCl (ty5 tc) (va_A (dw ad tc dg pl vl th cu mx us so rr fw ff) sz) (fun u => dwt ad tc u)) (va_A (dw ad tc dg pl vl th cu mx us so rr fw ff) sz)) (vx_X (fun _ : DS => True) (fun E u t => PX_at (dg, pl, vl, th, cu, mx, us, so, rr, fw, ff) E u ∧ sd_B D vwCl (ty5 tc) (va_A (dw ad tc dg pl vl th cu mx us so rr fw ff) sz) (fun u => dwt ad tc u) u t) (va_A (dw ad tc dg pl vl th cu mx us so rr fw ff) sz)) 1 6 (va_A (dw ad tc dg pl vl th cu mx us so rr fw ff) sz) := by
  refine vx_ofW (cc := cX4_at) (maxL := 3) (ret := some .long) (by decide) rfl ?_
  intro p e s m args below meth c s₁ B hml hTb hv
  obtain ⟨rfl, hsz, hP, hK, hD0, hEv, hEs⟩ := hv
  have hx := B.exec
  have hb := B.bytes
  have hr := B.returns
  have hts := atoms_spec (ws := Cond.code yX4_at cX4_at 3 (some .long) :: bg) B.pre
  have hown : s.vm.findClass RX4 = some m.cls := findClass_of_methodNamed B.named
  have hlocks := B.notSynchronized
  subst hsz
  have hD := hD0.self (sz := s.heap.size)
  generalize hAe : va_A (dw ad tc dg pl vl th cu mx us so rr fw ff) s.heap.size = A at hD hEs ⊢
  have hA : ∀ q : Nat, s.heap.size ≤ q → A q := fun q h => by rw [← hAe]; exact Or.inr h
  have hS : va_S A s.heap s.heap [] := va_S.rf
  have hl := lv_entry ([.ref (ad 0), .long x]) (n := 3) (Nat.le_of_ble_eq_true rfl)
  rw [lg_entry_eq]
  generalize (lg_sl ([.ref (ad 0), .long x]) ++ List.replicate (3 - (lg_sl ([.ref (ad 0), .long x])).length) Slot.unset).toArray = ls at hl ⊢
  replace hl : lv_has ls 3 [(0, .ref (ad 0)), (1, .long x)] := hl
  refine lv_aload_n hx hb dX4_at_0 rfl (lv_at hl 0 rfl) ?_
  refine va_get (D := D) (ci := 4) (v := .int ff) (C := RX4) (T := TX4) (N := 6) hx hb hts (fun w h => mm (inX4 w h)) hown hK hP 0 dw_desk rfl 5 (by decide) (hts _ (mm wf_X4_36)) (fun _ h9 => h9) rfl dX4_at_1 ?_
  refine lv_iconst (v := -1) hx hb dX4_at_4 (by decide) ?_
  refine lv_icmp_ne (tgt := 18) hx hb dX4_at_5 (by decide) (fun c1 => ?_) (fun c1 => ?_)
  · refine lv_aload_n hx hb dX4_at_18 rfl (lv_at hl 0 rfl) ?_
    refine va_get (D := D) (ci := 4) (v := .ref (ad 6)) (C := RX4) (T := TX4) (N := 6) hx hb hts (fun w h => mm (inX4 w h)) hown hK hP 0 dw_desk rfl 3 (by decide) (hts _ (mm wf_X4_29)) (fun _ h9 => h9) rfl dX4_at_19 ?_
    refine lv_lload_n hx hb dX4_at_22 rfl (lv_at hl 1 rfl) ?_
    refine sd_rl (va_runS (As := [.long x]) (rest := [.ref (ad 6)]) ⟨hx, hb, hml, hown, hts⟩ (k_X2_of l x) (sd_cwS hts wd_X2_of wn_X2 wm_X4_45 wi_X2_of nq_X2_of rfl rfl ⟨Nat.le_of_ble_eq_true rfl, Nat.le_of_ble_eq_true rfl⟩) sd_preN rfl rfl hl.1 rfl (lv_room (Nat.le_of_ble_eq_true rfl)) dX4_at_23 ⟨Nat.zero_le _, Nat.zero_le _⟩) (fun r1 hr1 => ?_)
    subst hr1
    refine sd_rl (va_runV (As := [.long (sd_L (sd_of x))]) (rest := []) ⟨hx, hb, hml, hown, hts⟩ (k_X0_valueAt l D 2 (sd_of x) (by decide)) (sd_cwV hts wd_X0_valueAt wn_X0 wm_X4_108 wi_X0_valueAt ws_X0_valueAt nq_X0_valueAt rfl rfl ⟨Nat.le_of_ble_eq_true rfl, Nat.le_of_ble_eq_true rfl⟩) (sd_preVR hP hK (ci := 0) (q0 := 6) rfl rfl (dw_curve (c := 2) (by decide))) rfl rfl hl.1 rfl (lv_room (Nat.le_of_ble_eq_true rfl)) dX4_at_26 ⟨Nat.zero_le _, Nat.zero_le _⟩) (fun r2 hr2 => ?_)
    subst hr2
    refine vx_ret ?_
    refine W.widen (k := 1) (n := 6) (Nat.zero_le _) (Nat.zero_le _) ?_
    exact W.lret hx hb hr (fun T9 hT9 hW => ⟨⟨_, (dg, pl, vl, th, cu, mx, us, so, rr, fw, ff), rfl, ⟨⟨rfl, rfl, rfl, rfl, rfl, rfl, rfl⟩, c1, rfl⟩, by rw [hT9]; exact hP, va_K.moved hW.alike hK, hD⟩, hS.F hT9⟩) hS.2.2 dX4_at_29
  · obtain ⟨hw9, hc9, ⟨sa1, hst1⟩, ⟨sa2, hst2⟩, ⟨sa3, hst3⟩, ⟨sa4, hst4⟩, ⟨sa5, hst5⟩, ⟨sa6, hst6⟩⟩ := id hEv
    refine sd_throwX (cls := eN) (Y0 := "java/lang/RuntimeException") (ups := ["java/lang/Exception"]) (A := A) hx hb hl9 sd_xN0 sd_xN1 sd_xN2 sd_xN5 hown (by decide +kernel) (by decide +kernel) (by decide +kernel) (hts _ (mm wc_X4_147)) (hts _ (mm wn_NoSuchElementException)) hst4 (sd_hatN (fun w h => hts _ (mm h)) hEv) sd_otN hEs.1 hEs.2 hS (hl.1.trans hml.symm) dX4_at_8 dX4_at_11 dX4_at_12 dX4_at_14 dX4_at_17 (fun x h => (hTb x h).elim) (by decide) (by decide) (by decide) (by decide) hlocks ?_ hS.2.2 (Nat.le_refl _) (Nat.le_refl _)
    exact sd_hx (u := (dg, pl, vl, th, cu, mx, us, so, rr, fw, ff)) (w := fun u => dwt ad tc u) hP hK hD hS (⟨⟨rfl, rfl, rfl, rfl, rfl, rfl, rfl⟩, rfl, c1⟩)

set_option maxHeartbeats 1000000 in
set_option maxRecDepth 100000 in
theorem k_X4_part (l : Launch) (D : va_G) {ad : Nat → Nat} {tc : Nat → ClassId} {dg pl : Nat → Nat} {vl : Nat → Nat → FP} {th : Nat → Nat → Bool} {cu mx : Nat → Nat → FP} {us : Nat → Bool} {so : Nat → FP} {rr : Nat → Int32} {fw : Nat → Bool} {ff : Int32} (sz : Nat) (x : Int32)  (hl9 : l.stackTraces = false) : vx_Met l yX4_part (Cond.code yX4_part cX4_part 2 (some .long) :: bg) { frames := 6, cells := 1, slots := 6, locals := 82 } (sd_Xr D vwCl (ty5 tc) (dw ad tc dg pl vl th cu mx us so rr fw ff) sz [.ref (ad 0), .int x]) (va_Ql (S := DS) (fun r u => P_part x (dg, pl, vl, th, cu, mx, us, so, rr, fw, ff) r u) (sd_B D vwCl (ty5 tc) (va_A (dw ad tc dg pl vl th cu mx us so rr fw ff) sz) (fun u => dwt ad tc u)) (va_A (dw ad tc dg pl vl th cu mx us so rr fw ff) sz)) (vx_X (fun _ : DS => True) (fun E u t => PX_part x (dg, pl, vl, th, cu, mx, us, so, rr, fw, ff) E u ∧ sd_B D vwCl (ty5 tc) (va_A (dw ad tc dg pl vl th cu mx us so rr fw ff) sz) (fun u => dwt ad tc u) u t) (va_A (dw ad tc dg pl vl th cu mx us so rr fw ff) sz)) 1 6 (va_A (dw ad tc dg pl vl th cu mx us so rr fw ff) sz) := by
  refine vx_ofW (cc := cX4_part) (maxL := 2) (ret := some .long) (by decide) rfl ?_
  intro p e s m args below meth c s₁ B hml hTb hv
  obtain ⟨rfl, hsz, hP, hK, hD0, hEv, hEs⟩ := hv
  have hx := B.exec
  have hb := B.bytes
  have hr := B.returns
  have hts := atoms_spec (ws := Cond.code yX4_part cX4_part 2 (some .long) :: bg) B.pre
  have hown : s.vm.findClass RX4 = some m.cls := findClass_of_methodNamed B.named
  have hlocks := B.notSynchronized
  subst hsz
  have hD := hD0.self (sz := s.heap.size)
  generalize hAe : va_A (dw ad tc dg pl vl th cu mx us so rr fw ff) s.heap.size = A at hD hEs ⊢
  have hA : ∀ q : Nat, s.heap.size ≤ q → A q := fun q h => by rw [← hAe]; exact Or.inr h
  have hS : va_S A s.heap s.heap [] := va_S.rf
  have hl := lv_entry ([.ref (ad 0), .int x]) (n := 2) (Nat.le_of_ble_eq_true rfl)
  rw [lg_entry_eq]
  generalize (lg_sl ([.ref (ad 0), .int x]) ++ List.replicate (2 - (lg_sl ([.ref (ad 0), .int x])).length) Slot.unset).toArray = ls at hl ⊢
  replace hl : lv_has ls 2 [(0, .ref (ad 0)), (1, .int x)] := hl
  refine lv_aload_n hx hb dX4_part_0 rfl (lv_at hl 0 rfl) ?_
  refine va_get (D := D) (ci := 4) (v := .int ff) (C := RX4) (T := TX4) (N := 6) hx hb hts (fun w h => mm (inX4 w h)) hown hK hP 0 dw_desk rfl 5 (by decide) (hts _ (mm wf_X4_36)) (fun _ h9 => h9) rfl dX4_part_1 ?_
  refine lv_iconst (v := -1) hx hb dX4_part_4 (by decide) ?_
  refine lv_icmp_eq (tgt := 18) hx hb dX4_part_5 (by decide) (fun c1 => ?_) (fun c1 => ?_)
  · obtain ⟨hw9, hc9, ⟨sa1, hst1⟩, ⟨sa2, hst2⟩, ⟨sa3, hst3⟩, ⟨sa4, hst4⟩, ⟨sa5, hst5⟩, ⟨sa6, hst6⟩⟩ := id hEv
    refine sd_throwX (cls := eN) (Y0 := "java/lang/RuntimeException") (ups := ["java/lang/Exception"]) (A := A) hx hb hl9 sd_xN0 sd_xN1 sd_xN2 sd_xN5 hown (by decide +kernel) (by decide +kernel) (by decide +kernel) (hts _ (mm wc_X4_147)) (hts _ (mm wn_NoSuchElementException)) hst5 (sd_hatN (fun w h => hts _ (mm h)) hEv) sd_otN hEs.1 hEs.2 hS (hl.1.trans hml.symm) dX4_part_18 dX4_part_21 dX4_part_22 dX4_part_24 dX4_part_27 (fun x h => (hTb x h).elim) (by decide) (by decide) (by decide) (by decide) hlocks ?_ hS.2.2 (Nat.le_refl _) (Nat.le_refl _)
    exact sd_hx (u := (dg, pl, vl, th, cu, mx, us, so, rr, fw, ff)) (w := fun u => dwt ad tc u) hP hK hD hS (⟨⟨rfl, rfl, rfl, rfl, rfl, rfl, rfl⟩, rfl, fun ⟨k, h1, h2, h3⟩ => h3 c1⟩)
  · refine lv_iload_n hx hb dX4_part_8 rfl (lv_at hl 1 rfl) ?_
    refine lv_if_lt (tgt := 18) hx hb dX4_part_9 (by decide) (fun c2 => ?_) (fun c2 => ?_)
    · obtain ⟨hw9, hc9, ⟨sa1, hst1⟩, ⟨sa2, hst2⟩, ⟨sa3, hst3⟩, ⟨sa4, hst4⟩, ⟨sa5, hst5⟩, ⟨sa6, hst6⟩⟩ := id hEv
      refine sd_throwX (cls := eN) (Y0 := "java/lang/RuntimeException") (ups := ["java/lang/Exception"]) (A := A) hx hb hl9 sd_xN0 sd_xN1 sd_xN2 sd_xN5 hown (by decide +kernel) (by decide +kernel) (by decide +kernel) (hts _ (mm wc_X4_147)) (hts _ (mm wn_NoSuchElementException)) hst5 (sd_hatN (fun w h => hts _ (mm h)) hEv) sd_otN hEs.1 hEs.2 hS (hl.1.trans hml.symm) dX4_part_18 dX4_part_21 dX4_part_22 dX4_part_24 dX4_part_27 (fun x h => (hTb x h).elim) (by decide) (by decide) (by decide) (by decide) hlocks ?_ hS.2.2 (Nat.le_refl _) (Nat.le_refl _)
      exact sd_hx (u := (dg, pl, vl, th, cu, mx, us, so, rr, fw, ff)) (w := fun u => dwt ad tc u) hP hK hD hS (⟨⟨rfl, rfl, rfl, rfl, rfl, rfl, rfl⟩, rfl, fun ⟨k, h1, h2, h3⟩ => absurd c2 (by rw [h2]; exact nI_pos (by omega))⟩)
    · obtain ⟨k, hk9, rfl⟩ := nI_of c2
      refine lv_iload_n hx hb dX4_part_12 rfl (lv_at hl 1 rfl) ?_
      refine lv_bipush (v := nI 8) hx hb dX4_part_13 (by decide) ?_
      refine sd_icmp_le (tgt := 28) hx hb (by omega) (by omega) dX4_part_15 (by decide) (fun c3 => ?_) (fun c3 => ?_)
      · refine lv_aload_n hx hb dX4_part_28 rfl (lv_at hl 0 rfl) ?_
        refine va_get (D := D) (ci := 4) (v := .ref (ad 6)) (C := RX4) (T := TX4) (N := 6) hx hb hts (fun w h => mm (inX4 w h)) hown hK hP 0 dw_desk rfl 3 (by decide) (hts _ (mm wf_X4_29)) (fun _ h9 => h9) rfl dX4_part_29 ?_
        refine va_get (D := D) (ci := 0) (v := .ref (ad 7)) (C := RX0) (T := TX0) (N := 1) hx hb hts (fun w h => mm (inX0 w h)) hown hK hP 6 (dw_curve (c := 2) (by decide)) rfl 0 (by decide) (hts _ (mm wf_X4_154)) (fun _ h9 => h9) rfl dX4_part_32 ?_
        refine lv_iload_n hx hb dX4_part_35 rfl (lv_at hl 1 rfl) ?_
        refine sd_lald hx hb hK hP 7 0 (dw_parts (c := 2) (by decide)) rfl (k := k) (by omega) (by decide) dX4_part_36 ?_
        refine vx_ret ?_
        refine W.widen (k := 1) (n := 6) (Nat.zero_le _) (Nat.zero_le _) ?_
        exact W.lret hx hb hr (fun T9 hT9 hW => ⟨⟨_, (dg, pl, vl, th, cu, mx, us, so, rr, fw, ff), rfl, ⟨⟨rfl, rfl, rfl, rfl, rfl, rfl, rfl⟩, k, c3, rfl, c1, rfl⟩, by rw [hT9]; exact hP, va_K.moved hW.alike hK, hD⟩, hS.F hT9⟩) hS.2.2 dX4_part_37
      · obtain ⟨hw9, hc9, ⟨sa1, hst1⟩, ⟨sa2, hst2⟩, ⟨sa3, hst3⟩, ⟨sa4, hst4⟩, ⟨sa5, hst5⟩, ⟨sa6, hst6⟩⟩ := id hEv
        refine sd_throwX (cls := eN) (Y0 := "java/lang/RuntimeException") (ups := ["java/lang/Exception"]) (A := A) hx hb hl9 sd_xN0 sd_xN1 sd_xN2 sd_xN5 hown (by decide +kernel) (by decide +kernel) (by decide +kernel) (hts _ (mm wc_X4_147)) (hts _ (mm wn_NoSuchElementException)) hst5 (sd_hatN (fun w h => hts _ (mm h)) hEv) sd_otN hEs.1 hEs.2 hS (hl.1.trans hml.symm) dX4_part_18 dX4_part_21 dX4_part_22 dX4_part_24 dX4_part_27 (fun x h => (hTb x h).elim) (by decide) (by decide) (by decide) (by decide) hlocks ?_ hS.2.2 (Nat.le_refl _) (Nat.le_refl _)
        exact sd_hx (u := (dg, pl, vl, th, cu, mx, us, so, rr, fw, ff)) (w := fun u => dwt ad tc u) hP hK hD hS (⟨⟨rfl, rfl, rfl, rfl, rfl, rfl, rfl⟩, rfl, fun ⟨k2, h1, h2, h3⟩ => (by have e9 := sd_nI_inj hk9 (by omega) h2; omega)⟩)

set_option maxHeartbeats 1000000 in
set_option maxRecDepth 100000 in
theorem k_X4_share (l : Launch) (D : va_G) {ad : Nat → Nat} {tc : Nat → ClassId} {dg pl : Nat → Nat} {vl : Nat → Nat → FP} {th : Nat → Nat → Bool} {cu mx : Nat → Nat → FP} {us : Nat → Bool} {so : Nat → FP} {rr : Nat → Int32} {fw : Nat → Bool} {ff : Int32} (sz : Nat) (x y : Int32) (hok : ∀ q, q < 8 → dg q ≤ 8 ∧ pl q ≤ 16) (hl9 : l.stackTraces = false) : vx_Met l yX4_share (Cond.code yX4_share cX4_share 4 (some .long) :: bg) { frames := 6, cells := 1, slots := 6, locals := 82 } (sd_Xr D vwCl (ty5 tc) (dw ad tc dg pl vl th cu mx us so rr fw ff) sz [.ref (ad 0), .int x, .int y]) (va_Ql (S := DS) (fun r u => P_share x y (dg, pl, vl, th, cu, mx, us, so, rr, fw, ff) r u) (sd_B D vwCl (ty5 tc) (va_A (dw ad tc dg pl vl th cu mx us so rr fw ff) sz) (fun u => dwt ad tc u)) (va_A (dw ad tc dg pl vl th cu mx us so rr fw ff) sz)) (vx_X (fun _ : DS => True) (fun E u t => PX_share x y (dg, pl, vl, th, cu, mx, us, so, rr, fw, ff) E u ∧ sd_B D vwCl (ty5 tc) (va_A (dw ad tc dg pl vl th cu mx us so rr fw ff) sz) (fun u => dwt ad tc u) u t) (va_A (dw ad tc dg pl vl th cu mx us so rr fw ff) sz)) 1 6 (va_A (dw ad tc dg pl vl th cu mx us so rr fw ff) sz) := by
  refine vx_ofW (cc := cX4_share) (maxL := 4) (ret := some .long) (by decide) rfl ?_
  intro p e s m args below meth c s₁ B hml hTb hv
  obtain ⟨rfl, hsz, hP, hK, hD0, hEv, hEs⟩ := hv
  have hx := B.exec
  have hb := B.bytes
  have hr := B.returns
  have hts := atoms_spec (ws := Cond.code yX4_share cX4_share 4 (some .long) :: bg) B.pre
  have hown : s.vm.findClass RX4 = some m.cls := findClass_of_methodNamed B.named
  have hlocks := B.notSynchronized
  subst hsz
  have hD := hD0.self (sz := s.heap.size)
  generalize hAe : va_A (dw ad tc dg pl vl th cu mx us so rr fw ff) s.heap.size = A at hD hEs ⊢
  have hA : ∀ q : Nat, s.heap.size ≤ q → A q := fun q h => by rw [← hAe]; exact Or.inr h
  have hS : va_S A s.heap s.heap [] := va_S.rf
  have hl := lv_entry ([.ref (ad 0), .int x, .int y]) (n := 4) (Nat.le_of_ble_eq_true rfl)
  rw [lg_entry_eq]
  generalize (lg_sl ([.ref (ad 0), .int x, .int y]) ++ List.replicate (4 - (lg_sl ([.ref (ad 0), .int x, .int y])).length) Slot.unset).toArray = ls at hl ⊢
  replace hl : lv_has ls 4 [(0, .ref (ad 0)), (1, .int x), (2, .int y)] := hl
  refine lv_aload_n hx hb dX4_share_0 rfl (lv_at hl 0 rfl) ?_
  refine lv_iload_n hx hb dX4_share_1 rfl (lv_at hl 1 rfl) ?_
  refine va_csq (va_runV (As := [.int x]) (rest := []) ⟨hx, hb, hml, hown, hts⟩ (k_X4_splitOrNull l D x) (sd_cwV hts wd_X4_splitOrNull wn_X4 wm_X4_41 wi_X4_splitOrNull ws_X4_splitOrNull nq_X4_splitOrNull rfl rfl ⟨Nat.le_of_ble_eq_true rfl, Nat.le_of_ble_eq_true rfl⟩) (sd_preVR hP hK (ci := 4) (q0 := 0) rfl rfl dw_desk) rfl rfl hl.1 rfl (lv_room (Nat.le_of_ble_eq_true rfl)) dX4_share_2 ⟨Nat.zero_le _, Nat.zero_le _⟩).run (fun r1 hr1 => ?_)
  subst hr1
  rcases hixq : sd_ix x with _ | q
  · refine sd_top (v2 := .null) rfl ?_
    refine lv_astore_nN (lv' := [(3, .null), (0, .ref (ad 0)), (1, .int x), (2, .int y)]) hx hb dX4_share_5 rfl hl (by decide) rfl (fun ls hl => ?_)
    refine lv_aload_nN hx hb dX4_share_6 rfl (lv_at hl 0 rfl) ?_
    refine lv_ifnullN (tgt := 18) hx hb dX4_share_7 (by decide) ?_
    obtain ⟨hw9, hc9, ⟨sa1, hst1⟩, ⟨sa2, hst2⟩, ⟨sa3, hst3⟩, ⟨sa4, hst4⟩, ⟨sa5, hst5⟩, ⟨sa6, hst6⟩⟩ := id hEv
    refine sd_throwX (cls := eN) (Y0 := "java/lang/RuntimeException") (ups := ["java/lang/Exception"]) (A := A) hx hb hl9 sd_xN0 sd_xN1 sd_xN2 sd_xN5 hown (by decide +kernel) (by decide +kernel) (by decide +kernel) (hts _ (mm wc_X4_147)) (hts _ (mm wn_NoSuchElementException)) hst6 (sd_hatN (fun w h => hts _ (mm h)) hEv) sd_otN hEs.1 hEs.2 hS (hl.1.trans hml.symm) dX4_share_18 dX4_share_21 dX4_share_22 dX4_share_24 dX4_share_27 (fun x h => (hTb x h).elim) (by decide) (by decide) (by decide) (by decide) hlocks ?_ hS.2.2 (Nat.le_refl _) (Nat.le_refl _)
    exact sd_hx (u := (dg, pl, vl, th, cu, mx, us, so, rr, fw, ff)) (w := fun u => dwt ad tc u) hP hK hD hS (⟨⟨rfl, rfl, rfl, rfl, rfl, rfl, rfl⟩, rfl, fun ⟨q, k, h1, h2, _⟩ => sd_ix_none hixq h1 h2⟩)
  · obtain ⟨hq, hxq⟩ := sd_ix_some hixq
    refine sd_top (v2 := .ref (ad (14 + 3 * q))) rfl ?_
    have hokq := hok q hq
    refine lv_astore_n (lv' := [(3, .ref (ad (14 + 3 * q))), (0, .ref (ad 0)), (1, .int x), (2, .int y)]) hx hb dX4_share_5 rfl hl (by decide) rfl (fun ls hl => ?_)
    refine lv_aload_n hx hb dX4_share_6 rfl (lv_at hl 0 rfl) ?_
    refine lv_ifnull hx hb dX4_share_7 ?_
    refine lv_aload_n hx hb dX4_share_10 rfl (lv_at hl 0 rfl) ?_
    refine lv_iload_n hx hb dX4_share_11 rfl (lv_at hl 3 rfl) ?_
    refine sd_ri (va_runV (As := [.int y]) (rest := []) ⟨hx, hb, hml, hown, hts⟩ (k_X3_hasShare l D q y hq hokq.2) (sd_cwV hts wd_X3_hasShare wn_X3 wm_X4_71 wi_X3_hasShare ws_X3_hasShare nq_X3_hasShare rfl rfl ⟨Nat.le_of_ble_eq_true rfl, Nat.le_of_ble_eq_true rfl⟩) (sd_preVR hP hK (ci := 3) (q0 := (14 + 3 * q)) rfl rfl (dw_sp hq)) rfl rfl hl.1 rfl (lv_room (Nat.le_of_ble_eq_true rfl)) dX4_share_12 ⟨Nat.zero_le _, Nat.zero_le _⟩) (fun r4 hr4 => ?_)
    subst hr4
    refine sd_if_neB (tgt := 28) hx hb dX4_share_15 (by decide) (fun c1 => ?_) (fun c1 => ?_)
    · obtain ⟨k, hk1, hk2, hk3, rfl⟩ := sd_hs_of (by omega) c1
      refine lv_aload_n hx hb dX4_share_28 rfl (lv_at hl 0 rfl) ?_
      refine va_get (D := D) (ci := 3) (v := .ref (ad (15 + 3 * q))) (C := RX3) (T := TX3) (N := 4) hx hb hts (fun w h => mm (inX3 w h)) hown hK hP (14 + 3 * q) (dw_sp hq) rfl 0 (by decide) (hts _ (mm wf_X4_93)) (fun _ h9 => h9) rfl dX4_share_29 ?_
      refine lv_iload_n hx hb dX4_share_32 rfl (lv_at hl 3 rfl) ?_
      refine sd_lald hx hb hK hP (15 + 3 * q) 0 (dw_vl hq) rfl (k := k) (by omega) (by decide) dX4_share_33 ?_
      refine vx_ret ?_
      refine W.widen (k := 1) (n := 6) (Nat.zero_le _) (Nat.zero_le _) ?_
      exact W.lret hx hb hr (fun T9 hT9 hW => ⟨⟨_, (dg, pl, vl, th, cu, mx, us, so, rr, fw, ff), rfl, ⟨⟨rfl, rfl, rfl, rfl, rfl, rfl, rfl⟩, q, k, ⟨hq, hxq, hk1, hk2, rfl, hk3⟩, rfl⟩, by rw [hT9]; exact hP, va_K.moved hW.alike hK, hD⟩, hS.F hT9⟩) hS.2.2 dX4_share_34
    · obtain ⟨hw9, hc9, ⟨sa1, hst1⟩, ⟨sa2, hst2⟩, ⟨sa3, hst3⟩, ⟨sa4, hst4⟩, ⟨sa5, hst5⟩, ⟨sa6, hst6⟩⟩ := id hEv
      refine sd_throwX (cls := eN) (Y0 := "java/lang/RuntimeException") (ups := ["java/lang/Exception"]) (A := A) hx hb hl9 sd_xN0 sd_xN1 sd_xN2 sd_xN5 hown (by decide +kernel) (by decide +kernel) (by decide +kernel) (hts _ (mm wc_X4_147)) (hts _ (mm wn_NoSuchElementException)) hst6 (sd_hatN (fun w h => hts _ (mm h)) hEv) sd_otN hEs.1 hEs.2 hS (hl.1.trans hml.symm) dX4_share_18 dX4_share_21 dX4_share_22 dX4_share_24 dX4_share_27 (fun x h => (hTb x h).elim) (by decide) (by decide) (by decide) (by decide) hlocks ?_ hS.2.2 (Nat.le_refl _) (Nat.le_refl _)
      exact sd_hx (u := (dg, pl, vl, th, cu, mx, us, so, rr, fw, ff)) (w := fun u => dwt ad tc u) hP hK hD hS (⟨⟨rfl, rfl, rfl, rfl, rfl, rfl, rfl⟩, rfl, fun ⟨q2, k, h1, h2, h3, h4, h5, h6⟩ => (by have e9 := sd_nI_inj (by omega) (by omega) (hxq.symm.trans h2); subst e9; have h4 : k ≤ pl q := h4; have h6 : th q k = true := h6; rw [h5, sd_hs_nI _ (by omega) h3 h4, h6] at c1; cases c1)⟩)

set_option maxHeartbeats 1000000 in
set_option maxRecDepth 100000 in
theorem k_X4_find (l : Launch) (D : va_G) {ad : Nat → Nat} {tc : Nat → ClassId} {dg pl : Nat → Nat} {vl : Nat → Nat → FP} {th : Nat → Nat → Bool} {cu mx : Nat → Nat → FP} {us : Nat → Bool} {so : Nat → FP} {rr : Nat → Int32} {fw : Nat → Bool} {ff : Int32} (sz : Nat) (x y : Int32) (hok : ∀ q, q < 8 → dg q ≤ 8 ∧ pl q ≤ 16) (hl9 : l.stackTraces = false) : vx_Met l yX4_find (Cond.code yX4_find cX4_find 5 (some .int) :: bg) { frames := 6, cells := 1, slots := 6, locals := 160 } (sd_Xr D vwCl (ty5 tc) (dw ad tc dg pl vl th cu mx us so rr fw ff) sz [.ref (ad 0), .int x, .int y]) (va_Qi (S := DS) (fun r u => P_find x y (dg, pl, vl, th, cu, mx, us, so, rr, fw, ff) r u) (sd_B D vwCl (ty5 tc) (va_A (dw ad tc dg pl vl th cu mx us so rr fw ff) sz) (fun u => dwt ad tc u)) (va_A (dw ad tc dg pl vl th cu mx us so rr fw ff) sz)) (vx_X (fun _ : DS => True) (fun E u t => PX_find x y (dg, pl, vl, th, cu, mx, us, so, rr, fw, ff) E u ∧ sd_B D vwCl (ty5 tc) (va_A (dw ad tc dg pl vl th cu mx us so rr fw ff) sz) (fun u => dwt ad tc u) u t) (va_A (dw ad tc dg pl vl th cu mx us so rr fw ff) sz)) 1 6 (va_A (dw ad tc dg pl vl th cu mx us so rr fw ff) sz) := by
  refine vx_ofW (cc := cX4_find) (maxL := 5) (ret := some .int) (by decide) rfl ?_
  intro p e s m args below meth c s₁ B hml hTb hv
  obtain ⟨rfl, hsz, hP, hK, hD0, hEv, hEs⟩ := hv
  have hx := B.exec
  have hb := B.bytes
  have hr := B.returns
  have hts := atoms_spec (ws := Cond.code yX4_find cX4_find 5 (some .int) :: bg) B.pre
  have hown : s.vm.findClass RX4 = some m.cls := findClass_of_methodNamed B.named
  have hlocks := B.notSynchronized
  subst hsz
  have hD := hD0.self (sz := s.heap.size)
  generalize hAe : va_A (dw ad tc dg pl vl th cu mx us so rr fw ff) s.heap.size = A at hD hEs ⊢
  have hA : ∀ q : Nat, s.heap.size ≤ q → A q := fun q h => by rw [← hAe]; exact Or.inr h
  have hS : va_S A s.heap s.heap [] := va_S.rf
  have hl := lv_entry ([.ref (ad 0), .int x, .int y]) (n := 5) (Nat.le_of_ble_eq_true rfl)
  rw [lg_entry_eq]
  generalize (lg_sl ([.ref (ad 0), .int x, .int y]) ++ List.replicate (5 - (lg_sl ([.ref (ad 0), .int x, .int y])).length) Slot.unset).toArray = ls at hl ⊢
  replace hl : lv_has ls 5 [(0, .ref (ad 0)), (1, .int x), (2, .int y)] := hl
  refine lv_aload_n hx hb dX4_find_0 rfl (lv_at hl 0 rfl) ?_
  refine lv_iload_n hx hb dX4_find_1 rfl (lv_at hl 1 rfl) ?_
  refine va_csq (va_runV (As := [.int x]) (rest := []) ⟨hx, hb, hml, hown, hts⟩ (k_X4_splitOrNull l D x) (sd_cwV hts wd_X4_splitOrNull wn_X4 wm_X4_41 wi_X4_splitOrNull ws_X4_splitOrNull nq_X4_splitOrNull rfl rfl ⟨Nat.le_of_ble_eq_true rfl, Nat.le_of_ble_eq_true rfl⟩) (sd_preVR hP hK (ci := 4) (q0 := 0) rfl rfl dw_desk) rfl rfl hl.1 rfl (lv_room (Nat.le_of_ble_eq_true rfl)) dX4_find_2 ⟨Nat.zero_le _, Nat.zero_le _⟩).run (fun r1 hr1 => ?_)
  subst hr1
  rcases hixq : sd_ix x with _ | q
  · refine sd_top (v2 := .null) rfl ?_
    refine lv_astore_nN (lv' := [(3, .null), (0, .ref (ad 0)), (1, .int x), (2, .int y)]) hx hb dX4_find_5 rfl hl (by decide) rfl (fun ls hl => ?_)
    refine lv_aload_nN hx hb dX4_find_6 rfl (lv_at hl 0 rfl) ?_
    refine lv_ifnullN (tgt := 20) hx hb dX4_find_7 (by decide) ?_
    obtain ⟨hw9, hc9, ⟨sa1, hst1⟩, ⟨sa2, hst2⟩, ⟨sa3, hst3⟩, ⟨sa4, hst4⟩, ⟨sa5, hst5⟩, ⟨sa6, hst6⟩⟩ := id hEv
    refine vx_throwS (cls := eA) (names := sd_ups) (A := A) hx hb hl9 hown (by decide +kernel) (by decide +kernel) (hts _ (mm wc_X4_111)) (hts _ (mm wn_IllegalArgumentException)) hst1 (sd_hatA (fun w h => hts _ (mm h)) hEv) sd_otA hEs.1 hEs.2 hS (hl.1.trans hml.symm) dX4_find_20 dX4_find_23 dX4_find_24 dX4_find_26 dX4_find_29 (fun x h => (hTb x h).elim) (by decide) (by decide) (by decide) (by decide) hlocks ?_ hS.2.2 (Nat.le_refl _) (Nat.le_refl _)
    exact sd_hx (u := (dg, pl, vl, th, cu, mx, us, so, rr, fw, ff)) (w := fun u => dwt ad tc u) hP hK hD hS (⟨⟨rfl, rfl, rfl, rfl, rfl, rfl, rfl⟩, Or.inl ⟨rfl, fun ⟨q, e9, h1, h2, _⟩ => sd_ix_none hixq h1 h2⟩⟩)
  · obtain ⟨hq, hxq⟩ := sd_ix_some hixq
    refine sd_top (v2 := .ref (ad (14 + 3 * q))) rfl ?_
    have hokq := hok q hq
    refine lv_astore_n (lv' := [(3, .ref (ad (14 + 3 * q))), (0, .ref (ad 0)), (1, .int x), (2, .int y)]) hx hb dX4_find_5 rfl hl (by decide) rfl (fun ls hl => ?_)
    refine lv_aload_n hx hb dX4_find_6 rfl (lv_at hl 0 rfl) ?_
    refine lv_ifnull hx hb dX4_find_7 ?_
    refine lv_iload_n hx hb dX4_find_10 rfl (lv_at hl 3 rfl) ?_
    refine lv_if_lt (tgt := 20) hx hb dX4_find_11 (by decide) (fun c1 => ?_) (fun c1 => ?_)
    · obtain ⟨hw9, hc9, ⟨sa1, hst1⟩, ⟨sa2, hst2⟩, ⟨sa3, hst3⟩, ⟨sa4, hst4⟩, ⟨sa5, hst5⟩, ⟨sa6, hst6⟩⟩ := id hEv
      refine vx_throwS (cls := eA) (names := sd_ups) (A := A) hx hb hl9 hown (by decide +kernel) (by decide +kernel) (hts _ (mm wc_X4_111)) (hts _ (mm wn_IllegalArgumentException)) hst1 (sd_hatA (fun w h => hts _ (mm h)) hEv) sd_otA hEs.1 hEs.2 hS (hl.1.trans hml.symm) dX4_find_20 dX4_find_23 dX4_find_24 dX4_find_26 dX4_find_29 (fun x h => (hTb x h).elim) (by decide) (by decide) (by decide) (by decide) hlocks ?_ hS.2.2 (Nat.le_refl _) (Nat.le_refl _)
      exact sd_hx (u := (dg, pl, vl, th, cu, mx, us, so, rr, fw, ff)) (w := fun u => dwt ad tc u) hP hK hD hS (⟨⟨rfl, rfl, rfl, rfl, rfl, rfl, rfl⟩, Or.inl ⟨rfl, fun ⟨q2, e9, h1, h2, h3, h4, _⟩ => absurd c1 (by rw [h4]; exact nI_pos (by omega))⟩⟩)
    · obtain ⟨ee, he9, rfl⟩ := nI_of c1
      refine lv_iload_n hx hb dX4_find_14 rfl (lv_at hl 3 rfl) ?_
      refine lv_bipush (v := nI 7) hx hb dX4_find_15 (by decide) ?_
      refine sd_icmp_le (tgt := 30) hx hb (by omega) (by omega) dX4_find_17 (by decide) (fun c2 => ?_) (fun c2 => ?_)
      · refine lv_aload_n hx hb dX4_find_30 rfl (lv_at hl 0 rfl) ?_
        refine sd_ri (va_runV (As := []) (rest := []) ⟨hx, hb, hml, hown, hts⟩ (k_X3_countThere l D q hq hokq.2) (sd_cwV hts wd_X3_countThere wn_X3 wm_X4_118 wi_X3_countThere ws_X3_countThere nq_X3_countThere rfl rfl ⟨Nat.le_of_ble_eq_true rfl, Nat.le_of_ble_eq_true rfl⟩) (sd_preVR hP hK (ci := 3) (q0 := (14 + 3 * q)) rfl rfl (dw_sp hq)) rfl rfl hl.1 rfl (lv_room (Nat.le_of_ble_eq_true rfl)) dX4_find_31 ⟨Nat.zero_le _, Nat.zero_le _⟩) (fun r4 hr4 => ?_)
        subst hr4
        refine lv_aload_n hx hb dX4_find_34 rfl (lv_at hl 0 rfl) ?_
        refine va_get (D := D) (ci := 3) (v := .int (nI (dg q))) (C := RX3) (T := TX3) (N := 4) hx hb hts (fun w h => mm (inX3 w h)) hown hK hP (14 + 3 * q) (dw_sp hq) rfl 2 (by decide) (hts _ (mm wf_X4_78)) (fun _ h9 => h9) rfl dX4_find_35 ?_
        refine lv_iload_n hx hb dX4_find_38 rfl (lv_at hl 3 rfl) ?_
        refine sd_ri (va_runS (As := [.int (nI (dg q)), .int (nI ee)]) (rest := [.int (nI (sd_cnt (th q) (pl q)))]) ⟨hx, hb, hml, hown, hts⟩ (k_X1_sharesNeeded l (dg q) ee) (sd_cwS hts wd_X1_sharesNeeded wn_X1 wm_X4_122 wi_X1_sharesNeeded nq_X1_sharesNeeded rfl rfl ⟨Nat.le_of_ble_eq_true rfl, Nat.le_of_ble_eq_true rfl⟩) sd_preN rfl rfl hl.1 rfl (lv_room (Nat.le_of_ble_eq_true rfl)) dX4_find_39 ⟨Nat.zero_le _, Nat.zero_le _⟩) (fun r5 hr5 => ?_)
        subst hr5
        have hcl := sd_cnt_le (th q) (pl q)
        refine sd_icmp_ge (tgt := 55) hx hb (by omega) (by omega) dX4_find_42 (by decide) (fun c3 => ?_) (fun c3 => ?_)
        · have hfv : P_fv (dg, pl, vl, th, cu, mx, us, so, rr, fw, ff) x (nI ee) q ee := ⟨hq, hxq, c2, rfl, c3⟩
          refine lv_aload_n hx hb dX4_find_55 rfl (lv_at hl 1 rfl) ?_
          refine va_get (D := D) (ci := 4) (v := .ref (ad 8)) (C := RX4) (T := TX4) (N := 6) hx hb hts (fun w h => mm (inX4 w h)) hown hK hP 0 dw_desk rfl 2 (by decide) (hts _ (mm wf_X4_25)) (fun _ h9 => h9) rfl dX4_find_56 ?_
          refine lv_aload_n hx hb dX4_find_59 rfl (lv_at hl 0 rfl) ?_
          refine lv_iload_n hx hb dX4_find_60 rfl (lv_at hl 3 rfl) ?_
          refine sd_wv (va_runV (As := [.ref (ad (14 + 3 * q)), .int (nI ee)]) (rest := []) ⟨hx, hb, hml, hown, hts⟩ (k_X1_seek l D _ q ee hq hokq.2 hokq.1 c3) (sd_cwV hts wd_X1_seek wn_X1 wm_X4_127 wi_X1_seek ws_X1_seek nq_X1_seek rfl rfl ⟨Nat.le_of_ble_eq_true rfl, Nat.le_of_ble_eq_true rfl⟩) (sd_preVW hP hK hD (ci := 1) (q0 := 8) rfl rfl dw_finder) rfl rfl hl.1 rfl (lv_room (Nat.le_of_ble_eq_true rfl)) dX4_find_61 ⟨Nat.zero_le _, Nat.zero_le _⟩) hD hS hA (fun uK H locs huK hP hD hS => ?_)
          replace hP : va_P D vwCl (dw ad tc dg pl vl th uK.2.2.2.2 uK.1 uK.2.1 uK.2.2.1 uK.2.2.2.1 fw ff) H := hP
          replace hD : va_D A (dw ad tc dg pl vl th uK.2.2.2.2 uK.1 uK.2.1 uK.2.2.1 uK.2.2.2.1 fw ff) := hD
          obtain ⟨hu1, hu2, hu3⟩ := huK
          generalize uK.2.2.2.2 = cA at hP hD hu1 hu2 hu3
          have hc2 := hu1 2 (by decide)
          refine lv_aload_n hx hb dX4_find_64 rfl (lv_at hl 0 rfl) ?_
          refine lv_aload_n hx hb dX4_find_65 rfl (lv_at hl 1 rfl) ?_
          refine va_get (D := D) (ci := 4) (v := .ref (ad 8)) (C := RX4) (T := TX4) (N := 6) hx hb hts (fun w h => mm (inX4 w h)) hown hK hP 0 dw_desk rfl 2 (by decide) (hts _ (mm wf_X4_25)) (fun _ h9 => h9) rfl dX4_find_66 ?_
          refine va_get (D := D) (ci := 1) (v := .ref (ad 4)) (C := RX1) (T := TX1) (N := 5) hx hb hts (fun w h => mm (inX1 w h)) hown hK hP 8 dw_finder rfl 0 (by decide) (hts _ (mm wf_X4_131)) (fun _ h9 => h9) rfl dX4_find_69 ?_
          refine sd_ri (va_runV (As := [.ref (ad 4)]) (rest := []) ⟨hx, hb, hml, hown, hts⟩ (k_X3_countMissedBy l D q 1 hq (by decide) hokq.2) (sd_cwV hts wd_X3_countMissedBy wn_X3 wm_X4_134 wi_X3_countMissedBy ws_X3_countMissedBy nq_X3_countMissedBy rfl rfl ⟨Nat.le_of_ble_eq_true rfl, Nat.le_of_ble_eq_true rfl⟩) (sd_preVR hP hK (ci := 3) (q0 := (14 + 3 * q)) rfl rfl (dw_sp hq)) rfl rfl hl.1 rfl (lv_room (Nat.le_of_ble_eq_true rfl)) dX4_find_72 ⟨Nat.zero_le _, Nat.zero_le _⟩) (fun r7 hr7 => ?_)
          subst hr7
          have hcm := sd_cnt_le (sd_ms (th q) (vl q) (cA 1)) (pl q)
          refine lv_istore (lv' := [(4, .int (nI (sd_cnt (sd_ms (th q) (vl q) (cA 1)) (pl q)))), (3, .ref (ad (14 + 3 * q))), (0, .ref (ad 0)), (1, .int x), (2, .int (nI ee))]) hx hb dX4_find_75 hl (by decide) rfl (fun ls hl => ?_)
          refine lv_iload hx hb dX4_find_77 (lv_at hl 0 rfl) ?_
          refine lv_iload_n hx hb dX4_find_79 rfl (lv_at hl 4 rfl) ?_
          refine sd_icmp_le (tgt := 93) hx hb (by omega) (by omega) dX4_find_80 (by decide) (fun c4 => ?_) (fun c4 => ?_)
          · refine lv_aload_n hx hb dX4_find_93 rfl (lv_at hl 2 rfl) ?_
            refine lv_iload_n hx hb dX4_find_94 rfl (lv_at hl 3 rfl) ?_
            refine lv_aload_n hx hb dX4_find_95 rfl (lv_at hl 1 rfl) ?_
            refine sd_wv (va_runV (As := [.int x, .ref (ad (14 + 3 * q))]) (rest := []) ⟨hx, hb, hml, hown, hts⟩ (k_X4_keepFound l D _ x q hq hokq.2) (sd_cwV hts wd_X4_keepFound wn_X4 wm_X4_143 wi_X4_keepFound ws_X4_keepFound nq_X4_keepFound rfl rfl ⟨Nat.le_of_ble_eq_true rfl, Nat.le_of_ble_eq_true rfl⟩) (sd_preVW hP hK hD (ci := 4) (q0 := 0) rfl rfl dw_desk) rfl rfl hl.1 rfl (lv_room (Nat.le_of_ble_eq_true rfl)) dX4_find_96 ⟨Nat.zero_le _, Nat.zero_le _⟩) hD hS hA (fun uF H locs huF hP hD hS => ?_)
            replace hP : va_P D vwCl (dw ad tc uF.1 uF.2.1 uF.2.2.1 uF.2.2.2.1 uF.2.2.2.2.1 uF.2.2.2.2.2.1 uF.2.2.2.2.2.2.1 uF.2.2.2.2.2.2.2.1 uF.2.2.2.2.2.2.2.2.1 uF.2.2.2.2.2.2.2.2.2.1 uF.2.2.2.2.2.2.2.2.2.2) H := hP
            replace hD : va_D A (dw ad tc uF.1 uF.2.1 uF.2.2.1 uF.2.2.2.1 uF.2.2.2.2.1 uF.2.2.2.2.2.1 uF.2.2.2.2.2.2.1 uF.2.2.2.2.2.2.2.1 uF.2.2.2.2.2.2.2.2.1 uF.2.2.2.2.2.2.2.2.2.1 uF.2.2.2.2.2.2.2.2.2.2) := hD
            obtain ⟨g1, g2, g3, g4, g5, g6, g7⟩ := huF
            have g8 : ∀ k, k < 9 → cA 1 k = scu uF 2 k := fun k hk => (g6 k hk).symm
            refine lv_iload hx hb dX4_find_99 (lv_at hl 0 rfl) ?_
            refine vx_ret ?_
            refine W.widen (k := 1) (n := 6) (Nat.zero_le _) (Nat.zero_le _) ?_
            exact W.iret hx hb hr (fun T9 hT9 hW => ⟨⟨_, uF, rfl, ⟨q, ee, hfv, g1, g2, g3, g4, g5.trans hxq, sd_Fd_c g8 ⟨fun k h1 h2 => hu2 k h1 (by omega), c4⟩, fun j h1 h2 => (g7 j h1 h2).trans (sd_mk_c g8 j), by rw [← sd_cm_c g8]⟩, by rw [hT9]; exact hP, va_K.moved hW.alike hK, hD⟩, hS.F hT9⟩) hS.2.2 dX4_find_101
          · obtain ⟨hw9, hc9, ⟨sa1, hst1⟩, ⟨sa2, hst2⟩, ⟨sa3, hst3⟩, ⟨sa4, hst4⟩, ⟨sa5, hst5⟩, ⟨sa6, hst6⟩⟩ := id hEv
            refine vx_throwS (cls := eS) (names := sd_ups) (A := A) hx hb hl9 hown (by decide +kernel) (by decide +kernel) (hts _ (mm wc_X4_138)) (hts _ (mm wn_IllegalStateException)) hst3 (sd_hatT (fun w h => hts _ (mm h)) hEv) sd_otT hEs.1 hEs.2 hS (hl.1.trans hml.symm) dX4_find_83 dX4_find_86 dX4_find_87 dX4_find_89 dX4_find_92 (fun x h => (hTb x h).elim) (by decide) (by decide) (by decide) (by decide) hlocks ?_ hS.2.2 (Nat.le_refl _) (Nat.le_refl _)
            exact sd_hx (u := (dg, pl, vl, th, cA, uK.1, uK.2.1, uK.2.2.1, uK.2.2.2.1, fw, ff)) (w := fun u => dwt ad tc u) hP hK hD hS (⟨⟨rfl, rfl, rfl, rfl, hc2, rfl, rfl⟩, Or.inr ⟨rfl, q, ee, hfv, fun ⟨f, hf⟩ => (by have a9 : ∀ k, k < 9 → cA 1 k = f k := (fun k hk => (Classical.em (k ≤ dg q)).elim (fun h => hu3 f hf k h) (fun h => (hu2 k (by omega) (by omega)).trans (hf.1 k (Nat.lt_of_not_le h) hk).symm)); have b9 : sd_cnt (sd_ms (th q) (vl q) f) (pl q) ≤ ee := hf.2; rw [← sd_cm_c a9] at b9; omega)⟩⟩)
        · obtain ⟨hw9, hc9, ⟨sa1, hst1⟩, ⟨sa2, hst2⟩, ⟨sa3, hst3⟩, ⟨sa4, hst4⟩, ⟨sa5, hst5⟩, ⟨sa6, hst6⟩⟩ := id hEv
          refine vx_throwS (cls := eA) (names := sd_ups) (A := A) hx hb hl9 hown (by decide +kernel) (by decide +kernel) (hts _ (mm wc_X4_111)) (hts _ (mm wn_IllegalArgumentException)) hst2 (sd_hatA (fun w h => hts _ (mm h)) hEv) sd_otA hEs.1 hEs.2 hS (hl.1.trans hml.symm) dX4_find_45 dX4_find_48 dX4_find_49 dX4_find_51 dX4_find_54 (fun x h => (hTb x h).elim) (by decide) (by decide) (by decide) (by decide) hlocks ?_ hS.2.2 (Nat.le_refl _) (Nat.le_refl _)
          exact sd_hx (u := (dg, pl, vl, th, cu, mx, us, so, rr, fw, ff)) (w := fun u => dwt ad tc u) hP hK hD hS (⟨⟨rfl, rfl, rfl, rfl, rfl, rfl, rfl⟩, Or.inl ⟨rfl, fun ⟨q2, e9, h1, h2, h3, h4, h5⟩ => (by have e1 := sd_nI_inj (by omega) (by omega) (hxq.symm.trans h2); subst e1; have e2 := sd_nI_inj (by omega) (by omega) h4; subst e2; have h5 : dg q + 1 + 2 * ee ≤ sd_cnt (th q) (pl q) := h5; omega)⟩⟩)
      · obtain ⟨hw9, hc9, ⟨sa1, hst1⟩, ⟨sa2, hst2⟩, ⟨sa3, hst3⟩, ⟨sa4, hst4⟩, ⟨sa5, hst5⟩, ⟨sa6, hst6⟩⟩ := id hEv
        refine vx_throwS (cls := eA) (names := sd_ups) (A := A) hx hb hl9 hown (by decide +kernel) (by decide +kernel) (hts _ (mm wc_X4_111)) (hts _ (mm wn_IllegalArgumentException)) hst1 (sd_hatA (fun w h => hts _ (mm h)) hEv) sd_otA hEs.1 hEs.2 hS (hl.1.trans hml.symm) dX4_find_20 dX4_find_23 dX4_find_24 dX4_find_26 dX4_find_29 (fun x h => (hTb x h).elim) (by decide) (by decide) (by decide) (by decide) hlocks ?_ hS.2.2 (Nat.le_refl _) (Nat.le_refl _)
        exact sd_hx (u := (dg, pl, vl, th, cu, mx, us, so, rr, fw, ff)) (w := fun u => dwt ad tc u) hP hK hD hS (⟨⟨rfl, rfl, rfl, rfl, rfl, rfl, rfl⟩, Or.inl ⟨rfl, fun ⟨q2, e9, h1, h2, h3, h4, _⟩ => (by have e9 := sd_nI_inj he9 (by omega) h4; omega)⟩⟩)

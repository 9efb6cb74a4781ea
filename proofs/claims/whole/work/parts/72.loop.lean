/-! the law's loop and its start -/
theorem sd_len8 {L n : Nat} (hL : L ≤ 4096) (hn : 8 * n ≤ L) : (Int32.ofNat L - nI 8 < nI (8 * n)) ↔ L < 8 * n + 8 := by
  by_cases h : 8 ≤ L
  · have e : Int32.ofNat L - nI 8 = nI (L - 8) := pk_sub h
    rw [e, nI_ltI (by omega) (by omega)]
    omega
  · have hn0 : n = 0 := by omega
    subst hn0
    have key : ∀ L, L < 8 → Int32.ofNat L - nI 8 < nI (8 * 0) := by decide +kernel
    exact ⟨fun _ => by omega, fun _ => key L (by omega)⟩
set_option maxHeartbeats 1000000 in
set_option maxRecDepth 100000 in
theorem lw_loop {p : Program} {l : Launch} {e : Env} {s : State} {m : MethodId} {below : List Frame} {meth : Method} {c : Code} {D : va_G} {tc : Nat → ClassId} {ad am : Nat → Nat} {bo b L : Nat} {xs : Nat → Int32} (hC : sd_LC p l s m c D tc b L xs) (hL : L ≤ 4096) (hr : meth.sig.returnType = ret) (hlocks : meth.locks = false) :
    ∀ (k n : Nat) (u : DS) (w : MS) (f : Nat → Int64) (H : Heap) (locs : List Loc) (ls : Array Slot), 8 * n ≤ L → L < 8 * n + 8 * k → sd_Rel u w → sd_LI D tc ad am bo s u w f H locs → lv_has ls 8 [(0, .ref b), (1, .ref (ad 0)), (2, .ref (am 0)), (3, .ref bo), (4, .int (nI (8 * n)))] → W p l e room_1 s m #[Value.ref b] below meth c H locs (67 + n) (1103 + 6 * n) (lw_Z below #[Value.ref b] s) (F0 m 23 ls []) := by
  obtain ⟨hx, hb, hml, hown, hts, hX, hbl, hK, hEv, hEs, hl9⟩ := id hC
  have hbA : ¬ sd_LA s b := Nat.not_le.mpr hbl
  intro k
  induction k with
  | zero =>
    intro n u w f H locs ls h1 h2
    exact absurd h2 (by omega)
  | succ k ih =>
    intro n u w f H locs ls h1 h2 hR hI hl
    have hS := hI.2.2.2.2.2.2.2.2.2
    refine lv_iload hx hb dL_law_23 (lv_at hl 4 rfl) ?_
    refine lv_aload_n hx hb dL_law_25 rfl (lv_at hl 0 rfl) ?_
    refine va_slen hx hb hX hbl hbA hS dL_law_26 ?_
    refine lv_bipush (v := nI 8) hx hb dL_law_27 (by decide) ?_
    refine lv_isub hx hb dL_law_29 ?_
    refine lv_icmp_gt (tgt := 968) hx hb dL_law_30 (by decide) (fun c1 => ?_) (fun c1 => ?_)
    · refine lv_iconst (v := 1) hx hb dL_law_968 (by decide) ?_
      refine va_forget (fun q hq => hS.2.2 q hq) ?_
      refine W.widen (k := 601024) (n := 7293034) (by omega) (by omega) ?_
      exact lw_ret hx hb hr hlocks dL_law_969
    · have c1 : 8 * n + 8 ≤ L := Nat.not_lt.mp (fun z => c1 ((sd_len8 hL h1).mpr z))
      have K : ∀ (u : DS) (w : MS) (f : Nat → Int64) (H : Heap) (locs : List Loc) (ls : Array Slot) (c2 s2 : Nat), sd_Rel u w → sd_LI D tc ad am bo s u w f H locs → lv_has ls 8 [(0, .ref b), (1, .ref (ad 0)), (2, .ref (am 0)), (3, .ref bo), (4, .int (nI (8 * n)))] → c2 ≤ 67 + n + 1 → s2 ≤ 1103 + 6 * n + 6 → W p l e room_1 s m #[Value.ref b] below meth c H locs c2 s2 (lw_Z below #[Value.ref b] s) (F0 m 962 ls []) := by
        intro u w f H locs ls c2 s2 hR hI hl h3 h4
        refine lv_iinc (v := nI (8 * (n + 1))) (lv' := [(4, .int (nI (8 * (n + 1)))), (0, .ref b), (1, .ref (ad 0)), (2, .ref (am 0)), (3, .ref bo)]) hx hb dL_law_962 hl (k := 4) rfl (by rw [show Int32.ofInt 8 = nI 8 by decide, nI_add, Nat.mul_succ]) (by decide) rfl (fun ls hl => ?_)
        refine lv_goto (tgt := 23) hx hb dL_law_965 (by decide) ?_
        refine W.widen (k := 67 + (n + 1)) (n := 1103 + 6 * (n + 1)) (by omega) (by omega) ?_
        exact ih (n + 1) u w f H locs ls (by omega) (by omega) hR hI (lv_sub hl [1, 2, 3, 4, 0] rfl)
      refine lv_aload_n hx hb dL_law_33 rfl (lv_at hl 0 rfl) ?_
      refine lv_iload hx hb dL_law_34 (lv_at hl 4 rfl) ?_
      refine sd_sld hx hb hX hbl hbA hS (j := 8 * n) (by omega) (by omega) dL_law_36 ?_
      refine lv_bipush (v := nI 15) hx hb dL_law_37 (by decide) ?_
      refine lv_iand hx hb dL_law_39 ?_
      obtain ⟨j, hj, ej⟩ := pk_andE (xs (8 * n)) (m := nI 15) 4 (by decide)
      rw [ej]
      match j, hj with
      | 0, _ =>
        refine lv_tableIn (off := 68) (tgt := 108) hx hb dL_law_40 (by decide +kernel) (by decide +kernel) (by decide +kernel) (by decide) ?_
        exact lw_case_0 hC hR hI hl c1 hL (by omega) (by omega) K
      | 1, _ =>
        refine lv_tableIn (off := 209) (tgt := 249) hx hb dL_law_40 (by decide +kernel) (by decide +kernel) (by decide +kernel) (by decide) ?_
        exact lw_case_1 hC hR hI hl c1 hL (by omega) (by omega) K
      | 2, _ =>
        refine lv_tableIn (off := 290) (tgt := 330) hx hb dL_law_40 (by decide +kernel) (by decide +kernel) (by decide +kernel) (by decide) ?_
        exact lw_case_2 hC hR hI hl c1 hL (by omega) (by omega) K
      | 3, _ =>
        refine lv_tableIn (off := 327) (tgt := 367) hx hb dL_law_40 (by decide +kernel) (by decide +kernel) (by decide +kernel) (by decide) ?_
        exact lw_case_3 hC hR hI hl c1 hL (by omega) (by omega) K
      | 4, _ =>
        refine lv_tableIn (off := 388) (tgt := 428) hx hb dL_law_40 (by decide +kernel) (by decide +kernel) (by decide +kernel) (by decide) ?_
        exact lw_case_4 hC hR hI hl c1 hL (by omega) (by omega) K
      | 5, _ =>
        refine lv_tableIn (off := 501) (tgt := 541) hx hb dL_law_40 (by decide +kernel) (by decide +kernel) (by decide +kernel) (by decide) ?_
        exact lw_case_5 hC hR hI hl c1 hL (by omega) (by omega) K
      | 6, _ =>
        refine lv_tableIn (off := 570) (tgt := 610) hx hb dL_law_40 (by decide +kernel) (by decide +kernel) (by decide +kernel) (by decide) ?_
        exact lw_case_6 hC hR hI hl c1 hL (by omega) (by omega) K
      | 7, _ =>
        refine lv_tableIn (off := 638) (tgt := 678) hx hb dL_law_40 (by decide +kernel) (by decide +kernel) (by decide +kernel) (by decide) ?_
        exact lw_case_7 hC hR hI hl c1 hL (by omega) (by omega) K
      | 8, _ =>
        refine lv_tableIn (off := 725) (tgt := 765) hx hb dL_law_40 (by decide +kernel) (by decide +kernel) (by decide +kernel) (by decide) ?_
        exact lw_case_8 hC hR hI hl c1 hL (by omega) (by omega) K
      | 9, _ =>
        refine lv_tableIn (off := 780) (tgt := 820) hx hb dL_law_40 (by decide +kernel) (by decide +kernel) (by decide +kernel) (by decide) ?_
        exact lw_case_9 hC hR hI hl c1 hL (by omega) (by omega) K
      | 10, _ =>
        refine lv_tableIn (off := 805) (tgt := 845) hx hb dL_law_40 (by decide +kernel) (by decide +kernel) (by decide +kernel) (by decide) ?_
        exact lw_case_10 hC hR hI hl c1 hL (by omega) (by omega) K
      | 11, _ =>
        refine lv_tableIn (off := 818) (tgt := 858) hx hb dL_law_40 (by decide +kernel) (by decide +kernel) (by decide +kernel) (by decide) ?_
        exact lw_case_11 hC hR hI hl c1 hL (by omega) (by omega) K
      | 12, _ =>
        refine lv_tableIn (off := 885) (tgt := 925) hx hb dL_law_40 (by decide +kernel) (by decide +kernel) (by decide +kernel) (by decide) ?_
        exact lw_case_12 hC hR hI hl c1 hL (by omega) (by omega) K
      | 13, _ =>
        refine lv_tableOut (tgt := 962) hx hb dL_law_40 (by decide +kernel) (by decide) ?_
        exact K u w f H locs ls _ _ hR hI hl (by omega) (by omega)
      | 14, _ =>
        refine lv_tableOut (tgt := 962) hx hb dL_law_40 (by decide +kernel) (by decide) ?_
        exact K u w f H locs ls _ _ hR hI hl (by omega) (by omega)
      | 15, _ =>
        refine lv_tableOut (tgt := 962) hx hb dL_law_40 (by decide +kernel) (by decide) ?_
        exact K u w f H locs ls _ _ hR hI hl (by omega) (by omega)
      | j + 16, h => exact absurd h (by omega)

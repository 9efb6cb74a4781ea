/-! the reference: isOne, raise, find -/
/-- no curve that is FOUND goes through the places of these bits -/
def m_no (t n e K : Nat) (th : Nat → Bool) (v : Nat → FP) (mp : Nat → Nat) (b : Nat) : Prop := ∀ f, sd_Fd t n e th v f → sd_cnt (sd_bt b) K = t + 1 → (∀ j, 1 ≤ j → j ≤ K → sd_bt b j = true → v (mp (j - 1)) = sd_ev f (sd_N (mp (j - 1)))) → False
theorem m_no_all {t n e K : Nat} {th : Nat → Bool} {v : Nat → FP} {mp : Nat → Nat} (hK : K = t + 1 + e) (hpl : ∀ p, 1 ≤ p → p ≤ n → th p = true → mp (sd_cnt th (p - 1)) = p) (hm : K ≤ sd_cnt th n) (h : ∀ b, b < 2 ^ K → m_no t n e K th v mp b) : ¬ ∃ f, sd_Fd t n e th v f := by
  rintro ⟨f, hf⟩
  obtain ⟨b, h1, h2, h3⟩ := sd_subset hK hpl hm hf
  exact h b h1 f hf h2 h3
theorem m_no_step {t n e K : Nat} {th : Nat → Bool} {v cu : Nat → FP} {mp ch : Nat → Nat} {b : Nat} (hch : ∀ i, i ≤ t → ∃ j, 1 ≤ j ∧ j ≤ K ∧ sd_bt b j = true ∧ sd_cnt (sd_bt b) (j - 1) = i ∧ ch i = mp (j - 1))
    (hcu : ∀ f : Nat → FP, (∀ k, t < k → k < 9 → f k = 0) → (∀ i, i ≤ t → v (ch i) = sd_ev f (sd_N (ch i))) → ∀ k, k < 9 → cu k = f k) (he : e < sd_cnt (sd_ms th v cu) n) : m_no t n e K th v mp b := by
  intro f hf h2 h3
  have e1 := hcu f hf.1 (fun i hi => by
    obtain ⟨j, j1, j2, j3, j4, j5⟩ := hch i hi
    rw [j5]
    exact h3 j j1 j2 j3)
  have e2 : sd_cnt (sd_ms th v cu) n = sd_cnt (sd_ms th v f) n := sd_cnt_congr n (fun j _ _ => by
    unfold sd_ms
    have e3 : sd_ev cu (sd_N j) = sd_ev f (sd_N j) := sd_pv_congr _ 9 0 (fun k _ hk => e1 k (by omega))
    rw [e3])
  have := hf.2
  omega
def m_fv (a : MS) (x y : Int32) (q e : Nat) : Prop := q < 8 ∧ x = nI q ∧ e ≤ 7 ∧ y = nI e ∧ rdg a q + 1 + 2 * e ≤ sd_cnt (fun j => rth a (17 * q + j)) (rsz a q)
abbrev m_th (a : MS) (q : Nat) : Nat → Bool := fun j => rth a (17 * q + j)
abbrev m_vl (a : MS) (q : Nat) : Nat → FP := fun j => rsh a (17 * q + j)
/-- find: thrown 1, thrown 2, or found -/
def M_find (x y : Int32) (a : MS) (r : Int32) (u : MS) : Prop := rdg u = rdg a ∧ rsz u = rsz a ∧ rsh u = rsh a ∧ rth u = rth a ∧ riv u = riv a ∧
  (((¬ ∃ q e, m_fv a x y q e) ∧ rtn u = nI 1 ∧ m_fs a u) ∨
   (∃ q e, m_fv a x y q e ∧ (¬ ∃ f, sd_Fd (rdg a q) (rsz a q) e (m_th a q) (m_vl a q) f) ∧ rtn u = nI 2 ∧ m_fs a u) ∨
   (∃ q e, m_fv a x y q e ∧ sd_Fd (rdg a q) (rsz a q) e (m_th a q) (m_vl a q) (rfo u) ∧ rtn u = nI 0 ∧ rif u = true ∧ rfs u = q ∧ (∀ j, 1 ≤ j → j ≤ 16 → rwr u j = sd_mk (rsz a q) (m_th a q) (m_vl a q) (rfo u) j) ∧ r = nI (sd_cnt (sd_ms (m_th a q) (m_vl a q) (rfo u)) (rsz a q))))

set_option maxHeartbeats 1000000 in
set_option maxRecDepth 100000 in
theorem k_X5_isOne (l : Launch) (D : va_G) {am : Nat → Nat} {tc : Nat → ClassId} {tn : Int32} {mdg msz : Nat → Nat} {msh : Nat → FP} {mth : Nat → Bool} {minv : Nat → FP} {isf : Bool} {fsp : Nat} {mfo : Nat → FP} {mwr : Nat → Bool} {mpl : Nat → Nat} {mny : Nat} {mch : Nat → Nat} {mcu mro : Nat → FP} (sz : Nat) (q t e9 : Nat) (hq : q < 8) (ht : t ≤ 8) (hsz : msz q ≤ 16) (hm2 : t + 1 + 2 * e9 ≤ mny) (hpl : ∀ p, 1 ≤ p → p ≤ msz q → (fun j => mth (17 * q + j)) p = true → mpl (sd_cnt (fun j => mth (17 * q + j)) (p - 1)) = p) (hmy : mny = sd_cnt (fun j => mth (17 * q + j)) (msz q)) (hinv : ∀ k, 1 ≤ k → k ≤ 16 → sd_N k * minv k = 1) : Met l yX5_isOne (Cond.code yX5_isOne cX5_isOne 7 (some .boolean) :: bg) { frames := 5, cells := 0, slots := 0, locals := 147 } (sd_Wr D vwCl (ty5 tc) (mw am tc tn mdg msz msh mth minv isf fsp mfo mwr mpl mny mch mcu mro) sz [.ref (am 0), .int (nI q), .int (nI t), .int (nI e9)]) (va_Qi (S := (Nat → Nat) × (Nat → FP) × (Nat → FP)) (fun r (u : (Nat → Nat) × (Nat → FP) × (Nat → FP)) => ∃ b : Bool, r = bI b ∧ (b = true → sd_Fd t (msz q) e9 (fun j => mth (17 * q + j)) (fun j => msh (17 * q + j)) u.2.1) ∧ (b = false → ¬ ∃ f, sd_Fd t (msz q) e9 (fun j => mth (17 * q + j)) (fun j => msh (17 * q + j)) f)) (sd_B D vwCl (ty5 tc) (va_A (mw am tc tn mdg msz msh mth minv isf fsp mfo mwr mpl mny mch mcu mro) sz) (fun u => mw am tc tn mdg msz msh mth minv isf fsp mfo mwr mpl mny u.1 u.2.1 u.2.2)) (va_A (mw am tc tn mdg msz msh mth minv isf fsp mfo mwr mpl mny mch mcu mro) sz)) 0 0 (va_A (mw am tc tn mdg msz msh mth minv isf fsp mfo mwr mpl mny mch mcu mro) sz) := by
  refine Met.ofW (cc := cX5_isOne) (maxL := 7) (ret := some .boolean) (by decide) rfl ?_
  intro p e s m args below meth c s₁ B hml hv
  obtain ⟨rfl, hsz, hP, hK, hD0⟩ := hv
  have hx := B.exec
  have hb := B.bytes
  have hr := B.returns
  have hts := atoms_spec (ws := Cond.code yX5_isOne cX5_isOne 7 (some .boolean) :: bg) B.pre
  have hown : s.vm.findClass RX5 = some m.cls := findClass_of_methodNamed B.named
  have hlocks := B.notSynchronized
  subst hsz
  have hD := hD0.self (sz := s.heap.size)
  generalize hAe : va_A (mw am tc tn mdg msz msh mth minv isf fsp mfo mwr mpl mny mch mcu mro) s.heap.size = A at hD ⊢
  have hA : ∀ q : Nat, s.heap.size ≤ q → A q := fun q h => by rw [← hAe]; exact Or.inr h
  have hS : va_S A s.heap s.heap [] := va_S.rf
  have hl := lv_entry ([.ref (am 0), .int (nI q), .int (nI t), .int (nI e9)]) (n := 7) (Nat.le_of_ble_eq_true rfl)
  rw [lg_entry_eq]
  generalize (lg_sl ([.ref (am 0), .int (nI q), .int (nI t), .int (nI e9)]) ++ List.replicate (7 - (lg_sl ([.ref (am 0), .int (nI q), .int (nI t), .int (nI e9)])).length) Slot.unset).toArray = ls at hl ⊢
  replace hl : lv_has ls 7 [(0, .ref (am 0)), (1, .int (nI q)), (2, .int (nI t)), (3, .int (nI e9))] := hl
  have hm16 := sd_cnt_le (fun j => mth (17 * q + j)) (msz q)
  rw [← hmy] at hm16
  obtain ⟨KK, hKK⟩ : ∃ KK, KK = t + 1 + e9 := ⟨_, rfl⟩
  obtain ⟨pw, hpw⟩ : ∃ z, z = 2 ^ KK := ⟨_, rfl⟩
  have hpl2 : pw ≤ 65536 := by rw [hpw]; exact Nat.pow_le_pow_right (show 0 < 2 by decide) (show KK ≤ 16 by omega)
  refine lv_iconst (v := nI 0) hx hb dX5_isOne_0 (by decide) ?_
  refine lv_istore (lv' := [(4, .int (nI 0)), (0, .ref (am 0)), (1, .int (nI q)), (2, .int (nI t)), (3, .int (nI e9))]) hx hb dX5_isOne_1 hl (by decide) rfl (fun ls hl => ?_)
  obtain ⟨H, hH9⟩ : ∃ H : Heap, H = s.heap := ⟨_, rfl⟩
  obtain ⟨locs, hl9⟩ : ∃ x : List Loc, x = [] := ⟨_, rfl⟩
  rw [← hH9, ← hl9]
  have hS : va_S A s.heap H locs := by rw [hH9, hl9]; exact va_S.rf
  have hP : va_P D vwCl (mw am tc tn mdg msz msh mth minv isf fsp mfo mwr mpl mny mch mcu mro) H := by rw [hH9]; exact hP
  clear hH9 hl9
  obtain ⟨b, ch, c1, r1, hb9, hN, hP9, hD9, hl9⟩ : ∃ (b : Nat) (ch : Nat → Nat) (c1 : Nat → FP) (r1 : Nat → FP), (b ≤ pw) ∧ (∀ i, i < b → m_no t (msz q) e9 KK (fun j => mth (17 * q + j)) (fun j => msh (17 * q + j)) mpl i) ∧ va_P D vwCl (mw am tc tn mdg msz msh mth minv isf fsp mfo mwr mpl mny ch c1 r1) H ∧ va_D A (mw am tc tn mdg msz msh mth minv isf fsp mfo mwr mpl mny ch c1 r1) ∧ lv_has ls 7 [(4, .int (nI b)), (0, .ref (am 0)), (1, .int (nI q)), (2, .int (nI t)), (3, .int (nI e9))] := ⟨0, mch, mcu, mro, Nat.zero_le _, fun i hi => absurd hi (Nat.not_lt_zero i), hP, hD, (lv_sub hl [0, 1, 2, 3, 4] rfl)⟩
  replace hl := hl9
  clear hl9
  replace hP := hP9
  replace hD := hD9
  clear hP9 hD9
  obtain ⟨k9, hk9⟩ : ∃ k9 : Nat, pw < b + k9 := ⟨pw + 1, by omega⟩
  induction k9 generalizing b ch c1 r1 ls H locs with
  | zero => exact absurd hk9 (by omega)
  | succ k9 ihA =>
    refine lv_iload hx hb dX5_isOne_3 (lv_at hl 0 rfl) ?_
    refine lv_iconst (v := nI 1) hx hb dX5_isOne_5 (by decide) ?_
    refine lv_iload_n hx hb dX5_isOne_6 rfl (lv_at hl 3 rfl) ?_
    refine lv_iconst (v := nI 1) hx hb dX5_isOne_7 (by decide) ?_
    refine sd_iadd hx hb dX5_isOne_8 ?_
    refine lv_iload_n hx hb dX5_isOne_9 rfl (lv_at hl 4 rfl) ?_
    refine sd_iadd hx hb dX5_isOne_10 ?_
    refine lv_ishl hx hb dX5_isOne_11 ?_
    refine sd_toi (y := nI pw) (by rw [← hKK, sd_ishl1 (by omega), ← hpw]) ?_
    refine sd_icmp_ge (tgt := 108) hx hb (by omega) (by omega) dX5_isOne_12 (by decide) (fun c1c => ?_) (fun c1c => ?_)
    · refine lv_iconst (v := nI 0) hx hb dX5_isOne_108 (by decide) ?_
      exact W.zret hx hb hr rfl (fun T9 hT9 hW => ⟨⟨_, (ch, c1, r1), rfl, ⟨false, rfl, (fun z => nomatch z), fun _ => m_no_all hKK hpl (by omega) (fun i hi => hN i (by omega))⟩, by rw [hT9]; exact hP, va_K.moved hW.alike hK, hD⟩, hS.F hT9⟩) hS.2.2 dX5_isOne_109
    · refine lv_iconst (v := nI 0) hx hb dX5_isOne_15 (by decide) ?_
      refine lv_istore (lv' := [(5, .int (nI 0)), (4, .int (nI b)), (0, .ref (am 0)), (1, .int (nI q)), (2, .int (nI t)), (3, .int (nI e9))]) hx hb dX5_isOne_16 hl (by decide) rfl (fun ls hl => ?_)
      refine lv_iconst (v := nI 0) hx hb dX5_isOne_18 (by decide) ?_
      refine lv_istore (lv' := [(6, .int (nI 0)), (5, .int (nI 0)), (4, .int (nI b)), (0, .ref (am 0)), (1, .int (nI q)), (2, .int (nI t)), (3, .int (nI e9))]) hx hb dX5_isOne_19 hl (by decide) rfl (fun ls hl => ?_)
      obtain ⟨k, ch2, hk, hI, hP9, hD9, hl9⟩ : ∃ (k : Nat) (ch2 : Nat → Nat), (k ≤ KK) ∧ (∀ i, i < sd_cnt (sd_bt b) k → i ≤ t → ∃ j, 1 ≤ j ∧ j ≤ k ∧ sd_bt b j = true ∧ sd_cnt (sd_bt b) (j - 1) = i ∧ ch2 i = mpl (j - 1)) ∧ va_P D vwCl (mw am tc tn mdg msz msh mth minv isf fsp mfo mwr mpl mny ch2 c1 r1) H ∧ va_D A (mw am tc tn mdg msz msh mth minv isf fsp mfo mwr mpl mny ch2 c1 r1) ∧ lv_has ls 7 [(6, .int (nI k)), (5, .int (nI (sd_cnt (sd_bt b) k))), (4, .int (nI b)), (0, .ref (am 0)), (1, .int (nI q)), (2, .int (nI t)), (3, .int (nI e9))] := ⟨0, ch, Nat.zero_le _, fun i hi => absurd hi (Nat.not_lt_zero i), hP, hD, (lv_sub hl [0, 1, 2, 3, 4, 5, 6] rfl)⟩
      replace hl := hl9
      clear hl9
      replace hP := hP9
      replace hD := hD9
      clear hP9 hD9
      obtain ⟨k9, hk9⟩ : ∃ k9 : Nat, KK < k + k9 := ⟨KK + 1, by omega⟩
      induction k9 generalizing k ch2 ls H locs with
      | zero => exact absurd hk9 (by omega)
      | succ k9 ihB =>
        have hcl := sd_cnt_le (sd_bt b) k
        refine lv_iload hx hb dX5_isOne_21 (lv_at hl 0 rfl) ?_
        refine lv_iload_n hx hb dX5_isOne_23 rfl (lv_at hl 5 rfl) ?_
        refine lv_iconst (v := nI 1) hx hb dX5_isOne_24 (by decide) ?_
        refine sd_iadd hx hb dX5_isOne_25 ?_
        refine lv_iload_n hx hb dX5_isOne_26 rfl (lv_at hl 6 rfl) ?_
        refine sd_iadd hx hb dX5_isOne_27 ?_
        refine sd_icmp_ge (tgt := 73) hx hb (by omega) (by omega) dX5_isOne_28 (by decide) (fun c2 => ?_) (fun c2 => ?_)
        · have hkK : k = KK := by omega
          subst hkK
          refine lv_iload hx hb dX5_isOne_73 (lv_at hl 1 rfl) ?_
          refine lv_iload_n hx hb dX5_isOne_75 rfl (lv_at hl 5 rfl) ?_
          refine lv_iconst (v := nI 1) hx hb dX5_isOne_76 (by decide) ?_
          refine sd_iadd hx hb dX5_isOne_77 ?_
          refine sd_icmp_eq (tgt := 84) hx hb (by omega) (by omega) dX5_isOne_78 (by decide) (fun c3 => ?_) (fun c3 => ?_)
          · have hCH := fun i (hi : i ≤ t) => hI i (by omega) hi
            have hC2 := sd_chosen hpl (by omega) hCH
            refine lv_aload_n hx hb dX5_isOne_84 rfl (lv_at hl 3 rfl) ?_
            refine lv_iload_n hx hb dX5_isOne_85 rfl (lv_at hl 4 rfl) ?_
            refine lv_iload_n hx hb dX5_isOne_86 rfl (lv_at hl 5 rfl) ?_
            refine sd_wv (va_runV (As := [.int (nI q), .int (nI t)]) (rest := []) ⟨hx, hb, hml, hown, hts⟩ (k_X5_through l D _ q t hq ht (fun i hi => ⟨(hC2.1 i hi).1, Nat.le_trans (hC2.1 i hi).2 hsz⟩) hC2.2 hinv) (sd_cwV hts wd_X5_through wn_X5 wm_X5_113 wi_X5_through ws_X5_through nq_X5_through rfl rfl ⟨Nat.le_of_ble_eq_true rfl, Nat.le_of_ble_eq_true rfl⟩) (sd_preVW hP hK hD (ci := 5) (q0 := 0) rfl rfl rfl) rfl rfl hl.1 rfl (lv_room (Nat.le_of_ble_eq_true rfl)) dX5_isOne_87 ⟨Nat.zero_le _, Nat.zero_le _⟩) hD hS hA (fun uT H locs huT hP hD hS => ?_)
            replace hP : va_P D vwCl (mw am tc tn mdg msz msh mth minv isf fsp mfo mwr mpl mny ch2 uT.1 uT.2) H := hP
            replace hD : va_D A (mw am tc tn mdg msz msh mth minv isf fsp mfo mwr mpl mny ch2 uT.1 uT.2) := hD
            refine lv_aload_n hx hb dX5_isOne_90 rfl (lv_at hl 3 rfl) ?_
            refine lv_iload_n hx hb dX5_isOne_91 rfl (lv_at hl 4 rfl) ?_
            refine lv_iload_n hx hb dX5_isOne_92 rfl (lv_at hl 5 rfl) ?_
            refine sd_ri (va_runV (As := [.int (nI q), .int (nI t)]) (rest := []) ⟨hx, hb, hml, hown, hts⟩ (k_X5_missed l D q t hq ht hsz huT.1 hpl hmy) (sd_cwV hts wd_X5_missed wn_X5 wm_X5_117 wi_X5_missed ws_X5_missed nq_X5_missed rfl rfl ⟨Nat.le_of_ble_eq_true rfl, Nat.le_of_ble_eq_true rfl⟩) (sd_preVR hP hK (ci := 5) (q0 := 0) rfl rfl rfl) rfl rfl hl.1 rfl (lv_room (Nat.le_of_ble_eq_true rfl)) dX5_isOne_93 ⟨Nat.zero_le _, Nat.zero_le _⟩) (fun r2 hr2 => ?_)
            subst hr2
            have hcm := sd_cnt_le (sd_ms (fun j => mth (17 * q + j)) (fun j => msh (17 * q + j)) uT.1) (msz q)
            refine lv_iload_n hx hb dX5_isOne_96 rfl (lv_at hl 6 rfl) ?_
            refine sd_icmp_gt (tgt := 102) hx hb (by omega) (by omega) dX5_isOne_97 (by decide) (fun c4 => ?_) (fun c4 => ?_)
            · refine lv_iinc (v := nI (b + 1)) (lv' := [(4, .int (nI (b + 1))), (6, .int (nI k)), (5, .int (nI (sd_cnt (sd_bt b) k))), (0, .ref (am 0)), (1, .int (nI q)), (2, .int (nI t)), (3, .int (nI e9))]) hx hb dX5_isOne_102 hl (k := 2) rfl (nI_1 _) (by decide) rfl (fun ls hl => ?_)
              refine lv_goto (tgt := 3) hx hb dX5_isOne_105 (by decide) ?_
              exact ihA (b := b + 1) (ch := ch2) (c1 := uT.1) (r1 := uT.2) (hb9 := by omega) (hN := fun i hi => (Classical.em (i = b)).elim (fun e8 => by rw [e8]; exact m_no_step hCH huT.2 c4) (fun e8 => hN i (by omega))) (H := H) (locs := locs) (hP := hP) (hD := hD) (hS := hS) (ls := ls) (hl := (lv_sub hl [0, 3, 4, 5, 6] rfl)) (hk9 := by omega)
            · refine lv_iconst (v := nI 1) hx hb dX5_isOne_100 (by decide) ?_
              exact W.zret hx hb hr rfl (fun T9 hT9 hW => ⟨⟨_, (ch2, uT.1, uT.2), rfl, ⟨true, rfl, fun _ => ⟨huT.1, c4⟩, (fun z => nomatch z)⟩, by rw [hT9]; exact hP, va_K.moved hW.alike hK, hD⟩, hS.F hT9⟩) hS.2.2 dX5_isOne_101
          · refine lv_goto (tgt := 102) hx hb dX5_isOne_81 (by decide) ?_
            refine lv_iinc (v := nI (b + 1)) (lv' := [(4, .int (nI (b + 1))), (6, .int (nI k)), (5, .int (nI (sd_cnt (sd_bt b) k))), (0, .ref (am 0)), (1, .int (nI q)), (2, .int (nI t)), (3, .int (nI e9))]) hx hb dX5_isOne_102 hl (k := 2) rfl (nI_1 _) (by decide) rfl (fun ls hl => ?_)
            refine lv_goto (tgt := 3) hx hb dX5_isOne_105 (by decide) ?_
            exact ihA (b := b + 1) (ch := ch2) (c1 := c1) (r1 := r1) (hb9 := by omega) (hN := fun i hi => (Classical.em (i = b)).elim (fun e8 => by rw [e8]; exact fun f _ h2 _ => absurd h2 c3) (fun e8 => hN i (by omega))) (H := H) (locs := locs) (hP := hP) (hD := hD) (hS := hS) (ls := ls) (hl := (lv_sub hl [0, 3, 4, 5, 6] rfl)) (hk9 := by omega)
        · refine lv_iload hx hb dX5_isOne_31 (lv_at hl 2 rfl) ?_
          refine lv_iload hx hb dX5_isOne_33 (lv_at hl 0 rfl) ?_
          refine lv_ishr hx hb dX5_isOne_35 ?_
          refine sd_toi (y := nI (b / 2 ^ k)) (sd_ishr1 (by omega) (by omega)) ?_
          have hdv : b / 2 ^ k ≤ b := Nat.div_le_self _ _
          generalize hbk : b / 2 ^ k = bk at hdv ⊢
          refine lv_iconst (v := nI 1) hx hb dX5_isOne_36 (by decide) ?_
          refine lv_iand hx hb dX5_isOne_37 ?_
          refine sd_toi (y := nI (bk % 2)) (sd_iand1 (by omega)) ?_
          refine lv_if_ne (tgt := 44) hx hb dX5_isOne_38 (by decide) (fun c5 => ?_) (fun c5 => ?_)
          · have hbt : sd_bt b (k + 1) = true := by
              unfold sd_bt
              rw [Nat.add_sub_cancel, hbk]
              exact decide_eq_true (by have : ¬ bk % 2 = 0 := (fun z => c5 (by rw [z]; exact nI_0)); omega)
            have hc9 := sd_cnt_t hbt
            have h8 := sd_rank_b hpl (r := k) (by omega)
            refine lv_iload hx hb dX5_isOne_44 (lv_at hl 1 rfl) ?_
            refine lv_iload_n hx hb dX5_isOne_46 rfl (lv_at hl 5 rfl) ?_
            refine sd_icmp_gt (tgt := 64) hx hb (by omega) (by omega) dX5_isOne_47 (by decide) (fun c6 => ?_) (fun c6 => ?_)
            · refine lv_iinc (v := nI (sd_cnt (sd_bt b) k + 1)) (lv' := [(5, .int (nI (sd_cnt (sd_bt b) k + 1))), (6, .int (nI k)), (4, .int (nI b)), (0, .ref (am 0)), (1, .int (nI q)), (2, .int (nI t)), (3, .int (nI e9))]) hx hb dX5_isOne_64 hl (k := 1) rfl (nI_1 _) (by decide) rfl (fun ls hl => ?_)
              refine lv_iinc (v := nI (k + 1)) (lv' := [(6, .int (nI (k + 1))), (5, .int (nI (sd_cnt (sd_bt b) k + 1))), (4, .int (nI b)), (0, .ref (am 0)), (1, .int (nI q)), (2, .int (nI t)), (3, .int (nI e9))]) hx hb dX5_isOne_67 hl (k := 1) rfl (nI_1 _) (by decide) rfl (fun ls hl => ?_)
              refine lv_goto (tgt := 21) hx hb dX5_isOne_70 (by decide) ?_
              have hI9 : ∀ i, i < sd_cnt (sd_bt b) (k + 1) → i ≤ t → ∃ j, 1 ≤ j ∧ j ≤ (k + 1) ∧ sd_bt b j = true ∧ sd_cnt (sd_bt b) (j - 1) = i ∧ ch2 i = mpl (j - 1) := by
                intro i h1 h2
                obtain ⟨j, j1, j2, j3⟩ := hI i (by omega) h2
                exact ⟨j, j1, by omega, j3⟩
              exact ihB (k := k + 1) (ch2 := ch2) (hk := by omega) (hI := hI9) (H := H) (locs := locs) (hP := hP) (hD := hD) (hS := hS) (ls := ls) (hl := by rw [hc9]; exact (lv_sub hl [0, 1, 2, 3, 4, 5, 6] rfl)) (hk9 := by omega)
            · refine lv_aload_n hx hb dX5_isOne_50 rfl (lv_at hl 3 rfl) ?_
              refine va_get (D := D) (ci := 5) (v := .ref (am 9)) (C := RX5) (T := TX5) (N := 15) hx hb hts (fun w h => mm (inX5 w h)) hown hK hP 0 rfl rfl 12 (by decide) (hts _ (mm wf_X5_36)) (fun _ h9 => h9) rfl dX5_isOne_51 ?_
              refine lv_iload hx hb dX5_isOne_54 (lv_at hl 1 rfl) ?_
              refine lv_aload_n hx hb dX5_isOne_56 rfl (lv_at hl 3 rfl) ?_
              refine va_get (D := D) (ci := 5) (v := .ref (am 8)) (C := RX5) (T := TX5) (N := 15) hx hb hts (fun w h => mm (inX5 w h)) hown hK hP 0 rfl rfl 10 (by decide) (hts _ (mm wf_X5_33)) (fun _ h9 => h9) rfl dX5_isOne_57 ?_
              refine lv_iload hx hb dX5_isOne_60 (lv_at hl 0 rfl) ?_
              refine sd_iald hx hb hK hP 8 2 rfl rfl (k := k) (by omega) (by decide) dX5_isOne_62 ?_
              refine sd_iast hx hb hK hP hD hS 9 2 rfl rfl (k := sd_cnt (sd_bt b) k) (by omega) (by decide) (ws2 := mw am tc tn mdg msz msh mth minv isf fsp mfo mwr mpl mny (sd_up ch2 (sd_cnt (sd_bt b) k) (mpl k)) c1 r1) (by rw [sd_stN]; exact rfl) dX5_isOne_63 (fun H locs hP hD hS => ?_)
              refine lv_iinc (v := nI (sd_cnt (sd_bt b) k + 1)) (lv' := [(5, .int (nI (sd_cnt (sd_bt b) k + 1))), (6, .int (nI k)), (4, .int (nI b)), (0, .ref (am 0)), (1, .int (nI q)), (2, .int (nI t)), (3, .int (nI e9))]) hx hb dX5_isOne_64 hl (k := 1) rfl (nI_1 _) (by decide) rfl (fun ls hl => ?_)
              refine lv_iinc (v := nI (k + 1)) (lv' := [(6, .int (nI (k + 1))), (5, .int (nI (sd_cnt (sd_bt b) k + 1))), (4, .int (nI b)), (0, .ref (am 0)), (1, .int (nI q)), (2, .int (nI t)), (3, .int (nI e9))]) hx hb dX5_isOne_67 hl (k := 1) rfl (nI_1 _) (by decide) rfl (fun ls hl => ?_)
              refine lv_goto (tgt := 21) hx hb dX5_isOne_70 (by decide) ?_
              have hI9 : ∀ i, i < sd_cnt (sd_bt b) (k + 1) → i ≤ t → ∃ j, 1 ≤ j ∧ j ≤ (k + 1) ∧ sd_bt b j = true ∧ sd_cnt (sd_bt b) (j - 1) = i ∧ (sd_up ch2 (sd_cnt (sd_bt b) k) (mpl k)) i = mpl (j - 1) := by
                intro i h1 h2
                by_cases e8 : i = sd_cnt (sd_bt b) k
                · rw [e8, sd_up_s]
                  exact ⟨k + 1, by omega, Nat.le_refl _, hbt, by rw [Nat.add_sub_cancel], by rw [Nat.add_sub_cancel]⟩
                · rw [sd_up_n _ _ e8]
                  obtain ⟨j, j1, j2, j3⟩ := hI i (by omega) h2
                  exact ⟨j, j1, by omega, j3⟩
              exact ihB (k := k + 1) (ch2 := sd_up ch2 (sd_cnt (sd_bt b) k) (mpl k)) (hk := by omega) (hI := hI9) (H := H) (locs := locs) (hP := hP) (hD := hD) (hS := hS) (ls := ls) (hl := by rw [hc9]; exact (lv_sub hl [0, 1, 2, 3, 4, 5, 6] rfl)) (hk9 := by omega)
          · have hbt : sd_bt b (k + 1) = false := by
              unfold sd_bt
              rw [Nat.add_sub_cancel, hbk]
              exact decide_eq_false (fun z => by rw [z] at c5; exact absurd c5 (by decide))
            have hc9 := sd_cnt_f hbt
            refine lv_goto (tgt := 67) hx hb dX5_isOne_41 (by decide) ?_
            refine lv_iinc (v := nI (k + 1)) (lv' := [(6, .int (nI (k + 1))), (5, .int (nI (sd_cnt (sd_bt b) k))), (4, .int (nI b)), (0, .ref (am 0)), (1, .int (nI q)), (2, .int (nI t)), (3, .int (nI e9))]) hx hb dX5_isOne_67 hl (k := 0) rfl (nI_1 _) (by decide) rfl (fun ls hl => ?_)
            refine lv_goto (tgt := 21) hx hb dX5_isOne_70 (by decide) ?_
            exact ihB (k := k + 1) (ch2 := ch2) (hk := by omega) (hI := fun i h1 h2 => (hI i (by omega) h2).elim (fun j hj => ⟨j, hj.1, by omega, hj.2.2⟩)) (H := H) (locs := locs) (hP := hP) (hD := hD) (hS := hS) (ls := ls) (hl := by rw [hc9]; exact (lv_sub hl [0, 1, 2, 3, 4, 5, 6] rfl)) (hk9 := by omega)

set_option maxHeartbeats 1000000 in
set_option maxRecDepth 100000 in
theorem k_X5_raise (l : Launch) (D : va_G) {am : Nat → Nat} {tc : Nat → ClassId} {tn : Int32} {mdg msz : Nat → Nat} {msh : Nat → FP} {mth : Nat → Bool} {minv : Nat → FP} {isf : Bool} {fsp : Nat} {mfo : Nat → FP} {mwr : Nat → Bool} {mpl : Nat → Nat} {mny : Nat} {mch : Nat → Nat} {mcu mro : Nat → FP} (sz : Nat) (x : Int32)  : Met l yX5_raise (Cond.code yX5_raise cX5_raise 2 (some .int) :: bg) { frames := 0, cells := 0, slots := 0, locals := 0 } (sd_Wr D vwCl (ty5 tc) (mw am tc tn mdg msz msh mth minv isf fsp mfo mwr mpl mny mch mcu mro) sz [.ref (am 0), .int x]) (va_Qi (S := Unit) (fun r (u : Unit) => r = nI 0) (sd_B D vwCl (ty5 tc) (va_A (mw am tc tn mdg msz msh mth minv isf fsp mfo mwr mpl mny mch mcu mro) sz) (fun u => mw am tc x mdg msz msh mth minv isf fsp mfo mwr mpl mny mch mcu mro)) (va_A (mw am tc tn mdg msz msh mth minv isf fsp mfo mwr mpl mny mch mcu mro) sz)) 0 0 (va_A (mw am tc tn mdg msz msh mth minv isf fsp mfo mwr mpl mny mch mcu mro) sz) := by
  refine Met.ofW (cc := cX5_raise) (maxL := 2) (ret := some .int) (by decide) rfl ?_
  intro p e s m args below meth c s₁ B hml hv
  obtain ⟨rfl, hsz, hP, hK, hD0⟩ := hv
  have hx := B.exec
  have hb := B.bytes
  have hr := B.returns
  have hts := atoms_spec (ws := Cond.code yX5_raise cX5_raise 2 (some .int) :: bg) B.pre
  have hown : s.vm.findClass RX5 = some m.cls := findClass_of_methodNamed B.named
  have hlocks := B.notSynchronized
  subst hsz
  have hD := hD0.self (sz := s.heap.size)
  generalize hAe : va_A (mw am tc tn mdg msz msh mth minv isf fsp mfo mwr mpl mny mch mcu mro) s.heap.size = A at hD ⊢
  have hA : ∀ q : Nat, s.heap.size ≤ q → A q := fun q h => by rw [← hAe]; exact Or.inr h
  have hS : va_S A s.heap s.heap [] := va_S.rf
  have hl := lv_entry ([.ref (am 0), .int x]) (n := 2) (Nat.le_of_ble_eq_true rfl)
  rw [lg_entry_eq]
  generalize (lg_sl ([.ref (am 0), .int x]) ++ List.replicate (2 - (lg_sl ([.ref (am 0), .int x])).length) Slot.unset).toArray = ls at hl ⊢
  replace hl : lv_has ls 2 [(0, .ref (am 0)), (1, .int x)] := hl
  refine lv_aload_n hx hb dX5_raise_0 rfl (lv_at hl 0 rfl) ?_
  refine lv_iload_n hx hb dX5_raise_1 rfl (lv_at hl 1 rfl) ?_
  refine sd_put (ci := 5) (C := RX5) (T := TX5) (N := 15) hx hb hts (fun w h => mm (inX5 w h)) tyX5 tyX5_ok nmX5 hown hK hP hD hS 0 rfl rfl 0 (by decide) (hts _ (mm wf_X5_51)) rfl rfl rfl rfl (Nat.le_of_ble_eq_true rfl) rfl (ws2 := mw am tc x mdg msz msh mth minv isf fsp mfo mwr mpl mny mch mcu mro) (rfl) dX5_raise_2 (fun H locs hP hD hS => ?_)
  refine lv_iconst (v := nI 0) hx hb dX5_raise_5 (by decide) ?_
  exact W.iret hx hb hr (fun T9 hT9 hW => ⟨⟨_, (), rfl, rfl, by rw [hT9]; exact hP, va_K.moved hW.alike hK, hD⟩, hS.F hT9⟩) hS.2.2 dX5_raise_6

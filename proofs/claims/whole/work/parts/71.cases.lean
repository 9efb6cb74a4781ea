/-! the law's body, one case of its switch after the other -/
def sd_lo (x y : Int32) : Int64 := (x.toInt64 <<< ((nI 32).toInt64 &&& 63)) ||| (y.toInt64 &&& 4294967295)
def sd_LA (s : State) : Nat → Prop := fun q => s.heap.size ≤ q
def sd_LC (p : Program) (l : Launch) (s : State) (m : MethodId) (c : Code) (D : va_G) (tc : Nat → ClassId) (b L : Nat) (xs : Nat → Int32) : Prop :=
  p.tables.exec = Jvm.exec ∧ c.code = cL_law ∧ c.maxLocals = 8 ∧ s.vm.findClass RL = some m.cls ∧ (∀ w ∈ Cond.initialized RL :: bg, w.before #[Value.ref b] s = true) ∧ va_X b L xs s s.heap ∧ b < s.heap.size ∧ va_K D vwCl (ty5 tc) s ∧ sd_Ev s ∧ sd_Es (sd_LA s) s s.heap ∧ l.stackTraces = false
def sd_LI (D : va_G) (tc : Nat → ClassId) (ad am : Nat → Nat) (bo : Nat) (s : State) (u : DS) (w : MS) (f : Nat → Int64) (H : Heap) (locs : List Loc) : Prop :=
  va_P D vwCl (dwt ad tc u) H ∧ va_P D vwCl (mwt am tc w) H ∧ va_P D vwCl [oW tc bo f] H ∧ va_D (sd_LA s) (dwt ad tc u) ∧ va_D (sd_LA s) (mwt am tc w) ∧ va_D (sd_LA s) [oW tc bo f] ∧ sd_Ap (dwt ad tc u) (mwt am tc w) ∧ sd_Ap (dwt ad tc u) [oW tc bo f] ∧ sd_Ap (mwt am tc w) [oW tc bo f] ∧ va_S (sd_LA s) s.heap H locs
theorem sd_Ap_app {w1 w2 w3 : va_W} (h1 : sd_Ap w1 w3) (h2 : sd_Ap w2 w3) : sd_Ap (w1 ++ w2) w3 := fun i j p q hp hq e => by
  by_cases hi : i < w1.length
  · rw [List.getElem?_append_left hi] at hp
    exact h1 i j p q hp hq e
  · rw [List.getElem?_append_right (by omega)] at hp
    exact h2 _ j p q hp hq e
theorem sd_Ap_l {w1 w2 w3 : va_W} (h : sd_Ap (w1 ++ w2) w3) : sd_Ap w1 w3 := fun i j p q hp hq e => h i j p q (sd_al hp) hq e
theorem sd_Ap_r {w1 w2 w3 : va_W} (h : sd_Ap (w1 ++ w2) w3) : sd_Ap w2 w3 := fun i j p q hp hq e => h _ j p q (sd_ar hp) hq e
section
variable {p : Program} {l : Launch} {e : Env} {R : Room} {s : State} {m : MethodId} {args : Array Value} {below : List Frame} {meth : Method} {c : Code} {H H0 : Heap} {locs : List Loc} {cells slots : Nat} {Q : State → Prop} {A : Nat → Prop}
variable {cc : ByteArray} {pc : Nat} {ls : Array Slot} {rest : List Value} {own : String} {index n maxL mc ms : Nat} {y : MethodName} {bytes : ByteArray} {ret : Option FieldType} {rm : Room} {x : Cond} {hh : List (Nat × Nat × Nat × Nat)}
theorem sd_sld (hexec : p.tables.exec = Jvm.exec) (hb : c.code = cc) {b L : Nat} {xs : Nat → Int32} (hX : va_X b L xs s H0) (hbl : b < H0.size) (hbA : ¬ A b) (hS : va_S A H0 H locs) {j : Nat} (hj : j < L) (hL : L < 2 ^ 31) (hdg : decode cc pc = .ok (.iaload, 1))
    (kk : W p l e R s m args below meth c H locs cells slots Q (F0 m (pc + 1) ls (.int (xs j) :: rest))) : W p l e R s m args below meth c H locs cells slots Q (F0 m pc ls (.int (nI j) :: .ref b :: rest)) := by
  refine va_sld hexec hb hX hbl hbA hS (vp_in_nI hj hL) hdg ?_
  rw [nI_clamp (by omega)]
  exact kk
theorem sd_csw (ht : ∀ w ∈ x :: bg, w.before args s = true) (hcode : Cond.codeWith y bytes maxL ret hh ∈ bg) (hini : Cond.initialized y.cls ∈ bg) (hl : Cond.methodLink own index y ∈ bg) (hi : Cond.static y ∈ bg) (hd : sd_Nm y n) (hrc : rm.cells = mc) (hrs : rm.slots = ms) (hR : rm.frames + 1 ≤ R.frames ∧ 8 + (maxL + 11) + rm.locals ≤ R.locals) :
    vx_CSW R s args own index y bytes maxL ret hh (Cond.codeWith y bytes maxL ret hh :: bg) rm mc ms n := by
  refine ⟨⟨hrc, hrs, hR.1, hR.2, pay_in ht (sd_gi hcode), List.mem_cons_self⟩, ht _ (mm hcode), ht _ (mm hini), ⟨hd.1, hd.2.1⟩, fun sig h => ?_, ht _ (mm hl), ht _ (mm hi)⟩
  have h2 := hd.2.2
  rw [h] at h2
  exact (Option.some.inj h2).symm
end

set_option maxHeartbeats 1000000 in
set_option maxRecDepth 100000 in
theorem lw_case_0 {p : Program} {l : Launch} {e : Env} {s : State} {m : MethodId} {below : List Frame} {meth : Method} {c : Code} {D : va_G} {tc : Nat → ClassId} {ad am : Nat → Nat} {bo b L : Nat} {xs : Nat → Int32} {Q : State → Prop} (hC : sd_LC p l s m c D tc b L xs) {u : DS} {w : MS} {f : Nat → Int64} {H : Heap} {locs : List Loc} {ls : Array Slot} {cC sC i : Nat} (hR : sd_Rel u w) (hI : sd_LI D tc ad am bo s u w f H locs) (hl : lv_has ls 8 [(0, .ref b), (1, .ref (ad 0)), (2, .ref (am 0)), (3, .ref bo), (4, .int (nI i))]) (hi : i + 8 ≤ L) (hL : L ≤ 4096) (hcC : cC ≤ 600000) (hsC : sC ≤ 7000000)
    (K : ∀ (u : DS) (w : MS) (f : Nat → Int64) (H : Heap) (locs : List Loc) (ls : Array Slot) (c2 s2 : Nat), sd_Rel u w → sd_LI D tc ad am bo s u w f H locs → lv_has ls 8 [(0, .ref b), (1, .ref (ad 0)), (2, .ref (am 0)), (3, .ref bo), (4, .int (nI i))] → c2 ≤ cC + 1 → s2 ≤ sC + 6 → W p l e room_1 s m #[Value.ref b] below meth c H locs c2 s2 Q (F0 m 962 ls [])) : W p l e room_1 s m #[Value.ref b] below meth c H locs cC sC Q (F0 m 108 ls []) := by
  obtain ⟨hx, hb, hml, hown, hts, hX, hbl, hK, hEv, hEs, hl9⟩ := hC
  obtain ⟨hP1, hP2, hPo, hD1, hD2, hDo, hA12, hA1o, hA2o, hS⟩ := hI
  have hA : ∀ q : Nat, s.heap.size ≤ q → sd_LA s q := fun _ h => h
  have hbA : ¬ sd_LA s b := Nat.not_le.mpr hbl
  have hL9 : L < 2 ^ 31 := by omega
  refine lv_aload_n hx hb dL_law_108 rfl (lv_at hl 1 rfl) ?_
  refine lv_aload_n hx hb dL_law_109 rfl (lv_at hl 0 rfl) ?_
  refine lv_iload hx hb dL_law_110 (lv_at hl 4 rfl) ?_
  refine lv_iconst (v := nI 1) hx hb dL_law_112 (by decide) ?_
  refine sd_iadd hx hb dL_law_113 ?_
  refine sd_sld hx hb hX hbl hbA hS (j := i + 1) (by omega) hL9 dL_law_114 ?_
  refine lv_aload_n hx hb dL_law_115 rfl (lv_at hl 0 rfl) ?_
  refine lv_iload hx hb dL_law_116 (lv_at hl 4 rfl) ?_
  refine lv_iconst (v := nI 2) hx hb dL_law_118 (by decide) ?_
  refine sd_iadd hx hb dL_law_119 ?_
  refine sd_sld hx hb hX hbl hbA hS (j := i + 2) (by omega) hL9 dL_law_120 ?_
  refine lv_aload_n hx hb dL_law_121 rfl (lv_at hl 0 rfl) ?_
  refine lv_iload hx hb dL_law_122 (lv_at hl 4 rfl) ?_
  refine lv_iconst (v := nI 3) hx hb dL_law_124 (by decide) ?_
  refine sd_iadd hx hb dL_law_125 ?_
  refine sd_sld hx hb hX hbl hbA hS (j := i + 3) (by omega) hL9 dL_law_126 ?_
  refine lv_aload_n hx hb dL_law_127 rfl (lv_at hl 0 rfl) ?_
  refine lv_iload hx hb dL_law_128 (lv_at hl 4 rfl) ?_
  refine lv_iconst (v := nI 4) hx hb dL_law_130 (by decide) ?_
  refine sd_iadd hx hb dL_law_131 ?_
  refine sd_sld hx hb hX hbl hbA hS (j := i + 4) (by omega) hL9 dL_law_132 ?_
  refine lv_i2l (v := (xs (i + 4)).toInt64) hx hb dL_law_133 rfl ?_
  refine lv_bipush (v := nI 32) hx hb dL_law_134 (by decide) ?_
  refine lv_lshl (v := (xs (i + 4)).toInt64 <<< ((nI 32).toInt64 &&& 63)) hx hb dL_law_136 rfl ?_
  refine lv_aload_n hx hb dL_law_137 rfl (lv_at hl 0 rfl) ?_
  refine lv_iload hx hb dL_law_138 (lv_at hl 4 rfl) ?_
  refine lv_iconst (v := nI 5) hx hb dL_law_140 (by decide) ?_
  refine sd_iadd hx hb dL_law_141 ?_
  refine sd_sld hx hb hX hbl hbA hS (j := i + 5) (by omega) hL9 dL_law_142 ?_
  refine lv_i2l (v := (xs (i + 5)).toInt64) hx hb dL_law_143 rfl ?_
  refine lv_ldc2 (v := 4294967295) hx hb hown (hts _ (mm wl_L_35)) dL_law_144 ?_
  refine lv_land hx hb dL_law_147 ?_
  refine lv_lor hx hb dL_law_148 ?_
  refine sd_tol (y := sd_lo (xs (i + 4)) (xs (i + 5))) rfl ?_
  refine lv_aload_n hx hb dL_law_149 rfl (lv_at hl 0 rfl) ?_
  refine lv_iload hx hb dL_law_150 (lv_at hl 4 rfl) ?_
  refine lv_bipush (v := nI 6) hx hb dL_law_152 (by decide) ?_
  refine sd_iadd hx hb dL_law_154 ?_
  refine sd_sld hx hb hX hbl hbA hS (j := i + 6) (by omega) hL9 dL_law_155 ?_
  refine lv_i2l (v := (xs (i + 6)).toInt64) hx hb dL_law_156 rfl ?_
  refine lv_bipush (v := nI 32) hx hb dL_law_157 (by decide) ?_
  refine lv_lshl (v := (xs (i + 6)).toInt64 <<< ((nI 32).toInt64 &&& 63)) hx hb dL_law_159 rfl ?_
  refine lv_aload_n hx hb dL_law_160 rfl (lv_at hl 0 rfl) ?_
  refine lv_iload hx hb dL_law_161 (lv_at hl 4 rfl) ?_
  refine lv_bipush (v := nI 7) hx hb dL_law_163 (by decide) ?_
  refine sd_iadd hx hb dL_law_165 ?_
  refine sd_sld hx hb hX hbl hbA hS (j := i + 7) (by omega) hL9 dL_law_166 ?_
  refine lv_i2l (v := (xs (i + 7)).toInt64) hx hb dL_law_167 rfl ?_
  refine lv_ldc2 (v := 4294967295) hx hb hown (hts _ (mm wl_L_35)) dL_law_168 ?_
  refine lv_land hx hb dL_law_171 ?_
  refine lv_lor hx hb dL_law_172 ?_
  refine sd_tol (y := sd_lo (xs (i + 6)) (xs (i + 7))) rfl ?_
  refine sd_fi (va_runV (As := [.int (xs (i + 1)), .int (xs (i + 2)), .int (xs (i + 3)), .long (sd_lo (xs (i + 4)) (xs (i + 5))), .long (sd_lo (xs (i + 6)) (xs (i + 7)))]) (rest := []) ⟨hx, hb, hml, hown, hts⟩ (k_X4_deal l D _ (xs (i + 1)) (xs (i + 2)) (xs (i + 3)) (sd_lo (xs (i + 4)) (xs (i + 5))) (sd_lo (xs (i + 6)) (xs (i + 7))) (sd_R_ok hR)) (sd_cwV hts wd_X4_deal wn_X4 wm_L_37 wi_X4_deal ws_X4_deal nq_X4_deal rfl rfl ⟨Nat.le_of_ble_eq_true rfl, Nat.le_of_ble_eq_true rfl⟩) (sd_preVW hP1 hK hD1 (ci := 4) (q0 := 0) rfl rfl dw_desk) rfl rfl hl.1 rfl (lv_room (Nat.le_of_ble_eq_true rfl)) dL_law_173 ⟨show cC + 0 ≤ 601024 by omega, show sC + 0 ≤ 7293034 by omega⟩) hD1 hS hA (fun r1 u1 H locs hu1 hPn hDn hS hDs hk => ?_)
  have hA12n := sd_ka hP2 hA12 hDs
  have hAon := sd_ka hPo hA1o hDs
  replace hP2 := sd_kp hP2 hA12 hk
  replace hPo := sd_kp hPo hA1o hk
  replace hA12 := hA12n
  replace hA1o := hAon
  replace hP1 := hPn
  replace hD1 := hDn
  clear hPn hDn hDs hk hA12n hAon
  refine lv_aload_n hx hb dL_law_176 rfl (lv_at hl 2 rfl) ?_
  refine lv_aload_n hx hb dL_law_177 rfl (lv_at hl 0 rfl) ?_
  refine lv_iload hx hb dL_law_178 (lv_at hl 4 rfl) ?_
  refine lv_iconst (v := nI 1) hx hb dL_law_180 (by decide) ?_
  refine sd_iadd hx hb dL_law_181 ?_
  refine sd_sld hx hb hX hbl hbA hS (j := i + 1) (by omega) hL9 dL_law_182 ?_
  refine lv_aload_n hx hb dL_law_183 rfl (lv_at hl 0 rfl) ?_
  refine lv_iload hx hb dL_law_184 (lv_at hl 4 rfl) ?_
  refine lv_iconst (v := nI 2) hx hb dL_law_186 (by decide) ?_
  refine sd_iadd hx hb dL_law_187 ?_
  refine sd_sld hx hb hX hbl hbA hS (j := i + 2) (by omega) hL9 dL_law_188 ?_
  refine lv_aload_n hx hb dL_law_189 rfl (lv_at hl 0 rfl) ?_
  refine lv_iload hx hb dL_law_190 (lv_at hl 4 rfl) ?_
  refine lv_iconst (v := nI 3) hx hb dL_law_192 (by decide) ?_
  refine sd_iadd hx hb dL_law_193 ?_
  refine sd_sld hx hb hX hbl hbA hS (j := i + 3) (by omega) hL9 dL_law_194 ?_
  refine lv_aload_n hx hb dL_law_195 rfl (lv_at hl 0 rfl) ?_
  refine lv_iload hx hb dL_law_196 (lv_at hl 4 rfl) ?_
  refine lv_iconst (v := nI 4) hx hb dL_law_198 (by decide) ?_
  refine sd_iadd hx hb dL_law_199 ?_
  refine sd_sld hx hb hX hbl hbA hS (j := i + 4) (by omega) hL9 dL_law_200 ?_
  refine lv_i2l (v := (xs (i + 4)).toInt64) hx hb dL_law_201 rfl ?_
  refine lv_bipush (v := nI 32) hx hb dL_law_202 (by decide) ?_
  refine lv_lshl (v := (xs (i + 4)).toInt64 <<< ((nI 32).toInt64 &&& 63)) hx hb dL_law_204 rfl ?_
  refine lv_aload_n hx hb dL_law_205 rfl (lv_at hl 0 rfl) ?_
  refine lv_iload hx hb dL_law_206 (lv_at hl 4 rfl) ?_
  refine lv_iconst (v := nI 5) hx hb dL_law_208 (by decide) ?_
  refine sd_iadd hx hb dL_law_209 ?_
  refine sd_sld hx hb hX hbl hbA hS (j := i + 5) (by omega) hL9 dL_law_210 ?_
  refine lv_i2l (v := (xs (i + 5)).toInt64) hx hb dL_law_211 rfl ?_
  refine lv_ldc2 (v := 4294967295) hx hb hown (hts _ (mm wl_L_35)) dL_law_212 ?_
  refine lv_land hx hb dL_law_215 ?_
  refine lv_lor hx hb dL_law_216 ?_
  refine sd_tol (y := sd_lo (xs (i + 4)) (xs (i + 5))) rfl ?_
  refine lv_aload_n hx hb dL_law_217 rfl (lv_at hl 0 rfl) ?_
  refine lv_iload hx hb dL_law_218 (lv_at hl 4 rfl) ?_
  refine lv_bipush (v := nI 6) hx hb dL_law_220 (by decide) ?_
  refine sd_iadd hx hb dL_law_222 ?_
  refine sd_sld hx hb hX hbl hbA hS (j := i + 6) (by omega) hL9 dL_law_223 ?_
  refine lv_i2l (v := (xs (i + 6)).toInt64) hx hb dL_law_224 rfl ?_
  refine lv_bipush (v := nI 32) hx hb dL_law_225 (by decide) ?_
  refine lv_lshl (v := (xs (i + 6)).toInt64 <<< ((nI 32).toInt64 &&& 63)) hx hb dL_law_227 rfl ?_
  refine lv_aload_n hx hb dL_law_228 rfl (lv_at hl 0 rfl) ?_
  refine lv_iload hx hb dL_law_229 (lv_at hl 4 rfl) ?_
  refine lv_bipush (v := nI 7) hx hb dL_law_231 (by decide) ?_
  refine sd_iadd hx hb dL_law_233 ?_
  refine sd_sld hx hb hX hbl hbA hS (j := i + 7) (by omega) hL9 dL_law_234 ?_
  refine lv_i2l (v := (xs (i + 7)).toInt64) hx hb dL_law_235 rfl ?_
  refine lv_ldc2 (v := 4294967295) hx hb hown (hts _ (mm wl_L_35)) dL_law_236 ?_
  refine lv_land hx hb dL_law_239 ?_
  refine lv_lor hx hb dL_law_240 ?_
  refine sd_tol (y := sd_lo (xs (i + 6)) (xs (i + 7))) rfl ?_
  refine sd_fi (va_runV (As := [.int (xs (i + 1)), .int (xs (i + 2)), .int (xs (i + 3)), .long (sd_lo (xs (i + 4)) (xs (i + 5))), .long (sd_lo (xs (i + 6)) (xs (i + 7)))]) (rest := [.int r1]) ⟨hx, hb, hml, hown, hts⟩ (k_X5_deal l D _ (xs (i + 1)) (xs (i + 2)) (xs (i + 3)) (sd_lo (xs (i + 4)) (xs (i + 5))) (sd_lo (xs (i + 6)) (xs (i + 7))) (sd_R_okm hR)) (sd_cwV hts wd_X5_deal wn_X5 wm_L_41 wi_X5_deal ws_X5_deal nq_X5_deal rfl rfl ⟨Nat.le_of_ble_eq_true rfl, Nat.le_of_ble_eq_true rfl⟩) (sd_preVW hP2 hK hD2 (ci := 5) (q0 := 0) rfl rfl rfl) rfl rfl hl.1 rfl (lv_room (Nat.le_of_ble_eq_true rfl)) dL_law_241 ⟨show cC + 0 + 0 ≤ 601024 by omega, show sC + 0 + 0 ≤ 7293034 by omega⟩) hD2 hS hA (fun r2 w1 H locs hw1 hPn hDn hS hDs hk => ?_)
  have hA12n := sd_ka hP1 hA12.symm hDs
  have hAon := sd_ka hPo hA2o hDs
  replace hP1 := sd_kp hP1 hA12.symm hk
  replace hPo := sd_kp hPo hA2o hk
  replace hA12 := hA12n.symm
  replace hA2o := hAon
  replace hP2 := hPn
  replace hD2 := hDn
  clear hPn hDn hDs hk hA12n hAon
  have hT := T_deal hR hu1 hw1.2
  refine lv_icmp_eq (tgt := 962) hx hb dL_law_244 (by decide) (fun c1 => ?_) (fun c1 => ?_)
  · exact K u1 w1 f H locs ls _ _ hT.2 ⟨hP1, hP2, hPo, hD1, hD2, hDo, hA12, hA1o, hA2o, hS⟩ (lv_sub hl [0, 1, 2, 3, 4] rfl) (by omega) (by omega)
  · exact absurd hT.1 c1

set_option maxHeartbeats 1000000 in
set_option maxRecDepth 100000 in
theorem lw_case_1 {p : Program} {l : Launch} {e : Env} {s : State} {m : MethodId} {below : List Frame} {meth : Method} {c : Code} {D : va_G} {tc : Nat → ClassId} {ad am : Nat → Nat} {bo b L : Nat} {xs : Nat → Int32} {Q : State → Prop} (hC : sd_LC p l s m c D tc b L xs) {u : DS} {w : MS} {f : Nat → Int64} {H : Heap} {locs : List Loc} {ls : Array Slot} {cC sC i : Nat} (hR : sd_Rel u w) (hI : sd_LI D tc ad am bo s u w f H locs) (hl : lv_has ls 8 [(0, .ref b), (1, .ref (ad 0)), (2, .ref (am 0)), (3, .ref bo), (4, .int (nI i))]) (hi : i + 8 ≤ L) (hL : L ≤ 4096) (hcC : cC ≤ 600000) (hsC : sC ≤ 7000000)
    (K : ∀ (u : DS) (w : MS) (f : Nat → Int64) (H : Heap) (locs : List Loc) (ls : Array Slot) (c2 s2 : Nat), sd_Rel u w → sd_LI D tc ad am bo s u w f H locs → lv_has ls 8 [(0, .ref b), (1, .ref (ad 0)), (2, .ref (am 0)), (3, .ref bo), (4, .int (nI i))] → c2 ≤ cC + 1 → s2 ≤ sC + 6 → W p l e room_1 s m #[Value.ref b] below meth c H locs c2 s2 Q (F0 m 962 ls [])) : W p l e room_1 s m #[Value.ref b] below meth c H locs cC sC Q (F0 m 249 ls []) := by
  obtain ⟨hx, hb, hml, hown, hts, hX, hbl, hK, hEv, hEs, hl9⟩ := hC
  obtain ⟨hP1, hP2, hPo, hD1, hD2, hDo, hA12, hA1o, hA2o, hS⟩ := hI
  have hA : ∀ q : Nat, s.heap.size ≤ q → sd_LA s q := fun _ h => h
  have hbA : ¬ sd_LA s b := Nat.not_le.mpr hbl
  have hL9 : L < 2 ^ 31 := by omega
  refine lv_aload_n hx hb dL_law_249 rfl (lv_at hl 1 rfl) ?_
  refine lv_aload_n hx hb dL_law_250 rfl (lv_at hl 0 rfl) ?_
  refine lv_iload hx hb dL_law_251 (lv_at hl 4 rfl) ?_
  refine lv_iconst (v := nI 1) hx hb dL_law_253 (by decide) ?_
  refine sd_iadd hx hb dL_law_254 ?_
  refine sd_sld hx hb hX hbl hbA hS (j := i + 1) (by omega) hL9 dL_law_255 ?_
  refine lv_aload_n hx hb dL_law_256 rfl (lv_at hl 0 rfl) ?_
  refine lv_iload hx hb dL_law_257 (lv_at hl 4 rfl) ?_
  refine lv_iconst (v := nI 2) hx hb dL_law_259 (by decide) ?_
  refine sd_iadd hx hb dL_law_260 ?_
  refine sd_sld hx hb hX hbl hbA hS (j := i + 2) (by omega) hL9 dL_law_261 ?_
  refine lv_aload_n hx hb dL_law_262 rfl (lv_at hl 0 rfl) ?_
  refine lv_iload hx hb dL_law_263 (lv_at hl 4 rfl) ?_
  refine lv_iconst (v := nI 3) hx hb dL_law_265 (by decide) ?_
  refine sd_iadd hx hb dL_law_266 ?_
  refine sd_sld hx hb hX hbl hbA hS (j := i + 3) (by omega) hL9 dL_law_267 ?_
  refine lv_i2l (v := (xs (i + 3)).toInt64) hx hb dL_law_268 rfl ?_
  refine lv_bipush (v := nI 32) hx hb dL_law_269 (by decide) ?_
  refine lv_lshl (v := (xs (i + 3)).toInt64 <<< ((nI 32).toInt64 &&& 63)) hx hb dL_law_271 rfl ?_
  refine lv_aload_n hx hb dL_law_272 rfl (lv_at hl 0 rfl) ?_
  refine lv_iload hx hb dL_law_273 (lv_at hl 4 rfl) ?_
  refine lv_iconst (v := nI 4) hx hb dL_law_275 (by decide) ?_
  refine sd_iadd hx hb dL_law_276 ?_
  refine sd_sld hx hb hX hbl hbA hS (j := i + 4) (by omega) hL9 dL_law_277 ?_
  refine lv_i2l (v := (xs (i + 4)).toInt64) hx hb dL_law_278 rfl ?_
  refine lv_ldc2 (v := 4294967295) hx hb hown (hts _ (mm wl_L_35)) dL_law_279 ?_
  refine lv_land hx hb dL_law_282 ?_
  refine lv_lor hx hb dL_law_283 ?_
  refine sd_tol (y := sd_lo (xs (i + 3)) (xs (i + 4))) rfl ?_
  refine sd_fi (va_runV (As := [.int (xs (i + 1)), .int (xs (i + 2)), .long (sd_lo (xs (i + 3)) (xs (i + 4)))]) (rest := []) ⟨hx, hb, hml, hown, hts⟩ (k_X4_put l D _ (xs (i + 1)) (xs (i + 2)) (sd_lo (xs (i + 3)) (xs (i + 4))) (sd_R_ok hR)) (sd_cwV hts wd_X4_put wn_X4 wm_L_42 wi_X4_put ws_X4_put nq_X4_put rfl rfl ⟨Nat.le_of_ble_eq_true rfl, Nat.le_of_ble_eq_true rfl⟩) (sd_preVW hP1 hK hD1 (ci := 4) (q0 := 0) rfl rfl dw_desk) rfl rfl hl.1 rfl (lv_room (Nat.le_of_ble_eq_true rfl)) dL_law_284 ⟨show cC + 0 ≤ 601024 by omega, show sC + 0 ≤ 7293034 by omega⟩) hD1 hS hA (fun r1 u1 H locs hu1 hPn hDn hS hDs hk => ?_)
  have hA12n := sd_ka hP2 hA12 hDs
  have hAon := sd_ka hPo hA1o hDs
  replace hP2 := sd_kp hP2 hA12 hk
  replace hPo := sd_kp hPo hA1o hk
  replace hA12 := hA12n
  replace hA1o := hAon
  replace hP1 := hPn
  replace hD1 := hDn
  clear hPn hDn hDs hk hA12n hAon
  refine lv_aload_n hx hb dL_law_287 rfl (lv_at hl 2 rfl) ?_
  refine lv_aload_n hx hb dL_law_288 rfl (lv_at hl 0 rfl) ?_
  refine lv_iload hx hb dL_law_289 (lv_at hl 4 rfl) ?_
  refine lv_iconst (v := nI 1) hx hb dL_law_291 (by decide) ?_
  refine sd_iadd hx hb dL_law_292 ?_
  refine sd_sld hx hb hX hbl hbA hS (j := i + 1) (by omega) hL9 dL_law_293 ?_
  refine lv_aload_n hx hb dL_law_294 rfl (lv_at hl 0 rfl) ?_
  refine lv_iload hx hb dL_law_295 (lv_at hl 4 rfl) ?_
  refine lv_iconst (v := nI 2) hx hb dL_law_297 (by decide) ?_
  refine sd_iadd hx hb dL_law_298 ?_
  refine sd_sld hx hb hX hbl hbA hS (j := i + 2) (by omega) hL9 dL_law_299 ?_
  refine lv_aload_n hx hb dL_law_300 rfl (lv_at hl 0 rfl) ?_
  refine lv_iload hx hb dL_law_301 (lv_at hl 4 rfl) ?_
  refine lv_iconst (v := nI 3) hx hb dL_law_303 (by decide) ?_
  refine sd_iadd hx hb dL_law_304 ?_
  refine sd_sld hx hb hX hbl hbA hS (j := i + 3) (by omega) hL9 dL_law_305 ?_
  refine lv_i2l (v := (xs (i + 3)).toInt64) hx hb dL_law_306 rfl ?_
  refine lv_bipush (v := nI 32) hx hb dL_law_307 (by decide) ?_
  refine lv_lshl (v := (xs (i + 3)).toInt64 <<< ((nI 32).toInt64 &&& 63)) hx hb dL_law_309 rfl ?_
  refine lv_aload_n hx hb dL_law_310 rfl (lv_at hl 0 rfl) ?_
  refine lv_iload hx hb dL_law_311 (lv_at hl 4 rfl) ?_
  refine lv_iconst (v := nI 4) hx hb dL_law_313 (by decide) ?_
  refine sd_iadd hx hb dL_law_314 ?_
  refine sd_sld hx hb hX hbl hbA hS (j := i + 4) (by omega) hL9 dL_law_315 ?_
  refine lv_i2l (v := (xs (i + 4)).toInt64) hx hb dL_law_316 rfl ?_
  refine lv_ldc2 (v := 4294967295) hx hb hown (hts _ (mm wl_L_35)) dL_law_317 ?_
  refine lv_land hx hb dL_law_320 ?_
  refine lv_lor hx hb dL_law_321 ?_
  refine sd_tol (y := sd_lo (xs (i + 3)) (xs (i + 4))) rfl ?_
  refine sd_fi (va_runV (As := [.int (xs (i + 1)), .int (xs (i + 2)), .long (sd_lo (xs (i + 3)) (xs (i + 4)))]) (rest := [.int r1]) ⟨hx, hb, hml, hown, hts⟩ (k_X5_put l D _ (xs (i + 1)) (xs (i + 2)) (sd_lo (xs (i + 3)) (xs (i + 4))) (sd_R_okm hR)) (sd_cwV hts wd_X5_put wn_X5 wm_L_46 wi_X5_put ws_X5_put nq_X5_put rfl rfl ⟨Nat.le_of_ble_eq_true rfl, Nat.le_of_ble_eq_true rfl⟩) (sd_preVW hP2 hK hD2 (ci := 5) (q0 := 0) rfl rfl rfl) rfl rfl hl.1 rfl (lv_room (Nat.le_of_ble_eq_true rfl)) dL_law_322 ⟨show cC + 0 + 0 ≤ 601024 by omega, show sC + 0 + 0 ≤ 7293034 by omega⟩) hD2 hS hA (fun r2 w1 H locs hw1 hPn hDn hS hDs hk => ?_)
  have hA12n := sd_ka hP1 hA12.symm hDs
  have hAon := sd_ka hPo hA2o hDs
  replace hP1 := sd_kp hP1 hA12.symm hk
  replace hPo := sd_kp hPo hA2o hk
  replace hA12 := hA12n.symm
  replace hA2o := hAon
  replace hP2 := hPn
  replace hD2 := hDn
  clear hPn hDn hDs hk hA12n hAon
  have hT := T_put hR hu1 hw1.2
  refine lv_icmp_eq (tgt := 962) hx hb dL_law_325 (by decide) (fun c1 => ?_) (fun c1 => ?_)
  · exact K u1 w1 f H locs ls _ _ hT.2 ⟨hP1, hP2, hPo, hD1, hD2, hDo, hA12, hA1o, hA2o, hS⟩ (lv_sub hl [0, 1, 2, 3, 4] rfl) (by omega) (by omega)
  · exact absurd hT.1 c1

set_option maxHeartbeats 1000000 in
set_option maxRecDepth 100000 in
theorem lw_case_2 {p : Program} {l : Launch} {e : Env} {s : State} {m : MethodId} {below : List Frame} {meth : Method} {c : Code} {D : va_G} {tc : Nat → ClassId} {ad am : Nat → Nat} {bo b L : Nat} {xs : Nat → Int32} {Q : State → Prop} (hC : sd_LC p l s m c D tc b L xs) {u : DS} {w : MS} {f : Nat → Int64} {H : Heap} {locs : List Loc} {ls : Array Slot} {cC sC i : Nat} (hR : sd_Rel u w) (hI : sd_LI D tc ad am bo s u w f H locs) (hl : lv_has ls 8 [(0, .ref b), (1, .ref (ad 0)), (2, .ref (am 0)), (3, .ref bo), (4, .int (nI i))]) (hi : i + 8 ≤ L) (hL : L ≤ 4096) (hcC : cC ≤ 600000) (hsC : sC ≤ 7000000)
    (K : ∀ (u : DS) (w : MS) (f : Nat → Int64) (H : Heap) (locs : List Loc) (ls : Array Slot) (c2 s2 : Nat), sd_Rel u w → sd_LI D tc ad am bo s u w f H locs → lv_has ls 8 [(0, .ref b), (1, .ref (ad 0)), (2, .ref (am 0)), (3, .ref bo), (4, .int (nI i))] → c2 ≤ cC + 1 → s2 ≤ sC + 6 → W p l e room_1 s m #[Value.ref b] below meth c H locs c2 s2 Q (F0 m 962 ls [])) : W p l e room_1 s m #[Value.ref b] below meth c H locs cC sC Q (F0 m 330 ls []) := by
  obtain ⟨hx, hb, hml, hown, hts, hX, hbl, hK, hEv, hEs, hl9⟩ := hC
  obtain ⟨hP1, hP2, hPo, hD1, hD2, hDo, hA12, hA1o, hA2o, hS⟩ := hI
  have hA : ∀ q : Nat, s.heap.size ≤ q → sd_LA s q := fun _ h => h
  have hbA : ¬ sd_LA s b := Nat.not_le.mpr hbl
  have hL9 : L < 2 ^ 31 := by omega
  refine lv_aload_n hx hb dL_law_330 rfl (lv_at hl 1 rfl) ?_
  refine lv_aload_n hx hb dL_law_331 rfl (lv_at hl 0 rfl) ?_
  refine lv_iload hx hb dL_law_332 (lv_at hl 4 rfl) ?_
  refine lv_iconst (v := nI 1) hx hb dL_law_334 (by decide) ?_
  refine sd_iadd hx hb dL_law_335 ?_
  refine sd_sld hx hb hX hbl hbA hS (j := i + 1) (by omega) hL9 dL_law_336 ?_
  refine lv_aload_n hx hb dL_law_337 rfl (lv_at hl 0 rfl) ?_
  refine lv_iload hx hb dL_law_338 (lv_at hl 4 rfl) ?_
  refine lv_iconst (v := nI 2) hx hb dL_law_340 (by decide) ?_
  refine sd_iadd hx hb dL_law_341 ?_
  refine sd_sld hx hb hX hbl hbA hS (j := i + 2) (by omega) hL9 dL_law_342 ?_
  refine sd_fi (va_runV (As := [.int (xs (i + 1)), .int (xs (i + 2))]) (rest := []) ⟨hx, hb, hml, hown, hts⟩ (k_X4_lose l D _ (xs (i + 1)) (xs (i + 2)) (sd_R_ok hR)) (sd_cwV hts wd_X4_lose wn_X4 wm_L_47 wi_X4_lose ws_X4_lose nq_X4_lose rfl rfl ⟨Nat.le_of_ble_eq_true rfl, Nat.le_of_ble_eq_true rfl⟩) (sd_preVW hP1 hK hD1 (ci := 4) (q0 := 0) rfl rfl dw_desk) rfl rfl hl.1 rfl (lv_room (Nat.le_of_ble_eq_true rfl)) dL_law_343 ⟨show cC + 0 ≤ 601024 by omega, show sC + 0 ≤ 7293034 by omega⟩) hD1 hS hA (fun r1 u1 H locs hu1 hPn hDn hS hDs hk => ?_)
  have hA12n := sd_ka hP2 hA12 hDs
  have hAon := sd_ka hPo hA1o hDs
  replace hP2 := sd_kp hP2 hA12 hk
  replace hPo := sd_kp hPo hA1o hk
  replace hA12 := hA12n
  replace hA1o := hAon
  replace hP1 := hPn
  replace hD1 := hDn
  clear hPn hDn hDs hk hA12n hAon
  refine lv_aload_n hx hb dL_law_346 rfl (lv_at hl 2 rfl) ?_
  refine lv_aload_n hx hb dL_law_347 rfl (lv_at hl 0 rfl) ?_
  refine lv_iload hx hb dL_law_348 (lv_at hl 4 rfl) ?_
  refine lv_iconst (v := nI 1) hx hb dL_law_350 (by decide) ?_
  refine sd_iadd hx hb dL_law_351 ?_
  refine sd_sld hx hb hX hbl hbA hS (j := i + 1) (by omega) hL9 dL_law_352 ?_
  refine lv_aload_n hx hb dL_law_353 rfl (lv_at hl 0 rfl) ?_
  refine lv_iload hx hb dL_law_354 (lv_at hl 4 rfl) ?_
  refine lv_iconst (v := nI 2) hx hb dL_law_356 (by decide) ?_
  refine sd_iadd hx hb dL_law_357 ?_
  refine sd_sld hx hb hX hbl hbA hS (j := i + 2) (by omega) hL9 dL_law_358 ?_
  refine sd_fi (va_runV (As := [.int (xs (i + 1)), .int (xs (i + 2))]) (rest := [.int r1]) ⟨hx, hb, hml, hown, hts⟩ (k_X5_lose l D _ (xs (i + 1)) (xs (i + 2)) (sd_R_okm hR)) (sd_cwV hts wd_X5_lose wn_X5 wm_L_51 wi_X5_lose ws_X5_lose nq_X5_lose rfl rfl ⟨Nat.le_of_ble_eq_true rfl, Nat.le_of_ble_eq_true rfl⟩) (sd_preVW hP2 hK hD2 (ci := 5) (q0 := 0) rfl rfl rfl) rfl rfl hl.1 rfl (lv_room (Nat.le_of_ble_eq_true rfl)) dL_law_359 ⟨show cC + 0 + 0 ≤ 601024 by omega, show sC + 0 + 0 ≤ 7293034 by omega⟩) hD2 hS hA (fun r2 w1 H locs hw1 hPn hDn hS hDs hk => ?_)
  have hA12n := sd_ka hP1 hA12.symm hDs
  have hAon := sd_ka hPo hA2o hDs
  replace hP1 := sd_kp hP1 hA12.symm hk
  replace hPo := sd_kp hPo hA2o hk
  replace hA12 := hA12n.symm
  replace hA2o := hAon
  replace hP2 := hPn
  replace hD2 := hDn
  clear hPn hDn hDs hk hA12n hAon
  have hT := T_lose hR hu1 hw1.2
  refine lv_icmp_eq (tgt := 962) hx hb dL_law_362 (by decide) (fun c1 => ?_) (fun c1 => ?_)
  · exact K u1 w1 f H locs ls _ _ hT.2 ⟨hP1, hP2, hPo, hD1, hD2, hDo, hA12, hA1o, hA2o, hS⟩ (lv_sub hl [0, 1, 2, 3, 4] rfl) (by omega) (by omega)
  · exact absurd hT.1 c1

set_option maxHeartbeats 1000000 in
set_option maxRecDepth 100000 in
theorem lw_case_3 {p : Program} {l : Launch} {e : Env} {s : State} {m : MethodId} {below : List Frame} {meth : Method} {c : Code} {D : va_G} {tc : Nat → ClassId} {ad am : Nat → Nat} {bo b L : Nat} {xs : Nat → Int32} {Q : State → Prop} (hC : sd_LC p l s m c D tc b L xs) {u : DS} {w : MS} {f : Nat → Int64} {H : Heap} {locs : List Loc} {ls : Array Slot} {cC sC i : Nat} (hR : sd_Rel u w) (hI : sd_LI D tc ad am bo s u w f H locs) (hl : lv_has ls 8 [(0, .ref b), (1, .ref (ad 0)), (2, .ref (am 0)), (3, .ref bo), (4, .int (nI i))]) (hi : i + 8 ≤ L) (hL : L ≤ 4096) (hcC : cC ≤ 600000) (hsC : sC ≤ 7000000)
    (K : ∀ (u : DS) (w : MS) (f : Nat → Int64) (H : Heap) (locs : List Loc) (ls : Array Slot) (c2 s2 : Nat), sd_Rel u w → sd_LI D tc ad am bo s u w f H locs → lv_has ls 8 [(0, .ref b), (1, .ref (ad 0)), (2, .ref (am 0)), (3, .ref bo), (4, .int (nI i))] → c2 ≤ cC + 1 → s2 ≤ sC + 6 → W p l e room_1 s m #[Value.ref b] below meth c H locs c2 s2 Q (F0 m 962 ls [])) : W p l e room_1 s m #[Value.ref b] below meth c H locs cC sC Q (F0 m 367 ls []) := by
  obtain ⟨hx, hb, hml, hown, hts, hX, hbl, hK, hEv, hEs, hl9⟩ := hC
  obtain ⟨hP1, hP2, hPo, hD1, hD2, hDo, hA12, hA1o, hA2o, hS⟩ := hI
  have hA : ∀ q : Nat, s.heap.size ≤ q → sd_LA s q := fun _ h => h
  have hbA : ¬ sd_LA s b := Nat.not_le.mpr hbl
  have hL9 : L < 2 ^ 31 := by omega
  refine lv_aload_n hx hb dL_law_367 rfl (lv_at hl 1 rfl) ?_
  refine lv_aload_n hx hb dL_law_368 rfl (lv_at hl 0 rfl) ?_
  refine lv_iload hx hb dL_law_369 (lv_at hl 4 rfl) ?_
  refine lv_iconst (v := nI 1) hx hb dL_law_371 (by decide) ?_
  refine sd_iadd hx hb dL_law_372 ?_
  refine sd_sld hx hb hX hbl hbA hS (j := i + 1) (by omega) hL9 dL_law_373 ?_
  refine lv_aload_n hx hb dL_law_374 rfl (lv_at hl 0 rfl) ?_
  refine lv_iload hx hb dL_law_375 (lv_at hl 4 rfl) ?_
  refine lv_iconst (v := nI 2) hx hb dL_law_377 (by decide) ?_
  refine sd_iadd hx hb dL_law_378 ?_
  refine sd_sld hx hb hX hbl hbA hS (j := i + 2) (by omega) hL9 dL_law_379 ?_
  refine lv_aload_n hx hb dL_law_380 rfl (lv_at hl 0 rfl) ?_
  refine lv_iload hx hb dL_law_381 (lv_at hl 4 rfl) ?_
  refine lv_iconst (v := nI 3) hx hb dL_law_383 (by decide) ?_
  refine sd_iadd hx hb dL_law_384 ?_
  refine sd_sld hx hb hX hbl hbA hS (j := i + 3) (by omega) hL9 dL_law_385 ?_
  refine lv_aload_n hx hb dL_law_386 rfl (lv_at hl 0 rfl) ?_
  refine lv_iload hx hb dL_law_387 (lv_at hl 4 rfl) ?_
  refine lv_iconst (v := nI 4) hx hb dL_law_389 (by decide) ?_
  refine sd_iadd hx hb dL_law_390 ?_
  refine sd_sld hx hb hX hbl hbA hS (j := i + 4) (by omega) hL9 dL_law_391 ?_
  refine sd_fi (va_runV (As := [.int (xs (i + 1)), .int (xs (i + 2)), .int (xs (i + 3)), .int (xs (i + 4))]) (rest := []) ⟨hx, hb, hml, hown, hts⟩ (k_X4_join l D _ (xs (i + 1)) (xs (i + 2)) (xs (i + 3)) (xs (i + 4)) (sd_R_ok hR)) (sd_cwV hts wd_X4_join wn_X4 wm_L_52 wi_X4_join ws_X4_join nq_X4_join rfl rfl ⟨Nat.le_of_ble_eq_true rfl, Nat.le_of_ble_eq_true rfl⟩) (sd_preVW hP1 hK hD1 (ci := 4) (q0 := 0) rfl rfl dw_desk) rfl rfl hl.1 rfl (lv_room (Nat.le_of_ble_eq_true rfl)) dL_law_392 ⟨show cC + 0 ≤ 601024 by omega, show sC + 0 ≤ 7293034 by omega⟩) hD1 hS hA (fun r1 u1 H locs hu1 hPn hDn hS hDs hk => ?_)
  have hA12n := sd_ka hP2 hA12 hDs
  have hAon := sd_ka hPo hA1o hDs
  replace hP2 := sd_kp hP2 hA12 hk
  replace hPo := sd_kp hPo hA1o hk
  replace hA12 := hA12n
  replace hA1o := hAon
  replace hP1 := hPn
  replace hD1 := hDn
  clear hPn hDn hDs hk hA12n hAon
  refine lv_aload_n hx hb dL_law_395 rfl (lv_at hl 2 rfl) ?_
  refine lv_aload_n hx hb dL_law_396 rfl (lv_at hl 0 rfl) ?_
  refine lv_iload hx hb dL_law_397 (lv_at hl 4 rfl) ?_
  refine lv_iconst (v := nI 1) hx hb dL_law_399 (by decide) ?_
  refine sd_iadd hx hb dL_law_400 ?_
  refine sd_sld hx hb hX hbl hbA hS (j := i + 1) (by omega) hL9 dL_law_401 ?_
  refine lv_aload_n hx hb dL_law_402 rfl (lv_at hl 0 rfl) ?_
  refine lv_iload hx hb dL_law_403 (lv_at hl 4 rfl) ?_
  refine lv_iconst (v := nI 2) hx hb dL_law_405 (by decide) ?_
  refine sd_iadd hx hb dL_law_406 ?_
  refine sd_sld hx hb hX hbl hbA hS (j := i + 2) (by omega) hL9 dL_law_407 ?_
  refine lv_aload_n hx hb dL_law_408 rfl (lv_at hl 0 rfl) ?_
  refine lv_iload hx hb dL_law_409 (lv_at hl 4 rfl) ?_
  refine lv_iconst (v := nI 3) hx hb dL_law_411 (by decide) ?_
  refine sd_iadd hx hb dL_law_412 ?_
  refine sd_sld hx hb hX hbl hbA hS (j := i + 3) (by omega) hL9 dL_law_413 ?_
  refine lv_aload_n hx hb dL_law_414 rfl (lv_at hl 0 rfl) ?_
  refine lv_iload hx hb dL_law_415 (lv_at hl 4 rfl) ?_
  refine lv_iconst (v := nI 4) hx hb dL_law_417 (by decide) ?_
  refine sd_iadd hx hb dL_law_418 ?_
  refine sd_sld hx hb hX hbl hbA hS (j := i + 4) (by omega) hL9 dL_law_419 ?_
  refine sd_fi (va_runV (As := [.int (xs (i + 1)), .int (xs (i + 2)), .int (xs (i + 3)), .int (xs (i + 4))]) (rest := [.int r1]) ⟨hx, hb, hml, hown, hts⟩ (k_X5_join l D _ (xs (i + 1)) (xs (i + 2)) (xs (i + 3)) (xs (i + 4)) (sd_R_okm hR)) (sd_cwV hts wd_X5_join wn_X5 wm_L_56 wi_X5_join ws_X5_join nq_X5_join rfl rfl ⟨Nat.le_of_ble_eq_true rfl, Nat.le_of_ble_eq_true rfl⟩) (sd_preVW hP2 hK hD2 (ci := 5) (q0 := 0) rfl rfl rfl) rfl rfl hl.1 rfl (lv_room (Nat.le_of_ble_eq_true rfl)) dL_law_420 ⟨show cC + 0 + 0 ≤ 601024 by omega, show sC + 0 + 0 ≤ 7293034 by omega⟩) hD2 hS hA (fun r2 w1 H locs hw1 hPn hDn hS hDs hk => ?_)
  have hA12n := sd_ka hP1 hA12.symm hDs
  have hAon := sd_ka hPo hA2o hDs
  replace hP1 := sd_kp hP1 hA12.symm hk
  replace hPo := sd_kp hPo hA2o hk
  replace hA12 := hA12n.symm
  replace hA2o := hAon
  replace hP2 := hPn
  replace hD2 := hDn
  clear hPn hDn hDs hk hA12n hAon
  have hT := T_join hR hu1 hw1.2
  refine lv_icmp_eq (tgt := 962) hx hb dL_law_423 (by decide) (fun c1 => ?_) (fun c1 => ?_)
  · exact K u1 w1 f H locs ls _ _ hT.2 ⟨hP1, hP2, hPo, hD1, hD2, hDo, hA12, hA1o, hA2o, hS⟩ (lv_sub hl [0, 1, 2, 3, 4] rfl) (by omega) (by omega)
  · exact absurd hT.1 c1

set_option maxHeartbeats 1000000 in
set_option maxRecDepth 100000 in
theorem lw_case_4 {p : Program} {l : Launch} {e : Env} {s : State} {m : MethodId} {below : List Frame} {meth : Method} {c : Code} {D : va_G} {tc : Nat → ClassId} {ad am : Nat → Nat} {bo b L : Nat} {xs : Nat → Int32} {Q : State → Prop} (hC : sd_LC p l s m c D tc b L xs) {u : DS} {w : MS} {f : Nat → Int64} {H : Heap} {locs : List Loc} {ls : Array Slot} {cC sC i : Nat} (hR : sd_Rel u w) (hI : sd_LI D tc ad am bo s u w f H locs) (hl : lv_has ls 8 [(0, .ref b), (1, .ref (ad 0)), (2, .ref (am 0)), (3, .ref bo), (4, .int (nI i))]) (hi : i + 8 ≤ L) (hL : L ≤ 4096) (hcC : cC ≤ 600000) (hsC : sC ≤ 7000000)
    (K : ∀ (u : DS) (w : MS) (f : Nat → Int64) (H : Heap) (locs : List Loc) (ls : Array Slot) (c2 s2 : Nat), sd_Rel u w → sd_LI D tc ad am bo s u w f H locs → lv_has ls 8 [(0, .ref b), (1, .ref (ad 0)), (2, .ref (am 0)), (3, .ref bo), (4, .int (nI i))] → c2 ≤ cC + 1 → s2 ≤ sC + 6 → W p l e room_1 s m #[Value.ref b] below meth c H locs c2 s2 Q (F0 m 962 ls [])) : W p l e room_1 s m #[Value.ref b] below meth c H locs cC sC Q (F0 m 428 ls []) := by
  obtain ⟨hx, hb, hml, hown, hts, hX, hbl, hK, hEv, hEs, hl9⟩ := hC
  obtain ⟨hP1, hP2, hPo, hD1, hD2, hDo, hA12, hA1o, hA2o, hS⟩ := hI
  have hA : ∀ q : Nat, s.heap.size ≤ q → sd_LA s q := fun _ h => h
  have hbA : ¬ sd_LA s b := Nat.not_le.mpr hbl
  have hL9 : L < 2 ^ 31 := by omega
  refine lv_aload_n hx hb dL_law_428 rfl (lv_at hl 1 rfl) ?_
  refine lv_aload_n hx hb dL_law_429 rfl (lv_at hl 0 rfl) ?_
  refine lv_iload hx hb dL_law_430 (lv_at hl 4 rfl) ?_
  refine lv_iconst (v := nI 1) hx hb dL_law_432 (by decide) ?_
  refine sd_iadd hx hb dL_law_433 ?_
  refine sd_sld hx hb hX hbl hbA hS (j := i + 1) (by omega) hL9 dL_law_434 ?_
  refine lv_aload_n hx hb dL_law_435 rfl (lv_at hl 0 rfl) ?_
  refine lv_iload hx hb dL_law_436 (lv_at hl 4 rfl) ?_
  refine lv_iconst (v := nI 2) hx hb dL_law_438 (by decide) ?_
  refine sd_iadd hx hb dL_law_439 ?_
  refine sd_sld hx hb hX hbl hbA hS (j := i + 2) (by omega) hL9 dL_law_440 ?_
  refine lv_i2l (v := (xs (i + 2)).toInt64) hx hb dL_law_441 rfl ?_
  refine lv_bipush (v := nI 32) hx hb dL_law_442 (by decide) ?_
  refine lv_lshl (v := (xs (i + 2)).toInt64 <<< ((nI 32).toInt64 &&& 63)) hx hb dL_law_444 rfl ?_
  refine lv_aload_n hx hb dL_law_445 rfl (lv_at hl 0 rfl) ?_
  refine lv_iload hx hb dL_law_446 (lv_at hl 4 rfl) ?_
  refine lv_iconst (v := nI 3) hx hb dL_law_448 (by decide) ?_
  refine sd_iadd hx hb dL_law_449 ?_
  refine sd_sld hx hb hX hbl hbA hS (j := i + 3) (by omega) hL9 dL_law_450 ?_
  refine lv_i2l (v := (xs (i + 3)).toInt64) hx hb dL_law_451 rfl ?_
  refine lv_ldc2 (v := 4294967295) hx hb hown (hts _ (mm wl_L_35)) dL_law_452 ?_
  refine lv_land hx hb dL_law_455 ?_
  refine lv_lor hx hb dL_law_456 ?_
  refine sd_tol (y := sd_lo (xs (i + 2)) (xs (i + 3))) rfl ?_
  refine lv_aload_n hx hb dL_law_457 rfl (lv_at hl 0 rfl) ?_
  refine lv_iload hx hb dL_law_458 (lv_at hl 4 rfl) ?_
  refine lv_iconst (v := nI 4) hx hb dL_law_460 (by decide) ?_
  refine sd_iadd hx hb dL_law_461 ?_
  refine sd_sld hx hb hX hbl hbA hS (j := i + 4) (by omega) hL9 dL_law_462 ?_
  refine lv_i2l (v := (xs (i + 4)).toInt64) hx hb dL_law_463 rfl ?_
  refine lv_bipush (v := nI 32) hx hb dL_law_464 (by decide) ?_
  refine lv_lshl (v := (xs (i + 4)).toInt64 <<< ((nI 32).toInt64 &&& 63)) hx hb dL_law_466 rfl ?_
  refine lv_aload_n hx hb dL_law_467 rfl (lv_at hl 0 rfl) ?_
  refine lv_iload hx hb dL_law_468 (lv_at hl 4 rfl) ?_
  refine lv_iconst (v := nI 5) hx hb dL_law_470 (by decide) ?_
  refine sd_iadd hx hb dL_law_471 ?_
  refine sd_sld hx hb hX hbl hbA hS (j := i + 5) (by omega) hL9 dL_law_472 ?_
  refine lv_i2l (v := (xs (i + 5)).toInt64) hx hb dL_law_473 rfl ?_
  refine lv_ldc2 (v := 4294967295) hx hb hown (hts _ (mm wl_L_35)) dL_law_474 ?_
  refine lv_land hx hb dL_law_477 ?_
  refine lv_lor hx hb dL_law_478 ?_
  refine sd_tol (y := sd_lo (xs (i + 4)) (xs (i + 5))) rfl ?_
  refine sd_fi (va_runV (As := [.int (xs (i + 1)), .long (sd_lo (xs (i + 2)) (xs (i + 3))), .long (sd_lo (xs (i + 4)) (xs (i + 5)))]) (rest := []) ⟨hx, hb, hml, hown, hts⟩ (k_X4_scale l D _ (xs (i + 1)) (sd_lo (xs (i + 2)) (xs (i + 3))) (sd_lo (xs (i + 4)) (xs (i + 5))) (sd_R_ok hR)) (sd_cwV hts wd_X4_scale wn_X4 wm_L_57 wi_X4_scale ws_X4_scale nq_X4_scale rfl rfl ⟨Nat.le_of_ble_eq_true rfl, Nat.le_of_ble_eq_true rfl⟩) (sd_preVW hP1 hK hD1 (ci := 4) (q0 := 0) rfl rfl dw_desk) rfl rfl hl.1 rfl (lv_room (Nat.le_of_ble_eq_true rfl)) dL_law_479 ⟨show cC + 0 ≤ 601024 by omega, show sC + 0 ≤ 7293034 by omega⟩) hD1 hS hA (fun r1 u1 H locs hu1 hPn hDn hS hDs hk => ?_)
  have hA12n := sd_ka hP2 hA12 hDs
  have hAon := sd_ka hPo hA1o hDs
  replace hP2 := sd_kp hP2 hA12 hk
  replace hPo := sd_kp hPo hA1o hk
  replace hA12 := hA12n
  replace hA1o := hAon
  replace hP1 := hPn
  replace hD1 := hDn
  clear hPn hDn hDs hk hA12n hAon
  refine lv_aload_n hx hb dL_law_482 rfl (lv_at hl 2 rfl) ?_
  refine lv_aload_n hx hb dL_law_483 rfl (lv_at hl 0 rfl) ?_
  refine lv_iload hx hb dL_law_484 (lv_at hl 4 rfl) ?_
  refine lv_iconst (v := nI 1) hx hb dL_law_486 (by decide) ?_
  refine sd_iadd hx hb dL_law_487 ?_
  refine sd_sld hx hb hX hbl hbA hS (j := i + 1) (by omega) hL9 dL_law_488 ?_
  refine lv_aload_n hx hb dL_law_489 rfl (lv_at hl 0 rfl) ?_
  refine lv_iload hx hb dL_law_490 (lv_at hl 4 rfl) ?_
  refine lv_iconst (v := nI 2) hx hb dL_law_492 (by decide) ?_
  refine sd_iadd hx hb dL_law_493 ?_
  refine sd_sld hx hb hX hbl hbA hS (j := i + 2) (by omega) hL9 dL_law_494 ?_
  refine lv_i2l (v := (xs (i + 2)).toInt64) hx hb dL_law_495 rfl ?_
  refine lv_bipush (v := nI 32) hx hb dL_law_496 (by decide) ?_
  refine lv_lshl (v := (xs (i + 2)).toInt64 <<< ((nI 32).toInt64 &&& 63)) hx hb dL_law_498 rfl ?_
  refine lv_aload_n hx hb dL_law_499 rfl (lv_at hl 0 rfl) ?_
  refine lv_iload hx hb dL_law_500 (lv_at hl 4 rfl) ?_
  refine lv_iconst (v := nI 3) hx hb dL_law_502 (by decide) ?_
  refine sd_iadd hx hb dL_law_503 ?_
  refine sd_sld hx hb hX hbl hbA hS (j := i + 3) (by omega) hL9 dL_law_504 ?_
  refine lv_i2l (v := (xs (i + 3)).toInt64) hx hb dL_law_505 rfl ?_
  refine lv_ldc2 (v := 4294967295) hx hb hown (hts _ (mm wl_L_35)) dL_law_506 ?_
  refine lv_land hx hb dL_law_509 ?_
  refine lv_lor hx hb dL_law_510 ?_
  refine sd_tol (y := sd_lo (xs (i + 2)) (xs (i + 3))) rfl ?_
  refine lv_aload_n hx hb dL_law_511 rfl (lv_at hl 0 rfl) ?_
  refine lv_iload hx hb dL_law_512 (lv_at hl 4 rfl) ?_
  refine lv_iconst (v := nI 4) hx hb dL_law_514 (by decide) ?_
  refine sd_iadd hx hb dL_law_515 ?_
  refine sd_sld hx hb hX hbl hbA hS (j := i + 4) (by omega) hL9 dL_law_516 ?_
  refine lv_i2l (v := (xs (i + 4)).toInt64) hx hb dL_law_517 rfl ?_
  refine lv_bipush (v := nI 32) hx hb dL_law_518 (by decide) ?_
  refine lv_lshl (v := (xs (i + 4)).toInt64 <<< ((nI 32).toInt64 &&& 63)) hx hb dL_law_520 rfl ?_
  refine lv_aload_n hx hb dL_law_521 rfl (lv_at hl 0 rfl) ?_
  refine lv_iload hx hb dL_law_522 (lv_at hl 4 rfl) ?_
  refine lv_iconst (v := nI 5) hx hb dL_law_524 (by decide) ?_
  refine sd_iadd hx hb dL_law_525 ?_
  refine sd_sld hx hb hX hbl hbA hS (j := i + 5) (by omega) hL9 dL_law_526 ?_
  refine lv_i2l (v := (xs (i + 5)).toInt64) hx hb dL_law_527 rfl ?_
  refine lv_ldc2 (v := 4294967295) hx hb hown (hts _ (mm wl_L_35)) dL_law_528 ?_
  refine lv_land hx hb dL_law_531 ?_
  refine lv_lor hx hb dL_law_532 ?_
  refine sd_tol (y := sd_lo (xs (i + 4)) (xs (i + 5))) rfl ?_
  refine sd_fi (va_runV (As := [.int (xs (i + 1)), .long (sd_lo (xs (i + 2)) (xs (i + 3))), .long (sd_lo (xs (i + 4)) (xs (i + 5)))]) (rest := [.int r1]) ⟨hx, hb, hml, hown, hts⟩ (k_X5_scale l D _ (xs (i + 1)) (sd_lo (xs (i + 2)) (xs (i + 3))) (sd_lo (xs (i + 4)) (xs (i + 5))) (sd_R_okm hR)) (sd_cwV hts wd_X5_scale wn_X5 wm_L_61 wi_X5_scale ws_X5_scale nq_X5_scale rfl rfl ⟨Nat.le_of_ble_eq_true rfl, Nat.le_of_ble_eq_true rfl⟩) (sd_preVW hP2 hK hD2 (ci := 5) (q0 := 0) rfl rfl rfl) rfl rfl hl.1 rfl (lv_room (Nat.le_of_ble_eq_true rfl)) dL_law_533 ⟨show cC + 0 + 0 ≤ 601024 by omega, show sC + 0 + 0 ≤ 7293034 by omega⟩) hD2 hS hA (fun r2 w1 H locs hw1 hPn hDn hS hDs hk => ?_)
  have hA12n := sd_ka hP1 hA12.symm hDs
  have hAon := sd_ka hPo hA2o hDs
  replace hP1 := sd_kp hP1 hA12.symm hk
  replace hPo := sd_kp hPo hA2o hk
  replace hA12 := hA12n.symm
  replace hA2o := hAon
  replace hP2 := hPn
  replace hD2 := hDn
  clear hPn hDn hDs hk hA12n hAon
  have hT := T_scale hR hu1 hw1.2
  refine lv_icmp_eq (tgt := 962) hx hb dL_law_536 (by decide) (fun c1 => ?_) (fun c1 => ?_)
  · exact K u1 w1 f H locs ls _ _ hT.2 ⟨hP1, hP2, hPo, hD1, hD2, hDo, hA12, hA1o, hA2o, hS⟩ (lv_sub hl [0, 1, 2, 3, 4] rfl) (by omega) (by omega)
  · exact absurd hT.1 c1

set_option maxHeartbeats 1000000 in
set_option maxRecDepth 100000 in
theorem lw_case_5 {p : Program} {l : Launch} {e : Env} {s : State} {m : MethodId} {below : List Frame} {meth : Method} {c : Code} {D : va_G} {tc : Nat → ClassId} {ad am : Nat → Nat} {bo b L : Nat} {xs : Nat → Int32} {Q : State → Prop} (hC : sd_LC p l s m c D tc b L xs) {u : DS} {w : MS} {f : Nat → Int64} {H : Heap} {locs : List Loc} {ls : Array Slot} {cC sC i : Nat} (hR : sd_Rel u w) (hI : sd_LI D tc ad am bo s u w f H locs) (hl : lv_has ls 8 [(0, .ref b), (1, .ref (ad 0)), (2, .ref (am 0)), (3, .ref bo), (4, .int (nI i))]) (hi : i + 8 ≤ L) (hL : L ≤ 4096) (hcC : cC ≤ 600000) (hsC : sC ≤ 7000000)
    (K : ∀ (u : DS) (w : MS) (f : Nat → Int64) (H : Heap) (locs : List Loc) (ls : Array Slot) (c2 s2 : Nat), sd_Rel u w → sd_LI D tc ad am bo s u w f H locs → lv_has ls 8 [(0, .ref b), (1, .ref (ad 0)), (2, .ref (am 0)), (3, .ref bo), (4, .int (nI i))] → c2 ≤ cC + 1 → s2 ≤ sC + 6 → W p l e room_1 s m #[Value.ref b] below meth c H locs c2 s2 Q (F0 m 962 ls [])) : W p l e room_1 s m #[Value.ref b] below meth c H locs cC sC Q (F0 m 541 ls []) := by
  obtain ⟨hx, hb, hml, hown, hts, hX, hbl, hK, hEv, hEs, hl9⟩ := hC
  obtain ⟨hP1, hP2, hPo, hD1, hD2, hDo, hA12, hA1o, hA2o, hS⟩ := hI
  have hA : ∀ q : Nat, s.heap.size ≤ q → sd_LA s q := fun _ h => h
  have hbA : ¬ sd_LA s b := Nat.not_le.mpr hbl
  have hL9 : L < 2 ^ 31 := by omega
  refine lv_aload_n hx hb dL_law_541 rfl (lv_at hl 1 rfl) ?_
  refine lv_aload_n hx hb dL_law_542 rfl (lv_at hl 0 rfl) ?_
  refine lv_iload hx hb dL_law_543 (lv_at hl 4 rfl) ?_
  refine lv_iconst (v := nI 1) hx hb dL_law_545 (by decide) ?_
  refine sd_iadd hx hb dL_law_546 ?_
  refine sd_sld hx hb hX hbl hbA hS (j := i + 1) (by omega) hL9 dL_law_547 ?_
  refine lv_aload_n hx hb dL_law_548 rfl (lv_at hl 0 rfl) ?_
  refine lv_iload hx hb dL_law_549 (lv_at hl 4 rfl) ?_
  refine lv_iconst (v := nI 2) hx hb dL_law_551 (by decide) ?_
  refine sd_iadd hx hb dL_law_552 ?_
  refine sd_sld hx hb hX hbl hbA hS (j := i + 2) (by omega) hL9 dL_law_553 ?_
  refine lv_i2l (v := (xs (i + 2)).toInt64) hx hb dL_law_554 rfl ?_
  refine lv_bipush (v := nI 32) hx hb dL_law_555 (by decide) ?_
  refine lv_lshl (v := (xs (i + 2)).toInt64 <<< ((nI 32).toInt64 &&& 63)) hx hb dL_law_557 rfl ?_
  refine lv_aload_n hx hb dL_law_558 rfl (lv_at hl 0 rfl) ?_
  refine lv_iload hx hb dL_law_559 (lv_at hl 4 rfl) ?_
  refine lv_iconst (v := nI 3) hx hb dL_law_561 (by decide) ?_
  refine sd_iadd hx hb dL_law_562 ?_
  refine sd_sld hx hb hX hbl hbA hS (j := i + 3) (by omega) hL9 dL_law_563 ?_
  refine lv_i2l (v := (xs (i + 3)).toInt64) hx hb dL_law_564 rfl ?_
  refine lv_ldc2 (v := 4294967295) hx hb hown (hts _ (mm wl_L_35)) dL_law_565 ?_
  refine lv_land hx hb dL_law_568 ?_
  refine lv_lor hx hb dL_law_569 ?_
  refine sd_tol (y := sd_lo (xs (i + 2)) (xs (i + 3))) rfl ?_
  refine sd_fi (va_runV (As := [.int (xs (i + 1)), .long (sd_lo (xs (i + 2)) (xs (i + 3)))]) (rest := []) ⟨hx, hb, hml, hown, hts⟩ (k_X4_renew l D _ (xs (i + 1)) (sd_lo (xs (i + 2)) (xs (i + 3))) (sd_R_ok hR)) (sd_cwV hts wd_X4_renew wn_X4 wm_L_62 wi_X4_renew ws_X4_renew nq_X4_renew rfl rfl ⟨Nat.le_of_ble_eq_true rfl, Nat.le_of_ble_eq_true rfl⟩) (sd_preVW hP1 hK hD1 (ci := 4) (q0 := 0) rfl rfl dw_desk) rfl rfl hl.1 rfl (lv_room (Nat.le_of_ble_eq_true rfl)) dL_law_570 ⟨show cC + 0 ≤ 601024 by omega, show sC + 0 ≤ 7293034 by omega⟩) hD1 hS hA (fun r1 u1 H locs hu1 hPn hDn hS hDs hk => ?_)
  have hA12n := sd_ka hP2 hA12 hDs
  have hAon := sd_ka hPo hA1o hDs
  replace hP2 := sd_kp hP2 hA12 hk
  replace hPo := sd_kp hPo hA1o hk
  replace hA12 := hA12n
  replace hA1o := hAon
  replace hP1 := hPn
  replace hD1 := hDn
  clear hPn hDn hDs hk hA12n hAon
  refine lv_aload_n hx hb dL_law_573 rfl (lv_at hl 2 rfl) ?_
  refine lv_aload_n hx hb dL_law_574 rfl (lv_at hl 0 rfl) ?_
  refine lv_iload hx hb dL_law_575 (lv_at hl 4 rfl) ?_
  refine lv_iconst (v := nI 1) hx hb dL_law_577 (by decide) ?_
  refine sd_iadd hx hb dL_law_578 ?_
  refine sd_sld hx hb hX hbl hbA hS (j := i + 1) (by omega) hL9 dL_law_579 ?_
  refine lv_aload_n hx hb dL_law_580 rfl (lv_at hl 0 rfl) ?_
  refine lv_iload hx hb dL_law_581 (lv_at hl 4 rfl) ?_
  refine lv_iconst (v := nI 2) hx hb dL_law_583 (by decide) ?_
  refine sd_iadd hx hb dL_law_584 ?_
  refine sd_sld hx hb hX hbl hbA hS (j := i + 2) (by omega) hL9 dL_law_585 ?_
  refine lv_i2l (v := (xs (i + 2)).toInt64) hx hb dL_law_586 rfl ?_
  refine lv_bipush (v := nI 32) hx hb dL_law_587 (by decide) ?_
  refine lv_lshl (v := (xs (i + 2)).toInt64 <<< ((nI 32).toInt64 &&& 63)) hx hb dL_law_589 rfl ?_
  refine lv_aload_n hx hb dL_law_590 rfl (lv_at hl 0 rfl) ?_
  refine lv_iload hx hb dL_law_591 (lv_at hl 4 rfl) ?_
  refine lv_iconst (v := nI 3) hx hb dL_law_593 (by decide) ?_
  refine sd_iadd hx hb dL_law_594 ?_
  refine sd_sld hx hb hX hbl hbA hS (j := i + 3) (by omega) hL9 dL_law_595 ?_
  refine lv_i2l (v := (xs (i + 3)).toInt64) hx hb dL_law_596 rfl ?_
  refine lv_ldc2 (v := 4294967295) hx hb hown (hts _ (mm wl_L_35)) dL_law_597 ?_
  refine lv_land hx hb dL_law_600 ?_
  refine lv_lor hx hb dL_law_601 ?_
  refine sd_tol (y := sd_lo (xs (i + 2)) (xs (i + 3))) rfl ?_
  refine sd_fi (va_runV (As := [.int (xs (i + 1)), .long (sd_lo (xs (i + 2)) (xs (i + 3)))]) (rest := [.int r1]) ⟨hx, hb, hml, hown, hts⟩ (k_X5_renew l D _ (xs (i + 1)) (sd_lo (xs (i + 2)) (xs (i + 3))) (sd_R_okm hR)) (sd_cwV hts wd_X5_renew wn_X5 wm_L_66 wi_X5_renew ws_X5_renew nq_X5_renew rfl rfl ⟨Nat.le_of_ble_eq_true rfl, Nat.le_of_ble_eq_true rfl⟩) (sd_preVW hP2 hK hD2 (ci := 5) (q0 := 0) rfl rfl rfl) rfl rfl hl.1 rfl (lv_room (Nat.le_of_ble_eq_true rfl)) dL_law_602 ⟨show cC + 0 + 0 ≤ 601024 by omega, show sC + 0 + 0 ≤ 7293034 by omega⟩) hD2 hS hA (fun r2 w1 H locs hw1 hPn hDn hS hDs hk => ?_)
  have hA12n := sd_ka hP1 hA12.symm hDs
  have hAon := sd_ka hPo hA2o hDs
  replace hP1 := sd_kp hP1 hA12.symm hk
  replace hPo := sd_kp hPo hA2o hk
  replace hA12 := hA12n.symm
  replace hA2o := hAon
  replace hP2 := hPn
  replace hD2 := hDn
  clear hPn hDn hDs hk hA12n hAon
  have hT := T_renew hR hu1 hw1.2
  refine lv_icmp_eq (tgt := 962) hx hb dL_law_605 (by decide) (fun c1 => ?_) (fun c1 => ?_)
  · exact K u1 w1 f H locs ls _ _ hT.2 ⟨hP1, hP2, hPo, hD1, hD2, hDo, hA12, hA1o, hA2o, hS⟩ (lv_sub hl [0, 1, 2, 3, 4] rfl) (by omega) (by omega)
  · exact absurd hT.1 c1

set_option maxHeartbeats 1000000 in
set_option maxRecDepth 100000 in
theorem lw_case_6 {p : Program} {l : Launch} {e : Env} {s : State} {m : MethodId} {below : List Frame} {meth : Method} {c : Code} {D : va_G} {tc : Nat → ClassId} {ad am : Nat → Nat} {bo b L : Nat} {xs : Nat → Int32} {Q : State → Prop} (hC : sd_LC p l s m c D tc b L xs) {u : DS} {w : MS} {f : Nat → Int64} {H : Heap} {locs : List Loc} {ls : Array Slot} {cC sC i : Nat} (hR : sd_Rel u w) (hI : sd_LI D tc ad am bo s u w f H locs) (hl : lv_has ls 8 [(0, .ref b), (1, .ref (ad 0)), (2, .ref (am 0)), (3, .ref bo), (4, .int (nI i))]) (hi : i + 8 ≤ L) (hL : L ≤ 4096) (hcC : cC ≤ 600000) (hsC : sC ≤ 7000000)
    (K : ∀ (u : DS) (w : MS) (f : Nat → Int64) (H : Heap) (locs : List Loc) (ls : Array Slot) (c2 s2 : Nat), sd_Rel u w → sd_LI D tc ad am bo s u w f H locs → lv_has ls 8 [(0, .ref b), (1, .ref (ad 0)), (2, .ref (am 0)), (3, .ref bo), (4, .int (nI i))] → c2 ≤ cC + 1 → s2 ≤ sC + 6 → W p l e room_1 s m #[Value.ref b] below meth c H locs c2 s2 Q (F0 m 962 ls [])) : W p l e room_1 s m #[Value.ref b] below meth c H locs cC sC Q (F0 m 610 ls []) := by
  obtain ⟨hx, hb, hml, hown, hts, hX, hbl, hK, hEv, hEs, hl9⟩ := hC
  obtain ⟨hP1, hP2, hPo, hD1, hD2, hDo, hA12, hA1o, hA2o, hS⟩ := hI
  have hA : ∀ q : Nat, s.heap.size ≤ q → sd_LA s q := fun _ h => h
  have hbA : ¬ sd_LA s b := Nat.not_le.mpr hbl
  have hL9 : L < 2 ^ 31 := by omega
  refine lv_aload_n hx hb dL_law_610 rfl (lv_at hl 1 rfl) ?_
  refine lv_aload_n hx hb dL_law_611 rfl (lv_at hl 0 rfl) ?_
  refine lv_iload hx hb dL_law_612 (lv_at hl 4 rfl) ?_
  refine lv_iconst (v := nI 1) hx hb dL_law_614 (by decide) ?_
  refine sd_iadd hx hb dL_law_615 ?_
  refine sd_sld hx hb hX hbl hbA hS (j := i + 1) (by omega) hL9 dL_law_616 ?_
  refine lv_aload_n hx hb dL_law_617 rfl (lv_at hl 0 rfl) ?_
  refine lv_iload hx hb dL_law_618 (lv_at hl 4 rfl) ?_
  refine lv_iconst (v := nI 2) hx hb dL_law_620 (by decide) ?_
  refine sd_iadd hx hb dL_law_621 ?_
  refine sd_sld hx hb hX hbl hbA hS (j := i + 2) (by omega) hL9 dL_law_622 ?_
  refine lv_aload_n hx hb dL_law_623 rfl (lv_at hl 3 rfl) ?_
  have hPx := hP1.app hPo
  have hDx := hD1.app hDo hA1o
  have hAx := sd_Ap_app hA12 hA2o.symm
  have hEx := (hEs.kept hS.2.1).narrow (fun q h => sd_free hDx hS hA q h)
  refine sd_fi (vx_runSW (As := [.ref (ad 0), .int (xs (i + 1)), .int (xs (i + 2)), .ref bo]) (rest := []) ⟨hx, hb, hml, hown, hts⟩ (k_L_find l D _ (xs (i + 1)) (xs (i + 2)) (sd_R_ok hR) hl9) (sd_csw hts wd_L_find wn_L wm_L_67 wi_L_find nq_L_find rfl rfl ⟨Nat.le_of_ble_eq_true rfl, Nat.le_of_ble_eq_true rfl⟩) (sd_preX hPx hK hDx hEv hEx) rfl rfl hl.1 rfl (lv_room (Nat.le_of_ble_eq_true rfl)) dL_law_624 ⟨show cC + 1 ≤ 601024 by omega, show sC + 6 ≤ 7293034 by omega⟩) hDx hS hA (fun r1 u1 H locs hu1 hPn hDn hS hDs hk => ?_)
  have hAn := sd_ka hP2 hAx hDs
  replace hP2 := sd_kp hP2 hAx hk
  clear hPx hDx hAx hEx hDs hk
  replace hP1 := sd_P_l hPn
  replace hPo := sd_P_r hPn
  replace hD1 := sd_D_l hDn
  replace hDo := sd_D_r hDn
  replace hA1o := sd_D_x hDn
  replace hA12 := sd_Ap_l hAn
  replace hA2o := (sd_Ap_r hAn).symm
  clear hPn hDn hAn
  refine lv_istore (lv' := [(5, .int r1), (0, .ref b), (1, .ref (ad 0)), (2, .ref (am 0)), (3, .ref bo), (4, .int (nI i))]) hx hb dL_law_627 hl (by decide) rfl (fun ls hl => ?_)
  refine lv_aload_n hx hb dL_law_629 rfl (lv_at hl 3 rfl) ?_
  refine lv_aload_n hx hb dL_law_630 rfl (lv_at hl 1 rfl) ?_
  refine lv_iload hx hb dL_law_631 (lv_at hl 5 rfl) ?_
  refine lv_iconst (v := nI 1) hx hb dL_law_633 (by decide) ?_
  refine sd_iadd hx hb dL_law_634 ?_
  refine sd_sld hx hb hX hbl hbA hS (j := i + 1) (by omega) hL9 dL_law_635 ?_
  refine lv_aload_n hx hb dL_law_636 rfl (lv_at hl 1 rfl) ?_
  refine lv_iload hx hb dL_law_637 (lv_at hl 5 rfl) ?_
  refine lv_iconst (v := nI 2) hx hb dL_law_639 (by decide) ?_
  refine sd_iadd hx hb dL_law_640 ?_
  refine sd_sld hx hb hX hbl hbA hS (j := i + 2) (by omega) hL9 dL_law_641 ?_
  refine sd_fi (va_runV (As := [.int (xs (i + 1)), .int (xs (i + 2))]) (rest := []) ⟨hx, hb, hml, hown, hts⟩ (k_X5_find l D _ (xs (i + 1)) (xs (i + 2)) (sd_R_okm hR) hR.2.2) (sd_cwV hts wd_X5_find wn_X5 wm_L_72 wi_X5_find ws_X5_find nq_X5_find rfl rfl ⟨Nat.le_of_ble_eq_true rfl, Nat.le_of_ble_eq_true rfl⟩) (sd_preVW hP2 hK hD2 (ci := 5) (q0 := 0) rfl rfl rfl) rfl rfl hl.1 rfl (lv_room (Nat.le_of_ble_eq_true rfl)) dL_law_642 ⟨show cC + 1 + 0 ≤ 601024 by omega, show sC + 6 + 0 ≤ 7293034 by omega⟩) hD2 hS hA (fun r2 w1 H locs hw1 hPn hDn hS hDs hk => ?_)
  have hA12n := sd_ka hP1 hA12.symm hDs
  have hAon := sd_ka hPo hA2o hDs
  replace hP1 := sd_kp hP1 hA12.symm hk
  replace hPo := sd_kp hPo hA2o hk
  replace hA12 := hA12n.symm
  replace hA2o := hAon
  replace hP2 := hPn
  replace hD2 := hDn
  clear hPn hDn hDs hk hA12n hAon
  have hT := T_find hR hu1 hw1
  refine lv_istore (lv' := [(6, .int r2), (5, .int r1), (0, .ref b), (1, .ref (ad 0)), (2, .ref (am 0)), (3, .ref bo), (4, .int (nI i))]) hx hb dL_law_645 hl (by decide) rfl (fun ls hl => ?_)
  refine lv_aload_n hx hb dL_law_647 rfl (lv_at hl 4 rfl) ?_
  refine sd_ri (va_runV (As := []) (rest := []) ⟨hx, hb, hml, hown, hts⟩ (k_X5_thrown l D) (sd_cwV hts wd_X5_thrown wn_X5 wm_L_73 wi_X5_thrown ws_X5_thrown nq_X5_thrown rfl rfl ⟨Nat.le_of_ble_eq_true rfl, Nat.le_of_ble_eq_true rfl⟩) (sd_preVR hP2 hK (ci := 5) (q0 := 0) rfl rfl rfl) rfl rfl hl.1 rfl (lv_room (Nat.le_of_ble_eq_true rfl)) dL_law_648 ⟨show cC + 1 + 0 + 0 ≤ 601024 by omega, show sC + 6 + 0 + 0 ≤ 7293034 by omega⟩) (fun t1 ht1 => ?_)
  subst ht1
  refine lv_iload hx hb dL_law_651 (lv_at hl 1 rfl) ?_
  refine lv_icmp_eq (tgt := 658) hx hb dL_law_653 (by decide) (fun c1 => ?_) (fun c1 => ?_)
  · refine lv_iload hx hb dL_law_658 (lv_at hl 1 rfl) ?_
    refine lv_if_ne (tgt := 675) hx hb dL_law_660 (by decide) (fun c2 => ?_) (fun c2 => ?_)
    · refine lv_goto (tgt := 962) hx hb dL_law_675 (by decide) ?_
      exact K u1.1 w1 u1.2 H locs ls _ _ hT.2.2 ⟨hP1, hP2, hPo, hD1, hD2, hDo, hA12, hA1o, hA2o, hS⟩ (lv_sub hl [2, 3, 4, 5, 6] rfl) (by omega) (by omega)
    · refine lv_aload_n hx hb dL_law_663 rfl (lv_at hl 5 rfl) ?_
      refine lv_iconst (v := nI 0) hx hb dL_law_664 (by decide) ?_
      refine sd_lald hx hb hK hPo 0 0 rfl rfl (k := 0) (by decide) (by decide) dL_law_665 ?_
      refine lv_iload hx hb dL_law_666 (lv_at hl 0 rfl) ?_
      refine lv_i2l (v := r2.toInt64) hx hb dL_law_668 rfl ?_
      refine W.lcmp hx hb dL_law_669 ?_
      refine lv_if_eq (tgt := 675) hx hb dL_law_670 (by decide) (fun c3 => ?_) (fun c3 => ?_)
      · have c3 : (u1.2 0) = r2.toInt64 := (lg_cmp_eq _ _).mp c3
        refine lv_goto (tgt := 962) hx hb dL_law_675 (by decide) ?_
        exact K u1.1 w1 u1.2 H locs ls _ _ hT.2.2 ⟨hP1, hP2, hPo, hD1, hD2, hDo, hA12, hA1o, hA2o, hS⟩ (lv_sub hl [2, 3, 4, 5, 6] rfl) (by omega) (by omega)
      · have c3 : ¬ (u1.2 0) = r2.toInt64 := fun q => c3 ((lg_cmp_eq _ _).mpr q)
        exact absurd (hT.2.1 (c2.trans nI_0.symm)) c3
  · exact absurd hT.1 c1

set_option maxHeartbeats 1000000 in
set_option maxRecDepth 100000 in
theorem lw_case_7 {p : Program} {l : Launch} {e : Env} {s : State} {m : MethodId} {below : List Frame} {meth : Method} {c : Code} {D : va_G} {tc : Nat → ClassId} {ad am : Nat → Nat} {bo b L : Nat} {xs : Nat → Int32} {Q : State → Prop} (hC : sd_LC p l s m c D tc b L xs) {u : DS} {w : MS} {f : Nat → Int64} {H : Heap} {locs : List Loc} {ls : Array Slot} {cC sC i : Nat} (hR : sd_Rel u w) (hI : sd_LI D tc ad am bo s u w f H locs) (hl : lv_has ls 8 [(0, .ref b), (1, .ref (ad 0)), (2, .ref (am 0)), (3, .ref bo), (4, .int (nI i))]) (hi : i + 8 ≤ L) (hL : L ≤ 4096) (hcC : cC ≤ 600000) (hsC : sC ≤ 7000000)
    (K : ∀ (u : DS) (w : MS) (f : Nat → Int64) (H : Heap) (locs : List Loc) (ls : Array Slot) (c2 s2 : Nat), sd_Rel u w → sd_LI D tc ad am bo s u w f H locs → lv_has ls 8 [(0, .ref b), (1, .ref (ad 0)), (2, .ref (am 0)), (3, .ref bo), (4, .int (nI i))] → c2 ≤ cC + 1 → s2 ≤ sC + 6 → W p l e room_1 s m #[Value.ref b] below meth c H locs c2 s2 Q (F0 m 962 ls [])) : W p l e room_1 s m #[Value.ref b] below meth c H locs cC sC Q (F0 m 678 ls []) := by
  obtain ⟨hx, hb, hml, hown, hts, hX, hbl, hK, hEv, hEs, hl9⟩ := hC
  obtain ⟨hP1, hP2, hPo, hD1, hD2, hDo, hA12, hA1o, hA2o, hS⟩ := hI
  have hA : ∀ q : Nat, s.heap.size ≤ q → sd_LA s q := fun _ h => h
  have hbA : ¬ sd_LA s b := Nat.not_le.mpr hbl
  have hL9 : L < 2 ^ 31 := by omega
  refine lv_aload_n hx hb dL_law_678 rfl (lv_at hl 1 rfl) ?_
  refine lv_aload_n hx hb dL_law_679 rfl (lv_at hl 0 rfl) ?_
  refine lv_iload hx hb dL_law_680 (lv_at hl 4 rfl) ?_
  refine lv_iconst (v := nI 1) hx hb dL_law_682 (by decide) ?_
  refine sd_iadd hx hb dL_law_683 ?_
  refine sd_sld hx hb hX hbl hbA hS (j := i + 1) (by omega) hL9 dL_law_684 ?_
  refine lv_i2l (v := (xs (i + 1)).toInt64) hx hb dL_law_685 rfl ?_
  refine lv_bipush (v := nI 32) hx hb dL_law_686 (by decide) ?_
  refine lv_lshl (v := (xs (i + 1)).toInt64 <<< ((nI 32).toInt64 &&& 63)) hx hb dL_law_688 rfl ?_
  refine lv_aload_n hx hb dL_law_689 rfl (lv_at hl 0 rfl) ?_
  refine lv_iload hx hb dL_law_690 (lv_at hl 4 rfl) ?_
  refine lv_iconst (v := nI 2) hx hb dL_law_692 (by decide) ?_
  refine sd_iadd hx hb dL_law_693 ?_
  refine sd_sld hx hb hX hbl hbA hS (j := i + 2) (by omega) hL9 dL_law_694 ?_
  refine lv_i2l (v := (xs (i + 2)).toInt64) hx hb dL_law_695 rfl ?_
  refine lv_ldc2 (v := 4294967295) hx hb hown (hts _ (mm wl_L_35)) dL_law_696 ?_
  refine lv_land hx hb dL_law_699 ?_
  refine lv_lor hx hb dL_law_700 ?_
  refine sd_tol (y := sd_lo (xs (i + 1)) (xs (i + 2))) rfl ?_
  refine lv_aload_n hx hb dL_law_701 rfl (lv_at hl 3 rfl) ?_
  have hPx := hP1.app hPo
  have hDx := hD1.app hDo hA1o
  have hAx := sd_Ap_app hA12 hA2o.symm
  have hEx := (hEs.kept hS.2.1).narrow (fun q h => sd_free hDx hS hA q h)
  refine sd_fi (vx_runSW (As := [.ref (ad 0), .long (sd_lo (xs (i + 1)) (xs (i + 2))), .ref bo]) (rest := []) ⟨hx, hb, hml, hown, hts⟩ (k_L_at l D _ (sd_lo (xs (i + 1)) (xs (i + 2))) hl9) (sd_csw hts wd_L_at wn_L wm_L_77 wi_L_at nq_L_at rfl rfl ⟨Nat.le_of_ble_eq_true rfl, Nat.le_of_ble_eq_true rfl⟩) (sd_preX hPx hK hDx hEv hEx) rfl rfl hl.1 rfl (lv_room (Nat.le_of_ble_eq_true rfl)) dL_law_702 ⟨show cC + 1 ≤ 601024 by omega, show sC + 6 ≤ 7293034 by omega⟩) hDx hS hA (fun r1 u1 H locs hu1 hPn hDn hS hDs hk => ?_)
  have hAn := sd_ka hP2 hAx hDs
  replace hP2 := sd_kp hP2 hAx hk
  clear hPx hDx hAx hEx hDs hk
  replace hP1 := sd_P_l hPn
  replace hPo := sd_P_r hPn
  replace hD1 := sd_D_l hDn
  replace hDo := sd_D_r hDn
  replace hA1o := sd_D_x hDn
  replace hA12 := sd_Ap_l hAn
  replace hA2o := (sd_Ap_r hAn).symm
  clear hPn hDn hAn
  refine lv_istore (lv' := [(5, .int r1), (0, .ref b), (1, .ref (ad 0)), (2, .ref (am 0)), (3, .ref bo), (4, .int (nI i))]) hx hb dL_law_705 hl (by decide) rfl (fun ls hl => ?_)
  refine lv_aload_n hx hb dL_law_707 rfl (lv_at hl 3 rfl) ?_
  refine lv_aload_n hx hb dL_law_708 rfl (lv_at hl 1 rfl) ?_
  refine lv_iload hx hb dL_law_709 (lv_at hl 5 rfl) ?_
  refine lv_iconst (v := nI 1) hx hb dL_law_711 (by decide) ?_
  refine sd_iadd hx hb dL_law_712 ?_
  refine sd_sld hx hb hX hbl hbA hS (j := i + 1) (by omega) hL9 dL_law_713 ?_
  refine lv_i2l (v := (xs (i + 1)).toInt64) hx hb dL_law_714 rfl ?_
  refine lv_bipush (v := nI 32) hx hb dL_law_715 (by decide) ?_
  refine lv_lshl (v := (xs (i + 1)).toInt64 <<< ((nI 32).toInt64 &&& 63)) hx hb dL_law_717 rfl ?_
  refine lv_aload_n hx hb dL_law_718 rfl (lv_at hl 1 rfl) ?_
  refine lv_iload hx hb dL_law_719 (lv_at hl 5 rfl) ?_
  refine lv_iconst (v := nI 2) hx hb dL_law_721 (by decide) ?_
  refine sd_iadd hx hb dL_law_722 ?_
  refine sd_sld hx hb hX hbl hbA hS (j := i + 2) (by omega) hL9 dL_law_723 ?_
  refine lv_i2l (v := (xs (i + 2)).toInt64) hx hb dL_law_724 rfl ?_
  refine lv_ldc2 (v := 4294967295) hx hb hown (hts _ (mm wl_L_35)) dL_law_725 ?_
  refine lv_land hx hb dL_law_728 ?_
  refine lv_lor hx hb dL_law_729 ?_
  refine sd_tol (y := sd_lo (xs (i + 1)) (xs (i + 2))) rfl ?_
  refine sd_fl (va_runV (As := [.long (sd_lo (xs (i + 1)) (xs (i + 2)))]) (rest := []) ⟨hx, hb, hml, hown, hts⟩ (k_X5_at l D _ (sd_lo (xs (i + 1)) (xs (i + 2))) ) (sd_cwV hts wd_X5_at wn_X5 wm_L_80 wi_X5_at ws_X5_at nq_X5_at rfl rfl ⟨Nat.le_of_ble_eq_true rfl, Nat.le_of_ble_eq_true rfl⟩) (sd_preVW hP2 hK hD2 (ci := 5) (q0 := 0) rfl rfl rfl) rfl rfl hl.1 rfl (lv_room (Nat.le_of_ble_eq_true rfl)) dL_law_730 ⟨show cC + 1 + 0 ≤ 601024 by omega, show sC + 6 + 0 ≤ 7293034 by omega⟩) hD2 hS hA (fun r2 w1 H locs hw1 hPn hDn hS hDs hk => ?_)
  have hA12n := sd_ka hP1 hA12.symm hDs
  have hAon := sd_ka hPo hA2o hDs
  replace hP1 := sd_kp hP1 hA12.symm hk
  replace hPo := sd_kp hPo hA2o hk
  replace hA12 := hA12n.symm
  replace hA2o := hAon
  replace hP2 := hPn
  replace hD2 := hDn
  clear hPn hDn hDs hk hA12n hAon
  have hT := T_at hR hu1 hw1.1 hw1.2.1 hw1.2.2
  refine lv_lstore (lv' := [(6, .long r2), (5, .int r1), (0, .ref b), (1, .ref (ad 0)), (2, .ref (am 0)), (3, .ref bo), (4, .int (nI i))]) hx hb dL_law_733 hl (by decide) rfl (fun ls hl => ?_)
  refine lv_aload_n hx hb dL_law_735 rfl (lv_at hl 4 rfl) ?_
  refine sd_ri (va_runV (As := []) (rest := []) ⟨hx, hb, hml, hown, hts⟩ (k_X5_thrown l D) (sd_cwV hts wd_X5_thrown wn_X5 wm_L_73 wi_X5_thrown ws_X5_thrown nq_X5_thrown rfl rfl ⟨Nat.le_of_ble_eq_true rfl, Nat.le_of_ble_eq_true rfl⟩) (sd_preVR hP2 hK (ci := 5) (q0 := 0) rfl rfl rfl) rfl rfl hl.1 rfl (lv_room (Nat.le_of_ble_eq_true rfl)) dL_law_736 ⟨show cC + 1 + 0 + 0 ≤ 601024 by omega, show sC + 6 + 0 + 0 ≤ 7293034 by omega⟩) (fun t1 ht1 => ?_)
  subst ht1
  refine lv_iload hx hb dL_law_739 (lv_at hl 1 rfl) ?_
  refine lv_icmp_eq (tgt := 746) hx hb dL_law_741 (by decide) (fun c1 => ?_) (fun c1 => ?_)
  · refine lv_iload hx hb dL_law_746 (lv_at hl 1 rfl) ?_
    refine lv_if_ne (tgt := 762) hx hb dL_law_748 (by decide) (fun c2 => ?_) (fun c2 => ?_)
    · refine lv_goto (tgt := 962) hx hb dL_law_762 (by decide) ?_
      exact K u1.1 w1 u1.2 H locs ls _ _ hT.2.2 ⟨hP1, hP2, hPo, hD1, hD2, hDo, hA12, hA1o, hA2o, hS⟩ (lv_sub hl [2, 3, 4, 5, 6] rfl) (by omega) (by omega)
    · refine lv_aload_n hx hb dL_law_751 rfl (lv_at hl 5 rfl) ?_
      refine lv_iconst (v := nI 0) hx hb dL_law_752 (by decide) ?_
      refine sd_lald hx hb hK hPo 0 0 rfl rfl (k := 0) (by decide) (by decide) dL_law_753 ?_
      refine lv_lload hx hb dL_law_754 (lv_at hl 0 rfl) ?_
      refine W.lcmp hx hb dL_law_756 ?_
      refine lv_if_eq (tgt := 762) hx hb dL_law_757 (by decide) (fun c3 => ?_) (fun c3 => ?_)
      · have c3 : (u1.2 0) = r2 := (lg_cmp_eq _ _).mp c3
        refine lv_goto (tgt := 962) hx hb dL_law_762 (by decide) ?_
        exact K u1.1 w1 u1.2 H locs ls _ _ hT.2.2 ⟨hP1, hP2, hPo, hD1, hD2, hDo, hA12, hA1o, hA2o, hS⟩ (lv_sub hl [2, 3, 4, 5, 6] rfl) (by omega) (by omega)
      · have c3 : ¬ (u1.2 0) = r2 := fun q => c3 ((lg_cmp_eq _ _).mpr q)
        exact absurd (hT.2.1 (c2.trans nI_0.symm)) c3
  · exact absurd hT.1 c1

set_option maxHeartbeats 1000000 in
set_option maxRecDepth 100000 in
theorem lw_case_8 {p : Program} {l : Launch} {e : Env} {s : State} {m : MethodId} {below : List Frame} {meth : Method} {c : Code} {D : va_G} {tc : Nat → ClassId} {ad am : Nat → Nat} {bo b L : Nat} {xs : Nat → Int32} {Q : State → Prop} (hC : sd_LC p l s m c D tc b L xs) {u : DS} {w : MS} {f : Nat → Int64} {H : Heap} {locs : List Loc} {ls : Array Slot} {cC sC i : Nat} (hR : sd_Rel u w) (hI : sd_LI D tc ad am bo s u w f H locs) (hl : lv_has ls 8 [(0, .ref b), (1, .ref (ad 0)), (2, .ref (am 0)), (3, .ref bo), (4, .int (nI i))]) (hi : i + 8 ≤ L) (hL : L ≤ 4096) (hcC : cC ≤ 600000) (hsC : sC ≤ 7000000)
    (K : ∀ (u : DS) (w : MS) (f : Nat → Int64) (H : Heap) (locs : List Loc) (ls : Array Slot) (c2 s2 : Nat), sd_Rel u w → sd_LI D tc ad am bo s u w f H locs → lv_has ls 8 [(0, .ref b), (1, .ref (ad 0)), (2, .ref (am 0)), (3, .ref bo), (4, .int (nI i))] → c2 ≤ cC + 1 → s2 ≤ sC + 6 → W p l e room_1 s m #[Value.ref b] below meth c H locs c2 s2 Q (F0 m 962 ls [])) : W p l e room_1 s m #[Value.ref b] below meth c H locs cC sC Q (F0 m 765 ls []) := by
  obtain ⟨hx, hb, hml, hown, hts, hX, hbl, hK, hEv, hEs, hl9⟩ := hC
  obtain ⟨hP1, hP2, hPo, hD1, hD2, hDo, hA12, hA1o, hA2o, hS⟩ := hI
  have hA : ∀ q : Nat, s.heap.size ≤ q → sd_LA s q := fun _ h => h
  have hbA : ¬ sd_LA s b := Nat.not_le.mpr hbl
  have hL9 : L < 2 ^ 31 := by omega
  refine lv_aload_n hx hb dL_law_765 rfl (lv_at hl 1 rfl) ?_
  refine lv_aload_n hx hb dL_law_766 rfl (lv_at hl 0 rfl) ?_
  refine lv_iload hx hb dL_law_767 (lv_at hl 4 rfl) ?_
  refine lv_iconst (v := nI 1) hx hb dL_law_769 (by decide) ?_
  refine sd_iadd hx hb dL_law_770 ?_
  refine sd_sld hx hb hX hbl hbA hS (j := i + 1) (by omega) hL9 dL_law_771 ?_
  refine lv_aload_n hx hb dL_law_772 rfl (lv_at hl 3 rfl) ?_
  have hPx := hP1.app hPo
  have hDx := hD1.app hDo hA1o
  have hAx := sd_Ap_app hA12 hA2o.symm
  have hEx := (hEs.kept hS.2.1).narrow (fun q h => sd_free hDx hS hA q h)
  refine sd_fi (vx_runSW (As := [.ref (ad 0), .int (xs (i + 1)), .ref bo]) (rest := []) ⟨hx, hb, hml, hown, hts⟩ (k_L_part l D _ (xs (i + 1)) hl9) (sd_csw hts wd_L_part wn_L wm_L_81 wi_L_part nq_L_part rfl rfl ⟨Nat.le_of_ble_eq_true rfl, Nat.le_of_ble_eq_true rfl⟩) (sd_preX hPx hK hDx hEv hEx) rfl rfl hl.1 rfl (lv_room (Nat.le_of_ble_eq_true rfl)) dL_law_773 ⟨show cC + 1 ≤ 601024 by omega, show sC + 6 ≤ 7293034 by omega⟩) hDx hS hA (fun r1 u1 H locs hu1 hPn hDn hS hDs hk => ?_)
  have hAn := sd_ka hP2 hAx hDs
  replace hP2 := sd_kp hP2 hAx hk
  clear hPx hDx hAx hEx hDs hk
  replace hP1 := sd_P_l hPn
  replace hPo := sd_P_r hPn
  replace hD1 := sd_D_l hDn
  replace hDo := sd_D_r hDn
  replace hA1o := sd_D_x hDn
  replace hA12 := sd_Ap_l hAn
  replace hA2o := (sd_Ap_r hAn).symm
  clear hPn hDn hAn
  refine lv_istore (lv' := [(5, .int r1), (0, .ref b), (1, .ref (ad 0)), (2, .ref (am 0)), (3, .ref bo), (4, .int (nI i))]) hx hb dL_law_776 hl (by decide) rfl (fun ls hl => ?_)
  refine lv_aload_n hx hb dL_law_778 rfl (lv_at hl 3 rfl) ?_
  refine lv_aload_n hx hb dL_law_779 rfl (lv_at hl 1 rfl) ?_
  refine lv_iload hx hb dL_law_780 (lv_at hl 5 rfl) ?_
  refine lv_iconst (v := nI 1) hx hb dL_law_782 (by decide) ?_
  refine sd_iadd hx hb dL_law_783 ?_
  refine sd_sld hx hb hX hbl hbA hS (j := i + 1) (by omega) hL9 dL_law_784 ?_
  refine sd_fl (va_runV (As := [.int (xs (i + 1))]) (rest := []) ⟨hx, hb, hml, hown, hts⟩ (k_X5_part l D _ (xs (i + 1)) ) (sd_cwV hts wd_X5_part wn_X5 wm_L_84 wi_X5_part ws_X5_part nq_X5_part rfl rfl ⟨Nat.le_of_ble_eq_true rfl, Nat.le_of_ble_eq_true rfl⟩) (sd_preVW hP2 hK hD2 (ci := 5) (q0 := 0) rfl rfl rfl) rfl rfl hl.1 rfl (lv_room (Nat.le_of_ble_eq_true rfl)) dL_law_785 ⟨show cC + 1 + 0 ≤ 601024 by omega, show sC + 6 + 0 ≤ 7293034 by omega⟩) hD2 hS hA (fun r2 w1 H locs hw1 hPn hDn hS hDs hk => ?_)
  have hA12n := sd_ka hP1 hA12.symm hDs
  have hAon := sd_ka hPo hA2o hDs
  replace hP1 := sd_kp hP1 hA12.symm hk
  replace hPo := sd_kp hPo hA2o hk
  replace hA12 := hA12n.symm
  replace hA2o := hAon
  replace hP2 := hPn
  replace hD2 := hDn
  clear hPn hDn hDs hk hA12n hAon
  have hT := T_part hR hu1 hw1.1 hw1.2
  refine lv_lstore (lv' := [(6, .long r2), (5, .int r1), (0, .ref b), (1, .ref (ad 0)), (2, .ref (am 0)), (3, .ref bo), (4, .int (nI i))]) hx hb dL_law_788 hl (by decide) rfl (fun ls hl => ?_)
  refine lv_aload_n hx hb dL_law_790 rfl (lv_at hl 4 rfl) ?_
  refine sd_ri (va_runV (As := []) (rest := []) ⟨hx, hb, hml, hown, hts⟩ (k_X5_thrown l D) (sd_cwV hts wd_X5_thrown wn_X5 wm_L_73 wi_X5_thrown ws_X5_thrown nq_X5_thrown rfl rfl ⟨Nat.le_of_ble_eq_true rfl, Nat.le_of_ble_eq_true rfl⟩) (sd_preVR hP2 hK (ci := 5) (q0 := 0) rfl rfl rfl) rfl rfl hl.1 rfl (lv_room (Nat.le_of_ble_eq_true rfl)) dL_law_791 ⟨show cC + 1 + 0 + 0 ≤ 601024 by omega, show sC + 6 + 0 + 0 ≤ 7293034 by omega⟩) (fun t1 ht1 => ?_)
  subst ht1
  refine lv_iload hx hb dL_law_794 (lv_at hl 1 rfl) ?_
  refine lv_icmp_eq (tgt := 801) hx hb dL_law_796 (by decide) (fun c1 => ?_) (fun c1 => ?_)
  · refine lv_iload hx hb dL_law_801 (lv_at hl 1 rfl) ?_
    refine lv_if_ne (tgt := 817) hx hb dL_law_803 (by decide) (fun c2 => ?_) (fun c2 => ?_)
    · refine lv_goto (tgt := 962) hx hb dL_law_817 (by decide) ?_
      exact K u1.1 w1 u1.2 H locs ls _ _ hT.2.2 ⟨hP1, hP2, hPo, hD1, hD2, hDo, hA12, hA1o, hA2o, hS⟩ (lv_sub hl [2, 3, 4, 5, 6] rfl) (by omega) (by omega)
    · refine lv_aload_n hx hb dL_law_806 rfl (lv_at hl 5 rfl) ?_
      refine lv_iconst (v := nI 0) hx hb dL_law_807 (by decide) ?_
      refine sd_lald hx hb hK hPo 0 0 rfl rfl (k := 0) (by decide) (by decide) dL_law_808 ?_
      refine lv_lload hx hb dL_law_809 (lv_at hl 0 rfl) ?_
      refine W.lcmp hx hb dL_law_811 ?_
      refine lv_if_eq (tgt := 817) hx hb dL_law_812 (by decide) (fun c3 => ?_) (fun c3 => ?_)
      · have c3 : (u1.2 0) = r2 := (lg_cmp_eq _ _).mp c3
        refine lv_goto (tgt := 962) hx hb dL_law_817 (by decide) ?_
        exact K u1.1 w1 u1.2 H locs ls _ _ hT.2.2 ⟨hP1, hP2, hPo, hD1, hD2, hDo, hA12, hA1o, hA2o, hS⟩ (lv_sub hl [2, 3, 4, 5, 6] rfl) (by omega) (by omega)
      · have c3 : ¬ (u1.2 0) = r2 := fun q => c3 ((lg_cmp_eq _ _).mpr q)
        exact absurd (hT.2.1 (c2.trans nI_0.symm)) c3
  · exact absurd hT.1 c1

set_option maxHeartbeats 1000000 in
set_option maxRecDepth 100000 in
theorem lw_case_9 {p : Program} {l : Launch} {e : Env} {s : State} {m : MethodId} {below : List Frame} {meth : Method} {c : Code} {D : va_G} {tc : Nat → ClassId} {ad am : Nat → Nat} {bo b L : Nat} {xs : Nat → Int32} {Q : State → Prop} (hC : sd_LC p l s m c D tc b L xs) {u : DS} {w : MS} {f : Nat → Int64} {H : Heap} {locs : List Loc} {ls : Array Slot} {cC sC i : Nat} (hR : sd_Rel u w) (hI : sd_LI D tc ad am bo s u w f H locs) (hl : lv_has ls 8 [(0, .ref b), (1, .ref (ad 0)), (2, .ref (am 0)), (3, .ref bo), (4, .int (nI i))]) (hi : i + 8 ≤ L) (hL : L ≤ 4096) (hcC : cC ≤ 600000) (hsC : sC ≤ 7000000)
    (K : ∀ (u : DS) (w : MS) (f : Nat → Int64) (H : Heap) (locs : List Loc) (ls : Array Slot) (c2 s2 : Nat), sd_Rel u w → sd_LI D tc ad am bo s u w f H locs → lv_has ls 8 [(0, .ref b), (1, .ref (ad 0)), (2, .ref (am 0)), (3, .ref bo), (4, .int (nI i))] → c2 ≤ cC + 1 → s2 ≤ sC + 6 → W p l e room_1 s m #[Value.ref b] below meth c H locs c2 s2 Q (F0 m 962 ls [])) : W p l e room_1 s m #[Value.ref b] below meth c H locs cC sC Q (F0 m 820 ls []) := by
  obtain ⟨hx, hb, hml, hown, hts, hX, hbl, hK, hEv, hEs, hl9⟩ := hC
  obtain ⟨hP1, hP2, hPo, hD1, hD2, hDo, hA12, hA1o, hA2o, hS⟩ := hI
  have hA : ∀ q : Nat, s.heap.size ≤ q → sd_LA s q := fun _ h => h
  have hbA : ¬ sd_LA s b := Nat.not_le.mpr hbl
  have hL9 : L < 2 ^ 31 := by omega
  refine lv_aload_n hx hb dL_law_820 rfl (lv_at hl 1 rfl) ?_
  refine lv_aload_n hx hb dL_law_821 rfl (lv_at hl 0 rfl) ?_
  refine lv_iload hx hb dL_law_822 (lv_at hl 4 rfl) ?_
  refine lv_iconst (v := nI 1) hx hb dL_law_824 (by decide) ?_
  refine sd_iadd hx hb dL_law_825 ?_
  refine sd_sld hx hb hX hbl hbA hS (j := i + 1) (by omega) hL9 dL_law_826 ?_
  refine sd_ri (va_runV (As := [.int (xs (i + 1))]) (rest := []) ⟨hx, hb, hml, hown, hts⟩ (k_X4_wrong l D (xs (i + 1))) (sd_cwV hts wd_X4_wrong wn_X4 wm_L_85 wi_X4_wrong ws_X4_wrong nq_X4_wrong rfl rfl ⟨Nat.le_of_ble_eq_true rfl, Nat.le_of_ble_eq_true rfl⟩) (sd_preVR hP1 hK (ci := 4) (q0 := 0) rfl rfl dw_desk) rfl rfl hl.1 rfl (lv_room (Nat.le_of_ble_eq_true rfl)) dL_law_827 ⟨show cC + 0 ≤ 601024 by omega, show sC + 0 ≤ 7293034 by omega⟩) (fun r1 hr1 => ?_)
  refine lv_aload_n hx hb dL_law_830 rfl (lv_at hl 2 rfl) ?_
  refine lv_aload_n hx hb dL_law_831 rfl (lv_at hl 0 rfl) ?_
  refine lv_iload hx hb dL_law_832 (lv_at hl 4 rfl) ?_
  refine lv_iconst (v := nI 1) hx hb dL_law_834 (by decide) ?_
  refine sd_iadd hx hb dL_law_835 ?_
  refine sd_sld hx hb hX hbl hbA hS (j := i + 1) (by omega) hL9 dL_law_836 ?_
  refine sd_fi (va_runV (As := [.int (xs (i + 1))]) (rest := [.int r1]) ⟨hx, hb, hml, hown, hts⟩ (k_X5_wrong l D _ (xs (i + 1))) (sd_cwV hts wd_X5_wrong wn_X5 wm_L_89 wi_X5_wrong ws_X5_wrong nq_X5_wrong rfl rfl ⟨Nat.le_of_ble_eq_true rfl, Nat.le_of_ble_eq_true rfl⟩) (sd_preVW hP2 hK hD2 (ci := 5) (q0 := 0) rfl rfl rfl) rfl rfl hl.1 rfl (lv_room (Nat.le_of_ble_eq_true rfl)) dL_law_837 ⟨show cC + 0 ≤ 601024 by omega, show sC + 0 ≤ 7293034 by omega⟩) hD2 hS hA (fun r2 w1 H locs hw1 hPn hDn hS hDs hk => ?_)
  have hA12n := sd_ka hP1 hA12.symm hDs
  have hAon := sd_ka hPo hA2o hDs
  replace hP1 := sd_kp hP1 hA12.symm hk
  replace hPo := sd_kp hPo hA2o hk
  replace hA12 := hA12n.symm
  replace hA2o := hAon
  replace hP2 := hPn
  replace hD2 := hDn
  clear hPn hDn hDs hk hA12n hAon
  have hT := T_wrong (x := xs (i + 1)) hR
  refine lv_icmp_eq (tgt := 962) hx hb dL_law_840 (by decide) (fun c1 => ?_) (fun c1 => ?_)
  · exact K u w1 f H locs ls _ _ (sd_R_same hR ⟨rfl, rfl, rfl, rfl, rfl, rfl, rfl⟩ hw1.2.1) ⟨hP1, hP2, hPo, hD1, hD2, hDo, hA12, hA1o, hA2o, hS⟩ (lv_sub hl [0, 1, 2, 3, 4] rfl) (by omega) (by omega)
  · exact absurd (hr1.trans (hT.trans hw1.2.2.symm)) c1

set_option maxHeartbeats 1000000 in
set_option maxRecDepth 100000 in
theorem lw_case_10 {p : Program} {l : Launch} {e : Env} {s : State} {m : MethodId} {below : List Frame} {meth : Method} {c : Code} {D : va_G} {tc : Nat → ClassId} {ad am : Nat → Nat} {bo b L : Nat} {xs : Nat → Int32} {Q : State → Prop} (hC : sd_LC p l s m c D tc b L xs) {u : DS} {w : MS} {f : Nat → Int64} {H : Heap} {locs : List Loc} {ls : Array Slot} {cC sC i : Nat} (hR : sd_Rel u w) (hI : sd_LI D tc ad am bo s u w f H locs) (hl : lv_has ls 8 [(0, .ref b), (1, .ref (ad 0)), (2, .ref (am 0)), (3, .ref bo), (4, .int (nI i))]) (hi : i + 8 ≤ L) (hL : L ≤ 4096) (hcC : cC ≤ 600000) (hsC : sC ≤ 7000000)
    (K : ∀ (u : DS) (w : MS) (f : Nat → Int64) (H : Heap) (locs : List Loc) (ls : Array Slot) (c2 s2 : Nat), sd_Rel u w → sd_LI D tc ad am bo s u w f H locs → lv_has ls 8 [(0, .ref b), (1, .ref (ad 0)), (2, .ref (am 0)), (3, .ref bo), (4, .int (nI i))] → c2 ≤ cC + 1 → s2 ≤ sC + 6 → W p l e room_1 s m #[Value.ref b] below meth c H locs c2 s2 Q (F0 m 962 ls [])) : W p l e room_1 s m #[Value.ref b] below meth c H locs cC sC Q (F0 m 845 ls []) := by
  obtain ⟨hx, hb, hml, hown, hts, hX, hbl, hK, hEv, hEs, hl9⟩ := hC
  obtain ⟨hP1, hP2, hPo, hD1, hD2, hDo, hA12, hA1o, hA2o, hS⟩ := hI
  have hA : ∀ q : Nat, s.heap.size ≤ q → sd_LA s q := fun _ h => h
  have hbA : ¬ sd_LA s b := Nat.not_le.mpr hbl
  have hL9 : L < 2 ^ 31 := by omega
  refine lv_aload_n hx hb dL_law_845 rfl (lv_at hl 1 rfl) ?_
  refine sd_fi (va_runV (As := []) (rest := []) ⟨hx, hb, hml, hown, hts⟩ (k_X4_mend l D _  (sd_R_ok hR)) (sd_cwV hts wd_X4_mend wn_X4 wm_L_90 wi_X4_mend ws_X4_mend nq_X4_mend rfl rfl ⟨Nat.le_of_ble_eq_true rfl, Nat.le_of_ble_eq_true rfl⟩) (sd_preVW hP1 hK hD1 (ci := 4) (q0 := 0) rfl rfl dw_desk) rfl rfl hl.1 rfl (lv_room (Nat.le_of_ble_eq_true rfl)) dL_law_846 ⟨show cC + 0 ≤ 601024 by omega, show sC + 0 ≤ 7293034 by omega⟩) hD1 hS hA (fun r1 u1 H locs hu1 hPn hDn hS hDs hk => ?_)
  have hA12n := sd_ka hP2 hA12 hDs
  have hAon := sd_ka hPo hA1o hDs
  replace hP2 := sd_kp hP2 hA12 hk
  replace hPo := sd_kp hPo hA1o hk
  replace hA12 := hA12n
  replace hA1o := hAon
  replace hP1 := hPn
  replace hD1 := hDn
  clear hPn hDn hDs hk hA12n hAon
  refine lv_aload_n hx hb dL_law_849 rfl (lv_at hl 2 rfl) ?_
  refine sd_fi (va_runV (As := []) (rest := [.int r1]) ⟨hx, hb, hml, hown, hts⟩ (k_X5_mend l D _  (sd_R_okm hR) (fun e9 => (hR.2.1.2 e9).1)) (sd_cwV hts wd_X5_mend wn_X5 wm_L_94 wi_X5_mend ws_X5_mend nq_X5_mend rfl rfl ⟨Nat.le_of_ble_eq_true rfl, Nat.le_of_ble_eq_true rfl⟩) (sd_preVW hP2 hK hD2 (ci := 5) (q0 := 0) rfl rfl rfl) rfl rfl hl.1 rfl (lv_room (Nat.le_of_ble_eq_true rfl)) dL_law_850 ⟨show cC + 0 + 0 ≤ 601024 by omega, show sC + 0 + 0 ≤ 7293034 by omega⟩) hD2 hS hA (fun r2 w1 H locs hw1 hPn hDn hS hDs hk => ?_)
  have hA12n := sd_ka hP1 hA12.symm hDs
  have hAon := sd_ka hPo hA2o hDs
  replace hP1 := sd_kp hP1 hA12.symm hk
  replace hPo := sd_kp hPo hA2o hk
  replace hA12 := hA12n.symm
  replace hA2o := hAon
  replace hP2 := hPn
  replace hD2 := hDn
  clear hPn hDn hDs hk hA12n hAon
  have hT := T_mend hR hu1 hw1.2
  refine lv_icmp_eq (tgt := 962) hx hb dL_law_853 (by decide) (fun c1 => ?_) (fun c1 => ?_)
  · exact K u1 w1 f H locs ls _ _ hT.2 ⟨hP1, hP2, hPo, hD1, hD2, hDo, hA12, hA1o, hA2o, hS⟩ (lv_sub hl [0, 1, 2, 3, 4] rfl) (by omega) (by omega)
  · exact absurd hT.1 c1

set_option maxHeartbeats 1000000 in
set_option maxRecDepth 100000 in
theorem lw_case_11 {p : Program} {l : Launch} {e : Env} {s : State} {m : MethodId} {below : List Frame} {meth : Method} {c : Code} {D : va_G} {tc : Nat → ClassId} {ad am : Nat → Nat} {bo b L : Nat} {xs : Nat → Int32} {Q : State → Prop} (hC : sd_LC p l s m c D tc b L xs) {u : DS} {w : MS} {f : Nat → Int64} {H : Heap} {locs : List Loc} {ls : Array Slot} {cC sC i : Nat} (hR : sd_Rel u w) (hI : sd_LI D tc ad am bo s u w f H locs) (hl : lv_has ls 8 [(0, .ref b), (1, .ref (ad 0)), (2, .ref (am 0)), (3, .ref bo), (4, .int (nI i))]) (hi : i + 8 ≤ L) (hL : L ≤ 4096) (hcC : cC ≤ 600000) (hsC : sC ≤ 7000000)
    (K : ∀ (u : DS) (w : MS) (f : Nat → Int64) (H : Heap) (locs : List Loc) (ls : Array Slot) (c2 s2 : Nat), sd_Rel u w → sd_LI D tc ad am bo s u w f H locs → lv_has ls 8 [(0, .ref b), (1, .ref (ad 0)), (2, .ref (am 0)), (3, .ref bo), (4, .int (nI i))] → c2 ≤ cC + 1 → s2 ≤ sC + 6 → W p l e room_1 s m #[Value.ref b] below meth c H locs c2 s2 Q (F0 m 962 ls [])) : W p l e room_1 s m #[Value.ref b] below meth c H locs cC sC Q (F0 m 858 ls []) := by
  obtain ⟨hx, hb, hml, hown, hts, hX, hbl, hK, hEv, hEs, hl9⟩ := hC
  obtain ⟨hP1, hP2, hPo, hD1, hD2, hDo, hA12, hA1o, hA2o, hS⟩ := hI
  have hA : ∀ q : Nat, s.heap.size ≤ q → sd_LA s q := fun _ h => h
  have hbA : ¬ sd_LA s b := Nat.not_le.mpr hbl
  have hL9 : L < 2 ^ 31 := by omega
  refine lv_aload_n hx hb dL_law_858 rfl (lv_at hl 1 rfl) ?_
  refine lv_aload_n hx hb dL_law_859 rfl (lv_at hl 0 rfl) ?_
  refine lv_iload hx hb dL_law_860 (lv_at hl 4 rfl) ?_
  refine lv_iconst (v := nI 1) hx hb dL_law_862 (by decide) ?_
  refine sd_iadd hx hb dL_law_863 ?_
  refine sd_sld hx hb hX hbl hbA hS (j := i + 1) (by omega) hL9 dL_law_864 ?_
  refine lv_aload_n hx hb dL_law_865 rfl (lv_at hl 0 rfl) ?_
  refine lv_iload hx hb dL_law_866 (lv_at hl 4 rfl) ?_
  refine lv_iconst (v := nI 2) hx hb dL_law_868 (by decide) ?_
  refine sd_iadd hx hb dL_law_869 ?_
  refine sd_sld hx hb hX hbl hbA hS (j := i + 2) (by omega) hL9 dL_law_870 ?_
  refine lv_aload_n hx hb dL_law_871 rfl (lv_at hl 3 rfl) ?_
  have hPx := hP1.app hPo
  have hDx := hD1.app hDo hA1o
  have hAx := sd_Ap_app hA12 hA2o.symm
  have hEx := (hEs.kept hS.2.1).narrow (fun q h => sd_free hDx hS hA q h)
  refine sd_fi (vx_runSW (As := [.ref (ad 0), .int (xs (i + 1)), .int (xs (i + 2)), .ref bo]) (rest := []) ⟨hx, hb, hml, hown, hts⟩ (k_L_share l D _ (xs (i + 1)) (xs (i + 2)) (sd_R_ok hR) hl9) (sd_csw hts wd_L_share wn_L wm_L_95 wi_L_share nq_L_share rfl rfl ⟨Nat.le_of_ble_eq_true rfl, Nat.le_of_ble_eq_true rfl⟩) (sd_preX hPx hK hDx hEv hEx) rfl rfl hl.1 rfl (lv_room (Nat.le_of_ble_eq_true rfl)) dL_law_872 ⟨show cC + 1 ≤ 601024 by omega, show sC + 6 ≤ 7293034 by omega⟩) hDx hS hA (fun r1 u1 H locs hu1 hPn hDn hS hDs hk => ?_)
  have hAn := sd_ka hP2 hAx hDs
  replace hP2 := sd_kp hP2 hAx hk
  clear hPx hDx hAx hEx hDs hk
  replace hP1 := sd_P_l hPn
  replace hPo := sd_P_r hPn
  replace hD1 := sd_D_l hDn
  replace hDo := sd_D_r hDn
  replace hA1o := sd_D_x hDn
  replace hA12 := sd_Ap_l hAn
  replace hA2o := (sd_Ap_r hAn).symm
  clear hPn hDn hAn
  refine lv_istore (lv' := [(5, .int r1), (0, .ref b), (1, .ref (ad 0)), (2, .ref (am 0)), (3, .ref bo), (4, .int (nI i))]) hx hb dL_law_875 hl (by decide) rfl (fun ls hl => ?_)
  refine lv_aload_n hx hb dL_law_877 rfl (lv_at hl 3 rfl) ?_
  refine lv_aload_n hx hb dL_law_878 rfl (lv_at hl 1 rfl) ?_
  refine lv_iload hx hb dL_law_879 (lv_at hl 5 rfl) ?_
  refine lv_iconst (v := nI 1) hx hb dL_law_881 (by decide) ?_
  refine sd_iadd hx hb dL_law_882 ?_
  refine sd_sld hx hb hX hbl hbA hS (j := i + 1) (by omega) hL9 dL_law_883 ?_
  refine lv_aload_n hx hb dL_law_884 rfl (lv_at hl 1 rfl) ?_
  refine lv_iload hx hb dL_law_885 (lv_at hl 5 rfl) ?_
  refine lv_iconst (v := nI 2) hx hb dL_law_887 (by decide) ?_
  refine sd_iadd hx hb dL_law_888 ?_
  refine sd_sld hx hb hX hbl hbA hS (j := i + 2) (by omega) hL9 dL_law_889 ?_
  refine sd_fl (va_runV (As := [.int (xs (i + 1)), .int (xs (i + 2))]) (rest := []) ⟨hx, hb, hml, hown, hts⟩ (k_X5_share l D _ (xs (i + 1)) (xs (i + 2)) (sd_R_okm hR)) (sd_cwV hts wd_X5_share wn_X5 wm_L_97 wi_X5_share ws_X5_share nq_X5_share rfl rfl ⟨Nat.le_of_ble_eq_true rfl, Nat.le_of_ble_eq_true rfl⟩) (sd_preVW hP2 hK hD2 (ci := 5) (q0 := 0) rfl rfl rfl) rfl rfl hl.1 rfl (lv_room (Nat.le_of_ble_eq_true rfl)) dL_law_890 ⟨show cC + 1 + 0 ≤ 601024 by omega, show sC + 6 + 0 ≤ 7293034 by omega⟩) hD2 hS hA (fun r2 w1 H locs hw1 hPn hDn hS hDs hk => ?_)
  have hA12n := sd_ka hP1 hA12.symm hDs
  have hAon := sd_ka hPo hA2o hDs
  replace hP1 := sd_kp hP1 hA12.symm hk
  replace hPo := sd_kp hPo hA2o hk
  replace hA12 := hA12n.symm
  replace hA2o := hAon
  replace hP2 := hPn
  replace hD2 := hDn
  clear hPn hDn hDs hk hA12n hAon
  have hT := T_share hR hu1 hw1.1 hw1.2
  refine lv_lstore (lv' := [(6, .long r2), (5, .int r1), (0, .ref b), (1, .ref (ad 0)), (2, .ref (am 0)), (3, .ref bo), (4, .int (nI i))]) hx hb dL_law_893 hl (by decide) rfl (fun ls hl => ?_)
  refine lv_aload_n hx hb dL_law_895 rfl (lv_at hl 4 rfl) ?_
  refine sd_ri (va_runV (As := []) (rest := []) ⟨hx, hb, hml, hown, hts⟩ (k_X5_thrown l D) (sd_cwV hts wd_X5_thrown wn_X5 wm_L_73 wi_X5_thrown ws_X5_thrown nq_X5_thrown rfl rfl ⟨Nat.le_of_ble_eq_true rfl, Nat.le_of_ble_eq_true rfl⟩) (sd_preVR hP2 hK (ci := 5) (q0 := 0) rfl rfl rfl) rfl rfl hl.1 rfl (lv_room (Nat.le_of_ble_eq_true rfl)) dL_law_896 ⟨show cC + 1 + 0 + 0 ≤ 601024 by omega, show sC + 6 + 0 + 0 ≤ 7293034 by omega⟩) (fun t1 ht1 => ?_)
  subst ht1
  refine lv_iload hx hb dL_law_899 (lv_at hl 1 rfl) ?_
  refine lv_icmp_eq (tgt := 906) hx hb dL_law_901 (by decide) (fun c1 => ?_) (fun c1 => ?_)
  · refine lv_iload hx hb dL_law_906 (lv_at hl 1 rfl) ?_
    refine lv_if_ne (tgt := 922) hx hb dL_law_908 (by decide) (fun c2 => ?_) (fun c2 => ?_)
    · refine lv_goto (tgt := 962) hx hb dL_law_922 (by decide) ?_
      exact K u1.1 w1 u1.2 H locs ls _ _ hT.2.2 ⟨hP1, hP2, hPo, hD1, hD2, hDo, hA12, hA1o, hA2o, hS⟩ (lv_sub hl [2, 3, 4, 5, 6] rfl) (by omega) (by omega)
    · refine lv_aload_n hx hb dL_law_911 rfl (lv_at hl 5 rfl) ?_
      refine lv_iconst (v := nI 0) hx hb dL_law_912 (by decide) ?_
      refine sd_lald hx hb hK hPo 0 0 rfl rfl (k := 0) (by decide) (by decide) dL_law_913 ?_
      refine lv_lload hx hb dL_law_914 (lv_at hl 0 rfl) ?_
      refine W.lcmp hx hb dL_law_916 ?_
      refine lv_if_eq (tgt := 922) hx hb dL_law_917 (by decide) (fun c3 => ?_) (fun c3 => ?_)
      · have c3 : (u1.2 0) = r2 := (lg_cmp_eq _ _).mp c3
        refine lv_goto (tgt := 962) hx hb dL_law_922 (by decide) ?_
        exact K u1.1 w1 u1.2 H locs ls _ _ hT.2.2 ⟨hP1, hP2, hPo, hD1, hD2, hDo, hA12, hA1o, hA2o, hS⟩ (lv_sub hl [2, 3, 4, 5, 6] rfl) (by omega) (by omega)
      · have c3 : ¬ (u1.2 0) = r2 := fun q => c3 ((lg_cmp_eq _ _).mpr q)
        exact absurd (hT.2.1 (c2.trans nI_0.symm)) c3
  · exact absurd hT.1 c1

set_option maxHeartbeats 1000000 in
set_option maxRecDepth 100000 in
theorem lw_case_12 {p : Program} {l : Launch} {e : Env} {s : State} {m : MethodId} {below : List Frame} {meth : Method} {c : Code} {D : va_G} {tc : Nat → ClassId} {ad am : Nat → Nat} {bo b L : Nat} {xs : Nat → Int32} {Q : State → Prop} (hC : sd_LC p l s m c D tc b L xs) {u : DS} {w : MS} {f : Nat → Int64} {H : Heap} {locs : List Loc} {ls : Array Slot} {cC sC i : Nat} (hR : sd_Rel u w) (hI : sd_LI D tc ad am bo s u w f H locs) (hl : lv_has ls 8 [(0, .ref b), (1, .ref (ad 0)), (2, .ref (am 0)), (3, .ref bo), (4, .int (nI i))]) (hi : i + 8 ≤ L) (hL : L ≤ 4096) (hcC : cC ≤ 600000) (hsC : sC ≤ 7000000)
    (K : ∀ (u : DS) (w : MS) (f : Nat → Int64) (H : Heap) (locs : List Loc) (ls : Array Slot) (c2 s2 : Nat), sd_Rel u w → sd_LI D tc ad am bo s u w f H locs → lv_has ls 8 [(0, .ref b), (1, .ref (ad 0)), (2, .ref (am 0)), (3, .ref bo), (4, .int (nI i))] → c2 ≤ cC + 1 → s2 ≤ sC + 6 → W p l e room_1 s m #[Value.ref b] below meth c H locs c2 s2 Q (F0 m 962 ls [])) : W p l e room_1 s m #[Value.ref b] below meth c H locs cC sC Q (F0 m 925 ls []) := by
  obtain ⟨hx, hb, hml, hown, hts, hX, hbl, hK, hEv, hEs, hl9⟩ := hC
  obtain ⟨hP1, hP2, hPo, hD1, hD2, hDo, hA12, hA1o, hA2o, hS⟩ := hI
  have hA : ∀ q : Nat, s.heap.size ≤ q → sd_LA s q := fun _ h => h
  have hbA : ¬ sd_LA s b := Nat.not_le.mpr hbl
  have hL9 : L < 2 ^ 31 := by omega
  refine lv_aload_n hx hb dL_law_925 rfl (lv_at hl 1 rfl) ?_
  refine lv_aload_n hx hb dL_law_926 rfl (lv_at hl 0 rfl) ?_
  refine lv_iload hx hb dL_law_927 (lv_at hl 4 rfl) ?_
  refine lv_iconst (v := nI 1) hx hb dL_law_929 (by decide) ?_
  refine sd_iadd hx hb dL_law_930 ?_
  refine sd_sld hx hb hX hbl hbA hS (j := i + 1) (by omega) hL9 dL_law_931 ?_
  refine lv_aload_n hx hb dL_law_932 rfl (lv_at hl 0 rfl) ?_
  refine lv_iload hx hb dL_law_933 (lv_at hl 4 rfl) ?_
  refine lv_iconst (v := nI 2) hx hb dL_law_935 (by decide) ?_
  refine sd_iadd hx hb dL_law_936 ?_
  refine sd_sld hx hb hX hbl hbA hS (j := i + 2) (by omega) hL9 dL_law_937 ?_
  refine sd_ri (va_runV (As := [.int (xs (i + 1)), .int (xs (i + 2))]) (rest := []) ⟨hx, hb, hml, hown, hts⟩ (k_X4_split l D (xs (i + 1)) (xs (i + 2)) (sd_R_ok hR)) (sd_cwV hts wd_X4_split wn_X4 wm_L_98 wi_X4_split ws_X4_split nq_X4_split rfl rfl ⟨Nat.le_of_ble_eq_true rfl, Nat.le_of_ble_eq_true rfl⟩) (sd_preVR hP1 hK (ci := 4) (q0 := 0) rfl rfl dw_desk) rfl rfl hl.1 rfl (lv_room (Nat.le_of_ble_eq_true rfl)) dL_law_938 ⟨show cC + 0 ≤ 601024 by omega, show sC + 0 ≤ 7293034 by omega⟩) (fun r1 hr1 => ?_)
  refine lv_aload_n hx hb dL_law_941 rfl (lv_at hl 2 rfl) ?_
  refine lv_aload_n hx hb dL_law_942 rfl (lv_at hl 0 rfl) ?_
  refine lv_iload hx hb dL_law_943 (lv_at hl 4 rfl) ?_
  refine lv_iconst (v := nI 1) hx hb dL_law_945 (by decide) ?_
  refine sd_iadd hx hb dL_law_946 ?_
  refine sd_sld hx hb hX hbl hbA hS (j := i + 1) (by omega) hL9 dL_law_947 ?_
  refine lv_aload_n hx hb dL_law_948 rfl (lv_at hl 0 rfl) ?_
  refine lv_iload hx hb dL_law_949 (lv_at hl 4 rfl) ?_
  refine lv_iconst (v := nI 2) hx hb dL_law_951 (by decide) ?_
  refine sd_iadd hx hb dL_law_952 ?_
  refine sd_sld hx hb hX hbl hbA hS (j := i + 2) (by omega) hL9 dL_law_953 ?_
  refine sd_fi (va_runV (As := [.int (xs (i + 1)), .int (xs (i + 2))]) (rest := [.int r1]) ⟨hx, hb, hml, hown, hts⟩ (k_X5_split l D _ (xs (i + 1)) (xs (i + 2)) (sd_R_okm hR)) (sd_cwV hts wd_X5_split wn_X5 wm_L_101 wi_X5_split ws_X5_split nq_X5_split rfl rfl ⟨Nat.le_of_ble_eq_true rfl, Nat.le_of_ble_eq_true rfl⟩) (sd_preVW hP2 hK hD2 (ci := 5) (q0 := 0) rfl rfl rfl) rfl rfl hl.1 rfl (lv_room (Nat.le_of_ble_eq_true rfl)) dL_law_954 ⟨show cC + 0 ≤ 601024 by omega, show sC + 0 ≤ 7293034 by omega⟩) hD2 hS hA (fun r2 w1 H locs hw1 hPn hDn hS hDs hk => ?_)
  have hA12n := sd_ka hP1 hA12.symm hDs
  have hAon := sd_ka hPo hA2o hDs
  replace hP1 := sd_kp hP1 hA12.symm hk
  replace hPo := sd_kp hPo hA2o hk
  replace hA12 := hA12n.symm
  replace hA2o := hAon
  replace hP2 := hPn
  replace hD2 := hDn
  clear hPn hDn hDs hk hA12n hAon
  have hT := T_split hR hr1 hw1.2.1 hw1.2.2
  refine lv_icmp_eq (tgt := 962) hx hb dL_law_957 (by decide) (fun c1 => ?_) (fun c1 => ?_)
  · exact K u w1 f H locs ls _ _ hT.2 ⟨hP1, hP2, hPo, hD1, hD2, hDo, hA12, hA1o, hA2o, hS⟩ (lv_sub hl [0, 1, 2, 3, 4] rfl) (by omega) (by omega)
  · exact absurd hT.1 c1

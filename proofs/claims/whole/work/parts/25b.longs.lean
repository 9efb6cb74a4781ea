/-! longs: the rest by P, Math.floorMod's cases, rows for lN -/
theorem sd_ofInt_lN (n : Nat) : Int64.ofInt (n : Int) = lN n := rfl
theorem sd_P64 : (2305843009213693951 : Int64).toInt = 2305843009213693951 := by decide +kernel
theorem sd_rem (x : Int64) : x - x / 2305843009213693951 * 2305843009213693951 = Int64.ofInt (x.toInt.tmod 2305843009213693951) := by
  have hq : (x / 2305843009213693951).toInt = x.toInt.tdiv 2305843009213693951 := by
    rw [Int64.toInt_div_of_ne_right x _ (by decide), sd_P64]
  have h1 : x / 2305843009213693951 = Int64.ofInt (x.toInt.tdiv 2305843009213693951) := by rw [← hq, Int64.ofInt_toInt]
  have h2 : (2305843009213693951 : Int64) = Int64.ofInt 2305843009213693951 := by decide +kernel
  have h3 : x = Int64.ofInt x.toInt := (Int64.ofInt_toInt x).symm
  rw [h1]
  generalize hz : x.toInt = z at *
  rw [h3, h2, ← Int64.ofInt_mul, ← Int64.ofInt_sub]
  refine congrArg Int64.ofInt ?_
  have := Int.mul_tdiv_add_tmod z 2305843009213693951
  omega
theorem sd_tm {z : Int} (h : z < 0) : z.tmod 2305843009213693951 = -((-z) % 2305843009213693951) := by
  have e : z.tmod 2305843009213693951 = -((-z).tmod 2305843009213693951) := by
    rw [Int.neg_tmod, Int.neg_neg]
  rw [e, Int.tmod_eq_emod_of_nonneg (by omega)]
theorem sd_xorneg (x : Int64) : x ^^^ 2305843009213693951 < 0 ↔ x < 0 := by
  have a : (x ^^^ 2305843009213693951).toBitVec.msb = x.toBitVec.msb := by
    rw [Int64.toBitVec_xor, BitVec.msb_xor, show (2305843009213693951 : Int64).toBitVec.msb = false by decide +kernel, Bool.xor_false]
  rw [BitVec.msb_eq_toInt, BitVec.msb_eq_toInt, decide_eq_decide] at a
  rw [Int64.lt_iff_toInt_lt, Int64.lt_iff_toInt_lt, Int64.toInt_zero]
  exact a
theorem sd_of_val (x : Int64) : sd_L (sd_of x) = Int64.ofInt (x.toInt % 2305843009213693951) := by
  have h1 := Int.emod_nonneg x.toInt (show (2305843009213693951 : Int) ≠ 0 by decide)
  show lN (x.toInt % 2305843009213693951).toNat = _
  rw [← sd_ofInt_lN, Int.toNat_of_nonneg h1]
/-- the rest is the number already -/
theorem sd_fm_0 {x : Int64} (h : ¬ x < 0) : x - x / 2305843009213693951 * 2305843009213693951 = sd_L (sd_of x) := by
  rw [Int64.lt_iff_toInt_lt, Int64.toInt_zero] at h
  rw [sd_rem, sd_of_val, Int.tmod_eq_emod_of_nonneg (by omega)]
theorem sd_fm_z {x : Int64} (h : x - x / 2305843009213693951 * 2305843009213693951 = 0) : x - x / 2305843009213693951 * 2305843009213693951 = sd_L (sd_of x) := by
  by_cases hn : x < 0
  · rw [Int64.lt_iff_toInt_lt, Int64.toInt_zero] at hn
    rw [sd_rem, sd_tm hn] at h ⊢
    have h0 : (-((-x.toInt) % 2305843009213693951) : Int) = 0 := by
      have hb := congrArg Int64.toInt h
      rw [Int64.toInt_ofInt_of_le (by omega) (by omega), Int64.toInt_zero] at hb
      exact hb
    rw [sd_of_val, h0]
    refine congrArg Int64.ofInt ?_
    omega
  · exact sd_fm_0 hn
theorem sd_fm_n {x : Int64} (hn : x < 0) (h : ¬ x - x / 2305843009213693951 * 2305843009213693951 = 0) : x - x / 2305843009213693951 * 2305843009213693951 + 2305843009213693951 = sd_L (sd_of x) := by
  rw [Int64.lt_iff_toInt_lt, Int64.toInt_zero] at hn
  rw [sd_rem, sd_tm hn] at h ⊢
  have h0 : ¬ (-((-x.toInt) % 2305843009213693951) : Int) = 0 := fun z => h (by rw [z]; rfl)
  have h2 : (2305843009213693951 : Int64) = Int64.ofInt 2305843009213693951 := by decide +kernel
  rw [sd_of_val, h2, ← Int64.ofInt_add]
  refine congrArg Int64.ofInt ?_
  omega
section
variable {p : Program} {l : Launch} {e : Env} {R : Room} {s : State} {m : MethodId} {args : Array Value} {below : List Frame} {meth : Method} {c : Code} {H : Heap} {locs : List Loc} {cells slots : Nat} {Q : State → Prop}
variable {cc : ByteArray} {pc : Nat} {ls : Array Slot} {rest : List Value}
theorem sd_lushr (hexec : p.tables.exec = Jvm.exec) (hb : c.code = cc) {n k v : Nat} (hn : n < 2 ^ 64) (hk : k < 64) (hv : n / 2 ^ k = v) (hdg : decode cc pc = .ok (.lushr, 1)) (kk : W p l e R s m args below meth c H locs cells slots Q (F0 m (pc + 1) ls (.long (lN v) :: rest))) : W p l e R s m args below meth c H locs cells slots Q (F0 m pc ls (.int (nI k) :: .long (lN n) :: rest)) := lv_lushr hexec hb hdg (by rw [wb_shr hn hk, hv]) kk
theorem sd_lshl (hexec : p.tables.exec = Jvm.exec) (hb : c.code = cc) {n k v : Nat} (hk : k < 64) (hv : n * 2 ^ k = v) (hdg : decode cc pc = .ok (.lshl, 1)) (kk : W p l e R s m args below meth c H locs cells slots Q (F0 m (pc + 1) ls (.long (lN v) :: rest))) : W p l e R s m args below meth c H locs cells slots Q (F0 m pc ls (.int (nI k) :: .long (lN n) :: rest)) := lv_lshl hexec hb hdg (by rw [wb_shl n hk, hv]) kk
theorem sd_land (hexec : p.tables.exec = Jvm.exec) (hb : c.code = cc) {n k M v : Nat} (hn : n < 2 ^ 64) (hk : k < 64) (hM : 2 ^ k - 1 = M) (hv : n % 2 ^ k = v) (hdg : decode cc pc = .ok (.land, 1)) (kk : W p l e R s m args below meth c H locs cells slots Q (F0 m (pc + 1) ls (.long (lN v) :: rest))) : W p l e R s m args below meth c H locs cells slots Q (F0 m pc ls (.long (lN M) :: .long (lN n) :: rest)) := lv_land hexec hb hdg (by rw [← hM, wb_mask hn hk, hv]; exact kk)
theorem sd_lmul (hexec : p.tables.exec = Jvm.exec) (hb : c.code = cc) {a b : Nat} (hdg : decode cc pc = .ok (.lmul, 1)) (kk : W p l e R s m args below meth c H locs cells slots Q (F0 m (pc + 1) ls (.long (lN (a * b)) :: rest))) : W p l e R s m args below meth c H locs cells slots Q (F0 m pc ls (.long (lN b) :: .long (lN a) :: rest)) := lv_lmul hexec hb hdg (by rw [lN_mul]; exact kk)
theorem sd_ladd (hexec : p.tables.exec = Jvm.exec) (hb : c.code = cc) {a b : Nat} (hdg : decode cc pc = .ok (.ladd, 1)) (kk : W p l e R s m args below meth c H locs cells slots Q (F0 m (pc + 1) ls (.long (lN (a + b)) :: rest))) : W p l e R s m args below meth c H locs cells slots Q (F0 m pc ls (.long (lN b) :: .long (lN a) :: rest)) := lv_ladd hexec hb hdg (by rw [lN_add]; exact kk)
theorem sd_lsub (hexec : p.tables.exec = Jvm.exec) (hb : c.code = cc) {a b : Nat} (h : b ≤ a) (hdg : decode cc pc = .ok (.lsub, 1)) (kk : W p l e R s m args below meth c H locs cells slots Q (F0 m (pc + 1) ls (.long (lN (a - b)) :: rest))) : W p l e R s m args below meth c H locs cells slots Q (F0 m pc ls (.long (lN b) :: .long (lN a) :: rest)) := lv_lsub hexec hb hdg (by rw [lN_sub h]; exact kk)
theorem sd_lrem (hexec : p.tables.exec = Jvm.exec) (hb : c.code = cc) {a b : Nat} (ha : a < 2 ^ 63) (h0 : 0 < b) (hb2 : b < 2 ^ 63) (hdg : decode cc pc = .ok (.lrem, 1)) (kk : W p l e R s m args below meth c H locs cells slots Q (F0 m (pc + 1) ls (.long (lN (a % b)) :: rest))) : W p l e R s m args below meth c H locs cells slots Q (F0 m pc ls (.long (lN b) :: .long (lN a) :: rest)) := lv_lrem hexec hb hdg (fun q => by have := (pk_lEQ (a := b) (b := 0) hb2 (by decide)).mp q; omega) (by rw [pk_lRem ha h0 hb2]; exact kk)
theorem sd_ldiv (hexec : p.tables.exec = Jvm.exec) (hb : c.code = cc) {a b : Nat} (ha : a < 2 ^ 63) (h0 : 0 < b) (hb2 : b < 2 ^ 63) (hdg : decode cc pc = .ok (.ldiv, 1)) (kk : W p l e R s m args below meth c H locs cells slots Q (F0 m (pc + 1) ls (.long (lN (a / b)) :: rest))) : W p l e R s m args below meth c H locs cells slots Q (F0 m pc ls (.long (lN b) :: .long (lN a) :: rest)) := lv_ldiv hexec hb hdg (fun q => by have := (pk_lEQ (a := b) (b := 0) hb2 (by decide)).mp q; omega) (by rw [pk_lDiv ha h0 hb2]; exact kk)
theorem sd_tob {b : Bool} {v : Int32} (h : bI b = v) (kk : W p l e R s m args below meth c H locs cells slots Q (F0 m pc ls (.int (bI b) :: rest))) : W p l e R s m args below meth c H locs cells slots Q (F0 m pc ls (.int v :: rest)) := h ▸ kk
/-- the same number on the stack, by another name -/
theorem sd_tol {x y : Int64} (h : x = y) (kk : W p l e R s m args below meth c H locs cells slots Q (F0 m pc ls (.long y :: rest))) : W p l e R s m args below meth c H locs cells slots Q (F0 m pc ls (.long x :: rest)) := h ▸ kk
theorem sd_toi {x y : Int32} (h : x = y) (kk : W p l e R s m args below meth c H locs cells slots Q (F0 m pc ls (.int y :: rest))) : W p l e R s m args below meth c H locs cells slots Q (F0 m pc ls (.int x :: rest)) := h ▸ kk
end

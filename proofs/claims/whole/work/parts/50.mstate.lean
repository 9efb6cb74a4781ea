/-! the reference's cells: 0 the object, 1 degree, 2 size, 3 share, 4 there, 5 inverse, 6 found, 7 wrong, 8 place, 9 chosen, 10 curve, 11 row -/
abbrev aN (c : ClassId) (n : Nat) (f : Nat → Nat) : va_E := .inl (c, n, .inl (fun j => nI (f j)))
abbrev mw (am : Nat → Nat) (tc : Nat → ClassId) (tn : Int32) (mdg msz : Nat → Nat) (msh : Nat → FP) (mth : Nat → Bool) (minv : Nat → FP) (isf : Bool) (fsp : Nat) (mfo : Nat → FP) (mwr : Nat → Bool) (mpl : Nat → Nat) (mny : Nat) (mch : Nat → Nat) (mcu mro : Nat → FP) : va_W :=
  [(am 0, .inr (5, [.int tn, .ref (am 1), .ref (am 2), .ref (am 3), .ref (am 4), .ref (am 5), .int (bI isf), .int (nI fsp), .ref (am 6), .ref (am 7), .ref (am 8), .int (nI mny), .ref (am 9), .ref (am 10), .ref (am 11)])),
   (am 1, aN (tc 2) 8 mdg), (am 2, aN (tc 2) 8 msz), (am 3, aL (tc 0) 136 msh), (am 4, aZ (tc 1) 136 mth), (am 5, aL (tc 0) 17 minv), (am 6, aL (tc 0) 9 mfo), (am 7, aZ (tc 1) 17 mwr), (am 8, aN (tc 2) 16 mpl), (am 9, aN (tc 2) 16 mch), (am 10, aL (tc 0) 9 mcu), (am 11, aL (tc 0) 9 mro)]
theorem sd_stN (f : Nat → Nat) (k x : Nat) : upd (fun j => nI (f j)) k (nI x) = fun j => nI (sd_up f k x j) := by
  funext j
  simp only [upd, sd_up]
  split <;> rfl
theorem sd_fitB (b : Bool) : fits .boolean (.int (bI b)) = true := by cases b <;> rfl
theorem sd_red {n : Nat} (h : n < 2 ^ 64) : (2305843009213693951 ≤ n % 2305843009213693952 + n / 2305843009213693952 → n % 2305843009213693952 + n / 2305843009213693952 - 2305843009213693951 = n % 2305843009213693951) ∧ (¬ 2305843009213693951 ≤ n % 2305843009213693952 + n / 2305843009213693952 → n % 2305843009213693952 + n / 2305843009213693952 = n % 2305843009213693951) := by
  omega
theorem sd_N_red (n : Nat) : lN (n % 2305843009213693951) = sd_L (sd_N n) := rfl
theorem sd_N_add (a b : Nat) : sd_N a + sd_N b = sd_N (a + b) := by
  apply Fin.ext
  show (a % 2305843009213693951 + b % 2305843009213693951) % 2305843009213693951 = (a + b) % 2305843009213693951
  omega
theorem sd_N_val2 (a : FP) : sd_N a.val = a := Fin.ext (Nat.mod_eq_of_lt a.isLt)
theorem sd_N_plus (a b : FP) : sd_N (a.val + b.val) = a + b := Fin.ext rfl
theorem sd_N_minus (a b : FP) : sd_N (a.val + 2305843009213693951 - b.val) = a - b := by
  apply Fin.ext
  have ha := a.isLt
  have hb := b.isLt
  rw [Fin.sub_def]
  show (a.val + 2305843009213693951 - b.val) % 2305843009213693951 = (2305843009213693951 - b.val + a.val) % 2305843009213693951
  omega
theorem sd_N_times (a b : FP) : sd_N (a.val * b.val) = a * b := Fin.ext rfl
theorem sd_N_mod {a b : Nat} (h : a % 2305843009213693951 = b % 2305843009213693951) : sd_N a = sd_N b := Fin.ext h
theorem sd_mo_0 {x : Int64} (h : ¬ x - x / 2305843009213693951 * 2305843009213693951 < 0) : x - x / 2305843009213693951 * 2305843009213693951 = sd_L (sd_of x) := by
  by_cases hn : x < 0
  · refine sd_fm_z ?_
    rw [Int64.lt_iff_toInt_lt, Int64.toInt_zero] at hn h
    rw [sd_rem, sd_tm hn] at h ⊢
    rw [Int64.toInt_ofInt_of_le (by omega) (by omega)] at h
    have e : (-((-x.toInt) % 2305843009213693951) : Int) = 0 := by omega
    rw [e]
    rfl
  · exact sd_fm_0 hn
theorem sd_mo_n {x : Int64} (h : x - x / 2305843009213693951 * 2305843009213693951 < 0) : x - x / 2305843009213693951 * 2305843009213693951 + 2305843009213693951 = sd_L (sd_of x) := by
  by_cases hn : x < 0
  · exact sd_fm_n hn (fun z => by rw [z] at h; exact absurd h (by decide))
  · rw [sd_fm_0 hn] at h
    have hlt := (sd_of x).isLt
    unfold sd_L at h
    rw [Int64.lt_iff_toInt_lt, Int64.toInt_zero, pk_lT (by omega)] at h
    omega

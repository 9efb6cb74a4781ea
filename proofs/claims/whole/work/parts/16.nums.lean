/-! numbers as longs -/
def sd_L (a : FP) : Int64 := lN a.val
theorem sd_lNP : lN 2305843009213693951 = (2305843009213693951 : Int64) := by decide +kernel
theorem sd_L_inj {a b : FP} (h : sd_L a = sd_L b) : a = b := by
  have ha := a.isLt
  have hb := b.isLt
  exact Fin.ext ((pk_lEQ (by omega) (by omega)).mp h)
theorem sd_L_eq {a b : FP} : sd_L a = sd_L b ↔ a = b := ⟨sd_L_inj, fun h => by rw [h]⟩
theorem sd_L_0 : sd_L 0 = 0 := by decide +kernel
theorem sd_L_1 : sd_L 1 = 1 := by decide +kernel
theorem sd_plus_ge {a b : FP} (h : (2305843009213693951 : Int64) ≤ sd_L a + sd_L b) : sd_L a + sd_L b - 2305843009213693951 = sd_L (a + b) := by
  have ha := a.isLt
  have hb := b.isLt
  rw [← sd_lNP] at h ⊢
  unfold sd_L at h ⊢
  rw [lN_add] at h ⊢
  have h2 := (pk_lLE (by omega) (by omega)).mp h
  rw [lN_sub h2, Fin.val_add]
  refine congrArg lN ?_
  omega
theorem sd_plus_lt {a b : FP} (h : ¬ (2305843009213693951 : Int64) ≤ sd_L a + sd_L b) : sd_L a + sd_L b = sd_L (a + b) := by
  have ha := a.isLt
  have hb := b.isLt
  rw [← sd_lNP] at h
  unfold sd_L at h ⊢
  rw [lN_add] at h ⊢
  have h2 : ¬ 2305843009213693951 ≤ a.val + b.val := fun q => h ((pk_lLE (by omega) (by omega)).mpr q)
  rw [Fin.val_add]
  refine congrArg lN ?_
  omega
theorem sd_minus_ge {a b : FP} (h : sd_L b ≤ sd_L a) : sd_L a - sd_L b = sd_L (a - b) := by
  have ha := a.isLt
  have hb := b.isLt
  unfold sd_L at h ⊢
  have h2 := (pk_lLE (by omega) (by omega)).mp h
  rw [lN_sub h2, Fin.sub_def]
  refine congrArg lN ?_
  show a.val - b.val = (2305843009213693951 - b.val + a.val) % 2305843009213693951
  omega
theorem sd_minus_lt {a b : FP} (h : ¬ sd_L b ≤ sd_L a) : sd_L a - sd_L b + 2305843009213693951 = sd_L (a - b) := by
  have ha := a.isLt
  have hb := b.isLt
  unfold sd_L at h ⊢
  have h2 : ¬ b.val ≤ a.val := fun q => h ((pk_lLE (by omega) (by omega)).mpr q)
  have e : lN a.val - lN b.val + 2305843009213693951 = (lN a.val + 2305843009213693951) - lN b.val := by grind
  rw [e, ← sd_lNP, lN_add, lN_sub (by omega), Fin.sub_def]
  refine congrArg lN ?_
  show a.val + 2305843009213693951 - b.val = (2305843009213693951 - b.val + a.val) % 2305843009213693951
  omega
/-- the product out of halves -/
theorem sd_times_nat {a b : Nat} (ha : a < 2305843009213693951) (hb : b < 2305843009213693951) :
    (2 * (a / 2147483648) * (b / 2147483648) + (((a / 2147483648) * (b % 2147483648) + (a % 2147483648) * (b / 2147483648)) / 1073741824 + (((a / 2147483648) * (b % 2147483648) + (a % 2147483648) * (b / 2147483648)) % 1073741824) * 2147483648) + (a % 2147483648) * (b % 2147483648)) % 2305843009213693951 = (a * b) % 2305843009213693951 ∧
    2 * (a / 2147483648) * (b / 2147483648) + (((a / 2147483648) * (b % 2147483648) + (a % 2147483648) * (b / 2147483648)) / 1073741824 + (((a / 2147483648) * (b % 2147483648) + (a % 2147483648) * (b / 2147483648)) % 1073741824) * 2147483648) + (a % 2147483648) * (b % 2147483648) < 2 ^ 63 ∧
    (a / 2147483648) * (b % 2147483648) + (a % 2147483648) * (b / 2147483648) < 2 ^ 63 := by
  have a1 := Nat.div_add_mod a 2147483648
  have b1 := Nat.div_add_mod b 2147483648
  have a2 : a % 2147483648 < 2147483648 := Nat.mod_lt _ (by decide)
  have b2 : b % 2147483648 < 2147483648 := Nat.mod_lt _ (by decide)
  have a3 : a / 2147483648 < 1073741824 := by omega
  have b3 : b / 2147483648 < 1073741824 := by omega
  generalize a / 2147483648 = x at *
  generalize a % 2147483648 = y at *
  generalize b / 2147483648 = z at *
  generalize b % 2147483648 = w at *
  have m1 : x * w ≤ 1073741823 * 2147483647 := Nat.mul_le_mul (by omega) (by omega)
  have m2 : y * z ≤ 2147483647 * 1073741823 := Nat.mul_le_mul (by omega) (by omega)
  have m3 : x * z ≤ 1073741823 * 1073741823 := Nat.mul_le_mul (by omega) (by omega)
  have m4 : y * w ≤ 2147483647 * 2147483647 := Nat.mul_le_mul (by omega) (by omega)
  have hq := Nat.div_add_mod (x * w + y * z) 1073741824
  have hr : (x * w + y * z) % 1073741824 < 1073741824 := Nat.mod_lt _ (by decide)
  have hmid : x * w + y * z < 2 ^ 63 := by omega
  have e2 : 2 * x * z = 2 * (x * z) := Nat.mul_assoc 2 x z
  generalize (x * w + y * z) / 1073741824 = q at *
  generalize (x * w + y * z) % 1073741824 = r at *
  have hab : a * b = (2 * x * z + (q + r * 2147483648) + y * w) + 2305843009213693951 * (2 * (x * z) + q) := by
    rw [← a1, ← b1, e2]
    have e3 : (2147483648 * x + y) * (2147483648 * z + w) = 4611686018427387904 * (x * z) + 2147483648 * (x * w + y * z) + y * w := by grind
    rw [e3, ← hq]
    omega
  refine ⟨?_, ?_, hmid⟩
  · rw [hab, Nat.add_mul_mod_self_left]
  · rw [e2]
    omega
theorem sd_mul_val (a b : FP) : (a * b).val = (a.val * b.val) % 2305843009213693951 := Fin.val_mul a b
/-- a long from outside -/
def sd_of (x : Int64) : FP := ⟨(x.toInt % 2305843009213693951).toNat, by
  have h1 := Int.emod_nonneg x.toInt (show (2305843009213693951 : Int) ≠ 0 by decide)
  have h2 := Int.emod_lt_of_pos x.toInt (show (0 : Int) < 2305843009213693951 by decide)
  omega⟩
theorem sd_of_L (a : FP) : sd_of (sd_L a) = a := by
  have ha := a.isLt
  apply Fin.ext
  show ((sd_L a).toInt % 2305843009213693951).toNat = a.val
  unfold sd_L
  rw [pk_lT (by omega)]
  omega

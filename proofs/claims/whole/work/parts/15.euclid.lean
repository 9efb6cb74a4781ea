/-! Euclid's way to the inverse, with its steps counted -/
def sd_fib : Nat → Nat
  | 0 => 0
  | 1 => 1
  | n + 2 => sd_fib n + sd_fib (n + 1)
theorem sd_fib_ss (n : Nat) : sd_fib (n + 2) = sd_fib n + sd_fib (n + 1) := rfl
theorem sd_fib_mono (n : Nat) : sd_fib n ≤ sd_fib (n + 1) := by
  match n with
  | 0 => exact Nat.zero_le _
  | n + 1 => rw [sd_fib_ss]; omega
theorem sd_fib_10 (n : Nat) : 55 * sd_fib (n + 1) + 34 * sd_fib n = sd_fib (n + 10) ∧ 89 * sd_fib (n + 1) + 55 * sd_fib n = sd_fib (n + 11) := by
  have a2 := sd_fib_ss n
  have a3 := sd_fib_ss (n + 1)
  have a4 := sd_fib_ss (n + 2)
  have a5 := sd_fib_ss (n + 3)
  have a6 := sd_fib_ss (n + 4)
  have a7 := sd_fib_ss (n + 5)
  have a8 := sd_fib_ss (n + 6)
  have a9 := sd_fib_ss (n + 7)
  have a10 := sd_fib_ss (n + 8)
  have a11 := sd_fib_ss (n + 9)
  simp only [Nat.add_assoc, Nat.reduceAdd] at a2 a3 a4 a5 a6 a7 a8 a9 a10 a11 ⊢
  omega
theorem sd_fib_big : 2305843009213693951 < sd_fib 101 := by
  have b0 := sd_fib_10 0
  have b1 := sd_fib_10 10
  have b2 := sd_fib_10 20
  have b3 := sd_fib_10 30
  have b4 := sd_fib_10 40
  have b5 := sd_fib_10 50
  have b6 := sd_fib_10 60
  have b7 := sd_fib_10 70
  have b8 := sd_fib_10 80
  have b9 := sd_fib_10 90
  have c0 : sd_fib 0 = 0 := rfl
  have c1 : sd_fib 1 = 1 := rfl
  simp only [Nat.reduceAdd, Nat.zero_add] at b0 b1 b2 b3 b4 b5 b6 b7 b8 b9
  omega
def sd_EI (a i r n : Nat) (x y : Int) : Prop :=
  n < r ∧ r ≤ 2305843009213693951 ∧ Nat.gcd r n = 1 ∧ (∃ k : Int, (r : Int) = x * a + k * 2305843009213693951) ∧ (∃ k : Int, (n : Int) = y * a + k * 2305843009213693951) ∧
  (∃ fa na : Nat, fa ≤ na ∧ r * na + n * fa = 2305843009213693951 ∧ ((x = fa ∧ y = -(na : Int)) ∨ (x = -(fa : Int) ∧ y = na))) ∧ r * sd_fib (i + 1) + n * sd_fib i ≤ 2305843009213693951
theorem sd_EI_0 {a : Nat} (h0 : 0 < a) (h : a < 2305843009213693951) : sd_EI a 0 2305843009213693951 a 0 1 := by
  refine ⟨h, Nat.le_refl _, by rw [Nat.gcd_comm]; exact sd_P_cop h0 h, ⟨1, by omega⟩, ⟨0, by omega⟩, ⟨0, 1, by omega, by omega, Or.inr ⟨by omega, by omega⟩⟩, ?_⟩
  have c0 : sd_fib 0 = 0 := rfl
  have c1 : sd_fib 1 = 1 := rfl
  rw [Nat.zero_add, c0, c1]
  omega
theorem sd_EI_s {a i r n : Nat} {x y : Int} (h : sd_EI a i r n x y) (hn : n ≠ 0) : sd_EI a (i + 1) n (r % n) y (x - ((r / n : Nat) : Int) * y) := by
  obtain ⟨h1, h2, h3, ⟨k1, h4⟩, ⟨k2, h5⟩, ⟨fa, na, h6, h7, h8⟩, h9⟩ := h
  have hd := Nat.div_add_mod r n
  have hq : 1 ≤ r / n := (Nat.one_le_div_iff (by omega)).mpr (by omega)
  have hm : r % n < n := Nat.mod_lt _ (by omega)
  generalize hQ : r / n = q at *
  generalize hR : r % n = w at *
  have hdz : (n : Int) * (q : Int) + (w : Int) = (r : Int) := by exact_mod_cast hd
  refine ⟨hm, by omega, ?_, ⟨k2, h5⟩, ⟨k1 - (q : Int) * k2, ?_⟩, ⟨na, fa + q * na, ?_, ?_, ?_⟩, ?_⟩
  · rw [← hR, ← Nat.gcd_comm (r % n), ← Nat.gcd_rec, Nat.gcd_comm]
    exact h3
  · have : (w : Int) = (r : Int) - (n : Int) * (q : Int) := by omega
    rw [this, h4, h5]
    grind
  · have : 1 * na ≤ q * na := Nat.mul_le_mul_right na hq
    omega
  · rw [← h7, ← hd]
    grind
  · rcases h8 with ⟨e1, e2⟩ | ⟨e1, e2⟩
    · refine Or.inr ⟨e2, ?_⟩
      rw [e1, e2, Int.natCast_add, Int.natCast_mul]
      grind
    · refine Or.inl ⟨e2, ?_⟩
      rw [e1, e2, Int.natCast_add, Int.natCast_mul]
      grind
  · have hge : n + w ≤ r := by
      have : n * 1 ≤ n * q := Nat.mul_le_mul_left n hq
      omega
    have e1 : (n + w) * sd_fib (i + 1) ≤ r * sd_fib (i + 1) := Nat.mul_le_mul_right _ hge
    rw [Nat.add_mul] at e1
    rw [show i + 1 + 1 = i + 2 from rfl, sd_fib_ss, Nat.mul_add]
    omega
theorem sd_EI_lim {a r n : Nat} {x y : Int} (h : sd_EI a 100 r n x y) : n = 0 := by
  obtain ⟨h1, h2, h3, -, -, -, h9⟩ := h
  have hb := sd_fib_big
  have e : 1 * sd_fib 101 ≤ r * sd_fib 101 := Nat.mul_le_mul_right _ (by omega)
  have h9 : r * sd_fib 101 + n * sd_fib 100 ≤ 2305843009213693951 := h9
  omega
/-- at the end: the factor is the inverse, and a long holds it -/
theorem sd_EI_end {a i r : Nat} {x y : Int} (h : sd_EI a i r 0 x y) : (∃ k : Int, x * a = 1 + k * 2305843009213693951) ∧ -2305843009213693951 ≤ x ∧ x ≤ 2305843009213693951 := by
  obtain ⟨h1, h2, h3, ⟨k1, h4⟩, -, ⟨fa, na, h6, h7, h8⟩, -⟩ := h
  rw [Nat.gcd_zero_right] at h3
  subst h3
  refine ⟨⟨-k1, ?_⟩, ?_⟩
  · have : ((1 : Nat) : Int) = 1 := rfl
    rw [this] at h4
    grind
  · rcases h8 with ⟨e1, e2⟩ | ⟨e1, e2⟩ <;> omega
/-- all factors on the way are small, too -/
theorem sd_EI_fit {a i r n : Nat} {x y : Int} (h : sd_EI a i r n x y) : (-2305843009213693951 ≤ x ∧ x ≤ 2305843009213693951) ∧ -2305843009213693951 ≤ y ∧ y ≤ 2305843009213693951 := by
  obtain ⟨h1, h2, h3, -, -, ⟨fa, na, h6, h7, h8⟩, -⟩ := h
  have hna : 1 * na ≤ r * na := Nat.mul_le_mul_right na (by omega)
  have : 0 ≤ n * fa := Nat.zero_le _
  rcases h8 with ⟨e1, e2⟩ | ⟨e1, e2⟩ <;> omega

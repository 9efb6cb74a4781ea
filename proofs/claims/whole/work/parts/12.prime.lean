/-! P = 2^61 - 1 is prime: by the order of 37 (Lucas); then every number but 0 has an inverse -/
def sd_pw (N : Nat) : Nat → Nat → Nat → Nat
  | 0, _, _ => 1 % N
  | f + 1, b, e => if e % 2 = 1 then (b * sd_pw N f (b * b % N) (e / 2)) % N else sd_pw N f (b * b % N) (e / 2)
theorem sd_pw_eq (N : Nat) : ∀ (f b e : Nat), e < 2 ^ f → sd_pw N f b e = b ^ e % N := by
  intro f
  induction f with
  | zero =>
    intro b e h
    have h0 : e = 0 := by rw [Nat.pow_zero] at h; omega
    subst h0
    rw [sd_pw, Nat.pow_zero]
  | succ f ihf =>
    intro b e h
    have h2 : e / 2 < 2 ^ f := by rw [Nat.pow_succ] at h; omega
    have ih := ihf (b * b % N) (e / 2) h2
    have hb : (b * b % N) ^ (e / 2) % N = (b * b) ^ (e / 2) % N := (Nat.pow_mod (b * b) (e / 2) N).symm
    have he : b ^ e = (b * b) ^ (e / 2) * b ^ (e % 2) := by
      rw [← Nat.pow_two, ← Nat.pow_mul, ← Nat.pow_add, Nat.div_add_mod]
    rw [sd_pw, ih, hb, he]
    by_cases h1 : e % 2 = 1
    · rw [if_pos h1, h1, Nat.pow_one, Nat.mul_mod_mod, Nat.mul_comm]
    · have h3 : e % 2 = 0 := by omega
      rw [if_neg h1, h3, Nat.pow_zero, Nat.mul_one]
theorem sd_one_mul {g d a : Nat} (h : g ^ a % d = 1 % d) (k : Nat) : g ^ (a * k) % d = 1 % d := by
  rw [Nat.pow_mul, Nat.pow_mod, h, ← Nat.pow_mod, Nat.one_pow]
theorem sd_one_add {g d a : Nat} (b : Nat) (ha : g ^ a % d = 1 % d) : g ^ (a + b) % d = g ^ b % d := by
  rw [Nat.pow_add, Nat.mul_mod, ha, ← Nat.mul_mod, Nat.one_mul]
theorem sd_one_gcd {g d : Nat} (a b : Nat) : g ^ a % d = 1 % d → g ^ b % d = 1 % d → g ^ (Nat.gcd a b) % d = 1 % d := by
  induction a, b using Nat.gcd.induction with
  | H0 n => intro _ h; rw [Nat.gcd_zero_left]; exact h
  | H1 m n hm ih =>
    intro h1 h2
    rw [Nat.gcd_rec]
    refine ih ?_ h1
    have h3 := sd_one_add (n % m) (sd_one_mul h1 (n / m))
    rw [Nat.div_add_mod] at h3
    rw [← h3]
    exact h2
theorem sd_pigeon (N d : Nat) (f : Nat → Nat) (h1 : ∀ i, i < N → f i < d ∧ f i ≠ 0) (h2 : ∀ i j, i < j → j < N → f i ≠ f j) : N ≤ d - 1 := by
  have hn : ((List.range N).map f).Nodup := by
    refine List.pairwise_map.mpr (List.Pairwise.imp_of_mem (R := fun a b => a < b) ?_ List.pairwise_lt_range)
    intro a b ha hb hab
    exact h2 a b hab (List.mem_range.mp hb)
  have hs : (List.range N).map f ⊆ List.range' 1 (d - 1) := by
    intro x hx
    obtain ⟨i, hi, rfl⟩ := List.mem_map.mp hx
    have := h1 i (List.mem_range.mp hi)
    rw [List.mem_range'_1]
    omega
  have h := List.Nodup.length_le_of_subset hn hs
  rw [List.length_map, List.length_range, List.length_range'] at h
  exact h
theorem sd_lucas (N g f : Nat) (qs : List Nat) (hN : 1 < N) (hf : N - 1 < 2 ^ f) (h1 : sd_pw N f g (N - 1) = 1)
    (hq : ∀ q ∈ qs, Nat.gcd (sd_pw N f g ((N - 1) / q) + (N - 1)) N = 1)
    (hm : ∀ m, m ∣ N - 1 → (∀ q ∈ qs, ¬ q ∣ m) → m = 1) (hq0 : ∀ q ∈ qs, 0 < q) : ∀ d, 1 < d → d ∣ N → N ≤ d := by
  intro d hd hdN
  have hdd : 1 % d = 1 := Nat.mod_eq_of_lt hd
  have hone : g ^ (N - 1) % d = 1 % d := by
    have := sd_pw_eq N f g (N - 1) hf
    rw [h1] at this
    rw [← Nat.mod_mod_of_dvd _ hdN, ← this]
  have hnot : ∀ q ∈ qs, ¬ g ^ ((N - 1) / q) % d = 1 % d := by
    intro q hqq hc
    have hlt : (N - 1) / q < 2 ^ f := Nat.lt_of_le_of_lt (Nat.div_le_self _ _) hf
    have hx := sd_pw_eq N f g ((N - 1) / q) hlt
    have hg := hq q hqq
    generalize hX : sd_pw N f g ((N - 1) / q) = X at hx hg
    have hXd : X % d = 1 := by rw [hx, Nat.mod_mod_of_dvd _ hdN, hc, hdd]
    have hdX : d ∣ X + (N - 1) := by
      have e := Nat.div_add_mod X d
      rw [hXd] at e
      have e2 : X + (N - 1) = d * (X / d) + N := by omega
      rw [e2]
      exact Nat.dvd_add (Nat.dvd_mul_right _ _) hdN
    have hd1 : d ∣ 1 := by rw [← hg]; exact Nat.dvd_gcd hdX hdN
    have := Nat.le_of_dvd (by omega) hd1
    omega
  have hp : N - 1 ≤ d - 1 := by
    refine sd_pigeon (N - 1) d (fun i => g ^ i % d) ?_ ?_
    · intro i hi
      refine ⟨Nat.mod_lt _ (by omega), ?_⟩
      intro h0
      have h0 : g ^ i % d = 0 := h0
      have e : g ^ (N - 1) % d = 0 := by
        rw [show N - 1 = i + (N - 1 - i) by omega, Nat.pow_add, Nat.mul_mod, h0, Nat.zero_mul, Nat.zero_mod]
      rw [hone, hdd] at e
      omega
    · intro i j hij hj hc
      have hc : g ^ i % d = g ^ j % d := hc
      have e1 : g ^ (N - 1 - i) * g ^ i % d = g ^ (N - 1 - i) * g ^ j % d := by rw [Nat.mul_mod, hc, ← Nat.mul_mod]
      rw [← Nat.pow_add, ← Nat.pow_add, show N - 1 - i + i = N - 1 by omega, show N - 1 - i + j = (N - 1) + (j - i) by omega, sd_one_add (j - i) hone, hone] at e1
      have hr := sd_one_gcd (j - i) (N - 1) e1.symm hone
      have hr1 : Nat.gcd (j - i) (N - 1) ∣ N - 1 := Nat.gcd_dvd_right _ _
      have hr2 : Nat.gcd (j - i) (N - 1) ≤ j - i := Nat.le_of_dvd (by omega) (Nat.gcd_dvd_left _ _)
      generalize Nat.gcd (j - i) (N - 1) = r at hr hr1 hr2
      obtain ⟨m, hrm⟩ := hr1
      have hm1 : m ≠ 1 := by
        intro e
        rw [e, Nat.mul_one] at hrm
        omega
      have hex : ∃ q, q ∈ qs ∧ q ∣ m := Classical.byContradiction (fun hn => hm1 (hm m ⟨r, by rw [hrm, Nat.mul_comm]⟩ (fun q h9 h8 => hn ⟨q, h9, h8⟩)))
      obtain ⟨q, hqq, m2, hm2⟩ := hex
      refine hnot q hqq ?_
      have e3 : (N - 1) / q = r * m2 := by
        rw [hrm, hm2, show r * (q * m2) = q * (r * m2) by rw [← Nat.mul_assoc, Nat.mul_comm r q, Nat.mul_assoc]]
        exact Nat.mul_div_cancel_left _ (hq0 q hqq)
      rw [e3]
      exact sd_one_mul hr m2
  omega
theorem sd_cop (q m : Nat) (hq : ∀ d, d < q + 1 → q % d = 0 → d = 1 ∨ d = q) (h0 : 0 < q) (h : ¬ q ∣ m) : Nat.Coprime m q := by
  have h1 : Nat.gcd m q ∣ q := Nat.gcd_dvd_right _ _
  have h2 : Nat.gcd m q < q + 1 := Nat.lt_succ_of_le (Nat.le_of_dvd h0 h1)
  rcases hq _ h2 (Nat.mod_eq_zero_of_dvd h1) with e | e
  · exact e
  · exact absurd (by rw [← e]; exact Nat.gcd_dvd_left _ _) h
abbrev sd_P : Nat := 2305843009213693951
def sd_qs : List Nat := [2, 3, 5, 7, 11, 13, 31, 41, 61, 151, 331, 1321]
theorem sd_small : ∀ q ∈ sd_qs, 0 < q ∧ ∀ d, d < q + 1 → q % d = 0 → d = 1 ∨ d = q := by decide +kernel
theorem sd_P_fac : sd_P - 1 = 2 * (3 * (3 * (5 * (5 * (7 * (11 * (13 * (31 * (41 * (61 * (151 * (331 * 1321)))))))))))) := by decide +kernel
theorem sd_P_div : ∀ d, 1 < d → d ∣ sd_P → sd_P ≤ d := by
  refine sd_lucas sd_P 37 61 sd_qs (by decide +kernel) (by decide +kernel) (by decide +kernel) (by decide +kernel) ?_ (fun q h => (sd_small q h).1)
  intro m hm hq
  have c : ∀ q ∈ sd_qs, Nat.Coprime m q := fun q h => sd_cop q m (sd_small q h).2 (sd_small q h).1 (hq q h)
  have c2 := c 2 (by decide)
  have c3 := c 3 (by decide)
  have c5 := c 5 (by decide)
  rw [sd_P_fac] at hm
  refine Nat.Coprime.eq_one_of_dvd ?_ hm
  exact Nat.Coprime.mul_right c2 (Nat.Coprime.mul_right c3 (Nat.Coprime.mul_right c3 (Nat.Coprime.mul_right c5 (Nat.Coprime.mul_right c5 (Nat.Coprime.mul_right (c 7 (by decide)) (Nat.Coprime.mul_right (c 11 (by decide)) (Nat.Coprime.mul_right (c 13 (by decide)) (Nat.Coprime.mul_right (c 31 (by decide)) (Nat.Coprime.mul_right (c 41 (by decide)) (Nat.Coprime.mul_right (c 61 (by decide)) (Nat.Coprime.mul_right (c 151 (by decide)) (Nat.Coprime.mul_right (c 331 (by decide)) (c 1321 (by decide))))))))))))))
theorem sd_P_cop {a : Nat} (h0 : 0 < a) (h : a < sd_P) : Nat.gcd a sd_P = 1 := by
  have h1 : Nat.gcd a sd_P ∣ sd_P := Nat.gcd_dvd_right _ _
  have h2 : Nat.gcd a sd_P ≤ a := Nat.le_of_dvd h0 (Nat.gcd_dvd_left _ _)
  have h3 : 0 < Nat.gcd a sd_P := Nat.gcd_pos_of_pos_left _ h0
  generalize Nat.gcd a sd_P = d at h1 h2 h3
  rcases Nat.lt_or_ge 1 d with q | q
  · have := sd_P_div d q h1
    omega
  · omega
theorem sd_bez (a b : Nat) : ∃ x y : Int, (a : Int) * x + (b : Int) * y = ((Nat.gcd a b : Nat) : Int) := by
  induction a, b using Nat.gcd.induction with
  | H0 n => exact ⟨0, 1, by simp⟩
  | H1 m n hm ih =>
    obtain ⟨x, y, h⟩ := ih
    refine ⟨y - ((n / m : Nat) : Int) * x, x, ?_⟩
    rw [Nat.gcd_rec, ← h]
    have k2 : (m : Int) * ((n / m : Nat) : Int) + ((n % m : Nat) : Int) = (n : Int) := by exact_mod_cast Nat.div_add_mod n m
    generalize ((n / m : Nat) : Int) = q at k2 ⊢
    generalize ((n % m : Nat) : Int) = r at k2 ⊢
    rw [← k2]
    grind
/-- the numbers -/
abbrev FP : Type := Fin 2305843009213693951
theorem sd_inv (a : FP) (h : a ≠ 0) : ∃ b : FP, a * b = 1 := by
  have ha0 : 0 < a.val := by
    rcases Nat.eq_zero_or_pos a.val with e | e
    · exact absurd (Fin.ext e) h
    · exact e
  have hc := sd_P_cop ha0 a.isLt
  obtain ⟨x, y, hxy⟩ := sd_bez a.val sd_P
  rw [hc] at hxy
  have hp : (0 : Int) < (sd_P : Int) := by decide
  have hn := Int.emod_nonneg x (Int.ne_of_gt hp)
  have hl := Int.emod_lt_of_pos x hp
  have ht : (((x % (sd_P : Int)).toNat : Nat) : Int) = x % (sd_P : Int) := Int.toNat_of_nonneg hn
  have hlt : (x % (sd_P : Int)).toNat < sd_P := by omega
  refine ⟨⟨(x % (sd_P : Int)).toNat, hlt⟩, ?_⟩
  apply Fin.ext
  rw [Fin.val_mul]
  show a.val * (x % (sd_P : Int)).toNat % sd_P = 1
  have hd := Int.mul_ediv_add_emod x (sd_P : Int)
  have e : ((a.val * (x % (sd_P : Int)).toNat : Nat) : Int) = 1 + (sd_P : Int) * (-y - (a.val : Int) * (x / (sd_P : Int))) := by
    rw [Int.natCast_mul, ht]
    generalize (x % (sd_P : Int)) = r at hd ⊢
    generalize (x / (sd_P : Int)) = q at hd ⊢
    generalize (sd_P : Int) = p at hd hxy ⊢
    generalize (a.val : Int) = b at hxy ⊢
    grind
  have e2 : ((a.val * (x % (sd_P : Int)).toNat : Nat) : Int) % (sd_P : Int) = 1 := by
    rw [e, Int.add_mul_emod_self_left]
    decide
  exact_mod_cast e2

section
/-! P = 2^61 - 1 is prime: by the order of 37 (Lucas); then every number but 0 has an inverse -/
def sd_pw (N : Nat) : Nat → Nat → Nat → Nat
  | 0, _, _ => 1 % N
  | f + 1, b, e => if e % 2 = 1 then (b * sd_pw N f (b * b % N) (e / 2)) % N else sd_pw N f (b * b % N) (e / 2)
theorem sd_pw_eq (N : Nat) : ∀ (f b e : Nat), e < 2 ^ f → sd_pw N f b e = b ^ e % N := by
  intro f
  induction f with
  | zero =>
    intro b e h
    have h0 : e = 0 := by rw [Nat.pow_zero] at h; omega
    subst h0
    rw [sd_pw, Nat.pow_zero]
  | succ f ihf =>
    intro b e h
    have h2 : e / 2 < 2 ^ f := by rw [Nat.pow_succ] at h; omega
    have ih := ihf (b * b % N) (e / 2) h2
    have hb : (b * b % N) ^ (e / 2) % N = (b * b) ^ (e / 2) % N := (Nat.pow_mod (b * b) (e / 2) N).symm
    have he : b ^ e = (b * b) ^ (e / 2) * b ^ (e % 2) := by
      rw [← Nat.pow_two, ← Nat.pow_mul, ← Nat.pow_add, Nat.div_add_mod]
    rw [sd_pw, ih, hb, he]
    by_cases h1 : e % 2 = 1
    · rw [if_pos h1, h1, Nat.pow_one, Nat.mul_mod_mod, Nat.mul_comm]
    · have h3 : e % 2 = 0 := by omega
      rw [if_neg h1, h3, Nat.pow_zero, Nat.mul_one]
theorem sd_one_mul {g d a : Nat} (h : g ^ a % d = 1 % d) (k : Nat) : g ^ (a * k) % d = 1 % d := by
  rw [Nat.pow_mul, Nat.pow_mod, h, ← Nat.pow_mod, Nat.one_pow]
theorem sd_one_add {g d a : Nat} (b : Nat) (ha : g ^ a % d = 1 % d) : g ^ (a + b) % d = g ^ b % d := by
  rw [Nat.pow_add, Nat.mul_mod, ha, ← Nat.mul_mod, Nat.one_mul]
theorem sd_one_gcd {g d : Nat} (a b : Nat) : g ^ a % d = 1 % d → g ^ b % d = 1 % d → g ^ (Nat.gcd a b) % d = 1 % d := by
  induction a, b using Nat.gcd.induction with
  | H0 n => intro _ h; rw [Nat.gcd_zero_left]; exact h
  | H1 m n hm ih =>
    intro h1 h2
    rw [Nat.gcd_rec]
    refine ih ?_ h1
    have h3 := sd_one_add (n % m) (sd_one_mul h1 (n / m))
    rw [Nat.div_add_mod] at h3
    rw [← h3]
    exact h2
theorem sd_pigeon (N d : Nat) (f : Nat → Nat) (h1 : ∀ i, i < N → f i < d ∧ f i ≠ 0) (h2 : ∀ i j, i < j → j < N → f i ≠ f j) : N ≤ d - 1 := by
  have hn : ((List.range N).map f).Nodup := by
    refine List.pairwise_map.mpr (List.Pairwise.imp_of_mem (R := fun a b => a < b) ?_ List.pairwise_lt_range)
    intro a b ha hb hab
    exact h2 a b hab (List.mem_range.mp hb)
  have hs : (List.range N).map f ⊆ List.range' 1 (d - 1) := by
    intro x hx
    obtain ⟨i, hi, rfl⟩ := List.mem_map.mp hx
    have := h1 i (List.mem_range.mp hi)
    rw [List.mem_range'_1]
    omega
  have h := List.Nodup.length_le_of_subset hn hs
  rw [List.length_map, List.length_range, List.length_range'] at h
  exact h
theorem sd_lucas (N g f : Nat) (qs : List Nat) (hN : 1 < N) (hf : N - 1 < 2 ^ f) (h1 : sd_pw N f g (N - 1) = 1)
    (hq : ∀ q ∈ qs, Nat.gcd (sd_pw N f g ((N - 1) / q) + (N - 1)) N = 1)
    (hm : ∀ m, m ∣ N - 1 → (∀ q ∈ qs, ¬ q ∣ m) → m = 1) (hq0 : ∀ q ∈ qs, 0 < q) : ∀ d, 1 < d → d ∣ N → N ≤ d := by
  intro d hd hdN
  have hdd : 1 % d = 1 := Nat.mod_eq_of_lt hd
  have hone : g ^ (N - 1) % d = 1 % d := by
    have := sd_pw_eq N f g (N - 1) hf
    rw [h1] at this
    rw [← Nat.mod_mod_of_dvd _ hdN, ← this]
  have hnot : ∀ q ∈ qs, ¬ g ^ ((N - 1) / q) % d = 1 % d := by
    intro q hqq hc
    have hlt : (N - 1) / q < 2 ^ f := Nat.lt_of_le_of_lt (Nat.div_le_self _ _) hf
    have hx := sd_pw_eq N f g ((N - 1) / q) hlt
    have hg := hq q hqq
    generalize hX : sd_pw N f g ((N - 1) / q) = X at hx hg
    have hXd : X % d = 1 := by rw [hx, Nat.mod_mod_of_dvd _ hdN, hc, hdd]
    have hdX : d ∣ X + (N - 1) := by
      have e := Nat.div_add_mod X d
      rw [hXd] at e
      have e2 : X + (N - 1) = d * (X / d) + N := by omega
      rw [e2]
      exact Nat.dvd_add (Nat.dvd_mul_right _ _) hdN
    have hd1 : d ∣ 1 := by rw [← hg]; exact Nat.dvd_gcd hdX hdN
    have := Nat.le_of_dvd (by omega) hd1
    omega
  have hp : N - 1 ≤ d - 1 := by
    refine sd_pigeon (N - 1) d (fun i => g ^ i % d) ?_ ?_
    · intro i hi
      refine ⟨Nat.mod_lt _ (by omega), ?_⟩
      intro h0
      have h0 : g ^ i % d = 0 := h0
      have e : g ^ (N - 1) % d = 0 := by
        rw [show N - 1 = i + (N - 1 - i) by omega, Nat.pow_add, Nat.mul_mod, h0, Nat.zero_mul, Nat.zero_mod]
      rw [hone, hdd] at e
      omega
    · intro i j hij hj hc
      have hc : g ^ i % d = g ^ j % d := hc
      have e1 : g ^ (N - 1 - i) * g ^ i % d = g ^ (N - 1 - i) * g ^ j % d := by rw [Nat.mul_mod, hc, ← Nat.mul_mod]
      rw [← Nat.pow_add, ← Nat.pow_add, show N - 1 - i + i = N - 1 by omega, show N - 1 - i + j = (N - 1) + (j - i) by omega, sd_one_add (j - i) hone, hone] at e1
      have hr := sd_one_gcd (j - i) (N - 1) e1.symm hone
      have hr1 : Nat.gcd (j - i) (N - 1) ∣ N - 1 := Nat.gcd_dvd_right _ _
      have hr2 : Nat.gcd (j - i) (N - 1) ≤ j - i := Nat.le_of_dvd (by omega) (Nat.gcd_dvd_left _ _)
      generalize Nat.gcd (j - i) (N - 1) = r at hr hr1 hr2
      obtain ⟨m, hrm⟩ := hr1
      have hm1 : m ≠ 1 := by
        intro e
        rw [e, Nat.mul_one] at hrm
        omega
      have hex : ∃ q, q ∈ qs ∧ q ∣ m := Classical.byContradiction (fun hn => hm1 (hm m ⟨r, by rw [hrm, Nat.mul_comm]⟩ (fun q h9 h8 => hn ⟨q, h9, h8⟩)))
      obtain ⟨q, hqq, m2, hm2⟩ := hex
      refine hnot q hqq ?_
      have e3 : (N - 1) / q = r * m2 := by
        rw [hrm, hm2, show r * (q * m2) = q * (r * m2) by rw [← Nat.mul_assoc, Nat.mul_comm r q, Nat.mul_assoc]]
        exact Nat.mul_div_cancel_left _ (hq0 q hqq)
      rw [e3]
      exact sd_one_mul hr m2
  omega
theorem sd_cop (q m : Nat) (hq : ∀ d, d < q + 1 → q % d = 0 → d = 1 ∨ d = q) (h0 : 0 < q) (h : ¬ q ∣ m) : Nat.Coprime m q := by
  have h1 : Nat.gcd m q ∣ q := Nat.gcd_dvd_right _ _
  have h2 : Nat.gcd m q < q + 1 := Nat.lt_succ_of_le (Nat.le_of_dvd h0 h1)
  rcases hq _ h2 (Nat.mod_eq_zero_of_dvd h1) with e | e
  · exact e
  · exact absurd (by rw [← e]; exact Nat.gcd_dvd_left _ _) h
abbrev sd_P : Nat := 2305843009213693951
def sd_qs : List Nat := [2, 3, 5, 7, 11, 13, 31, 41, 61, 151, 331, 1321]
theorem sd_small : ∀ q ∈ sd_qs, 0 < q ∧ ∀ d, d < q + 1 → q % d = 0 → d = 1 ∨ d = q := by decide +kernel
theorem sd_P_fac : sd_P - 1 = 2 * (3 * (3 * (5 * (5 * (7 * (11 * (13 * (31 * (41 * (61 * (151 * (331 * 1321)))))))))))) := by decide +kernel
theorem sd_P_div : ∀ d, 1 < d → d ∣ sd_P → sd_P ≤ d := by
  refine sd_lucas sd_P 37 61 sd_qs (by decide +kernel) (by decide +kernel) (by decide +kernel) (by decide +kernel) ?_ (fun q h => (sd_small q h).1)
  intro m hm hq
  have c : ∀ q ∈ sd_qs, Nat.Coprime m q := fun q h => sd_cop q m (sd_small q h).2 (sd_small q h).1 (hq q h)
  have c2 := c 2 (by decide)
  have c3 := c 3 (by decide)
  have c5 := c 5 (by decide)
  rw [sd_P_fac] at hm
  refine Nat.Coprime.eq_one_of_dvd ?_ hm
  exact Nat.Coprime.mul_right c2 (Nat.Coprime.mul_right c3 (Nat.Coprime.mul_right c3 (Nat.Coprime.mul_right c5 (Nat.Coprime.mul_right c5 (Nat.Coprime.mul_right (c 7 (by decide)) (Nat.Coprime.mul_right (c 11 (by decide)) (Nat.Coprime.mul_right (c 13 (by decide)) (Nat.Coprime.mul_right (c 31 (by decide)) (Nat.Coprime.mul_right (c 41 (by decide)) (Nat.Coprime.mul_right (c 61 (by decide)) (Nat.Coprime.mul_right (c 151 (by decide)) (Nat.Coprime.mul_right (c 331 (by decide)) (c 1321 (by decide))))))))))))))
theorem sd_P_cop {a : Nat} (h0 : 0 < a) (h : a < sd_P) : Nat.gcd a sd_P = 1 := by
  have h1 : Nat.gcd a sd_P ∣ sd_P := Nat.gcd_dvd_right _ _
  have h2 : Nat.gcd a sd_P ≤ a := Nat.le_of_dvd h0 (Nat.gcd_dvd_left _ _)
  have h3 : 0 < Nat.gcd a sd_P := Nat.gcd_pos_of_pos_left _ h0
  generalize Nat.gcd a sd_P = d at h1 h2 h3
  rcases Nat.lt_or_ge 1 d with q | q
  · have := sd_P_div d q h1
    omega
  · omega
theorem sd_bez (a b : Nat) : ∃ x y : Int, (a : Int) * x + (b : Int) * y = ((Nat.gcd a b : Nat) : Int) := by
  induction a, b using Nat.gcd.induction with
  | H0 n => exact ⟨0, 1, by simp⟩
  | H1 m n hm ih =>
    obtain ⟨x, y, h⟩ := ih
    refine ⟨y - ((n / m : Nat) : Int) * x, x, ?_⟩
    rw [Nat.gcd_rec, ← h]
    have k2 : (m : Int) * ((n / m : Nat) : Int) + ((n % m : Nat) : Int) = (n : Int) := by exact_mod_cast Nat.div_add_mod n m
    generalize ((n / m : Nat) : Int) = q at k2 ⊢
    generalize ((n % m : Nat) : Int) = r at k2 ⊢
    rw [← k2]
    grind
/-- the numbers -/
abbrev FP : Type := Fin 2305843009213693951
theorem sd_inv (a : FP) (h : a ≠ 0) : ∃ b : FP, a * b = 1 := by
  have ha0 : 0 < a.val := by
    rcases Nat.eq_zero_or_pos a.val with e | e
    · exact absurd (Fin.ext e) h
    · exact e
  have hc := sd_P_cop ha0 a.isLt
  obtain ⟨x, y, hxy⟩ := sd_bez a.val sd_P
  rw [hc] at hxy
  have hp : (0 : Int) < (sd_P : Int) := by decide
  have hn := Int.emod_nonneg x (Int.ne_of_gt hp)
  have hl := Int.emod_lt_of_pos x hp
  have ht : (((x % (sd_P : Int)).toNat : Nat) : Int) = x % (sd_P : Int) := Int.toNat_of_nonneg hn
  have hlt : (x % (sd_P : Int)).toNat < sd_P := by omega
  refine ⟨⟨(x % (sd_P : Int)).toNat, hlt⟩, ?_⟩
  apply Fin.ext
  rw [Fin.val_mul]
  show a.val * (x % (sd_P : Int)).toNat % sd_P = 1
  have hd := Int.mul_ediv_add_emod x (sd_P : Int)
  have e : ((a.val * (x % (sd_P : Int)).toNat : Nat) : Int) = 1 + (sd_P : Int) * (-y - (a.val : Int) * (x / (sd_P : Int))) := by
    rw [Int.natCast_mul, ht]
    generalize (x % (sd_P : Int)) = r at hd ⊢
    generalize (x / (sd_P : Int)) = q at hd ⊢
    generalize (sd_P : Int) = p at hd hxy ⊢
    generalize (a.val : Int) = b at hxy ⊢
    grind
  have e2 : ((a.val * (x % (sd_P : Int)).toNat : Nat) : Int) % (sd_P : Int) = 1 := by
    rw [e, Int.add_mul_emod_self_left]
    decide
  exact_mod_cast e2
end
section
/-! curves over a field: Horner's value, roots, products, and what Berlekamp and Welch's equations say -/
theorem sd_noZD {F : Type} [Lean.Grind.CommRing F] (hF : ∀ a : F, a ≠ 0 → ∃ b : F, a * b = 1) {a b : F} (h : a * b = 0) (ha : a ≠ 0) : b = 0 := by
  obtain ⟨c, hc⟩ := hF a ha
  grind
/-- c k + c (k+1) x + .., m parts -/
def sd_pv {F : Type} [Lean.Grind.CommRing F] (c : Nat → F) (x : F) : Nat → Nat → F
  | _, 0 => 0
  | k, m + 1 => c k + x * sd_pv c x (k + 1) m
def sd_pow {F : Type} [Lean.Grind.CommRing F] (x : F) : Nat → F
  | 0 => 1
  | n + 1 => sd_pow x n * x
theorem sd_pv_0 {F : Type} [Lean.Grind.CommRing F] (c : Nat → F) (x : F) (k : Nat) : sd_pv c x k 0 = 0 := rfl
theorem sd_pv_s {F : Type} [Lean.Grind.CommRing F] (c : Nat → F) (x : F) (k m : Nat) : sd_pv c x k (m + 1) = c k + x * sd_pv c x (k + 1) m := rfl
theorem sd_pow_0 {F : Type} [Lean.Grind.CommRing F] (x : F) : sd_pow x 0 = 1 := rfl
theorem sd_pow_s {F : Type} [Lean.Grind.CommRing F] (x : F) (n : Nat) : sd_pow x (n + 1) = sd_pow x n * x := rfl
theorem sd_pow_add {F : Type} [Lean.Grind.CommRing F] (x : F) (a : Nat) : ∀ b, sd_pow x (a + b) = sd_pow x a * sd_pow x b := by
  intro b
  induction b with
  | zero => rw [Nat.add_zero, sd_pow_0]; grind
  | succ b ih => rw [← Nat.add_assoc, sd_pow_s, ih, sd_pow_s]; grind
theorem sd_pv_snoc {F : Type} [Lean.Grind.CommRing F] (c : Nat → F) (x : F) : ∀ m k, sd_pv c x k (m + 1) = sd_pv c x k m + c (k + m) * sd_pow x m := by
  intro m
  induction m with
  | zero => intro k; rw [sd_pv_s, sd_pv_0, sd_pv_0, Nat.add_zero, sd_pow_0]; grind
  | succ m ih =>
    intro k
    rw [sd_pv_s, ih (k + 1), sd_pv_s, sd_pow_s, show k + 1 + m = k + (m + 1) by omega]
    grind
theorem sd_pv_congr {F : Type} [Lean.Grind.CommRing F] {c d : Nat → F} (x : F) : ∀ m k, (∀ j, k ≤ j → j < k + m → c j = d j) → sd_pv c x k m = sd_pv d x k m := by
  intro m
  induction m with
  | zero => intro k _; rfl
  | succ m ih =>
    intro k h
    rw [sd_pv_s, sd_pv_s, h k (Nat.le_refl k) (by omega), ih (k + 1) (fun j h1 h2 => h j (by omega) (by omega))]
theorem sd_pv_zero {F : Type} [Lean.Grind.CommRing F] {c : Nat → F} (x : F) : ∀ m k, (∀ j, k ≤ j → j < k + m → c j = 0) → sd_pv c x k m = 0 := by
  intro m
  induction m with
  | zero => intro k _; rfl
  | succ m ih =>
    intro k h
    rw [sd_pv_s, h k (Nat.le_refl k) (by omega), ih (k + 1) (fun j h1 h2 => h j (by omega) (by omega))]
    grind
theorem sd_pv_add {F : Type} [Lean.Grind.CommRing F] (c d : Nat → F) (x : F) : ∀ m k, sd_pv (fun j => c j + d j) x k m = sd_pv c x k m + sd_pv d x k m := by
  intro m
  induction m with
  | zero => intro k; rw [sd_pv_0, sd_pv_0, sd_pv_0]; grind
  | succ m ih => intro k; rw [sd_pv_s, sd_pv_s, sd_pv_s, ih (k + 1)]; grind
theorem sd_pv_sub {F : Type} [Lean.Grind.CommRing F] (c d : Nat → F) (x : F) : ∀ m k, sd_pv (fun j => c j - d j) x k m = sd_pv c x k m - sd_pv d x k m := by
  intro m
  induction m with
  | zero => intro k; rw [sd_pv_0, sd_pv_0, sd_pv_0]; grind
  | succ m ih => intro k; rw [sd_pv_s, sd_pv_s, sd_pv_s, ih (k + 1)]; grind
/-- parts behind the last are 0 -/
theorem sd_pv_ext {F : Type} [Lean.Grind.CommRing F] {c : Nat → F} (x : F) (k m : Nat) (h : ∀ j, k + m ≤ j → c j = 0) : ∀ r, sd_pv c x k (m + r) = sd_pv c x k m := by
  intro r
  induction r with
  | zero => rfl
  | succ r ih => rw [← Nat.add_assoc, sd_pv_snoc, ih, h (k + (m + r)) (by omega)]; grind
theorem sd_pv_div {F : Type} [Lean.Grind.CommRing F] (c : Nat → F) (x r : F) : ∀ m k, sd_pv c x k (m + 1) - sd_pv c r k (m + 1) = (x - r) * sd_pv (fun j => sd_pv c r (j + 1) (k + m - j)) x k m := by
  intro m
  induction m with
  | zero => intro k; rw [sd_pv_s, sd_pv_s, sd_pv_0, sd_pv_0, sd_pv_0]; grind
  | succ m ih =>
    intro k
    have h := ih (k + 1)
    have e : (fun j => sd_pv c r (j + 1) (k + 1 + m - j)) = (fun j => sd_pv c r (j + 1) (k + (m + 1) - j)) := by
      funext j
      rw [show k + 1 + m = k + (m + 1) by omega]
    rw [e] at h
    have hq : (fun j => sd_pv c r (j + 1) (k + (m + 1) - j)) k = sd_pv c r (k + 1) (m + 1) := by
      show sd_pv c r (k + 1) (k + (m + 1) - k) = _
      rw [show k + (m + 1) - k = m + 1 by omega]
    generalize (fun j => sd_pv c r (j + 1) (k + (m + 1) - j)) = q at h hq ⊢
    rw [sd_pv_s c x k, sd_pv_s c r k, sd_pv_s q x k, hq]
    generalize sd_pv c x (k + 1) (m + 1) = A at h ⊢
    generalize sd_pv c r (k + 1) (m + 1) = B at h ⊢
    generalize sd_pv q x (k + 1) m = C at h ⊢
    grind
/-- as many roots as parts: all parts are 0 -/
theorem sd_roots {F : Type} [Lean.Grind.CommRing F] (hF : ∀ a : F, a ≠ 0 → ∃ b : F, a * b = 1) : ∀ (n : Nat) (c : Nat → F) (rs : List F), rs.Nodup → n ≤ rs.length → (∀ r ∈ rs, sd_pv c r 0 n = 0) → ∀ k, k < n → c k = 0 := by
  intro n
  induction n with
  | zero => intro c rs _ _ _ k h; exact absurd h (Nat.not_lt_zero k)
  | succ n ih =>
    intro c rs hnd hlen hroot
    match rs, hnd, hlen, hroot with
    | [], _, hlen, _ => exact absurd hlen (by simp)
    | r :: rs', hnd, hlen, hroot =>
      have hr := hroot r List.mem_cons_self
      have hnd2 := List.nodup_cons.mp hnd
      have hz : ∀ k, k < n → sd_pv c r (k + 1) (0 + n - k) = 0 := by
        refine ih (fun j => sd_pv c r (j + 1) (0 + n - j)) rs' hnd2.2 (by simpa using hlen) ?_
        intro r' h'
        have e := sd_pv_div c r' r n 0
        rw [hroot r' (List.mem_cons_of_mem _ h'), hr] at e
        refine sd_noZD hF (a := r' - r) (by rw [← e]; grind) ?_
        intro z
        refine hnd2.1 ?_
        have : r = r' := by grind
        rw [this]
        exact h'
      have hg : ∀ j, j ≤ n + 1 → sd_pv c r j (n + 1 - j) = 0 := by
        intro j hj
        match j, hj with
        | 0, _ => exact hr
        | j + 1, hj =>
          rcases Nat.lt_or_ge j n with q | q
          · have := hz j q
            rw [show 0 + n - j = n + 1 - (j + 1) by omega] at this
            exact this
          · rw [show n + 1 - (j + 1) = 0 by omega, sd_pv_0]
      intro k hk
      have a := hg k (by omega)
      have b := hg (k + 1) (by omega)
      rw [show n + 1 - k = (n + 1 - (k + 1)) + 1 by omega, sd_pv_s, b] at a
      grind
/-- the product of two curves, the first cut behind k parts -/
def sd_cv {F : Type} [Lean.Grind.CommRing F] (f E : Nat → F) : Nat → Nat → F
  | 0, _ => 0
  | k + 1, m => sd_cv f E k m + (if k ≤ m then f k * E (m - k) else 0)
theorem sd_cv_0 {F : Type} [Lean.Grind.CommRing F] (f E : Nat → F) (m : Nat) : sd_cv f E 0 m = 0 := rfl
theorem sd_cv_s {F : Type} [Lean.Grind.CommRing F] (f E : Nat → F) (k m : Nat) : sd_cv f E (k + 1) m = sd_cv f E k m + (if k ≤ m then f k * E (m - k) else 0) := rfl
theorem sd_sh_ev {F : Type} [Lean.Grind.CommRing F] (E : Nat → F) (a x : F) (k : Nat) : ∀ N, sd_pv (fun m => if k ≤ m then a * E (m - k) else 0) x 0 (k + N) = a * sd_pow x k * sd_pv E x 0 N := by
  intro N
  induction N with
  | zero =>
    rw [Nat.add_zero, sd_pv_0, sd_pv_zero x k 0 (fun j _ h => if_neg (by omega))]
    grind
  | succ N ih =>
    rw [← Nat.add_assoc, sd_pv_snoc, ih, sd_pv_snoc, Nat.zero_add, Nat.zero_add, if_pos (Nat.le_add_right k N), Nat.add_sub_cancel_left, sd_pow_add]
    grind
theorem sd_cv_ev {F : Type} [Lean.Grind.CommRing F] (f E : Nat → F) (x : F) (e : Nat) (hE : ∀ j, e < j → E j = 0) : ∀ k N, k + e ≤ N → sd_pv (sd_cv f E k) x 0 N = sd_pv f x 0 k * sd_pv E x 0 (e + 1) := by
  intro k
  induction k with
  | zero =>
    intro N _
    have h0 : sd_pv (sd_cv f E 0) x 0 N = 0 := sd_pv_zero x N 0 (fun j _ _ => rfl)
    rw [h0, sd_pv_0]
    grind
  | succ k ih =>
    intro N hN
    have h1 : sd_pv (sd_cv f E (k + 1)) x 0 N = sd_pv (fun m => sd_cv f E k m + (if k ≤ m then f k * E (m - k) else 0)) x 0 N := rfl
    rw [h1, sd_pv_add, ih N (by omega), sd_pv_snoc f x k 0, Nat.zero_add]
    have h2 := sd_sh_ev E (f k) x k (e + 1 + (N - (k + e + 1)))
    rw [show k + (e + 1 + (N - (k + e + 1))) = N by omega, sd_pv_ext x 0 (e + 1) (fun j h => hE j (by omega))] at h2
    rw [h2]
    grind
/-- a part above all of the product is 0; the highest of a monic divisor gives the first curve's part -/
theorem sd_cv_hi {F : Type} [Lean.Grind.CommRing F] (f E : Nat → F) (e : Nat) (hE : ∀ j, e < j → E j = 0) : ∀ k m, k + e ≤ m → sd_cv f E k m = 0 := by
  intro k
  induction k with
  | zero => intro m _; rfl
  | succ k ih =>
    intro m hm
    rw [sd_cv_s, ih m (by omega), if_pos (by omega), hE (m - k) (by omega)]
    grind
theorem sd_cv_top {F : Type} [Lean.Grind.CommRing F] (f E : Nat → F) (e : Nat) (hE : ∀ j, e < j → E j = 0) (h1 : E e = 1) (k : Nat) : sd_cv f E (k + 1) (k + e) = f k := by
  rw [sd_cv_s, sd_cv_hi f E e hE k (k + e) (Nat.le_refl _), if_pos (Nat.le_add_right k e), Nat.add_sub_cancel_left, h1]
  grind
/-- times x - r -/
def sd_lin {F : Type} [Lean.Grind.CommRing F] (r : F) (c : Nat → F) : Nat → F
  | 0 => 0 - r * c 0
  | m + 1 => c m - r * c (m + 1)
theorem sd_lin_ev {F : Type} [Lean.Grind.CommRing F] (r x : F) (c : Nat → F) : ∀ n, sd_pv (sd_lin r c) x 0 (n + 1) = x * sd_pv c x 0 n - r * sd_pv c x 0 (n + 1) := by
  intro n
  induction n with
  | zero =>
    rw [sd_pv_s, sd_pv_0, sd_pv_0, sd_pv_s, sd_pv_0, show sd_lin r c 0 = 0 - r * c 0 from rfl]
    grind
  | succ n ih =>
    rw [sd_pv_snoc, ih, sd_pv_snoc c x (n + 1), sd_pv_snoc c x n, Nat.zero_add, Nat.zero_add, show sd_lin r c (n + 1) = c n - r * c (n + 1) from rfl, sd_pow_s]
    grind
def sd_locs {F : Type} [Lean.Grind.CommRing F] : List F → Nat → F
  | [] => fun m => if m = 0 then 1 else 0
  | r :: L => sd_lin r (sd_locs L)
theorem sd_locs_hi {F : Type} [Lean.Grind.CommRing F] : ∀ (L : List F) (j : Nat), L.length < j → sd_locs L j = 0 := by
  intro L
  induction L with
  | nil =>
    intro j h
    show (if j = 0 then (1 : F) else 0) = 0
    exact if_neg (by have h : 0 < j := h; omega)
  | cons r L ih =>
    intro j h
    match j, h with
    | 0, h => exact absurd h (Nat.not_lt_zero _)
    | j + 1, h =>
      rw [List.length_cons] at h
      show sd_locs L j - r * sd_locs L (j + 1) = 0
      rw [ih j (by omega), ih (j + 1) (by omega)]
      grind
theorem sd_locs_top {F : Type} [Lean.Grind.CommRing F] : ∀ (L : List F), sd_locs L L.length = 1 := by
  intro L
  induction L with
  | nil =>
    show (if (0 : Nat) = 0 then (1 : F) else 0) = 1
    exact if_pos rfl
  | cons r L ih =>
    show sd_locs L L.length - r * sd_locs L (L.length + 1) = 1
    rw [ih, sd_locs_hi L (L.length + 1) (Nat.lt_succ_self _)]
    grind
theorem sd_locs_ev {F : Type} [Lean.Grind.CommRing F] (x : F) : ∀ (L : List F), x ∈ L → sd_pv (sd_locs L) x 0 (L.length + 1) = 0 := by
  intro L
  induction L with
  | nil => intro h; cases h
  | cons r L ih =>
    intro h
    show sd_pv (sd_lin r (sd_locs L)) x 0 (L.length + 1 + 1) = 0
    rw [sd_lin_ev, sd_pv_snoc (sd_locs L) x (L.length + 1), Nat.zero_add, sd_locs_hi L (L.length + 1) (Nat.lt_succ_self _)]
    rcases List.mem_cons.mp h with e | e
    · rw [e]; grind
    · rw [ih e]; grind
/-- a sum of n -/
def sd_sum {F : Type} [Lean.Grind.CommRing F] (f : Nat → F) : Nat → F
  | 0 => 0
  | n + 1 => sd_sum f n + f n
theorem sd_sum_s {F : Type} [Lean.Grind.CommRing F] (f : Nat → F) (n : Nat) : sd_sum f (n + 1) = sd_sum f n + f n := rfl
theorem sd_sum_0 {F : Type} [Lean.Grind.CommRing F] (f : Nat → F) : sd_sum f 0 = 0 := rfl
theorem sd_sum_congr {F : Type} [Lean.Grind.CommRing F] {f g : Nat → F} : ∀ n, (∀ k, k < n → f k = g k) → sd_sum f n = sd_sum g n := by
  intro n
  induction n with
  | zero => intro _; rfl
  | succ n ih => intro h; rw [sd_sum_s, sd_sum_s, ih (fun k hk => h k (by omega)), h n (by omega)]
theorem sd_sum_split {F : Type} [Lean.Grind.CommRing F] (f : Nat → F) (a : Nat) : ∀ b, sd_sum f (a + b) = sd_sum f a + sd_sum (fun j => f (a + j)) b := by
  intro b
  induction b with
  | zero => rw [Nat.add_zero, sd_sum_0]; grind
  | succ b ih => rw [← Nat.add_assoc, sd_sum_s, ih, sd_sum_s]; grind
theorem sd_sum_zero {F : Type} [Lean.Grind.CommRing F] {f : Nat → F} : ∀ n, (∀ k, k < n → f k = 0) → sd_sum f n = 0 := by
  intro n
  induction n with
  | zero => intro _; rfl
  | succ n ih => intro h; rw [sd_sum_s, ih (fun k hk => h k (by omega)), h n (by omega)]; grind
theorem sd_sum_one {F : Type} [Lean.Grind.CommRing F] {f : Nat → F} (v : Nat) : ∀ n, v < n → (∀ k, k < n → k ≠ v → f k = 0) → sd_sum f n = f v := by
  intro n
  induction n with
  | zero => intro h _; exact absurd h (Nat.not_lt_zero v)
  | succ n ih =>
    intro hv h
    rw [sd_sum_s]
    rcases Nat.lt_or_ge v n with q | q
    · rw [ih q (fun k hk hne => h k (by omega) hne), h n (by omega) (by omega)]
      grind
    · have e : v = n := by omega
      rw [e, sd_sum_zero n (fun k hk => h k (by omega) (by omega))]
      grind
theorem sd_sum_mul {F : Type} [Lean.Grind.CommRing F] (f : Nat → F) (a : F) : ∀ n, sd_sum (fun k => a * f k) n = a * sd_sum f n := by
  intro n
  induction n with
  | zero => rw [sd_sum_0, sd_sum_0]; grind
  | succ n ih => rw [sd_sum_s, sd_sum_s, ih]; grind
theorem sd_sum_sub {F : Type} [Lean.Grind.CommRing F] (f g : Nat → F) : ∀ n, sd_sum (fun k => f k - g k) n = sd_sum f n - sd_sum g n := by
  intro n
  induction n with
  | zero => rw [sd_sum_0, sd_sum_0, sd_sum_0]; grind
  | succ n ih => rw [sd_sum_s, sd_sum_s, sd_sum_s, ih]; grind
theorem sd_sum_pv {F : Type} [Lean.Grind.CommRing F] (z : Nat → F) (x : F) (k : Nat) : ∀ n, sd_sum (fun j => sd_pow x j * z (k + j)) n = sd_pv z x k n := by
  intro n
  induction n with
  | zero => rfl
  | succ n ih => rw [sd_sum_s, ih, sd_pv_snoc]; grind
end
section
/-! Berlekamp and Welch's equations; Gauss and Jordan's way to solve them -/
theorem sd_pv_shift {F : Type} [Lean.Grind.CommRing F] (z : Nat → F) (x : F) (a : Nat) : ∀ m k, sd_pv (fun j => z (a + j)) x k m = sd_pv z x (a + k) m := by
  intro m
  induction m with
  | zero => intro k; rfl
  | succ m ih => intro k; rw [sd_pv_s, sd_pv_s, ih (k + 1), Nat.add_assoc]
def sd_row {F : Type} [Lean.Grind.CommRing F] (t e : Nat) (x y : F) (k : Nat) : F :=
  if k < t + e + 1 then sd_pow x k else if k < t + e + 1 + e then 0 - y * sd_pow x (k - (t + e + 1)) else y * sd_pow x e
theorem sd_row_sum {F : Type} [Lean.Grind.CommRing F] (t e : Nat) (x y : F) (z : Nat → F) : sd_sum (fun k => sd_row t e x y k * z k) (t + e + 1 + e) = sd_pv z x 0 (t + e + 1) - y * sd_pv z x (t + e + 1) e := by
  rw [sd_sum_split]
  have h1 : sd_sum (fun k => sd_row t e x y k * z k) (t + e + 1) = sd_pv z x 0 (t + e + 1) := by
    rw [← sd_sum_pv]
    refine sd_sum_congr _ (fun k hk => ?_)
    show sd_row t e x y k * z k = sd_pow x k * z (0 + k)
    rw [sd_row, if_pos hk, Nat.zero_add]
  have h2 : sd_sum (fun j => (fun k => sd_row t e x y k * z k) (t + e + 1 + j)) e = (0 - y) * sd_pv z x (t + e + 1) e := by
    rw [← sd_sum_pv, ← sd_sum_mul]
    refine sd_sum_congr _ (fun k hk => ?_)
    show sd_row t e x y (t + e + 1 + k) * z (t + e + 1 + k) = (0 - y) * (sd_pow x k * z (t + e + 1 + k))
    rw [sd_row, if_neg (by omega), if_pos (by omega), Nat.add_sub_cancel_left]
    grind
  rw [h1, h2]
  grind
theorem sd_row_end {F : Type} [Lean.Grind.CommRing F] (t e : Nat) (x y : F) : sd_row t e x y (t + e + 1 + e) = y * sd_pow x e := by
  rw [sd_row, if_neg (by omega), if_neg (by omega)]
/-- the second curve of a solution, its highest part 1 -/
def sd_E {F : Type} [Lean.Grind.CommRing F] (z : Nat → F) (t e j : Nat) : F := if j < e then z (t + e + 1 + j) else if j = e then 1 else 0
theorem sd_E_hi {F : Type} [Lean.Grind.CommRing F] (z : Nat → F) (t e : Nat) : ∀ j, e < j → sd_E z t e j = 0 := by
  intro j h
  rw [sd_E, if_neg (by omega), if_neg (by omega)]
theorem sd_E_top {F : Type} [Lean.Grind.CommRing F] (z : Nat → F) (t e : Nat) : sd_E z t e e = 1 := by
  rw [sd_E, if_neg (by omega), if_pos rfl]
theorem sd_E_ev {F : Type} [Lean.Grind.CommRing F] (z : Nat → F) (t e : Nat) (x : F) : sd_pv (sd_E z t e) x 0 (e + 1) = sd_pv z x (t + e + 1) e + sd_pow x e := by
  rw [sd_pv_snoc, Nat.zero_add, sd_E_top]
  have h : sd_pv (sd_E z t e) x 0 e = sd_pv (fun j => z (t + e + 1 + j)) x 0 e := sd_pv_congr x e 0 (fun j _ h => by rw [sd_E, if_pos (by omega)])
  rw [h, sd_pv_shift, Nat.add_zero]
  grind
/-- there is a solution, if a curve misses at most e -/
theorem sd_bw_ex {F : Type} [Lean.Grind.CommRing F] (t e N : Nat) (hN : N = t + e + 1 + e) (f xs ys : Nat → F) (L : List F) (hL : L.length ≤ e) (h : ∀ i, i < N → ys i = sd_pv f (xs i) 0 (t + 1) ∨ xs i ∈ L) :
    ∃ z : Nat → F, ∀ i, i < N → sd_sum (fun k => sd_row t e (xs i) (ys i) k * z k) N = sd_row t e (xs i) (ys i) N := by
  subst hN
  have hlen : (L ++ List.replicate (e - L.length) (0 : F)).length = e := by
    rw [List.length_append, List.length_replicate]
    omega
  have hmem : ∀ x, x ∈ L → x ∈ (L ++ List.replicate (e - L.length) (0 : F)) := fun x hx => List.mem_append_left _ hx
  generalize (L ++ List.replicate (e - L.length) (0 : F)) = L2 at hlen hmem
  have hhi := sd_locs_hi L2
  have htop := sd_locs_top L2
  have hev := fun x => sd_locs_ev x L2
  rw [hlen] at hhi htop hev
  generalize sd_locs L2 = E0 at hhi htop hev
  refine ⟨fun k => if k < t + e + 1 then sd_cv f E0 (t + 1) k else E0 (k - (t + e + 1)), ?_⟩
  intro i hi
  rw [sd_row_sum, sd_row_end]
  have a1 : sd_pv (fun k => if k < t + e + 1 then sd_cv f E0 (t + 1) k else E0 (k - (t + e + 1))) (xs i) 0 (t + e + 1) = sd_pv f (xs i) 0 (t + 1) * sd_pv E0 (xs i) 0 (e + 1) := by
    rw [← sd_cv_ev f E0 (xs i) e hhi (t + 1) (t + e + 1) (by omega)]
    exact sd_pv_congr _ _ _ (fun j _ h => if_pos (by omega))
  have a2 : sd_pv (fun k => if k < t + e + 1 then sd_cv f E0 (t + 1) k else E0 (k - (t + e + 1))) (xs i) (t + e + 1) e = sd_pv E0 (xs i) 0 e := by
    have b := sd_pv_shift (fun k => if k < t + e + 1 then sd_cv f E0 (t + 1) k else E0 (k - (t + e + 1))) (xs i) (t + e + 1) e 0
    rw [Nat.add_zero] at b
    rw [← b]
    refine sd_pv_congr _ _ _ (fun j _ h => ?_)
    show (if t + e + 1 + j < t + e + 1 then sd_cv f E0 (t + 1) (t + e + 1 + j) else E0 (t + e + 1 + j - (t + e + 1))) = E0 j
    rw [if_neg (by omega), Nat.add_sub_cancel_left]
  have a3 := sd_pv_snoc E0 (xs i) e 0
  rw [Nat.zero_add, htop] at a3
  rw [a1, a2]
  rcases h i hi with q | q
  · rw [a3, q]
    grind
  · have a4 := hev (xs i) (hmem _ q)
    rw [a4]
    rw [a4] at a3
    grind
/-- and every solution's first curve is the product of the second and of that curve -/
theorem sd_bw_un {F : Type} [Lean.Grind.CommRing F] (hF : ∀ a : F, a ≠ 0 → ∃ b : F, a * b = 1) (t e N : Nat) (hN : N = t + e + 1 + e) (f xs ys z : Nat → F) (G : List F) (hG : G.Nodup) (hl : t + e + 1 ≤ G.length)
    (h : ∀ x, x ∈ G → ∃ i, i < N ∧ x = xs i ∧ ys i = sd_pv f (xs i) 0 (t + 1)) (hz : ∀ i, i < N → sd_sum (fun k => sd_row t e (xs i) (ys i) k * z k) N = sd_row t e (xs i) (ys i) N) :
    ∀ m, m < t + e + 1 → z m = sd_cv f (sd_E z t e) (t + 1) m := by
  subst hN
  intro m hm
  have hr := sd_roots hF (t + e + 1) (fun j => z j - sd_cv f (sd_E z t e) (t + 1) j) G hG hl (by
    intro x hx
    obtain ⟨i, hi, rfl, hy⟩ := h x hx
    have e1 := hz i hi
    rw [sd_row_sum, sd_row_end] at e1
    rw [sd_pv_sub, sd_cv_ev f (sd_E z t e) (xs i) e (sd_E_hi z t e) (t + 1) (t + e + 1) (by omega), sd_E_ev, ← hy]
    grind) m hm
  have hr : z m - sd_cv f (sd_E z t e) (t + 1) m = 0 := hr
  grind
/-- one step of the division by a curve whose highest part is 1 -/
theorem sd_div_step {F : Type} [Lean.Grind.CommRing F] (f E S : Nat → F) (e k : Nat) (hE : ∀ j, e < j → E j = 0) (h1 : E e = 1) (h : ∀ m, m < k + 1 + e → S m = sd_cv f E (k + 1) m) :
    S (k + e) = f k ∧ ∀ S2 : Nat → F, (∀ m, k ≤ m → m < k + e → S2 m = S m - f k * E (m - k)) → (∀ m, m < k → S2 m = S m) → ∀ m, m < k + e → S2 m = sd_cv f E k m := by
  refine ⟨by rw [h (k + e) (by omega)]; exact sd_cv_top f E e hE h1 k, ?_⟩
  intro S2 ha hb m hm
  rcases Nat.lt_or_ge m k with q | q
  · rw [hb m q, h m (by omega), sd_cv_s, if_neg (by omega)]
    grind
  · rw [ha m q hm, h m (by omega), sd_cv_s, if_pos q]
    grind
def sd_Sat {F : Type} [Lean.Grind.CommRing F] (M : Nat → Nat → F) (N : Nat) (z : Nat → F) : Prop := ∀ r, r < N → sd_sum (fun k => M r k * z k) N = M r N
def sd_elim {F : Type} [Lean.Grind.CommRing F] (M : Nat → Nat → F) (r u : Nat) (s : F) : Nat → Nat → F := fun a k => if a = r then M r k * s else M a k - M a u * (M r k * s)
theorem sd_elim_self {F : Type} [Lean.Grind.CommRing F] (M : Nat → Nat → F) (r u : Nat) (s : F) (k : Nat) : sd_elim M r u s r k = M r k * s := if_pos rfl
theorem sd_elim_ne {F : Type} [Lean.Grind.CommRing F] (M : Nat → Nat → F) {r u a : Nat} (s : F) (k : Nat) (h : a ≠ r) : sd_elim M r u s a k = M a k - M a u * (M r k * s) := if_neg h
theorem sd_elim_sum {F : Type} [Lean.Grind.CommRing F] (M : Nat → Nat → F) (r u N : Nat) (s : F) (z : Nat → F) :
    sd_sum (fun k => sd_elim M r u s r k * z k) N = s * sd_sum (fun k => M r k * z k) N ∧ ∀ a, a ≠ r → sd_sum (fun k => sd_elim M r u s a k * z k) N = sd_sum (fun k => M a k * z k) N - M a u * s * sd_sum (fun k => M r k * z k) N := by
  refine ⟨?_, fun a ha => ?_⟩
  · rw [← sd_sum_mul]
    refine sd_sum_congr _ (fun k _ => ?_)
    show sd_elim M r u s r k * z k = s * (M r k * z k)
    rw [sd_elim_self]
    grind
  · rw [← sd_sum_mul, ← sd_sum_sub]
    refine sd_sum_congr _ (fun k _ => ?_)
    show sd_elim M r u s a k * z k = M a k * z k - M a u * s * (M r k * z k)
    rw [sd_elim_ne M s k ha]
    grind
theorem sd_elim_sat {F : Type} [Lean.Grind.CommRing F] (M : Nat → Nat → F) (N r u : Nat) (s : F) (hr : r < N) (hs : M r u * s = 1) (z : Nat → F) : sd_Sat (sd_elim M r u s) N z ↔ sd_Sat M N z := by
  have hsum := sd_elim_sum M r u N s z
  constructor
  · intro h
    have h0 := h r hr
    rw [hsum.1, sd_elim_self] at h0
    have hA : sd_sum (fun k => M r k * z k) N = M r N := by
      generalize sd_sum (fun k => M r k * z k) N = A at h0 ⊢
      grind
    intro a ha
    by_cases e : a = r
    · rw [e]; exact hA
    · have h1 := h a ha
      rw [hsum.2 a e, sd_elim_ne M s N e, hA] at h1
      generalize sd_sum (fun k => M a k * z k) N = B at h1 ⊢
      grind
  · intro h a ha
    have hA := h r hr
    by_cases e : a = r
    · rw [e, hsum.1, sd_elim_self, hA]
      grind
    · rw [hsum.2 a e, sd_elim_ne M s N e, hA, h a ha]
      grind
def sd_up {α : Type} (f : Nat → α) (k : Nat) (v : α) : Nat → α := fun j => if j = k then v else f j
theorem sd_up_s {α : Type} (f : Nat → α) (k : Nat) (v : α) : sd_up f k v k = v := if_pos rfl
theorem sd_up_n {α : Type} (f : Nat → α) {k j : Nat} (v : α) (h : j ≠ k) : sd_up f k v j = f j := if_neg h
/-- behind the unknowns below u: the same solutions; rows not used are 0 there; each used row is alone at its unknown -/
def sd_GI {F : Type} [Lean.Grind.CommRing F] (N : Nat) (M0 M : Nat → Nat → F) (used : Nat → Bool) (ro : Nat → Option Nat) (u : Nat) : Prop :=
  (∀ z, sd_Sat M N z ↔ sd_Sat M0 N z) ∧ (∀ r, r < N → used r = false → ∀ k, k < u → M r k = 0) ∧ (∀ r, r < N → used r = true → ∃ v, v < u ∧ ro v = some r) ∧
  (∀ v r, v < u → ro v = some r → r < N ∧ used r = true ∧ M r v = 1 ∧ ∀ a, a < N → a ≠ r → M a v = 0) ∧ ∀ v w r, v < u → w < u → ro v = some r → ro w = some r → v = w
theorem sd_GI_0 {F : Type} [Lean.Grind.CommRing F] (N : Nat) (M : Nat → Nat → F) (used : Nat → Bool) (ro : Nat → Option Nat) (h : ∀ r, r < N → used r = false) : sd_GI N M M used ro 0 :=
  ⟨fun _ => Iff.rfl, fun _ _ _ k hk => absurd hk (Nat.not_lt_zero k), fun r hr hu => absurd hu (by rw [h r hr]; decide), fun v _ hv => absurd hv (Nat.not_lt_zero v), fun v _ _ hv => absurd hv (Nat.not_lt_zero v)⟩
theorem sd_GI_none {F : Type} [Lean.Grind.CommRing F] {N : Nat} {M0 M : Nat → Nat → F} {used : Nat → Bool} {ro : Nat → Option Nat} {u : Nat} (h : sd_GI N M0 M used ro u) (hz : ∀ r, r < N → used r = false → M r u = 0) : sd_GI N M0 M used (sd_up ro u none) (u + 1) := by
  obtain ⟨h1, h2, h3, h4, h5⟩ := h
  have key : ∀ v r, v < u + 1 → sd_up ro u none v = some r → v < u ∧ ro v = some r := by
    intro v r hv hr
    by_cases e : v = u
    · rw [e, sd_up_s] at hr; cases hr
    · rw [sd_up_n ro none e] at hr
      exact ⟨by omega, hr⟩
  refine ⟨h1, fun r hr hu k hk => ?_, fun r hr hu => ?_, fun v r hv hr => ?_, fun v w r hv hw a b => ?_⟩
  · rcases Nat.lt_or_ge k u with q | q
    · exact h2 r hr hu k q
    · rw [show k = u by omega]; exact hz r hr hu
  · obtain ⟨v, hv, e⟩ := h3 r hr hu
    exact ⟨v, by omega, by rw [sd_up_n ro none (by omega)]; exact e⟩
  · obtain ⟨a, b⟩ := key v r hv hr
    exact h4 v r a b
  · obtain ⟨a1, a2⟩ := key v r hv a
    obtain ⟨b1, b2⟩ := key w r hw b
    exact h5 v w r a1 b1 a2 b2
theorem sd_GI_some {F : Type} [Lean.Grind.CommRing F] {N : Nat} {M0 M : Nat → Nat → F} {used : Nat → Bool} {ro : Nat → Option Nat} {u r : Nat} {s : F} (h : sd_GI N M0 M used ro u) (hr : r < N) (hu : used r = false) (hs : M r u * s = 1) :
    sd_GI N M0 (sd_elim M r u s) (sd_up used r true) (sd_up ro u (some r)) (u + 1) := by
  obtain ⟨h1, h2, h3, h4, h5⟩ := h
  have hrz := h2 r hr hu
  have hold : ∀ v q, v < u → ro v = some q → q ≠ r := by
    intro v q hv hq e
    have := (h4 v q hv hq).2.1
    rw [e, hu] at this
    cases this
  have key : ∀ v q, v < u + 1 → sd_up ro u (some r) v = some q → (v = u ∧ q = r) ∨ (v < u ∧ ro v = some q) := by
    intro v q hv hq
    by_cases e : v = u
    · rw [e, sd_up_s] at hq
      exact Or.inl ⟨e, (Option.some.inj hq).symm⟩
    · rw [sd_up_n ro _ e] at hq
      exact Or.inr ⟨by omega, hq⟩
  refine ⟨fun z => (sd_elim_sat M N r u s hr hs z).trans (h1 z), fun a ha hua k hk => ?_, fun a ha hua => ?_, fun v q hv hq => ?_, fun v w q hv hw a b => ?_⟩
  · have hne : a ≠ r := fun e => by rw [e, sd_up_s] at hua; cases hua
    rw [sd_up_n used true hne] at hua
    rw [sd_elim_ne M s k hne]
    rcases Nat.lt_or_ge k u with q | q
    · rw [h2 a ha hua k q, hrz k q]
      grind
    · rw [show k = u by omega, hs]
      grind
  · by_cases e : a = r
    · exact ⟨u, by omega, by rw [sd_up_s, e]⟩
    · rw [sd_up_n used true e] at hua
      obtain ⟨v, hv, hq⟩ := h3 a ha hua
      exact ⟨v, by omega, by rw [sd_up_n ro _ (by omega)]; exact hq⟩
  · rcases key v q hv hq with ⟨e1, e2⟩ | ⟨hv2, hq2⟩
    · rw [e1, e2]
      refine ⟨hr, sd_up_s used r true, by rw [sd_elim_self]; exact hs, fun a _ hne => ?_⟩
      rw [sd_elim_ne M s u hne, hs]
      grind
    · obtain ⟨a1, a2, a3, a4⟩ := h4 v q hv2 hq2
      have hne := hold v q hv2 hq2
      refine ⟨a1, by rw [sd_up_n used true hne]; exact a2, ?_, fun a ha hna => ?_⟩
      · rw [sd_elim_ne M s v hne, hrz v hv2, a3]
        grind
      · by_cases e : a = r
        · rw [e, sd_elim_self, hrz v hv2]
          grind
        · rw [sd_elim_ne M s v e, hrz v hv2, a4 a ha hna]
          grind
  · rcases key v q hv a with ⟨e1, e2⟩ | ⟨hv2, hq2⟩ <;> rcases key w q hw b with ⟨e3, e4⟩ | ⟨hw2, hp2⟩
    · omega
    · exact absurd e2 (hold w q hw2 hp2)
    · exact absurd e4 (hold v q hv2 hq2)
    · exact h5 v w q hv2 hw2 hq2 hp2
theorem sd_Sat_congr {F : Type} [Lean.Grind.CommRing F] {M M2 : Nat → Nat → F} {N : Nat} (h : ∀ r k, r < N → k ≤ N → M2 r k = M r k) (z : Nat → F) : sd_Sat M2 N z ↔ sd_Sat M N z := by
  have e : ∀ r, r < N → (sd_sum (fun k => M2 r k * z k) N = sd_sum (fun k => M r k * z k) N ∧ M2 r N = M r N) := fun r hr =>
    ⟨sd_sum_congr N (fun k hk => by rw [h r k hr (by omega)]), h r N hr (Nat.le_refl N)⟩
  exact ⟨fun q r hr => by rw [← (e r hr).1, ← (e r hr).2]; exact q r hr, fun q r hr => by rw [(e r hr).1, (e r hr).2]; exact q r hr⟩
theorem sd_GI_congr {F : Type} [Lean.Grind.CommRing F] {N : Nat} {M0 M M2 : Nat → Nat → F} {used used2 : Nat → Bool} {ro ro2 : Nat → Option Nat} {u : Nat} (hu : u ≤ N) (h : sd_GI N M0 M used ro u)
    (hM : ∀ r k, r < N → k ≤ N → M2 r k = M r k) (hU : ∀ r, r < N → used2 r = used r) (hR : ∀ v, v < u → ro2 v = ro v) : sd_GI N M0 M2 used2 ro2 u := by
  obtain ⟨h1, h2, h3, h4, h5⟩ := h
  refine ⟨fun z => (sd_Sat_congr hM z).trans (h1 z), fun r hr q k hk => ?_, fun r hr q => ?_, fun v r hv q => ?_, fun v w r hv hw a b => ?_⟩
  · rw [hM r k hr (by omega)]
    exact h2 r hr (by rw [← hU r hr]; exact q) k hk
  · obtain ⟨v, hv, e⟩ := h3 r hr (by rw [← hU r hr]; exact q)
    exact ⟨v, hv, by rw [hR v hv]; exact e⟩
  · rw [hR v hv] at q
    obtain ⟨a1, a2, a3, a4⟩ := h4 v r hv q
    exact ⟨a1, by rw [hU r a1]; exact a2, by rw [hM r v a1 (by omega)]; exact a3, fun a ha hne => by rw [hM a v ha (by omega)]; exact a4 a ha hne⟩
  · rw [hR v hv] at a
    rw [hR w hw] at b
    exact h5 v w r hv hw a b
def sd_sol {F : Type} [Lean.Grind.CommRing F] (M : Nat → Nat → F) (N : Nat) (ro : Nat → Option Nat) (v : Nat) : F := match ro v with
  | none => 0
  | some r => M r N
theorem sd_GI_end {F : Type} [Lean.Grind.CommRing F] {N : Nat} {M0 M : Nat → Nat → F} {used : Nat → Bool} {ro : Nat → Option Nat} (h : sd_GI N M0 M used ro N) {z0 : Nat → F} (hz : sd_Sat M0 N z0) : sd_Sat M0 N (sd_sol M N ro) := by
  obtain ⟨h1, h2, h3, h4, h5⟩ := h
  have hz1 := (h1 z0).mpr hz
  refine (h1 _).mp ?_
  intro r hr
  cases hu : used r with
  | false =>
    have e0 := hz1 r hr
    rw [sd_sum_zero N (fun k hk => by rw [h2 r hr hu k hk]; grind)] at e0
    rw [← e0]
    exact sd_sum_zero N (fun k hk => by rw [h2 r hr hu k hk]; grind)
  | true =>
    obtain ⟨v, hv, hq⟩ := h3 r hr hu
    obtain ⟨-, -, a3, -⟩ := h4 v r hv hq
    rw [sd_sum_one v N hv]
    · rw [a3, sd_sol, hq]
      grind
    · intro k hk hne
      cases hk2 : ro k with
      | none =>
        rw [sd_sol, hk2]
        grind
      | some q =>
        obtain ⟨-, -, -, b4⟩ := h4 k q hk hk2
        have hqr : r ≠ q := fun e => hne (h5 k v r hk hv (by rw [hk2, e]) hq)
        rw [b4 r hr hqr]
        grind
end
section
/-! Euclid's way to the inverse, with its steps counted -/
def sd_fib : Nat → Nat
  | 0 => 0
  | 1 => 1
  | n + 2 => sd_fib n + sd_fib (n + 1)
theorem sd_fib_ss (n : Nat) : sd_fib (n + 2) = sd_fib n + sd_fib (n + 1) := rfl
theorem sd_fib_mono (n : Nat) : sd_fib n ≤ sd_fib (n + 1) := by
  match n with
  | 0 => exact Nat.zero_le _
  | n + 1 => rw [sd_fib_ss]; omega
theorem sd_fib_10 (n : Nat) : 55 * sd_fib (n + 1) + 34 * sd_fib n = sd_fib (n + 10) ∧ 89 * sd_fib (n + 1) + 55 * sd_fib n = sd_fib (n + 11) := by
  have a2 := sd_fib_ss n
  have a3 := sd_fib_ss (n + 1)
  have a4 := sd_fib_ss (n + 2)
  have a5 := sd_fib_ss (n + 3)
  have a6 := sd_fib_ss (n + 4)
  have a7 := sd_fib_ss (n + 5)
  have a8 := sd_fib_ss (n + 6)
  have a9 := sd_fib_ss (n + 7)
  have a10 := sd_fib_ss (n + 8)
  have a11 := sd_fib_ss (n + 9)
  simp only [Nat.add_assoc, Nat.reduceAdd] at a2 a3 a4 a5 a6 a7 a8 a9 a10 a11 ⊢
  omega
theorem sd_fib_big : 2305843009213693951 < sd_fib 101 := by
  have b0 := sd_fib_10 0
  have b1 := sd_fib_10 10
  have b2 := sd_fib_10 20
  have b3 := sd_fib_10 30
  have b4 := sd_fib_10 40
  have b5 := sd_fib_10 50
  have b6 := sd_fib_10 60
  have b7 := sd_fib_10 70
  have b8 := sd_fib_10 80
  have b9 := sd_fib_10 90
  have c0 : sd_fib 0 = 0 := rfl
  have c1 : sd_fib 1 = 1 := rfl
  simp only [Nat.reduceAdd, Nat.zero_add] at b0 b1 b2 b3 b4 b5 b6 b7 b8 b9
  omega
def sd_EI (a i r n : Nat) (x y : Int) : Prop :=
  n < r ∧ r ≤ 2305843009213693951 ∧ Nat.gcd r n = 1 ∧ (∃ k : Int, (r : Int) = x * a + k * 2305843009213693951) ∧ (∃ k : Int, (n : Int) = y * a + k * 2305843009213693951) ∧
  (∃ fa na : Nat, fa ≤ na ∧ r * na + n * fa = 2305843009213693951 ∧ ((x = fa ∧ y = -(na : Int)) ∨ (x = -(fa : Int) ∧ y = na))) ∧ r * sd_fib (i + 1) + n * sd_fib i ≤ 2305843009213693951
theorem sd_EI_0 {a : Nat} (h0 : 0 < a) (h : a < 2305843009213693951) : sd_EI a 0 2305843009213693951 a 0 1 := by
  refine ⟨h, Nat.le_refl _, by rw [Nat.gcd_comm]; exact sd_P_cop h0 h, ⟨1, by omega⟩, ⟨0, by omega⟩, ⟨0, 1, by omega, by omega, Or.inr ⟨by omega, by omega⟩⟩, ?_⟩
  have c0 : sd_fib 0 = 0 := rfl
  have c1 : sd_fib 1 = 1 := rfl
  rw [Nat.zero_add, c0, c1]
  omega
theorem sd_EI_s {a i r n : Nat} {x y : Int} (h : sd_EI a i r n x y) (hn : n ≠ 0) : sd_EI a (i + 1) n (r % n) y (x - ((r / n : Nat) : Int) * y) := by
  obtain ⟨h1, h2, h3, ⟨k1, h4⟩, ⟨k2, h5⟩, ⟨fa, na, h6, h7, h8⟩, h9⟩ := h
  have hd := Nat.div_add_mod r n
  have hq : 1 ≤ r / n := (Nat.one_le_div_iff (by omega)).mpr (by omega)
  have hm : r % n < n := Nat.mod_lt _ (by omega)
  generalize hQ : r / n = q at *
  generalize hR : r % n = w at *
  have hdz : (n : Int) * (q : Int) + (w : Int) = (r : Int) := by exact_mod_cast hd
  refine ⟨hm, by omega, ?_, ⟨k2, h5⟩, ⟨k1 - (q : Int) * k2, ?_⟩, ⟨na, fa + q * na, ?_, ?_, ?_⟩, ?_⟩
  · rw [← hR, ← Nat.gcd_comm (r % n), ← Nat.gcd_rec, Nat.gcd_comm]
    exact h3
  · have : (w : Int) = (r : Int) - (n : Int) * (q : Int) := by omega
    rw [this, h4, h5]
    grind
  · have : 1 * na ≤ q * na := Nat.mul_le_mul_right na hq
    omega
  · rw [← h7, ← hd]
    grind
  · rcases h8 with ⟨e1, e2⟩ | ⟨e1, e2⟩
    · refine Or.inr ⟨e2, ?_⟩
      rw [e1, e2, Int.natCast_add, Int.natCast_mul]
      grind
    · refine Or.inl ⟨e2, ?_⟩
      rw [e1, e2, Int.natCast_add, Int.natCast_mul]
      grind
  · have hge : n + w ≤ r := by
      have : n * 1 ≤ n * q := Nat.mul_le_mul_left n hq
      omega
    have e1 : (n + w) * sd_fib (i + 1) ≤ r * sd_fib (i + 1) := Nat.mul_le_mul_right _ hge
    rw [Nat.add_mul] at e1
    rw [show i + 1 + 1 = i + 2 from rfl, sd_fib_ss, Nat.mul_add]
    omega
theorem sd_EI_lim {a r n : Nat} {x y : Int} (h : sd_EI a 100 r n x y) : n = 0 := by
  obtain ⟨h1, h2, h3, -, -, -, h9⟩ := h
  have hb := sd_fib_big
  have e : 1 * sd_fib 101 ≤ r * sd_fib 101 := Nat.mul_le_mul_right _ (by omega)
  have h9 : r * sd_fib 101 + n * sd_fib 100 ≤ 2305843009213693951 := h9
  omega
/-- at the end: the factor is the inverse, and a long holds it -/
theorem sd_EI_end {a i r : Nat} {x y : Int} (h : sd_EI a i r 0 x y) : (∃ k : Int, x * a = 1 + k * 2305843009213693951) ∧ -2305843009213693951 ≤ x ∧ x ≤ 2305843009213693951 := by
  obtain ⟨h1, h2, h3, ⟨k1, h4⟩, -, ⟨fa, na, h6, h7, h8⟩, -⟩ := h
  rw [Nat.gcd_zero_right] at h3
  subst h3
  refine ⟨⟨-k1, ?_⟩, ?_⟩
  · have : ((1 : Nat) : Int) = 1 := rfl
    rw [this] at h4
    grind
  · rcases h8 with ⟨e1, e2⟩ | ⟨e1, e2⟩ <;> omega
/-- all factors on the way are small, too -/
theorem sd_EI_fit {a i r n : Nat} {x y : Int} (h : sd_EI a i r n x y) : (-2305843009213693951 ≤ x ∧ x ≤ 2305843009213693951) ∧ -2305843009213693951 ≤ y ∧ y ≤ 2305843009213693951 := by
  obtain ⟨h1, h2, h3, -, -, ⟨fa, na, h6, h7, h8⟩, -⟩ := h
  have hna : 1 * na ≤ r * na := Nat.mul_le_mul_right na (by omega)
  have : 0 ≤ n * fa := Nat.zero_le _
  rcases h8 with ⟨e1, e2⟩ | ⟨e1, e2⟩ <;> omega
end
section
/-! numbers as longs -/
def sd_L (a : FP) : Int64 := lN a.val
theorem sd_lNP : lN 2305843009213693951 = (2305843009213693951 : Int64) := by decide +kernel
theorem sd_L_inj {a b : FP} (h : sd_L a = sd_L b) : a = b := by
  have ha := a.isLt
  have hb := b.isLt
  exact Fin.ext ((pk_lEQ (by omega) (by omega)).mp h)
theorem sd_L_eq {a b : FP} : sd_L a = sd_L b ↔ a = b := ⟨sd_L_inj, fun h => by rw [h]⟩
theorem sd_L_0 : sd_L 0 = 0 := by decide +kernel
theorem sd_L_1 : sd_L 1 = 1 := by decide +kernel
theorem sd_plus_ge {a b : FP} (h : (2305843009213693951 : Int64) ≤ sd_L a + sd_L b) : sd_L a + sd_L b - 2305843009213693951 = sd_L (a + b) := by
  have ha := a.isLt
  have hb := b.isLt
  rw [← sd_lNP] at h ⊢
  unfold sd_L at h ⊢
  rw [lN_add] at h ⊢
  have h2 := (pk_lLE (by omega) (by omega)).mp h
  rw [lN_sub h2, Fin.val_add]
  refine congrArg lN ?_
  omega
theorem sd_plus_lt {a b : FP} (h : ¬ (2305843009213693951 : Int64) ≤ sd_L a + sd_L b) : sd_L a + sd_L b = sd_L (a + b) := by
  have ha := a.isLt
  have hb := b.isLt
  rw [← sd_lNP] at h
  unfold sd_L at h ⊢
  rw [lN_add] at h ⊢
  have h2 : ¬ 2305843009213693951 ≤ a.val + b.val := fun q => h ((pk_lLE (by omega) (by omega)).mpr q)
  rw [Fin.val_add]
  refine congrArg lN ?_
  omega
theorem sd_minus_ge {a b : FP} (h : sd_L b ≤ sd_L a) : sd_L a - sd_L b = sd_L (a - b) := by
  have ha := a.isLt
  have hb := b.isLt
  unfold sd_L at h ⊢
  have h2 := (pk_lLE (by omega) (by omega)).mp h
  rw [lN_sub h2, Fin.sub_def]
  refine congrArg lN ?_
  show a.val - b.val = (2305843009213693951 - b.val + a.val) % 2305843009213693951
  omega
theorem sd_minus_lt {a b : FP} (h : ¬ sd_L b ≤ sd_L a) : sd_L a - sd_L b + 2305843009213693951 = sd_L (a - b) := by
  have ha := a.isLt
  have hb := b.isLt
  unfold sd_L at h ⊢
  have h2 : ¬ b.val ≤ a.val := fun q => h ((pk_lLE (by omega) (by omega)).mpr q)
  have e : lN a.val - lN b.val + 2305843009213693951 = (lN a.val + 2305843009213693951) - lN b.val := by grind
  rw [e, ← sd_lNP, lN_add, lN_sub (by omega), Fin.sub_def]
  refine congrArg lN ?_
  show a.val + 2305843009213693951 - b.val = (2305843009213693951 - b.val + a.val) % 2305843009213693951
  omega
/-- the product out of halves -/
theorem sd_times_nat {a b : Nat} (ha : a < 2305843009213693951) (hb : b < 2305843009213693951) :
    (2 * (a / 2147483648) * (b / 2147483648) + (((a / 2147483648) * (b % 2147483648) + (a % 2147483648) * (b / 2147483648)) / 1073741824 + (((a / 2147483648) * (b % 2147483648) + (a % 2147483648) * (b / 2147483648)) % 1073741824) * 2147483648) + (a % 2147483648) * (b % 2147483648)) % 2305843009213693951 = (a * b) % 2305843009213693951 ∧
    2 * (a / 2147483648) * (b / 2147483648) + (((a / 2147483648) * (b % 2147483648) + (a % 2147483648) * (b / 2147483648)) / 1073741824 + (((a / 2147483648) * (b % 2147483648) + (a % 2147483648) * (b / 2147483648)) % 1073741824) * 2147483648) + (a % 2147483648) * (b % 2147483648) < 2 ^ 63 ∧
    (a / 2147483648) * (b % 2147483648) + (a % 2147483648) * (b / 2147483648) < 2 ^ 63 := by
  have a1 := Nat.div_add_mod a 2147483648
  have b1 := Nat.div_add_mod b 2147483648
  have a2 : a % 2147483648 < 2147483648 := Nat.mod_lt _ (by decide)
  have b2 : b % 2147483648 < 2147483648 := Nat.mod_lt _ (by decide)
  have a3 : a / 2147483648 < 1073741824 := by omega
  have b3 : b / 2147483648 < 1073741824 := by omega
  generalize a / 2147483648 = x at *
  generalize a % 2147483648 = y at *
  generalize b / 2147483648 = z at *
  generalize b % 2147483648 = w at *
  have m1 : x * w ≤ 1073741823 * 2147483647 := Nat.mul_le_mul (by omega) (by omega)
  have m2 : y * z ≤ 2147483647 * 1073741823 := Nat.mul_le_mul (by omega) (by omega)
  have m3 : x * z ≤ 1073741823 * 1073741823 := Nat.mul_le_mul (by omega) (by omega)
  have m4 : y * w ≤ 2147483647 * 2147483647 := Nat.mul_le_mul (by omega) (by omega)
  have hq := Nat.div_add_mod (x * w + y * z) 1073741824
  have hr : (x * w + y * z) % 1073741824 < 1073741824 := Nat.mod_lt _ (by decide)
  have hmid : x * w + y * z < 2 ^ 63 := by omega
  have e2 : 2 * x * z = 2 * (x * z) := Nat.mul_assoc 2 x z
  generalize (x * w + y * z) / 1073741824 = q at *
  generalize (x * w + y * z) % 1073741824 = r at *
  have hab : a * b = (2 * x * z + (q + r * 2147483648) + y * w) + 2305843009213693951 * (2 * (x * z) + q) := by
    rw [← a1, ← b1, e2]
    have e3 : (2147483648 * x + y) * (2147483648 * z + w) = 4611686018427387904 * (x * z) + 2147483648 * (x * w + y * z) + y * w := by grind
    rw [e3, ← hq]
    omega
  refine ⟨?_, ?_, hmid⟩
  · rw [hab, Nat.add_mul_mod_self_left]
  · rw [e2]
    omega
theorem sd_mul_val (a b : FP) : (a * b).val = (a.val * b.val) % 2305843009213693951 := Fin.val_mul a b
/-- a long from outside -/
def sd_of (x : Int64) : FP := ⟨(x.toInt % 2305843009213693951).toNat, by
  have h1 := Int.emod_nonneg x.toInt (show (2305843009213693951 : Int) ≠ 0 by decide)
  have h2 := Int.emod_lt_of_pos x.toInt (show (0 : Int) < 2305843009213693951 by decide)
  omega⟩
theorem sd_of_L (a : FP) : sd_of (sd_L a) = a := by
  have ha := a.isLt
  apply Fin.ext
  show ((sd_L a).toInt % 2305843009213693951).toNat = a.val
  unfold sd_L
  rw [pk_lT (by omega)]
  omega
end
section
/-! what FOUND means: counts over the places 1 .. n, and that there is at most one such curve -/
def sd_N (k : Nat) : FP := Fin.ofNat 2305843009213693951 k
theorem sd_N_val {k : Nat} (h : k < 2305843009213693951) : (sd_N k).val = k := Nat.mod_eq_of_lt h
theorem sd_N_L {k : Nat} (h : k < 2305843009213693951) : sd_L (sd_N k) = lN k := by
  unfold sd_L
  rw [sd_N_val h]
theorem sd_N_inj {a b : Nat} (ha : a < 2305843009213693951) (hb : b < 2305843009213693951) (h : sd_N a = sd_N b) : a = b := by
  have := congrArg Fin.val h
  rw [sd_N_val ha, sd_N_val hb] at this
  exact this
/-- how many of 1 .. n -/
def sd_cnt (b : Nat → Bool) : Nat → Nat
  | 0 => 0
  | n + 1 => sd_cnt b n + (if b (n + 1) = true then 1 else 0)
theorem sd_cnt_0 (b : Nat → Bool) : sd_cnt b 0 = 0 := rfl
theorem sd_cnt_s (b : Nat → Bool) (n : Nat) : sd_cnt b (n + 1) = sd_cnt b n + (if b (n + 1) = true then 1 else 0) := rfl
theorem sd_cnt_t {b : Nat → Bool} {n : Nat} (h : b (n + 1) = true) : sd_cnt b (n + 1) = sd_cnt b n + 1 := by rw [sd_cnt_s, if_pos h]
theorem sd_cnt_f {b : Nat → Bool} {n : Nat} (h : b (n + 1) = false) : sd_cnt b (n + 1) = sd_cnt b n := by rw [sd_cnt_s, if_neg (by rw [h]; decide), Nat.add_zero]
theorem sd_cnt_le (b : Nat → Bool) : ∀ n, sd_cnt b n ≤ n := by
  intro n
  induction n with
  | zero => exact Nat.le_refl 0
  | succ n ih =>
    cases h : b (n + 1) with
    | true => rw [sd_cnt_t h]; omega
    | false => rw [sd_cnt_f h]; omega
theorem sd_cnt_mono (b : Nat → Bool) {i j : Nat} (h : i ≤ j) : sd_cnt b i ≤ sd_cnt b j := by
  induction j with
  | zero => rw [Nat.le_zero.mp h]; exact Nat.le_refl _
  | succ j ih =>
    rcases Nat.lt_or_ge i (j + 1) with q | q
    · refine Nat.le_trans (ih (by omega)) ?_
      rw [sd_cnt_s]
      omega
    · rw [show i = j + 1 by omega]
      exact Nat.le_refl _
theorem sd_cnt_congr {a b : Nat → Bool} : ∀ n, (∀ j, 1 ≤ j → j ≤ n → a j = b j) → sd_cnt a n = sd_cnt b n := by
  intro n
  induction n with
  | zero => intro _; rfl
  | succ n ih => intro h; rw [sd_cnt_s, sd_cnt_s, ih (fun j h1 h2 => h j h1 (by omega)), h (n + 1) (by omega) (by omega)]
/-- a sum of three counts bounds one, if it does so place by place -/
theorem sd_cnt_sum {a b c d : Nat → Bool} : ∀ n, (∀ j, 1 ≤ j → j ≤ n → a j = true → b j = true ∨ c j = true ∨ d j = true) → sd_cnt a n ≤ sd_cnt b n + sd_cnt c n + sd_cnt d n := by
  intro n
  induction n with
  | zero => intro _; exact Nat.le_refl 0
  | succ n ih =>
    intro h
    have i := ih (fun j h1 h2 => h j h1 (by omega))
    rw [sd_cnt_s a, sd_cnt_s b, sd_cnt_s c, sd_cnt_s d]
    by_cases ha : a (n + 1) = true
    · rw [if_pos ha]
      rcases h (n + 1) (by omega) (by omega) ha with q | q | q
      · rw [if_pos q]; omega
      · rw [if_pos q]; omega
      · rw [if_pos q]; omega
    · rw [if_neg ha]; omega
theorem sd_cnt_list (b : Nat → Bool) : ∀ n, ∃ L : List Nat, L.Nodup ∧ L.length = sd_cnt b n ∧ ∀ j, j ∈ L ↔ (1 ≤ j ∧ j ≤ n ∧ b j = true) := by
  intro n
  induction n with
  | zero => exact ⟨[], List.nodup_nil, rfl, fun j => ⟨fun h => absurd h List.not_mem_nil, fun h => absurd h.2.1 (by omega)⟩⟩
  | succ n ih =>
    obtain ⟨L, h1, h2, h3⟩ := ih
    cases h : b (n + 1) with
    | false =>
      refine ⟨L, h1, by rw [sd_cnt_f h]; exact h2, fun j => ?_⟩
      rw [h3]
      constructor
      · intro q; exact ⟨q.1, by omega, q.2.2⟩
      · intro q
        refine ⟨q.1, ?_, q.2.2⟩
        rcases Nat.lt_or_ge j (n + 1) with z | z
        · omega
        · have e : j = n + 1 := by omega
          have := q.2.2
          rw [e, h] at this
          cases this
    | true =>
      refine ⟨(n + 1) :: L, List.nodup_cons.mpr ⟨fun q => ?_, h1⟩, by rw [List.length_cons, sd_cnt_t h, h2], fun j => ?_⟩
      · have := ((h3 (n + 1)).mp q).2.1
        omega
      · rw [List.mem_cons, h3]
        constructor
        · rintro (q | q)
          · rw [q]; exact ⟨by omega, by omega, h⟩
          · exact ⟨q.1, by omega, q.2.2⟩
        · intro q
          rcases Nat.lt_or_ge j (n + 1) with z | z
          · exact Or.inr ⟨q.1, by omega, q.2.2⟩
          · exact Or.inl (by omega)
theorem sd_map_nodup {L : List Nat} (h : L.Nodup) (hl : ∀ j, j ∈ L → j ≤ 16) : (L.map sd_N).Nodup := by
  refine List.pairwise_map.mpr (List.Pairwise.imp_of_mem (R := fun a b => a ≠ b) ?_ h)
  intro a b ha hb hab q
  have := hl a ha
  have := hl b hb
  exact hab (sd_N_inj (by omega) (by omega) q)
/-- a curve's value -/
def sd_ev (f : Nat → FP) (x : FP) : FP := sd_pv f x 0 9
theorem sd_ev_cut {f : Nat → FP} {t : Nat} (ht : t ≤ 8) (h : ∀ k, t < k → k < 9 → f k = 0) (x : FP) : sd_ev f x = sd_pv f x 0 (t + 1) := by
  unfold sd_ev
  have e : sd_pv f x 0 9 = sd_pv (fun k => if k < 9 then f k else 0) x 0 9 := sd_pv_congr x 9 0 (fun j _ h => (if_pos (by omega)).symm)
  have e2 : sd_pv f x 0 (t + 1) = sd_pv (fun k => if k < 9 then f k else 0) x 0 (t + 1) := sd_pv_congr x (t + 1) 0 (fun j _ h => (if_pos (by omega)).symm)
  rw [e, e2, show 9 = (t + 1) + (8 - t) by omega]
  refine sd_pv_ext x 0 (t + 1) (fun j hj => ?_) _
  show (if j < (t + 1) + (8 - t) then f j else 0) = 0
  by_cases q : j < (t + 1) + (8 - t)
  · rw [if_pos q]; exact h j (by omega) (by omega)
  · rw [if_neg q]
/-- the share at a place is there, and the curve misses it -/
def sd_ms (th : Nat → Bool) (v f : Nat → FP) (j : Nat) : Bool := th j && decide (¬ v j = sd_ev f (sd_N j))
/-- FOUND: of at most the degree t, and at most e of the n places' shares are missed -/
def sd_Fd (t n e : Nat) (th : Nat → Bool) (v f : Nat → FP) : Prop := (∀ k, t < k → k < 9 → f k = 0) ∧ sd_cnt (sd_ms th v f) n ≤ e
theorem sd_Fd_un {t n e : Nat} {th : Nat → Bool} {v f g : Nat → FP} (ht : t ≤ 8) (hn : n ≤ 16) (hm : t + 1 + 2 * e ≤ sd_cnt th n) (hf : sd_Fd t n e th v f) (hg : sd_Fd t n e th v g) : ∀ k, k < 9 → f k = g k := by
  have hs := sd_cnt_sum (a := th) (b := sd_ms th v f) (c := sd_ms th v g) (d := fun j => th j && (decide (v j = sd_ev f (sd_N j)) && decide (v j = sd_ev g (sd_N j)))) n (by
    intro j _ _ h
    by_cases q1 : v j = sd_ev f (sd_N j)
    · by_cases q2 : v j = sd_ev g (sd_N j)
      · exact Or.inr (Or.inr (by simp only [h, Bool.true_and, Bool.and_eq_true, decide_eq_true_eq]; exact ⟨q1, q2⟩))
      · exact Or.inr (Or.inl (by simp only [sd_ms, h, Bool.true_and, decide_eq_true_eq]; exact q2))
    · exact Or.inl (by simp only [sd_ms, h, Bool.true_and, decide_eq_true_eq]; exact q1))
  obtain ⟨L, l1, l2, l3⟩ := sd_cnt_list (fun j => th j && (decide (v j = sd_ev f (sd_N j)) && decide (v j = sd_ev g (sd_N j)))) n
  have hl : t + 1 ≤ (L.map sd_N).length := by
    rw [List.length_map, l2]
    have a := hf.2
    have b := hg.2
    omega
  have hr := sd_roots sd_inv (t + 1) (fun k => f k - g k) (L.map sd_N) (sd_map_nodup l1 (fun j hj => by have := ((l3 j).mp hj).2.1; omega)) hl (by
    intro x hx
    obtain ⟨j, hj, rfl⟩ := List.mem_map.mp hx
    have q := ((l3 j).mp hj).2.2
    simp only [Bool.and_eq_true, decide_eq_true_eq] at q
    rw [sd_pv_sub, ← sd_ev_cut ht hf.1, ← sd_ev_cut ht hg.1, ← q.2.1, ← q.2.2]
    grind)
  intro k hk
  rcases Nat.lt_or_ge t k with q | q
  · rw [hf.1 k q hk, hg.1 k q hk]
  · have z : f k - g k = 0 := hr k (by omega)
    grind
/-- the r-th share that is there, from 0 on -/
theorem sd_nth (th : Nat → Bool) (r : Nat) : ∀ n, r < sd_cnt th n → ∃ p, 1 ≤ p ∧ p ≤ n ∧ th p = true ∧ sd_cnt th (p - 1) = r := by
  intro n
  induction n with
  | zero => intro h0; rw [sd_cnt_0] at h0; omega
  | succ n ih =>
    intro h0
    rcases Nat.lt_or_ge r (sd_cnt th n) with y | y
    · obtain ⟨p, a, b, c, d⟩ := ih y
      exact ⟨p, a, by omega, c, d⟩
    · cases hc : th (n + 1) with
      | false => rw [sd_cnt_f hc] at h0; omega
      | true =>
        rw [sd_cnt_t hc] at h0
        exact ⟨n + 1, by omega, by omega, hc, by rw [Nat.add_sub_cancel]; omega⟩
theorem sd_cnt_first (th : Nat → Bool) (N : Nat) : ∀ n, sd_cnt (fun p => th p && decide (sd_cnt th (p - 1) < N)) n = min (sd_cnt th n) N := by
  intro n
  induction n with
  | zero => rw [sd_cnt_0, sd_cnt_0]; omega
  | succ n ih =>
    rw [sd_cnt_s, ih, sd_cnt_s th n, Nat.add_sub_cancel]
    cases hc : th (n + 1) with
    | false =>
      rw [if_neg (by simp), if_neg (by simp)]
      omega
    | true =>
      rw [if_pos rfl]
      by_cases q : sd_cnt th n < N
      · rw [if_pos (by simp [q])]
        omega
      · rw [if_neg (by simp [q])]
        omega
/-- what solves the equations of the first shares gives the curve that is FOUND, if there is one -/
theorem sd_seek {t n e N : Nat} {th : Nat → Bool} {v : Nat → FP} (ht : t ≤ 8) (hn : n ≤ 16) (hN : N = t + e + 1 + e) (hm : N ≤ sd_cnt th n) {M0 : Nat → Nat → FP}
    (hM : ∀ p, 1 ≤ p → p ≤ n → th p = true → sd_cnt th (p - 1) < N → ∀ k, k ≤ N → M0 (sd_cnt th (p - 1)) k = sd_row t e (sd_N p) (v p) k)
    {M : Nat → Nat → FP} {used : Nat → Bool} {ro : Nat → Option Nat} (hG : sd_GI N M0 M used ro N) {f : Nat → FP} (hf : sd_Fd t n e th v f) :
    ∀ m, m < t + e + 1 → sd_sol M N ro m = sd_cv f (sd_E (sd_sol M N ro) t e) (t + 1) m := by
  have hp : ∀ r, ∃ p, r < N → 1 ≤ p ∧ p ≤ n ∧ th p = true ∧ sd_cnt th (p - 1) = r := by
    intro r
    by_cases q : r < N
    · obtain ⟨p, h⟩ := sd_nth th r n (by omega)
      exact ⟨p, fun _ => h⟩
    · exact ⟨0, fun h => absurd h q⟩
  have hpt : ∃ pt : Nat → Nat, ∀ r, r < N → 1 ≤ pt r ∧ pt r ≤ n ∧ th (pt r) = true ∧ sd_cnt th (pt r - 1) = r := ⟨fun r => Classical.choose (hp r), fun r => Classical.choose_spec (hp r)⟩
  obtain ⟨pt, hpt⟩ := hpt
  have hrow : ∀ r, r < N → ∀ k, k ≤ N → M0 r k = sd_row t e (sd_N (pt r)) (v (pt r)) k := by
    intro r hr k hk
    obtain ⟨h1, h2, h3, h4⟩ := hpt r hr
    have := hM (pt r) h1 h2 h3 (by omega) k hk
    rw [h4] at this
    exact this
  have hsat : ∀ z, sd_Sat M0 N z ↔ ∀ i, i < N → sd_sum (fun k => sd_row t e (sd_N (pt i)) (v (pt i)) k * z k) N = sd_row t e (sd_N (pt i)) (v (pt i)) N := by
    intro z
    exact sd_Sat_congr (M := fun r k => sd_row t e (sd_N (pt r)) (v (pt r)) k) (fun r k hr hk => hrow r hr k hk) z
  obtain ⟨hf1, hf2⟩ := hf
  obtain ⟨L, -, l2, l3⟩ := sd_cnt_list (sd_ms th v f) n
  obtain ⟨z0, hz0⟩ := sd_bw_ex t e N hN f (fun r => sd_N (pt r)) (fun r => v (pt r)) (L.map sd_N) (by rw [List.length_map, l2]; exact hf2) (by
    intro i hi
    obtain ⟨h1, h2, h3, h4⟩ := hpt i hi
    by_cases q : v (pt i) = sd_ev f (sd_N (pt i))
    · exact Or.inl (by rw [← sd_ev_cut ht hf1]; exact q)
    · exact Or.inr (List.mem_map.mpr ⟨pt i, (l3 (pt i)).mpr ⟨h1, h2, by simp only [sd_ms, h3, Bool.true_and, decide_eq_true_eq]; exact q⟩, rfl⟩))
  have hs := (hsat _).mp (sd_GI_end hG ((hsat z0).mpr hz0))
  have hcount := sd_cnt_sum (a := fun p => th p && decide (sd_cnt th (p - 1) < N)) (b := sd_ms th v f) (c := fun p => (th p && decide (sd_cnt th (p - 1) < N)) && decide (v p = sd_ev f (sd_N p))) (d := fun _ => false) n (by
    intro j _ _ h
    by_cases q : v j = sd_ev f (sd_N j)
    · exact Or.inr (Or.inl (by rw [h]; simp only [Bool.true_and, decide_eq_true_eq]; exact q))
    · simp only [Bool.and_eq_true] at h
      exact Or.inl (by simp only [sd_ms, h.1, Bool.true_and, decide_eq_true_eq]; exact q))
  have hzero : sd_cnt (fun _ => false) n = 0 := by
    have : ∀ n, sd_cnt (fun _ => false) n = 0 := by
      intro n
      induction n with
      | zero => rfl
      | succ n ih => rw [sd_cnt_f rfl, ih]
    exact this n
  rw [sd_cnt_first, hzero] at hcount
  obtain ⟨G, g1, g2, g3⟩ := sd_cnt_list (fun p => (th p && decide (sd_cnt th (p - 1) < N)) && decide (v p = sd_ev f (sd_N p))) n
  refine sd_bw_un sd_inv t e N hN f (fun r => sd_N (pt r)) (fun r => v (pt r)) _ (G.map sd_N) (sd_map_nodup g1 (fun j hj => by have := ((g3 j).mp hj).2.1; omega)) (by rw [List.length_map, g2]; omega) ?_ hs
  intro x hx
  obtain ⟨j, hj, rfl⟩ := List.mem_map.mp hx
  obtain ⟨j1, j2, j3⟩ := (g3 j).mp hj
  simp only [Bool.and_eq_true, decide_eq_true_eq] at j3
  obtain ⟨h1, h2, h3, h4⟩ := hpt (sd_cnt th (j - 1)) j3.1.2
  have hinj : pt (sd_cnt th (j - 1)) = j := by
    generalize pt (sd_cnt th (j - 1)) = q at h1 h2 h3 h4
    rcases Nat.lt_trichotomy q j with z | z | z
    · have a := sd_cnt_mono th (show q ≤ j - 1 by omega)
      have b : sd_cnt th q = sd_cnt th (q - 1) + 1 := by
        have c := sd_cnt_t (b := th) (n := q - 1) (by rw [Nat.sub_add_cancel h1]; exact h3)
        rw [Nat.sub_add_cancel h1] at c
        exact c
      omega
    · exact z
    · have a := sd_cnt_mono th (show j ≤ q - 1 by omega)
      have b : sd_cnt th j = sd_cnt th (j - 1) + 1 := by
        have c := sd_cnt_t (b := th) (n := j - 1) (by rw [Nat.sub_add_cancel j1]; exact j3.1.1)
        rw [Nat.sub_add_cancel j1] at c
        exact c
      omega
  exact ⟨sd_cnt th (j - 1), j3.1.2, by rw [hinj], by rw [hinj, ← sd_ev_cut ht hf1]; exact j3.2⟩
end
section
/-! rows of our own over the kit's: ints as nI of a number, stores that name the new world, calls that keep the world's order -/
theorem sd_free {A0 : Nat → Prop} {ws : va_W} {H0 H : Heap} {locs : List Loc} (hD : va_D A0 ws) (hS : va_S A0 H0 H locs) (hA : ∀ q, H0.size ≤ q → A0 q) : ∀ q, va_A ws H.size q → A0 q := by
  intro q h
  rcases h with ⟨k, e, h⟩ | h
  · exact hD.2 k (q, e) h
  · exact hA q (Nat.le_trans hS.1 h)
/-- the world behind a method that writes -/
def sd_B {S : Type} (D : va_G) (cl : List vw_C) (tys : List (ClassId × FieldType)) (A : Nat → Prop) (w : S → va_W) : S → State → Prop := fun u t => va_P D cl (w u) t.heap ∧ va_K D cl tys t ∧ va_D A (w u)
/-- the world ahead of a method that reads, and of one that writes -/
def sd_R (D : va_G) (cl : List vw_C) (tys : List (ClassId × FieldType)) (ws : va_W) (av : List Value) : Array Value → State → Prop := va_Pc av (fun U => va_P D cl ws U.heap ∧ va_K D cl tys U)
def sd_Wr (D : va_G) (cl : List vw_C) (tys : List (ClassId × FieldType)) (ws : va_W) (sz : Nat) (av : List Value) : Array Value → State → Prop := va_Pc av (fun U => U.heap.size = sz ∧ va_P D cl ws U.heap ∧ va_K D cl tys U ∧ va_D (fun _ => True) ws)
def sd_N0 (av : List Value) : Array Value → State → Prop := va_Pc av (fun _ => True)
section
variable {p : Program} {l : Launch} {e : Env} {R : Room} {s : State} {m : MethodId} {args : Array Value} {below : List Frame} {meth : Method} {c : Code} {H : Heap} {locs : List Loc} {cells slots : Nat} {Q : State → Prop}
variable {cc : ByteArray} {pc : Nat} {ls : Array Slot} {rest st0 : List Value} {D : va_G} {cl : List vw_C} {A A0 : Nat → Prop} {a : Nat} {tys : List (ClassId × FieldType)} {ws : va_W} {H0 : Heap} {av : List Value} {mc ms : Nat} {aa : Array Value}
theorem sd_preN : PreS s H (sd_N0 av) av := ⟨fun _ _ _ _ q => ⟨q.1, trivial⟩, fun _ _ _ => ⟨rfl, trivial⟩⟩
theorem sd_preR (hP : va_P D cl ws H) (hK : va_K D cl tys s) : PreS s H (sd_R D cl tys ws av) av :=
  ⟨fun a U g mk q => by obtain ⟨q0, qP, qK⟩ := q; exact ⟨q0, qP, va_K.moved (u := U) (U := U.calling g mk a) (Vm.Alike.refl U.vm) qK⟩, fun U hU hW => ⟨rfl, by rw [hU]; exact hP, va_K.moved hW.alike hK⟩⟩
theorem sd_preW (hP : va_P D cl ws H) (hK : va_K D cl tys s) (hD : va_D A ws) : PreS s H (sd_Wr D cl tys ws H.size av) av :=
  ⟨fun a U g mk q => by obtain ⟨q0, q1, qP, qK, qD⟩ := q; exact ⟨q0, q1, qP, va_K.moved (u := U) (U := U.calling g mk a) (Vm.Alike.refl U.vm) qK, qD⟩, fun U hU hW => ⟨rfl, by rw [hU], by rw [hU]; exact hP, va_K.moved hW.alike hK, hD.weaken (fun _ _ _ _ => trivial)⟩⟩
theorem sd_preVR {C : String} {b q0 ci : Nat} {q : vw_C} {fs : List Value} (hP : va_P D cl ws H) (hK : va_K D cl tys s) (hc : cl[ci]? = some q) (hq : q.1 = C) (he : ws[q0]? = some (b, .inr (ci, fs))) : PreV s H C b (sd_R D cl tys ws (.ref b :: av)) av := by
  subst hq
  exact ⟨(sd_preR hP hK).1, va_recv hK hP hc he, (sd_preR hP hK).2⟩
theorem sd_preVW {C : String} {b q0 ci : Nat} {q : vw_C} {fs : List Value} (hP : va_P D cl ws H) (hK : va_K D cl tys s) (hD : va_D A ws) (hc : cl[ci]? = some q) (hq : q.1 = C) (he : ws[q0]? = some (b, .inr (ci, fs))) : PreV s H C b (sd_Wr D cl tys ws H.size (.ref b :: av)) av := by
  subst hq
  exact ⟨(sd_preW (av := .ref b :: av) hP hK hD).1, va_recv hK hP hc he, (sd_preW (av := .ref b :: av) hP hK hD).2⟩
theorem sd_wv {S : Type} {post : S → Prop} {w : S → va_W} (hr : va_Run p l e R s m args below meth c H locs cells slots mc ms (F0 m pc ls st0) rest (va_Qv post (sd_B D cl tys (va_A ws H.size) w) (va_A ws H.size) aa) (va_A ws H.size)) (hD : va_D A0 ws) (hS : va_S A0 H0 H locs) (hA : ∀ q, H0.size ≤ q → A0 q)
    (kk : ∀ (u : S) (H1 : Heap) (locs1 : List Loc), post u → va_P D cl (w u) H1 → va_D A0 (w u) → va_S A0 H0 H1 locs1 → W p l e R s m args below meth c H1 locs1 (cells + mc) (slots + ms) Q (F0 m (pc + 3) ls rest)) : W p l e R s m args below meth c H locs cells slots Q (F0 m pc ls st0) := by
  have hF := sd_free hD hS hA
  refine va_callv hr hS (fun q _ h => hF q h) hF (fun u t H1 locs1 ht hvm hu hB hz hk hS1 => ?_)
  obtain ⟨hP1, hK1, hD1⟩ := hB
  rw [ht] at hP1
  exact kk u H1 locs1 hu hP1 (hD1.weaken (fun k q _ h => hF q.1 h)) hS1
theorem sd_wi {S : Type} {post : Int32 → S → Prop} {w : S → va_W} (hr : va_Run p l e R s m args below meth c H locs cells slots mc ms (F0 m pc ls st0) rest (va_Qi post (sd_B D cl tys (va_A ws H.size) w) (va_A ws H.size) aa) (va_A ws H.size)) (hD : va_D A0 ws) (hS : va_S A0 H0 H locs) (hA : ∀ q, H0.size ≤ q → A0 q)
    (kk : ∀ (r : Int32) (u : S) (H1 : Heap) (locs1 : List Loc), post r u → va_P D cl (w u) H1 → va_D A0 (w u) → va_S A0 H0 H1 locs1 → W p l e R s m args below meth c H1 locs1 (cells + mc) (slots + ms) Q (F0 m (pc + 3) ls (.int r :: rest))) : W p l e R s m args below meth c H locs cells slots Q (F0 m pc ls st0) := by
  have hF := sd_free hD hS hA
  refine va_calli hr hS (fun q _ h => hF q h) hF (fun r u t H1 locs1 ht hvm hu hB hz hk hS1 => ?_)
  obtain ⟨hP1, hK1, hD1⟩ := hB
  rw [ht] at hP1
  exact kk r u H1 locs1 hu hP1 (hD1.weaken (fun k q _ h => hF q.1 h)) hS1
theorem sd_wl {S : Type} {post : Int64 → S → Prop} {w : S → va_W} (hr : va_Run p l e R s m args below meth c H locs cells slots mc ms (F0 m pc ls st0) rest (va_Ql post (sd_B D cl tys (va_A ws H.size) w) (va_A ws H.size) aa) (va_A ws H.size)) (hD : va_D A0 ws) (hS : va_S A0 H0 H locs) (hA : ∀ q, H0.size ≤ q → A0 q)
    (kk : ∀ (r : Int64) (u : S) (H1 : Heap) (locs1 : List Loc), post r u → va_P D cl (w u) H1 → va_D A0 (w u) → va_S A0 H0 H1 locs1 → W p l e R s m args below meth c H1 locs1 (cells + mc) (slots + ms) Q (F0 m (pc + 3) ls (.long r :: rest))) : W p l e R s m args below meth c H locs cells slots Q (F0 m pc ls st0) := by
  have hF := sd_free hD hS hA
  refine va_calll hr hS (fun q _ h => hF q h) hF (fun r u t H1 locs1 ht hvm hu hB hz hk hS1 => ?_)
  obtain ⟨hP1, hK1, hD1⟩ := hB
  rw [ht] at hP1
  exact kk r u H1 locs1 hu hP1 (hD1.weaken (fun k q _ h => hF q.1 h)) hS1
theorem sd_iadd (hexec : p.tables.exec = Jvm.exec) (hb : c.code = cc) {a b : Nat} (hdg : decode cc pc = .ok (.iadd, 1)) (k : W p l e R s m args below meth c H locs cells slots Q (F0 m (pc + 1) ls (.int (nI (a + b)) :: rest))) : W p l e R s m args below meth c H locs cells slots Q (F0 m pc ls (.int (nI b) :: .int (nI a) :: rest)) := lv_iadd hexec hb hdg (by rw [nI_add]; exact k)
theorem sd_imul (hexec : p.tables.exec = Jvm.exec) (hb : c.code = cc) {a b : Nat} (hdg : decode cc pc = .ok (.imul, 1)) (k : W p l e R s m args below meth c H locs cells slots Q (F0 m (pc + 1) ls (.int (nI (a * b)) :: rest))) : W p l e R s m args below meth c H locs cells slots Q (F0 m pc ls (.int (nI b) :: .int (nI a) :: rest)) := lv_imul hexec hb hdg (by rw [pk_mul]; exact k)
theorem sd_isub (hexec : p.tables.exec = Jvm.exec) (hb : c.code = cc) {a b : Nat} (h : b ≤ a) (hdg : decode cc pc = .ok (.isub, 1)) (k : W p l e R s m args below meth c H locs cells slots Q (F0 m (pc + 1) ls (.int (nI (a - b)) :: rest))) : W p l e R s m args below meth c H locs cells slots Q (F0 m pc ls (.int (nI b) :: .int (nI a) :: rest)) := lv_isub hexec hb hdg (by rw [pk_sub h]; exact k)
theorem sd_icmp_lt (hexec : p.tables.exec = Jvm.exec) (hb : c.code = cc) {a b : Nat} {off : Int} {tgt : Nat} (h1 : a < 2 ^ 31) (h2 : b < 2 ^ 31) (hdg : decode cc pc = .ok (.if_icmp .lt off, 3)) (ht : (pc : Int) + off = (tgt : Int)) (kt : a < b → W p l e R s m args below meth c H locs cells slots Q (F0 m tgt ls rest)) (kf : b ≤ a → W p l e R s m args below meth c H locs cells slots Q (F0 m (pc + 3) ls rest)) : W p l e R s m args below meth c H locs cells slots Q (F0 m pc ls (.int (nI b) :: .int (nI a) :: rest)) := lv_icmp_lt hexec hb hdg ht (fun q => kt ((nI_ltI h1 h2).mp q)) (fun q => kf (Nat.not_lt.mp (fun z => q ((nI_ltI h1 h2).mpr z))))
theorem sd_icmp_ge (hexec : p.tables.exec = Jvm.exec) (hb : c.code = cc) {a b : Nat} {off : Int} {tgt : Nat} (h1 : a < 2 ^ 31) (h2 : b < 2 ^ 31) (hdg : decode cc pc = .ok (.if_icmp .ge off, 3)) (ht : (pc : Int) + off = (tgt : Int)) (kt : b ≤ a → W p l e R s m args below meth c H locs cells slots Q (F0 m tgt ls rest)) (kf : a < b → W p l e R s m args below meth c H locs cells slots Q (F0 m (pc + 3) ls rest)) : W p l e R s m args below meth c H locs cells slots Q (F0 m pc ls (.int (nI b) :: .int (nI a) :: rest)) := lv_icmp_ge hexec hb hdg ht (fun q => kt ((nI_leI h2 h1).mp q)) (fun q => kf (Nat.not_le.mp (fun z => q ((nI_leI h2 h1).mpr z))))
theorem sd_icmp_gt (hexec : p.tables.exec = Jvm.exec) (hb : c.code = cc) {a b : Nat} {off : Int} {tgt : Nat} (h1 : a < 2 ^ 31) (h2 : b < 2 ^ 31) (hdg : decode cc pc = .ok (.if_icmp .gt off, 3)) (ht : (pc : Int) + off = (tgt : Int)) (kt : b < a → W p l e R s m args below meth c H locs cells slots Q (F0 m tgt ls rest)) (kf : a ≤ b → W p l e R s m args below meth c H locs cells slots Q (F0 m (pc + 3) ls rest)) : W p l e R s m args below meth c H locs cells slots Q (F0 m pc ls (.int (nI b) :: .int (nI a) :: rest)) := lv_icmp_gt hexec hb hdg ht (fun q => kt ((nI_ltI h2 h1).mp q)) (fun q => kf (Nat.not_lt.mp (fun z => q ((nI_ltI h2 h1).mpr z))))
theorem sd_icmp_le (hexec : p.tables.exec = Jvm.exec) (hb : c.code = cc) {a b : Nat} {off : Int} {tgt : Nat} (h1 : a < 2 ^ 31) (h2 : b < 2 ^ 31) (hdg : decode cc pc = .ok (.if_icmp .le off, 3)) (ht : (pc : Int) + off = (tgt : Int)) (kt : a ≤ b → W p l e R s m args below meth c H locs cells slots Q (F0 m tgt ls rest)) (kf : b < a → W p l e R s m args below meth c H locs cells slots Q (F0 m (pc + 3) ls rest)) : W p l e R s m args below meth c H locs cells slots Q (F0 m pc ls (.int (nI b) :: .int (nI a) :: rest)) := lv_icmp_le hexec hb hdg ht (fun q => kt ((nI_leI h1 h2).mp q)) (fun q => kf (Nat.not_le.mp (fun z => q ((nI_leI h1 h2).mpr z))))
theorem sd_icmp_eq (hexec : p.tables.exec = Jvm.exec) (hb : c.code = cc) {a b : Nat} {off : Int} {tgt : Nat} (h1 : a < 2 ^ 31) (h2 : b < 2 ^ 31) (hdg : decode cc pc = .ok (.if_icmp .eq off, 3)) (ht : (pc : Int) + off = (tgt : Int)) (kt : a = b → W p l e R s m args below meth c H locs cells slots Q (F0 m tgt ls rest)) (kf : a ≠ b → W p l e R s m args below meth c H locs cells slots Q (F0 m (pc + 3) ls rest)) : W p l e R s m args below meth c H locs cells slots Q (F0 m pc ls (.int (nI b) :: .int (nI a) :: rest)) := lv_icmp_eq hexec hb hdg ht (fun q => kt ((nI_eq h1 h2).mp q)) (fun q => kf (fun z => q ((nI_eq h1 h2).mpr z)))
theorem sd_icmp_ne (hexec : p.tables.exec = Jvm.exec) (hb : c.code = cc) {a b : Nat} {off : Int} {tgt : Nat} (h1 : a < 2 ^ 31) (h2 : b < 2 ^ 31) (hdg : decode cc pc = .ok (.if_icmp .ne off, 3)) (ht : (pc : Int) + off = (tgt : Int)) (kt : a ≠ b → W p l e R s m args below meth c H locs cells slots Q (F0 m tgt ls rest)) (kf : a = b → W p l e R s m args below meth c H locs cells slots Q (F0 m (pc + 3) ls rest)) : W p l e R s m args below meth c H locs cells slots Q (F0 m pc ls (.int (nI b) :: .int (nI a) :: rest)) := lv_icmp_ne hexec hb hdg ht (fun q => kt (fun z => q ((nI_eq h1 h2).mpr z))) (fun q => kf ((nI_eq h1 h2).mp q))
theorem sd_iald (hexec : p.tables.exec = Jvm.exec) (hb : c.code = cc) (hK : va_K D cl tys s) (hP : va_P D cl ws H) (q0 t0 : Nat) {cA : ClassId} {n : Nat} {f : Nat → Int32} (ha : ws[q0]? = some (a, .inl (cA, n, .inl f))) (ht : tys[t0]? = some (cA, .int)) {k : Nat} (hk : k < n) (hn : n < 2 ^ 31) (hdg : decode cc pc = .ok (.iaload, 1)) (kk : W p l e R s m args below meth c H locs cells slots Q (F0 m (pc + 1) ls (.int (f k) :: rest))) : W p l e R s m args below meth c H locs cells slots Q (F0 m pc ls (.int (nI k) :: .ref a :: rest)) := va_iald hexec hb hK hP q0 t0 ha ht (vp_in_nI hk hn) hdg (by rw [nI_clamp (by omega)]; exact kk)
theorem sd_iast (hexec : p.tables.exec = Jvm.exec) (hb : c.code = cc) (hK : va_K D cl tys s) (hP : va_P D cl ws H) (hD : va_D A ws) (hS : va_S A H0 H locs) (q0 t0 : Nat) {cA : ClassId} {n : Nat} {f : Nat → Int32} (ha : ws[q0]? = some (a, .inl (cA, n, .inl f))) (ht : tys[t0]? = some (cA, .int)) {k : Nat} {x : Int32} (hk : k < n) (hn : n < 2 ^ 31) {ws2 : va_W} (hw : ws.set q0 (a, .inl (cA, n, .inl (upd f k x))) = ws2) (hdg : decode cc pc = .ok (.iastore, 1))
    (kk : ∀ (H1 : Heap) (locs1 : List Loc), va_P D cl ws2 H1 → va_D A ws2 → va_S A H0 H1 locs1 → W p l e R s m args below meth c H1 locs1 cells slots Q (F0 m (pc + 1) ls rest)) : W p l e R s m args below meth c H locs cells slots Q (F0 m pc ls (.int x :: .int (nI k) :: .ref a :: rest)) := by
  refine va_iast hexec hb hK hP hD hS q0 t0 ha ht (vp_in_nI hk hn) hdg (fun H1 locs1 h1 h2 h3 => ?_)
  rw [nI_clamp (by omega), hw] at h1 h2
  exact kk H1 locs1 h1 h2 h3
theorem sd_zald (hexec : p.tables.exec = Jvm.exec) (hb : c.code = cc) (hK : va_K D cl tys s) (hP : va_P D cl ws H) (q0 t0 : Nat) {cA : ClassId} {n : Nat} {f : Nat → Int32} (ha : ws[q0]? = some (a, .inl (cA, n, .inl f))) (ht : tys[t0]? = some (cA, .boolean)) {k : Nat} (hk : k < n) (hn : n < 2 ^ 31) (hdg : decode cc pc = .ok (.baload, 1)) (kk : W p l e R s m args below meth c H locs cells slots Q (F0 m (pc + 1) ls (.int (f k) :: rest))) : W p l e R s m args below meth c H locs cells slots Q (F0 m pc ls (.int (nI k) :: .ref a :: rest)) := va_zald hexec hb hK hP q0 t0 ha ht (vp_in_nI hk hn) hdg (by rw [nI_clamp (by omega)]; exact kk)
theorem sd_zast (hexec : p.tables.exec = Jvm.exec) (hb : c.code = cc) (hK : va_K D cl tys s) (hP : va_P D cl ws H) (hD : va_D A ws) (hS : va_S A H0 H locs) (q0 t0 : Nat) {cA : ClassId} {n : Nat} {f : Nat → Int32} (ha : ws[q0]? = some (a, .inl (cA, n, .inl f))) (ht : tys[t0]? = some (cA, .boolean)) {k : Nat} {x : Int32} (hk : k < n) (hn : n < 2 ^ 31) {ws2 : va_W} (hw : ws.set q0 (a, .inl (cA, n, .inl (upd f k (vp_nar .boolean x)))) = ws2) (hdg : decode cc pc = .ok (.bastore, 1))
    (kk : ∀ (H1 : Heap) (locs1 : List Loc), va_P D cl ws2 H1 → va_D A ws2 → va_S A H0 H1 locs1 → W p l e R s m args below meth c H1 locs1 cells slots Q (F0 m (pc + 1) ls rest)) : W p l e R s m args below meth c H locs cells slots Q (F0 m pc ls (.int x :: .int (nI k) :: .ref a :: rest)) := by
  refine va_zast hexec hb hK hP hD hS q0 t0 ha ht (vp_in_nI hk hn) hdg (fun H1 locs1 h1 h2 h3 => ?_)
  rw [nI_clamp (by omega), hw] at h1 h2
  exact kk H1 locs1 h1 h2 h3
theorem sd_lald (hexec : p.tables.exec = Jvm.exec) (hb : c.code = cc) (hK : va_K D cl tys s) (hP : va_P D cl ws H) (q0 t0 : Nat) {cA : ClassId} {n : Nat} {f : Nat → Int64} (ha : ws[q0]? = some (a, .inl (cA, n, .inr (.inl f)))) (ht : tys[t0]? = some (cA, .long)) {k : Nat} (hk : k < n) (hn : n < 2 ^ 31) (hdg : decode cc pc = .ok (.laload, 1)) (kk : W p l e R s m args below meth c H locs cells slots Q (F0 m (pc + 1) ls (.long (f k) :: rest))) : W p l e R s m args below meth c H locs cells slots Q (F0 m pc ls (.int (nI k) :: .ref a :: rest)) := va_lald hexec hb hK hP q0 t0 ha ht (vp_in_nI hk hn) hdg (by rw [nI_clamp (by omega)]; exact kk)
theorem sd_last (hexec : p.tables.exec = Jvm.exec) (hb : c.code = cc) (hK : va_K D cl tys s) (hP : va_P D cl ws H) (hD : va_D A ws) (hS : va_S A H0 H locs) (q0 t0 : Nat) {cA : ClassId} {n : Nat} {f : Nat → Int64} (ha : ws[q0]? = some (a, .inl (cA, n, .inr (.inl f)))) (ht : tys[t0]? = some (cA, .long)) {k : Nat} {x : Int64} (hk : k < n) (hn : n < 2 ^ 31) {ws2 : va_W} (hw : ws.set q0 (a, .inl (cA, n, .inr (.inl (vp_updL f k x)))) = ws2) (hdg : decode cc pc = .ok (.lastore, 1))
    (kk : ∀ (H1 : Heap) (locs1 : List Loc), va_P D cl ws2 H1 → va_D A ws2 → va_S A H0 H1 locs1 → W p l e R s m args below meth c H1 locs1 cells slots Q (F0 m (pc + 1) ls rest)) : W p l e R s m args below meth c H locs cells slots Q (F0 m pc ls (.long x :: .int (nI k) :: .ref a :: rest)) := by
  refine va_last hexec hb hK hP hD hS q0 t0 ha ht (vp_in_nI hk hn) hdg (fun H1 locs1 h1 h2 h3 => ?_)
  rw [nI_clamp (by omega), hw] at h1 h2
  exact kk H1 locs1 h1 h2 h3
end
end

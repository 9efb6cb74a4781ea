/-! the steps of Newton's rows and of the nested form; counting by ranks; subsets as bits -/
theorem sd_N_sub {a b : Nat} (h : a ≤ b) : sd_N b - sd_N a = sd_N (b - a) := by
  have e := sd_N_add a (b - a)
  rw [show a + (b - a) = b by omega] at e
  rw [← e]
  grind
theorem sd_D_step {y : Nat → FP} {iv : Nat → Nat → FP} {r : Nat → FP} {t j k : Nat} (hj : 1 ≤ j) (hk : j ≤ k + 1) (hkt : k + 1 ≤ t) (hI : ∀ i, i ≤ t → r i = if k + 1 < i then sd_D y iv (min i j) i else sd_D y iv (min i (j - 1)) i) :
    ∀ i, i ≤ t → sd_up r (k + 1) ((r (k + 1) - r k) * iv (k + 1) (k + 1 - j)) i = if k < i then sd_D y iv (min i j) i else sd_D y iv (min i (j - 1)) i := by
  intro i hi
  by_cases e : i = k + 1
  · rw [e, sd_up_s, if_pos (Nat.lt_succ_self k), hI (k + 1) hkt, if_neg (Nat.lt_irrefl _), hI k (by omega), if_neg (by omega), Nat.min_eq_right hk, Nat.min_eq_right (show j - 1 ≤ k + 1 by omega), Nat.min_eq_right (show j - 1 ≤ k by omega)]
    obtain ⟨j, rfl⟩ : ∃ z, j = z + 1 := ⟨j - 1, by omega⟩
    rw [Nat.add_sub_cancel, sd_D_s, Nat.add_sub_cancel]
  · rw [sd_up_n _ _ e, hI i hi]
    by_cases e2 : k < i
    · rw [if_pos e2, if_pos (by omega)]
    · rw [if_neg e2, if_neg (by omega)]
theorem sd_horner {c c2 : Nat → FP} {x d : FP} {n : Nat} (hn : n ≤ 8) (h0 : ∀ k, n ≤ k → k < 9 → c k = 0) (hz : c2 0 = (0 - c 0 * x) + d) (hs : ∀ k, 1 ≤ k → k < 9 → c2 k = c (k - 1) - c k * x) :
    (∀ z, sd_pv c2 z 0 9 = sd_pv c z 0 9 * (z - x) + d) ∧ ∀ k, n + 1 ≤ k → k < 9 → c2 k = 0 := by
  refine ⟨fun z => ?_, fun k h1 h2 => ?_⟩
  · have e := sd_lin_9 x z (h0 8 hn (by decide))
    have e2 : sd_pv c2 z 0 9 = sd_pv (fun k => sd_lin x c k + (if k = 0 then d else 0)) z 0 9 := by
      refine sd_pv_congr z 9 0 (fun k _ hk => ?_)
      match k, hk with
      | 0, _ =>
        rw [hz, if_pos rfl]
        show _ = (0 - x * c 0) + d
        grind
      | k + 1, hk =>
        rw [hs (k + 1) (by omega) (by omega), if_neg (by omega), Nat.add_sub_cancel]
        show _ = (c k - x * c (k + 1)) + 0
        grind
    have e3 : sd_pv (fun k => if k = 0 then d else (0 : FP)) z 0 9 = d := by
      rw [sd_pv_s, sd_pv_zero z 8 1 (fun k h3 _ => if_neg (by omega)), if_pos rfl]
      grind
    rw [e2, sd_pv_add, e, e3]
    grind
  · rw [hs k (by omega) h2, h0 (k - 1) (by omega) (by omega), h0 k (by omega) h2]
    grind
/-- what is counted by the ranks of those that are there -/
theorem sd_rank {th bad : Nat → Bool} {mp : Nat → Nat} {n : Nat} (hpl : ∀ p, 1 ≤ p → p ≤ n → th p = true → mp (sd_cnt th (p - 1)) = p) : ∀ m, m ≤ n → sd_cnt (fun j => bad (mp (j - 1))) (sd_cnt th m) = sd_cnt (fun p => th p && bad p) m := by
  intro m
  induction m with
  | zero => intro _; rfl
  | succ m ih =>
    intro hm
    cases hc : th (m + 1) with
    | false =>
      rw [sd_cnt_f hc, ih (by omega)]
      exact (sd_cnt_f (b := fun p => th p && bad p) (by show (th (m + 1) && bad (m + 1)) = false; rw [hc]; rfl)).symm
    | true =>
      have e := hpl (m + 1) (by omega) hm hc
      rw [Nat.add_sub_cancel] at e
      rw [sd_cnt_t hc, sd_cnt_s, sd_cnt_s, ih (by omega)]
      show _ + (if bad (mp (sd_cnt th m + 1 - 1)) = true then 1 else 0) = _ + (if (th (m + 1) && bad (m + 1)) = true then 1 else 0)
      rw [Nat.add_sub_cancel, e, hc, Bool.true_and]
theorem sd_rank_b {th : Nat → Bool} {mp : Nat → Nat} {n : Nat} (hpl : ∀ p, 1 ≤ p → p ≤ n → th p = true → mp (sd_cnt th (p - 1)) = p) {r : Nat} (h : r < sd_cnt th n) : 1 ≤ mp r ∧ mp r ≤ n ∧ th (mp r) = true ∧ sd_cnt th (mp r - 1) = r := by
  obtain ⟨p, h1, h2, h3, h4⟩ := sd_nth th r n h
  have e := hpl p h1 h2 h3
  rw [h4] at e
  rw [e]
  exact ⟨h1, h2, h3, h4⟩
theorem sd_cnt_not (b : Nat → Bool) : ∀ n, sd_cnt b n + sd_cnt (fun j => !b j) n = n := by
  intro n
  induction n with
  | zero => rfl
  | succ n ih =>
    rw [sd_cnt_s, sd_cnt_s]
    cases hb : b (n + 1) with
    | false => rw [if_neg (by decide), if_pos (by simp)]; omega
    | true => rw [if_pos rfl, if_neg (by simp)]; omega
def sd_bt (b j : Nat) : Bool := decide (b / 2 ^ (j - 1) % 2 = 1)
def sd_bits (sel : Nat → Bool) : Nat → Nat
  | 0 => 0
  | k + 1 => sd_bits sel k + (if sel (k + 1) = true then 2 ^ k else 0)
theorem sd_bits_lt (sel : Nat → Bool) : ∀ k, sd_bits sel k < 2 ^ k := by
  intro k
  induction k with
  | zero => show 0 < 1; decide
  | succ k ih =>
    rw [sd_bits, Nat.pow_succ]
    split <;> omega
theorem sd_bits_bt (sel : Nat → Bool) : ∀ K j, 1 ≤ j → j ≤ K → sd_bt (sd_bits sel K) j = sel j := by
  intro K
  induction K with
  | zero => intro j h1 h2; omega
  | succ K ih =>
    intro j h1 h2
    have hlt := sd_bits_lt sel K
    by_cases e : j = K + 1
    · rw [e, sd_bits]
      unfold sd_bt
      rw [Nat.add_sub_cancel]
      cases hs : sel (K + 1) with
      | false =>
        rw [if_neg (by decide), Nat.add_zero, Nat.div_eq_of_lt hlt]
        rfl
      | true =>
        rw [if_pos rfl, Nat.add_div_right _ (Nat.two_pow_pos K), Nat.div_eq_of_lt hlt]
        rfl
    · rw [← ih j h1 (by omega)]
      unfold sd_bt
      rw [sd_bits]
      split
      · have ep : 2 ^ K = 2 ^ (j - 1) * (2 * 2 ^ (K - j)) := by
          rw [← Nat.pow_succ', ← Nat.pow_add]
          congr 1
          omega
        rw [ep, Nat.add_mul_div_left _ _ (Nat.two_pow_pos (j - 1)), Nat.add_mul_mod_self_left]
      · rw [Nat.add_zero]
/-- a curve that is FOUND goes through some subset of t + 1 of the first shares -/
theorem sd_subset {t n e K : Nat} {th : Nat → Bool} {v f : Nat → FP} {mp : Nat → Nat} (hK : K = t + 1 + e) (hpl : ∀ p, 1 ≤ p → p ≤ n → th p = true → mp (sd_cnt th (p - 1)) = p) (hm : K ≤ sd_cnt th n) (hf : sd_Fd t n e th v f) :
    ∃ b, b < 2 ^ K ∧ sd_cnt (sd_bt b) K = t + 1 ∧ ∀ j, 1 ≤ j → j ≤ K → sd_bt b j = true → v (mp (j - 1)) = sd_ev f (sd_N (mp (j - 1))) := by
  obtain ⟨bad, hbad⟩ : ∃ bad : Nat → Bool, bad = fun p => decide (¬ v p = sd_ev f (sd_N p)) := ⟨_, rfl⟩
  have e1 := sd_rank (bad := bad) hpl n (Nat.le_refl n)
  have e2 : sd_cnt (fun p => th p && bad p) n ≤ e := by
    rw [hbad]
    exact hf.2
  have e3 := sd_cnt_mono (fun j => bad (mp (j - 1))) hm
  have e4 := sd_cnt_not (fun j => bad (mp (j - 1))) K
  obtain ⟨gd, hgd⟩ : ∃ gd : Nat → Bool, gd = fun j => !bad (mp (j - 1)) := ⟨_, rfl⟩
  have e5 : sd_cnt (fun j => !(fun j => bad (mp (j - 1))) j) K = sd_cnt gd K := by rw [hgd]
  rw [e5] at e4
  have e6 := sd_cnt_first gd (t + 1) K
  rw [Nat.min_eq_right (by omega)] at e6
  refine ⟨sd_bits (fun p => gd p && decide (sd_cnt gd (p - 1) < t + 1)) K, sd_bits_lt _ K, ?_, ?_⟩
  · refine Eq.trans ?_ e6
    exact sd_cnt_congr K (fun j h1 h2 => sd_bits_bt _ K j h1 h2)
  · intro j h1 h2 h3
    rw [sd_bits_bt _ K j h1 h2] at h3
    have h4 : gd j = true := by
      cases hg : gd j with
      | true => rfl
      | false =>
        have h3 : (gd j && decide (sd_cnt gd (j - 1) < t + 1)) = true := h3
        rw [hg] at h3
        cases h3
    rw [hgd, hbad] at h4
    by_cases q : v (mp (j - 1)) = sd_ev f (sd_N (mp (j - 1)))
    · exact q
    · have h4 : (!decide (¬ v (mp (j - 1)) = sd_ev f (sd_N (mp (j - 1))))) = true := h4
      rw [decide_eq_true q] at h4
      cases h4
theorem sd_sm32 : ∀ k, k < 32 → (((nI k) &&& 31).toBitVec.smod 32).toNat = k := by decide +kernel
theorem sd_ishl1 {k : Nat} (h : k < 31) : nI 1 <<< (nI k &&& 31) = nI (2 ^ k) := by
  have h2 : 2 ^ k < 2 ^ 32 := Nat.pow_lt_pow_right (by decide) (by omega)
  rw [pk_shlN _ k (sd_sm32 k (by omega)) (by omega), Nat.one_mul]
theorem sd_ishr1 {n k : Nat} (hn : n < 2 ^ 31) (h : k < 32) : nI n >>> (nI k &&& 31) = nI (n / 2 ^ k) := pk_shrN hn _ k (sd_sm32 k h)
theorem sd_iand1 {n : Nat} (hn : n < 2 ^ 31) : nI n &&& nI 1 = nI (n % 2) := pk_andN (by omega) 1 (by decide)
/-- what the chosen places are, once the bits are read -/
theorem sd_chosen {t n K : Nat} {th : Nat → Bool} {mp ch : Nat → Nat} {b : Nat} (hpl : ∀ p, 1 ≤ p → p ≤ n → th p = true → mp (sd_cnt th (p - 1)) = p) (hm : K ≤ sd_cnt th n)
    (h : ∀ i, i ≤ t → ∃ j, 1 ≤ j ∧ j ≤ K ∧ sd_bt b j = true ∧ sd_cnt (sd_bt b) (j - 1) = i ∧ ch i = mp (j - 1)) :
    (∀ i, i ≤ t → 1 ≤ ch i ∧ ch i ≤ n) ∧ ∀ i k, i < k → k ≤ t → ch i < ch k := by
  refine ⟨fun i hi => ?_, fun i k h1 h2 => ?_⟩
  · obtain ⟨j, j1, j2, j3, j4, j5⟩ := h i hi
    have z := sd_rank_b hpl (r := j - 1) (by omega)
    rw [j5]
    exact ⟨z.1, z.2.1⟩
  · obtain ⟨j, j1, j2, j3, j4, j5⟩ := h i (by omega)
    obtain ⟨j', k1, k2, k3, k4, k5⟩ := h k h2
    have z := sd_rank_b hpl (r := j - 1) (by omega)
    have z' := sd_rank_b hpl (r := j' - 1) (by omega)
    have a : j < j' := by
      refine Nat.lt_of_not_le (fun q => ?_)
      have := sd_cnt_mono (sd_bt b) (show j' - 1 ≤ j - 1 by omega)
      omega
    rw [j5, k5]
    refine Nat.lt_of_not_le (fun q => ?_)
    have := sd_cnt_mono th (show mp (j' - 1) - 1 ≤ mp (j - 1) - 1 by omega)
    omega

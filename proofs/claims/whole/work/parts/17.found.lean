/-! what FOUND means: counts over the places 1 .. n, and that there is at most one such curve -/
def sd_N (k : Nat) : FP := Fin.ofNat 2305843009213693951 k
theorem sd_N_val {k : Nat} (h : k < 2305843009213693951) : (sd_N k).val = k := Nat.mod_eq_of_lt h
theorem sd_N_L {k : Nat} (h : k < 2305843009213693951) : sd_L (sd_N k) = lN k := by
  unfold sd_L
  rw [sd_N_val h]
theorem sd_N_inj {a b : Nat} (ha : a < 2305843009213693951) (hb : b < 2305843009213693951) (h : sd_N a = sd_N b) : a = b := by
  have := congrArg Fin.val h
  rw [sd_N_val ha, sd_N_val hb] at this
  exact this
/-- how many of 1 .. n -/
def sd_cnt (b : Nat → Bool) : Nat → Nat
  | 0 => 0
  | n + 1 => sd_cnt b n + (if b (n + 1) = true then 1 else 0)
theorem sd_cnt_0 (b : Nat → Bool) : sd_cnt b 0 = 0 := rfl
theorem sd_cnt_s (b : Nat → Bool) (n : Nat) : sd_cnt b (n + 1) = sd_cnt b n + (if b (n + 1) = true then 1 else 0) := rfl
theorem sd_cnt_t {b : Nat → Bool} {n : Nat} (h : b (n + 1) = true) : sd_cnt b (n + 1) = sd_cnt b n + 1 := by rw [sd_cnt_s, if_pos h]
theorem sd_cnt_f {b : Nat → Bool} {n : Nat} (h : b (n + 1) = false) : sd_cnt b (n + 1) = sd_cnt b n := by rw [sd_cnt_s, if_neg (by rw [h]; decide), Nat.add_zero]
theorem sd_cnt_le (b : Nat → Bool) : ∀ n, sd_cnt b n ≤ n := by
  intro n
  induction n with
  | zero => exact Nat.le_refl 0
  | succ n ih =>
    cases h : b (n + 1) with
    | true => rw [sd_cnt_t h]; omega
    | false => rw [sd_cnt_f h]; omega
theorem sd_cnt_mono (b : Nat → Bool) {i j : Nat} (h : i ≤ j) : sd_cnt b i ≤ sd_cnt b j := by
  induction j with
  | zero => rw [Nat.le_zero.mp h]; exact Nat.le_refl _
  | succ j ih =>
    rcases Nat.lt_or_ge i (j + 1) with q | q
    · refine Nat.le_trans (ih (by omega)) ?_
      rw [sd_cnt_s]
      omega
    · rw [show i = j + 1 by omega]
      exact Nat.le_refl _
theorem sd_cnt_congr {a b : Nat → Bool} : ∀ n, (∀ j, 1 ≤ j → j ≤ n → a j = b j) → sd_cnt a n = sd_cnt b n := by
  intro n
  induction n with
  | zero => intro _; rfl
  | succ n ih => intro h; rw [sd_cnt_s, sd_cnt_s, ih (fun j h1 h2 => h j h1 (by omega)), h (n + 1) (by omega) (by omega)]
/-- a sum of three counts bounds one, if it does so place by place -/
theorem sd_cnt_sum {a b c d : Nat → Bool} : ∀ n, (∀ j, 1 ≤ j → j ≤ n → a j = true → b j = true ∨ c j = true ∨ d j = true) → sd_cnt a n ≤ sd_cnt b n + sd_cnt c n + sd_cnt d n := by
  intro n
  induction n with
  | zero => intro _; exact Nat.le_refl 0
  | succ n ih =>
    intro h
    have i := ih (fun j h1 h2 => h j h1 (by omega))
    rw [sd_cnt_s a, sd_cnt_s b, sd_cnt_s c, sd_cnt_s d]
    by_cases ha : a (n + 1) = true
    · rw [if_pos ha]
      rcases h (n + 1) (by omega) (by omega) ha with q | q | q
      · rw [if_pos q]; omega
      · rw [if_pos q]; omega
      · rw [if_pos q]; omega
    · rw [if_neg ha]; omega
theorem sd_cnt_list (b : Nat → Bool) : ∀ n, ∃ L : List Nat, L.Nodup ∧ L.length = sd_cnt b n ∧ ∀ j, j ∈ L ↔ (1 ≤ j ∧ j ≤ n ∧ b j = true) := by
  intro n
  induction n with
  | zero => exact ⟨[], List.nodup_nil, rfl, fun j => ⟨fun h => absurd h List.not_mem_nil, fun h => absurd h.2.1 (by omega)⟩⟩
  | succ n ih =>
    obtain ⟨L, h1, h2, h3⟩ := ih
    cases h : b (n + 1) with
    | false =>
      refine ⟨L, h1, by rw [sd_cnt_f h]; exact h2, fun j => ?_⟩
      rw [h3]
      constructor
      · intro q; exact ⟨q.1, by omega, q.2.2⟩
      · intro q
        refine ⟨q.1, ?_, q.2.2⟩
        rcases Nat.lt_or_ge j (n + 1) with z | z
        · omega
        · have e : j = n + 1 := by omega
          have := q.2.2
          rw [e, h] at this
          cases this
    | true =>
      refine ⟨(n + 1) :: L, List.nodup_cons.mpr ⟨fun q => ?_, h1⟩, by rw [List.length_cons, sd_cnt_t h, h2], fun j => ?_⟩
      · have := ((h3 (n + 1)).mp q).2.1
        omega
      · rw [List.mem_cons, h3]
        constructor
        · rintro (q | q)
          · rw [q]; exact ⟨by omega, by omega, h⟩
          · exact ⟨q.1, by omega, q.2.2⟩
        · intro q
          rcases Nat.lt_or_ge j (n + 1) with z | z
          · exact Or.inr ⟨q.1, by omega, q.2.2⟩
          · exact Or.inl (by omega)
theorem sd_map_nodup {L : List Nat} (h : L.Nodup) (hl : ∀ j, j ∈ L → j ≤ 16) : (L.map sd_N).Nodup := by
  refine List.pairwise_map.mpr (List.Pairwise.imp_of_mem (R := fun a b => a ≠ b) ?_ h)
  intro a b ha hb hab q
  have := hl a ha
  have := hl b hb
  exact hab (sd_N_inj (by omega) (by omega) q)
/-- a curve's value -/
def sd_ev (f : Nat → FP) (x : FP) : FP := sd_pv f x 0 9
theorem sd_ev_cut {f : Nat → FP} {t : Nat} (ht : t ≤ 8) (h : ∀ k, t < k → k < 9 → f k = 0) (x : FP) : sd_ev f x = sd_pv f x 0 (t + 1) := by
  unfold sd_ev
  have e : sd_pv f x 0 9 = sd_pv (fun k => if k < 9 then f k else 0) x 0 9 := sd_pv_congr x 9 0 (fun j _ h => (if_pos (by omega)).symm)
  have e2 : sd_pv f x 0 (t + 1) = sd_pv (fun k => if k < 9 then f k else 0) x 0 (t + 1) := sd_pv_congr x (t + 1) 0 (fun j _ h => (if_pos (by omega)).symm)
  rw [e, e2, show 9 = (t + 1) + (8 - t) by omega]
  refine sd_pv_ext x 0 (t + 1) (fun j hj => ?_) _
  show (if j < (t + 1) + (8 - t) then f j else 0) = 0
  by_cases q : j < (t + 1) + (8 - t)
  · rw [if_pos q]; exact h j (by omega) (by omega)
  · rw [if_neg q]
/-- the share at a place is there, and the curve misses it -/
def sd_ms (th : Nat → Bool) (v f : Nat → FP) (j : Nat) : Bool := th j && decide (¬ v j = sd_ev f (sd_N j))
/-- FOUND: of at most the degree t, and at most e of the n places' shares are missed -/
def sd_Fd (t n e : Nat) (th : Nat → Bool) (v f : Nat → FP) : Prop := (∀ k, t < k → k < 9 → f k = 0) ∧ sd_cnt (sd_ms th v f) n ≤ e
theorem sd_Fd_un {t n e : Nat} {th : Nat → Bool} {v f g : Nat → FP} (ht : t ≤ 8) (hn : n ≤ 16) (hm : t + 1 + 2 * e ≤ sd_cnt th n) (hf : sd_Fd t n e th v f) (hg : sd_Fd t n e th v g) : ∀ k, k < 9 → f k = g k := by
  have hs := sd_cnt_sum (a := th) (b := sd_ms th v f) (c := sd_ms th v g) (d := fun j => th j && (decide (v j = sd_ev f (sd_N j)) && decide (v j = sd_ev g (sd_N j)))) n (by
    intro j _ _ h
    by_cases q1 : v j = sd_ev f (sd_N j)
    · by_cases q2 : v j = sd_ev g (sd_N j)
      · exact Or.inr (Or.inr (by simp only [h, Bool.true_and, Bool.and_eq_true, decide_eq_true_eq]; exact ⟨q1, q2⟩))
      · exact Or.inr (Or.inl (by simp only [sd_ms, h, Bool.true_and, decide_eq_true_eq]; exact q2))
    · exact Or.inl (by simp only [sd_ms, h, Bool.true_and, decide_eq_true_eq]; exact q1))
  obtain ⟨L, l1, l2, l3⟩ := sd_cnt_list (fun j => th j && (decide (v j = sd_ev f (sd_N j)) && decide (v j = sd_ev g (sd_N j)))) n
  have hl : t + 1 ≤ (L.map sd_N).length := by
    rw [List.length_map, l2]
    have a := hf.2
    have b := hg.2
    omega
  have hr := sd_roots sd_inv (t + 1) (fun k => f k - g k) (L.map sd_N) (sd_map_nodup l1 (fun j hj => by have := ((l3 j).mp hj).2.1; omega)) hl (by
    intro x hx
    obtain ⟨j, hj, rfl⟩ := List.mem_map.mp hx
    have q := ((l3 j).mp hj).2.2
    simp only [Bool.and_eq_true, decide_eq_true_eq] at q
    rw [sd_pv_sub, ← sd_ev_cut ht hf.1, ← sd_ev_cut ht hg.1, ← q.2.1, ← q.2.2]
    grind)
  intro k hk
  rcases Nat.lt_or_ge t k with q | q
  · rw [hf.1 k q hk, hg.1 k q hk]
  · have z : f k - g k = 0 := hr k (by omega)
    grind
/-- the r-th share that is there, from 0 on -/
theorem sd_nth (th : Nat → Bool) (r : Nat) : ∀ n, r < sd_cnt th n → ∃ p, 1 ≤ p ∧ p ≤ n ∧ th p = true ∧ sd_cnt th (p - 1) = r := by
  intro n
  induction n with
  | zero => intro h0; rw [sd_cnt_0] at h0; omega
  | succ n ih =>
    intro h0
    rcases Nat.lt_or_ge r (sd_cnt th n) with y | y
    · obtain ⟨p, a, b, c, d⟩ := ih y
      exact ⟨p, a, by omega, c, d⟩
    · cases hc : th (n + 1) with
      | false => rw [sd_cnt_f hc] at h0; omega
      | true =>
        rw [sd_cnt_t hc] at h0
        exact ⟨n + 1, by omega, by omega, hc, by rw [Nat.add_sub_cancel]; omega⟩
theorem sd_cnt_first (th : Nat → Bool) (N : Nat) : ∀ n, sd_cnt (fun p => th p && decide (sd_cnt th (p - 1) < N)) n = min (sd_cnt th n) N := by
  intro n
  induction n with
  | zero => rw [sd_cnt_0, sd_cnt_0]; omega
  | succ n ih =>
    rw [sd_cnt_s, ih, sd_cnt_s th n, Nat.add_sub_cancel]
    cases hc : th (n + 1) with
    | false =>
      rw [if_neg (by simp), if_neg (by simp)]
      omega
    | true =>
      rw [if_pos rfl]
      by_cases q : sd_cnt th n < N
      · rw [if_pos (by simp [q])]
        omega
      · rw [if_neg (by simp [q])]
        omega
/-- what solves the equations of the first shares gives the curve that is FOUND, if there is one -/
theorem sd_seek {t n e N : Nat} {th : Nat → Bool} {v : Nat → FP} (ht : t ≤ 8) (hn : n ≤ 16) (hN : N = t + e + 1 + e) (hm : N ≤ sd_cnt th n) {M0 : Nat → Nat → FP}
    (hM : ∀ p, 1 ≤ p → p ≤ n → th p = true → sd_cnt th (p - 1) < N → ∀ k, k ≤ N → M0 (sd_cnt th (p - 1)) k = sd_row t e (sd_N p) (v p) k)
    {M : Nat → Nat → FP} {used : Nat → Bool} {ro : Nat → Option Nat} (hG : sd_GI N M0 M used ro N) {f : Nat → FP} (hf : sd_Fd t n e th v f) :
    ∀ m, m < t + e + 1 → sd_sol M N ro m = sd_cv f (sd_E (sd_sol M N ro) t e) (t + 1) m := by
  have hp : ∀ r, ∃ p, r < N → 1 ≤ p ∧ p ≤ n ∧ th p = true ∧ sd_cnt th (p - 1) = r := by
    intro r
    by_cases q : r < N
    · obtain ⟨p, h⟩ := sd_nth th r n (by omega)
      exact ⟨p, fun _ => h⟩
    · exact ⟨0, fun h => absurd h q⟩
  have hpt : ∃ pt : Nat → Nat, ∀ r, r < N → 1 ≤ pt r ∧ pt r ≤ n ∧ th (pt r) = true ∧ sd_cnt th (pt r - 1) = r := ⟨fun r => Classical.choose (hp r), fun r => Classical.choose_spec (hp r)⟩
  obtain ⟨pt, hpt⟩ := hpt
  have hrow : ∀ r, r < N → ∀ k, k ≤ N → M0 r k = sd_row t e (sd_N (pt r)) (v (pt r)) k := by
    intro r hr k hk
    obtain ⟨h1, h2, h3, h4⟩ := hpt r hr
    have := hM (pt r) h1 h2 h3 (by omega) k hk
    rw [h4] at this
    exact this
  have hsat : ∀ z, sd_Sat M0 N z ↔ ∀ i, i < N → sd_sum (fun k => sd_row t e (sd_N (pt i)) (v (pt i)) k * z k) N = sd_row t e (sd_N (pt i)) (v (pt i)) N := by
    intro z
    exact sd_Sat_congr (M := fun r k => sd_row t e (sd_N (pt r)) (v (pt r)) k) (fun r k hr hk => hrow r hr k hk) z
  obtain ⟨hf1, hf2⟩ := hf
  obtain ⟨L, -, l2, l3⟩ := sd_cnt_list (sd_ms th v f) n
  obtain ⟨z0, hz0⟩ := sd_bw_ex t e N hN f (fun r => sd_N (pt r)) (fun r => v (pt r)) (L.map sd_N) (by rw [List.length_map, l2]; exact hf2) (by
    intro i hi
    obtain ⟨h1, h2, h3, h4⟩ := hpt i hi
    by_cases q : v (pt i) = sd_ev f (sd_N (pt i))
    · exact Or.inl (by rw [← sd_ev_cut ht hf1]; exact q)
    · exact Or.inr (List.mem_map.mpr ⟨pt i, (l3 (pt i)).mpr ⟨h1, h2, by simp only [sd_ms, h3, Bool.true_and, decide_eq_true_eq]; exact q⟩, rfl⟩))
  have hs := (hsat _).mp (sd_GI_end hG ((hsat z0).mpr hz0))
  have hcount := sd_cnt_sum (a := fun p => th p && decide (sd_cnt th (p - 1) < N)) (b := sd_ms th v f) (c := fun p => (th p && decide (sd_cnt th (p - 1) < N)) && decide (v p = sd_ev f (sd_N p))) (d := fun _ => false) n (by
    intro j _ _ h
    by_cases q : v j = sd_ev f (sd_N j)
    · exact Or.inr (Or.inl (by rw [h]; simp only [Bool.true_and, decide_eq_true_eq]; exact q))
    · simp only [Bool.and_eq_true] at h
      exact Or.inl (by simp only [sd_ms, h.1, Bool.true_and, decide_eq_true_eq]; exact q))
  have hzero : sd_cnt (fun _ => false) n = 0 := by
    have : ∀ n, sd_cnt (fun _ => false) n = 0 := by
      intro n
      induction n with
      | zero => rfl
      | succ n ih => rw [sd_cnt_f rfl, ih]
    exact this n
  rw [sd_cnt_first, hzero] at hcount
  obtain ⟨G, g1, g2, g3⟩ := sd_cnt_list (fun p => (th p && decide (sd_cnt th (p - 1) < N)) && decide (v p = sd_ev f (sd_N p))) n
  refine sd_bw_un sd_inv t e N hN f (fun r => sd_N (pt r)) (fun r => v (pt r)) _ (G.map sd_N) (sd_map_nodup g1 (fun j hj => by have := ((g3 j).mp hj).2.1; omega)) (by rw [List.length_map, g2]; omega) ?_ hs
  intro x hx
  obtain ⟨j, hj, rfl⟩ := List.mem_map.mp hx
  obtain ⟨j1, j2, j3⟩ := (g3 j).mp hj
  simp only [Bool.and_eq_true, decide_eq_true_eq] at j3
  obtain ⟨h1, h2, h3, h4⟩ := hpt (sd_cnt th (j - 1)) j3.1.2
  have hinj : pt (sd_cnt th (j - 1)) = j := by
    generalize pt (sd_cnt th (j - 1)) = q at h1 h2 h3 h4
    rcases Nat.lt_trichotomy q j with z | z | z
    · have a := sd_cnt_mono th (show q ≤ j - 1 by omega)
      have b : sd_cnt th q = sd_cnt th (q - 1) + 1 := by
        have c := sd_cnt_t (b := th) (n := q - 1) (by rw [Nat.sub_add_cancel h1]; exact h3)
        rw [Nat.sub_add_cancel h1] at c
        exact c
      omega
    · exact z
    · have a := sd_cnt_mono th (show j ≤ q - 1 by omega)
      have b : sd_cnt th j = sd_cnt th (j - 1) + 1 := by
        have c := sd_cnt_t (b := th) (n := j - 1) (by rw [Nat.sub_add_cancel j1]; exact j3.1.1)
        rw [Nat.sub_add_cancel j1] at c
        exact c
      omega
  exact ⟨sd_cnt th (j - 1), j3.1.2, by rw [hinj], by rw [hinj, ← sd_ev_cut ht hf1]; exact j3.2⟩

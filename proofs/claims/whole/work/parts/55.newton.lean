/-! Newton's interpolation: divided differences by stages, the nested form -/
def sd_D (y : Nat → FP) (iv : Nat → Nat → FP) : Nat → Nat → FP
  | 0, k => y k
  | j + 1, k => (sd_D y iv j k - sd_D y iv j (k - 1)) * iv k (k - (j + 1))
theorem sd_D_s (y : Nat → FP) (iv : Nat → Nat → FP) (j k : Nat) : sd_D y iv (j + 1) k = (sd_D y iv j k - sd_D y iv j (k - 1)) * iv k (k - (j + 1)) := rfl
theorem sd_pv_mul (d : FP) (g : Nat → FP) (z : FP) : ∀ m k, sd_pv (fun i => d * g i) z k m = d * sd_pv g z k m := by
  intro m
  induction m with
  | zero => intro k; rw [sd_pv_0, sd_pv_0]; grind
  | succ m ihm => intro k; rw [sd_pv_s, sd_pv_s, ihm (k + 1)]; grind
theorem sd_lin_9 {c : Nat → FP} (r x : FP) (h : c 8 = 0) : sd_pv (sd_lin r c) x 0 9 = (x - r) * sd_pv c x 0 9 := by
  rw [sd_lin_ev r x c 8, sd_pv_snoc c x 8 0, Nat.zero_add, h]
  grind
theorem sd_win {x y : Nat → FP} {iv : Nat → Nat → FP} {t : Nat} (ht : t ≤ 8) (hiv : ∀ a b, a < b → b ≤ t → (x b - x a) * iv b a = 1) : ∀ j a, a + j ≤ t → ∃ p : Nat → FP, (∀ k, j < k → p k = 0) ∧ p j = sd_D y iv j (a + j) ∧ ∀ i, a ≤ i → i ≤ a + j → sd_pv p (x i) 0 9 = y i := by
  intro j
  induction j with
  | zero =>
    intro a ha
    refine ⟨fun k => if k = 0 then y a else 0, fun k hk => if_neg (by omega), if_pos rfl, fun i h1 h2 => ?_⟩
    rw [show i = a by omega, sd_pv_s, sd_pv_zero (x a) 8 1 (fun k h3 _ => if_neg (by omega)), if_pos rfl]
    grind
  | succ j ih =>
    intro a ha
    obtain ⟨p1, u1, u2, u3⟩ := ih (a + 1) (by omega)
    obtain ⟨p0, v1, v2, v3⟩ := ih a (by omega)
    have hs := hiv a (a + (j + 1)) (by omega) ha
    generalize hb : x (a + (j + 1)) = xb at hs
    generalize hxa : x a = xa at hs
    have hev : ∀ z, sd_pv (fun k => iv (a + (j + 1)) a * (sd_lin xa p1 k - sd_lin xb p0 k)) z 0 9 = iv (a + (j + 1)) a * ((z - xa) * sd_pv p1 z 0 9 - (z - xb) * sd_pv p0 z 0 9) := by
      intro z
      rw [← sd_lin_9 xa z (u1 8 (by omega)), ← sd_lin_9 xb z (v1 8 (by omega)), ← sd_pv_sub]
      exact sd_pv_mul (iv (a + (j + 1)) a) (fun k => sd_lin xa p1 k - sd_lin xb p0 k) z 9 0
    refine ⟨fun k => iv (a + (j + 1)) a * (sd_lin xa p1 k - sd_lin xb p0 k), fun k hk => ?_, ?_, fun i h1 h2 => ?_⟩
    · match k, hk with
      | k + 1, hk =>
        show iv (a + (j + 1)) a * ((p1 k - xa * p1 (k + 1)) - (p0 k - xb * p0 (k + 1))) = 0
        rw [u1 k (by omega), u1 (k + 1) (by omega), v1 k (by omega), v1 (k + 1) (by omega)]
        grind
    · show iv (a + (j + 1)) a * ((p1 j - xa * p1 (j + 1)) - (p0 j - xb * p0 (j + 1))) = _
      rw [u1 (j + 1) (by omega), v1 (j + 1) (by omega), u2, v2, sd_D_s, show a + (j + 1) - (j + 1) = a by omega, show a + (j + 1) - 1 = a + j by omega, show a + 1 + j = a + (j + 1) by omega]
      grind
    · rw [hev]
      by_cases e1 : i = a
      · rw [e1, hxa, ← hxa, v3 a (Nat.le_refl a) (by omega), hxa]
        generalize sd_pv p1 xa 0 9 = A
        generalize y a = Y
        grind
      · by_cases e2 : i = a + (j + 1)
        · rw [e2, hb, ← hb, u3 (a + (j + 1)) (by omega) (by omega), hb]
          generalize sd_pv p0 xb 0 9 = A
          generalize y (a + (j + 1)) = Y
          grind
        · rw [u3 i (by omega) (by omega), v3 i (by omega) (by omega)]
          generalize x i = z
          generalize y i = Y
          grind
/-- the product of x - x i, i below k, from the first on -/
def sd_pts (x : Nat → FP) : Nat → List FP
  | 0 => []
  | k + 1 => x k :: sd_pts x k
theorem sd_pts_len (x : Nat → FP) : ∀ k, (sd_pts x k).length = k := by
  intro k
  induction k with
  | zero => rfl
  | succ k ih => rw [sd_pts, List.length_cons, ih]
theorem sd_pts_mem (x : Nat → FP) : ∀ k i, i < k → x i ∈ sd_pts x k := by
  intro k
  induction k with
  | zero => intro i h; exact absurd h (Nat.not_lt_zero i)
  | succ k ih =>
    intro i h
    rw [sd_pts]
    by_cases e : i = k
    · rw [e]; exact List.mem_cons_self
    · exact List.mem_cons_of_mem _ (ih i (by omega))
theorem sd_pts_of (x : Nat → FP) : ∀ k z, z ∈ sd_pts x k → ∃ i, i < k ∧ z = x i := by
  intro k
  induction k with
  | zero => intro z h; cases h
  | succ k ih =>
    intro z h
    rw [sd_pts] at h
    rcases List.mem_cons.mp h with e | e
    · exact ⟨k, by omega, e⟩
    · obtain ⟨i, h1, h2⟩ := ih z e
      exact ⟨i, by omega, h2⟩
theorem sd_pts_nodup {x : Nat → FP} : ∀ k, (∀ i j, i < j → j < k → x i ≠ x j) → (sd_pts x k).Nodup := by
  intro k
  induction k with
  | zero => intro _; exact List.nodup_nil
  | succ k ih =>
    intro h
    rw [sd_pts]
    refine List.nodup_cons.mpr ⟨fun q => ?_, ih (fun i j h1 h2 => h i j h1 (by omega))⟩
    obtain ⟨i, h1, h2⟩ := sd_pts_of x k _ q
    exact h i k h1 (by omega) h2.symm
/-- the value of that product -/
def sd_pw9 (x : Nat → FP) (z : FP) : Nat → FP
  | 0 => 1
  | k + 1 => sd_pw9 x z k * (z - x k)
theorem sd_pw9_ev (x : Nat → FP) (z : FP) : ∀ k, k ≤ 8 → sd_pv (sd_locs (sd_pts x k)) z 0 9 = sd_pw9 x z k := by
  intro k
  induction k with
  | zero =>
    intro _
    show sd_pv (fun m => if m = 0 then (1 : FP) else 0) z 0 9 = 1
    rw [sd_pv_s, sd_pv_zero z 8 1 (fun k h3 _ => if_neg (by omega)), if_pos rfl]
    grind
  | succ k ih =>
    intro hk
    show sd_pv (sd_lin (x k) (sd_locs (sd_pts x k))) z 0 9 = sd_pw9 x z k * (z - x k)
    rw [sd_lin_9 _ _ (sd_locs_hi _ 8 (by rw [sd_pts_len]; omega)), ih (by omega)]
    grind
def sd_Nw (x d : Nat → FP) (z : FP) : Nat → FP
  | 0 => 0
  | k + 1 => sd_Nw x d z k + d k * sd_pw9 x z k
theorem sd_newton {x y : Nat → FP} {iv : Nat → Nat → FP} {t : Nat} (ht : t ≤ 8) (hiv : ∀ a b, a < b → b ≤ t → (x b - x a) * iv b a = 1) : ∀ k, k ≤ t → ∃ p : Nat → FP, (∀ m, k < m → p m = 0) ∧ (∀ z, sd_Nw x (fun i => sd_D y iv i i) z (k + 1) = sd_pv p z 0 9) ∧ ∀ i, i ≤ k → sd_pv p (x i) 0 9 = y i := by
  have hne : ∀ i j, i < j → j ≤ t → x i ≠ x j := by
    intro i j h1 h2 q
    have z := hiv i j h1 h2
    rw [q] at z
    have z2 : (0 : FP) = 1 := by grind
    exact absurd z2 (by decide)
  intro k
  induction k with
  | zero =>
    intro _
    refine ⟨fun m => if m = 0 then y 0 else 0, fun m hm => if_neg (by omega), fun z => ?_, fun i hi => ?_⟩
    · rw [sd_pv_s, sd_pv_zero z 8 1 (fun k h3 _ => if_neg (by omega)), if_pos rfl]
      show 0 + y 0 * 1 = _
      grind
    · rw [show i = 0 by omega, sd_pv_s, sd_pv_zero (x 0) 8 1 (fun k h3 _ => if_neg (by omega)), if_pos rfl]
      grind
  | succ k ih =>
    intro hk
    obtain ⟨q, q1, q2, q3⟩ := ih (by omega)
    obtain ⟨p, p1, p2, p3⟩ := sd_win (y := y) ht hiv (k + 1) 0 (by omega)
    rw [Nat.zero_add] at p2 p3
    have hw := fun z => sd_pw9_ev x z (k + 1) (by omega)
    have whi := sd_locs_hi (sd_pts x (k + 1))
    have wtop := sd_locs_top (sd_pts x (k + 1))
    have wz : ∀ i, i ≤ k → sd_pv (sd_locs (sd_pts x (k + 1))) (x i) 0 9 = 0 := by
      intro i hi
      have a := sd_locs_ev (x i) (sd_pts x (k + 1)) (sd_pts_mem x (k + 1) i (by omega))
      rw [sd_pts_len] at a
      rw [show 9 = (k + 1 + 1) + (7 - k) by omega, sd_pv_ext (x i) 0 (k + 1 + 1) (fun j hj => whi j (by rw [sd_pts_len]; omega))]
      exact a
    rw [sd_pts_len] at whi wtop
    generalize sd_locs (sd_pts x (k + 1)) = w at hw whi wtop wz
    have hpm := fun (d z : FP) => sd_pv_mul d w z 9 0
    have hr : ∀ m, m < k + 1 → (p m - sd_D y iv (k + 1) (k + 1) * w m) - q m = 0 := by
      refine sd_roots sd_inv (k + 1) (fun m => (p m - sd_D y iv (k + 1) (k + 1) * w m) - q m) (sd_pts x (k + 1)) (sd_pts_nodup (k + 1) (fun i j h1 h2 => hne i j h1 (by omega))) (by rw [sd_pts_len]; exact Nat.le_refl _) ?_
      intro z hz
      obtain ⟨i, hi, rfl⟩ := sd_pts_of x (k + 1) z hz
      have e9 : sd_pv (fun m => (p m - sd_D y iv (k + 1) (k + 1) * w m) - q m) (x i) 0 9 = 0 := by
        rw [sd_pv_sub, sd_pv_sub p, hpm, p3 i (Nat.zero_le i) (by omega), wz i (by omega), q3 i (by omega)]
        grind
      rw [show 9 = (k + 1) + (8 - k) by omega, sd_pv_ext (x i) 0 (k + 1) (fun j hj => ?_)] at e9
      · exact e9
      · show (p j - sd_D y iv (k + 1) (k + 1) * w j) - q j = 0
        by_cases ej : j = k + 1
        · rw [ej, p2, wtop, q1 (k + 1) (by omega)]
          grind
        · rw [p1 j (by omega), whi j (by omega), q1 j (by omega)]
          grind
    refine ⟨p, p1, fun z => ?_, fun i hi => p3 i (Nat.zero_le i) hi⟩
    show sd_Nw x (fun i => sd_D y iv i i) z (k + 1) + sd_D y iv (k + 1) (k + 1) * sd_pw9 x z (k + 1) = _
    rw [q2, ← hw, ← hpm, ← sd_pv_add]
    refine sd_pv_congr z 9 0 (fun j _ hj => ?_)
    by_cases ej : j < k + 1
    · have := hr j ej
      grind
    · by_cases ej2 : j = k + 1
      · rw [ej2, p2, wtop, q1 (k + 1) (by omega)]
        grind
      · rw [p1 j (by omega), whi j (by omega), q1 j (by omega)]
        grind
/-- the nested form, from the last point on -/
def sd_nest (x d : Nat → FP) (z : FP) : Nat → Nat → FP
  | _, 0 => 0
  | j, n + 1 => sd_nest x d z (j + 1) n * (z - x j) + d j
theorem sd_nest_Nw (x d : Nat → FP) (z : FP) : ∀ n j, sd_Nw x d z j + sd_pw9 x z j * sd_nest x d z j n = sd_Nw x d z (j + n) := by
  intro n
  induction n with
  | zero => intro j; rw [sd_nest, Nat.add_zero]; grind
  | succ n ih =>
    intro j
    have h := ih (j + 1)
    rw [show j + (n + 1) = j + 1 + n by omega, ← h, sd_nest, sd_Nw, sd_pw9]
    grind
/-- the curve whose values are the nested form's is the one that the points come from -/
theorem sd_newton_un {x y : Nat → FP} {iv : Nat → Nat → FP} {t : Nat} (ht : t ≤ 8) (hiv : ∀ a b, a < b → b ≤ t → (x b - x a) * iv b a = 1) {cu f : Nat → FP} (hc : ∀ k, t < k → k < 9 → cu k = 0) (hf : ∀ k, t < k → k < 9 → f k = 0)
    (hv : ∀ z, sd_pv cu z 0 9 = sd_nest x (fun i => sd_D y iv i i) z 0 (t + 1)) (hy : ∀ i, i ≤ t → sd_pv f (x i) 0 9 = y i) : ∀ k, k < 9 → cu k = f k := by
  have hne : ∀ i j, i < j → j ≤ t → x i ≠ x j := by
    intro i j h1 h2 q
    have z := hiv i j h1 h2
    rw [q] at z
    have z2 : (0 : FP) = 1 := by grind
    exact absurd z2 (by decide)
  obtain ⟨p, p1, p2, p3⟩ := sd_newton (y := y) ht hiv t (Nat.le_refl t)
  have hcy : ∀ i, i ≤ t → sd_pv cu (x i) 0 9 = y i := by
    intro i hi
    have a := sd_nest_Nw x (fun i => sd_D y iv i i) (x i) (t + 1) 0
    rw [Nat.zero_add, p2, p3 i hi] at a
    rw [hv]
    have b : sd_Nw x (fun i => sd_D y iv i i) (x i) 0 = 0 := rfl
    have c : sd_pw9 x (x i) 0 = 1 := rfl
    rw [b, c] at a
    grind
  have hr := sd_roots sd_inv (t + 1) (fun m => cu m - f m) (sd_pts x (t + 1)) (sd_pts_nodup (t + 1) (fun i j h1 h2 => hne i j h1 (by omega))) (by rw [sd_pts_len]; exact Nat.le_refl _) (by
    intro z hz
    obtain ⟨i, hi, rfl⟩ := sd_pts_of x (t + 1) z hz
    have e1 := sd_ev_cut ht hc (x i)
    have e2 := sd_ev_cut ht hf (x i)
    rw [sd_pv_sub, ← e1, ← e2]
    show sd_pv cu (x i) 0 9 - sd_pv f (x i) 0 9 = 0
    rw [hcy i (by omega), hy i (by omega)]
    grind)
  intro k hk
  by_cases e : k < t + 1
  · have z : cu k - f k = 0 := hr k e
    grind
  · rw [hc k (by omega) hk, hf k (by omega) hk]

/-! curves over a field: Horner's value, roots, products, and what Berlekamp and Welch's equations say -/
theorem sd_noZD {F : Type} [Lean.Grind.CommRing F] (hF : ∀ a : F, a ≠ 0 → ∃ b : F, a * b = 1) {a b : F} (h : a * b = 0) (ha : a ≠ 0) : b = 0 := by
  obtain ⟨c, hc⟩ := hF a ha
  grind
/-- c k + c (k+1) x + .., m parts -/
def sd_pv {F : Type} [Lean.Grind.CommRing F] (c : Nat → F) (x : F) : Nat → Nat → F
  | _, 0 => 0
  | k, m + 1 => c k + x * sd_pv c x (k + 1) m
def sd_pow {F : Type} [Lean.Grind.CommRing F] (x : F) : Nat → F
  | 0 => 1
  | n + 1 => sd_pow x n * x
theorem sd_pv_0 {F : Type} [Lean.Grind.CommRing F] (c : Nat → F) (x : F) (k : Nat) : sd_pv c x k 0 = 0 := rfl
theorem sd_pv_s {F : Type} [Lean.Grind.CommRing F] (c : Nat → F) (x : F) (k m : Nat) : sd_pv c x k (m + 1) = c k + x * sd_pv c x (k + 1) m := rfl
theorem sd_pow_0 {F : Type} [Lean.Grind.CommRing F] (x : F) : sd_pow x 0 = 1 := rfl
theorem sd_pow_s {F : Type} [Lean.Grind.CommRing F] (x : F) (n : Nat) : sd_pow x (n + 1) = sd_pow x n * x := rfl
theorem sd_pow_add {F : Type} [Lean.Grind.CommRing F] (x : F) (a : Nat) : ∀ b, sd_pow x (a + b) = sd_pow x a * sd_pow x b := by
  intro b
  induction b with
  | zero => rw [Nat.add_zero, sd_pow_0]; grind
  | succ b ih => rw [← Nat.add_assoc, sd_pow_s, ih, sd_pow_s]; grind
theorem sd_pv_snoc {F : Type} [Lean.Grind.CommRing F] (c : Nat → F) (x : F) : ∀ m k, sd_pv c x k (m + 1) = sd_pv c x k m + c (k + m) * sd_pow x m := by
  intro m
  induction m with
  | zero => intro k; rw [sd_pv_s, sd_pv_0, sd_pv_0, Nat.add_zero, sd_pow_0]; grind
  | succ m ih =>
    intro k
    rw [sd_pv_s, ih (k + 1), sd_pv_s, sd_pow_s, show k + 1 + m = k + (m + 1) by omega]
    grind
theorem sd_pv_congr {F : Type} [Lean.Grind.CommRing F] {c d : Nat → F} (x : F) : ∀ m k, (∀ j, k ≤ j → j < k + m → c j = d j) → sd_pv c x k m = sd_pv d x k m := by
  intro m
  induction m with
  | zero => intro k _; rfl
  | succ m ih =>
    intro k h
    rw [sd_pv_s, sd_pv_s, h k (Nat.le_refl k) (by omega), ih (k + 1) (fun j h1 h2 => h j (by omega) (by omega))]
theorem sd_pv_zero {F : Type} [Lean.Grind.CommRing F] {c : Nat → F} (x : F) : ∀ m k, (∀ j, k ≤ j → j < k + m → c j = 0) → sd_pv c x k m = 0 := by
  intro m
  induction m with
  | zero => intro k _; rfl
  | succ m ih =>
    intro k h
    rw [sd_pv_s, h k (Nat.le_refl k) (by omega), ih (k + 1) (fun j h1 h2 => h j (by omega) (by omega))]
    grind
theorem sd_pv_add {F : Type} [Lean.Grind.CommRing F] (c d : Nat → F) (x : F) : ∀ m k, sd_pv (fun j => c j + d j) x k m = sd_pv c x k m + sd_pv d x k m := by
  intro m
  induction m with
  | zero => intro k; rw [sd_pv_0, sd_pv_0, sd_pv_0]; grind
  | succ m ih => intro k; rw [sd_pv_s, sd_pv_s, sd_pv_s, ih (k + 1)]; grind
theorem sd_pv_sub {F : Type} [Lean.Grind.CommRing F] (c d : Nat → F) (x : F) : ∀ m k, sd_pv (fun j => c j - d j) x k m = sd_pv c x k m - sd_pv d x k m := by
  intro m
  induction m with
  | zero => intro k; rw [sd_pv_0, sd_pv_0, sd_pv_0]; grind
  | succ m ih => intro k; rw [sd_pv_s, sd_pv_s, sd_pv_s, ih (k + 1)]; grind
/-- parts behind the last are 0 -/
theorem sd_pv_ext {F : Type} [Lean.Grind.CommRing F] {c : Nat → F} (x : F) (k m : Nat) (h : ∀ j, k + m ≤ j → c j = 0) : ∀ r, sd_pv c x k (m + r) = sd_pv c x k m := by
  intro r
  induction r with
  | zero => rfl
  | succ r ih => rw [← Nat.add_assoc, sd_pv_snoc, ih, h (k + (m + r)) (by omega)]; grind
theorem sd_pv_div {F : Type} [Lean.Grind.CommRing F] (c : Nat → F) (x r : F) : ∀ m k, sd_pv c x k (m + 1) - sd_pv c r k (m + 1) = (x - r) * sd_pv (fun j => sd_pv c r (j + 1) (k + m - j)) x k m := by
  intro m
  induction m with
  | zero => intro k; rw [sd_pv_s, sd_pv_s, sd_pv_0, sd_pv_0, sd_pv_0]; grind
  | succ m ih =>
    intro k
    have h := ih (k + 1)
    have e : (fun j => sd_pv c r (j + 1) (k + 1 + m - j)) = (fun j => sd_pv c r (j + 1) (k + (m + 1) - j)) := by
      funext j
      rw [show k + 1 + m = k + (m + 1) by omega]
    rw [e] at h
    have hq : (fun j => sd_pv c r (j + 1) (k + (m + 1) - j)) k = sd_pv c r (k + 1) (m + 1) := by
      show sd_pv c r (k + 1) (k + (m + 1) - k) = _
      rw [show k + (m + 1) - k = m + 1 by omega]
    generalize (fun j => sd_pv c r (j + 1) (k + (m + 1) - j)) = q at h hq ⊢
    rw [sd_pv_s c x k, sd_pv_s c r k, sd_pv_s q x k, hq]
    generalize sd_pv c x (k + 1) (m + 1) = A at h ⊢
    generalize sd_pv c r (k + 1) (m + 1) = B at h ⊢
    generalize sd_pv q x (k + 1) m = C at h ⊢
    grind
/-- as many roots as parts: all parts are 0 -/
theorem sd_roots {F : Type} [Lean.Grind.CommRing F] (hF : ∀ a : F, a ≠ 0 → ∃ b : F, a * b = 1) : ∀ (n : Nat) (c : Nat → F) (rs : List F), rs.Nodup → n ≤ rs.length → (∀ r ∈ rs, sd_pv c r 0 n = 0) → ∀ k, k < n → c k = 0 := by
  intro n
  induction n with
  | zero => intro c rs _ _ _ k h; exact absurd h (Nat.not_lt_zero k)
  | succ n ih =>
    intro c rs hnd hlen hroot
    match rs, hnd, hlen, hroot with
    | [], _, hlen, _ => exact absurd hlen (by simp)
    | r :: rs', hnd, hlen, hroot =>
      have hr := hroot r List.mem_cons_self
      have hnd2 := List.nodup_cons.mp hnd
      have hz : ∀ k, k < n → sd_pv c r (k + 1) (0 + n - k) = 0 := by
        refine ih (fun j => sd_pv c r (j + 1) (0 + n - j)) rs' hnd2.2 (by simpa using hlen) ?_
        intro r' h'
        have e := sd_pv_div c r' r n 0
        rw [hroot r' (List.mem_cons_of_mem _ h'), hr] at e
        refine sd_noZD hF (a := r' - r) (by rw [← e]; grind) ?_
        intro z
        refine hnd2.1 ?_
        have : r = r' := by grind
        rw [this]
        exact h'
      have hg : ∀ j, j ≤ n + 1 → sd_pv c r j (n + 1 - j) = 0 := by
        intro j hj
        match j, hj with
        | 0, _ => exact hr
        | j + 1, hj =>
          rcases Nat.lt_or_ge j n with q | q
          · have := hz j q
            rw [show 0 + n - j = n + 1 - (j + 1) by omega] at this
            exact this
          · rw [show n + 1 - (j + 1) = 0 by omega, sd_pv_0]
      intro k hk
      have a := hg k (by omega)
      have b := hg (k + 1) (by omega)
      rw [show n + 1 - k = (n + 1 - (k + 1)) + 1 by omega, sd_pv_s, b] at a
      grind
/-- the product of two curves, the first cut behind k parts -/
def sd_cv {F : Type} [Lean.Grind.CommRing F] (f E : Nat → F) : Nat → Nat → F
  | 0, _ => 0
  | k + 1, m => sd_cv f E k m + (if k ≤ m then f k * E (m - k) else 0)
theorem sd_cv_0 {F : Type} [Lean.Grind.CommRing F] (f E : Nat → F) (m : Nat) : sd_cv f E 0 m = 0 := rfl
theorem sd_cv_s {F : Type} [Lean.Grind.CommRing F] (f E : Nat → F) (k m : Nat) : sd_cv f E (k + 1) m = sd_cv f E k m + (if k ≤ m then f k * E (m - k) else 0) := rfl
theorem sd_sh_ev {F : Type} [Lean.Grind.CommRing F] (E : Nat → F) (a x : F) (k : Nat) : ∀ N, sd_pv (fun m => if k ≤ m then a * E (m - k) else 0) x 0 (k + N) = a * sd_pow x k * sd_pv E x 0 N := by
  intro N
  induction N with
  | zero =>
    rw [Nat.add_zero, sd_pv_0, sd_pv_zero x k 0 (fun j _ h => if_neg (by omega))]
    grind
  | succ N ih =>
    rw [← Nat.add_assoc, sd_pv_snoc, ih, sd_pv_snoc, Nat.zero_add, Nat.zero_add, if_pos (Nat.le_add_right k N), Nat.add_sub_cancel_left, sd_pow_add]
    grind
theorem sd_cv_ev {F : Type} [Lean.Grind.CommRing F] (f E : Nat → F) (x : F) (e : Nat) (hE : ∀ j, e < j → E j = 0) : ∀ k N, k + e ≤ N → sd_pv (sd_cv f E k) x 0 N = sd_pv f x 0 k * sd_pv E x 0 (e + 1) := by
  intro k
  induction k with
  | zero =>
    intro N _
    have h0 : sd_pv (sd_cv f E 0) x 0 N = 0 := sd_pv_zero x N 0 (fun j _ _ => rfl)
    rw [h0, sd_pv_0]
    grind
  | succ k ih =>
    intro N hN
    have h1 : sd_pv (sd_cv f E (k + 1)) x 0 N = sd_pv (fun m => sd_cv f E k m + (if k ≤ m then f k * E (m - k) else 0)) x 0 N := rfl
    rw [h1, sd_pv_add, ih N (by omega), sd_pv_snoc f x k 0, Nat.zero_add]
    have h2 := sd_sh_ev E (f k) x k (e + 1 + (N - (k + e + 1)))
    rw [show k + (e + 1 + (N - (k + e + 1))) = N by omega, sd_pv_ext x 0 (e + 1) (fun j h => hE j (by omega))] at h2
    rw [h2]
    grind
/-- a part above all of the product is 0; the highest of a monic divisor gives the first curve's part -/
theorem sd_cv_hi {F : Type} [Lean.Grind.CommRing F] (f E : Nat → F) (e : Nat) (hE : ∀ j, e < j → E j = 0) : ∀ k m, k + e ≤ m → sd_cv f E k m = 0 := by
  intro k
  induction k with
  | zero => intro m _; rfl
  | succ k ih =>
    intro m hm
    rw [sd_cv_s, ih m (by omega), if_pos (by omega), hE (m - k) (by omega)]
    grind
theorem sd_cv_top {F : Type} [Lean.Grind.CommRing F] (f E : Nat → F) (e : Nat) (hE : ∀ j, e < j → E j = 0) (h1 : E e = 1) (k : Nat) : sd_cv f E (k + 1) (k + e) = f k := by
  rw [sd_cv_s, sd_cv_hi f E e hE k (k + e) (Nat.le_refl _), if_pos (Nat.le_add_right k e), Nat.add_sub_cancel_left, h1]
  grind
/-- times x - r -/
def sd_lin {F : Type} [Lean.Grind.CommRing F] (r : F) (c : Nat → F) : Nat → F
  | 0 => 0 - r * c 0
  | m + 1 => c m - r * c (m + 1)
theorem sd_lin_ev {F : Type} [Lean.Grind.CommRing F] (r x : F) (c : Nat → F) : ∀ n, sd_pv (sd_lin r c) x 0 (n + 1) = x * sd_pv c x 0 n - r * sd_pv c x 0 (n + 1) := by
  intro n
  induction n with
  | zero =>
    rw [sd_pv_s, sd_pv_0, sd_pv_0, sd_pv_s, sd_pv_0, show sd_lin r c 0 = 0 - r * c 0 from rfl]
    grind
  | succ n ih =>
    rw [sd_pv_snoc, ih, sd_pv_snoc c x (n + 1), sd_pv_snoc c x n, Nat.zero_add, Nat.zero_add, show sd_lin r c (n + 1) = c n - r * c (n + 1) from rfl, sd_pow_s]
    grind
def sd_locs {F : Type} [Lean.Grind.CommRing F] : List F → Nat → F
  | [] => fun m => if m = 0 then 1 else 0
  | r :: L => sd_lin r (sd_locs L)
theorem sd_locs_hi {F : Type} [Lean.Grind.CommRing F] : ∀ (L : List F) (j : Nat), L.length < j → sd_locs L j = 0 := by
  intro L
  induction L with
  | nil =>
    intro j h
    show (if j = 0 then (1 : F) else 0) = 0
    exact if_neg (by have h : 0 < j := h; omega)
  | cons r L ih =>
    intro j h
    match j, h with
    | 0, h => exact absurd h (Nat.not_lt_zero _)
    | j + 1, h =>
      rw [List.length_cons] at h
      show sd_locs L j - r * sd_locs L (j + 1) = 0
      rw [ih j (by omega), ih (j + 1) (by omega)]
      grind
theorem sd_locs_top {F : Type} [Lean.Grind.CommRing F] : ∀ (L : List F), sd_locs L L.length = 1 := by
  intro L
  induction L with
  | nil =>
    show (if (0 : Nat) = 0 then (1 : F) else 0) = 1
    exact if_pos rfl
  | cons r L ih =>
    show sd_locs L L.length - r * sd_locs L (L.length + 1) = 1
    rw [ih, sd_locs_hi L (L.length + 1) (Nat.lt_succ_self _)]
    grind
theorem sd_locs_ev {F : Type} [Lean.Grind.CommRing F] (x : F) : ∀ (L : List F), x ∈ L → sd_pv (sd_locs L) x 0 (L.length + 1) = 0 := by
  intro L
  induction L with
  | nil => intro h; cases h
  | cons r L ih =>
    intro h
    show sd_pv (sd_lin r (sd_locs L)) x 0 (L.length + 1 + 1) = 0
    rw [sd_lin_ev, sd_pv_snoc (sd_locs L) x (L.length + 1), Nat.zero_add, sd_locs_hi L (L.length + 1) (Nat.lt_succ_self _)]
    rcases List.mem_cons.mp h with e | e
    · rw [e]; grind
    · rw [ih e]; grind
/-- a sum of n -/
def sd_sum {F : Type} [Lean.Grind.CommRing F] (f : Nat → F) : Nat → F
  | 0 => 0
  | n + 1 => sd_sum f n + f n
theorem sd_sum_s {F : Type} [Lean.Grind.CommRing F] (f : Nat → F) (n : Nat) : sd_sum f (n + 1) = sd_sum f n + f n := rfl
theorem sd_sum_0 {F : Type} [Lean.Grind.CommRing F] (f : Nat → F) : sd_sum f 0 = 0 := rfl
theorem sd_sum_congr {F : Type} [Lean.Grind.CommRing F] {f g : Nat → F} : ∀ n, (∀ k, k < n → f k = g k) → sd_sum f n = sd_sum g n := by
  intro n
  induction n with
  | zero => intro _; rfl
  | succ n ih => intro h; rw [sd_sum_s, sd_sum_s, ih (fun k hk => h k (by omega)), h n (by omega)]
theorem sd_sum_split {F : Type} [Lean.Grind.CommRing F] (f : Nat → F) (a : Nat) : ∀ b, sd_sum f (a + b) = sd_sum f a + sd_sum (fun j => f (a + j)) b := by
  intro b
  induction b with
  | zero => rw [Nat.add_zero, sd_sum_0]; grind
  | succ b ih => rw [← Nat.add_assoc, sd_sum_s, ih, sd_sum_s]; grind
theorem sd_sum_zero {F : Type} [Lean.Grind.CommRing F] {f : Nat → F} : ∀ n, (∀ k, k < n → f k = 0) → sd_sum f n = 0 := by
  intro n
  induction n with
  | zero => intro _; rfl
  | succ n ih => intro h; rw [sd_sum_s, ih (fun k hk => h k (by omega)), h n (by omega)]; grind
theorem sd_sum_one {F : Type} [Lean.Grind.CommRing F] {f : Nat → F} (v : Nat) : ∀ n, v < n → (∀ k, k < n → k ≠ v → f k = 0) → sd_sum f n = f v := by
  intro n
  induction n with
  | zero => intro h _; exact absurd h (Nat.not_lt_zero v)
  | succ n ih =>
    intro hv h
    rw [sd_sum_s]
    rcases Nat.lt_or_ge v n with q | q
    · rw [ih q (fun k hk hne => h k (by omega) hne), h n (by omega) (by omega)]
      grind
    · have e : v = n := by omega
      rw [e, sd_sum_zero n (fun k hk => h k (by omega) (by omega))]
      grind
theorem sd_sum_mul {F : Type} [Lean.Grind.CommRing F] (f : Nat → F) (a : F) : ∀ n, sd_sum (fun k => a * f k) n = a * sd_sum f n := by
  intro n
  induction n with
  | zero => rw [sd_sum_0, sd_sum_0]; grind
  | succ n ih => rw [sd_sum_s, sd_sum_s, ih]; grind
theorem sd_sum_sub {F : Type} [Lean.Grind.CommRing F] (f g : Nat → F) : ∀ n, sd_sum (fun k => f k - g k) n = sd_sum f n - sd_sum g n := by
  intro n
  induction n with
  | zero => rw [sd_sum_0, sd_sum_0, sd_sum_0]; grind
  | succ n ih => rw [sd_sum_s, sd_sum_s, sd_sum_s, ih]; grind
theorem sd_sum_pv {F : Type} [Lean.Grind.CommRing F] (z : Nat → F) (x : F) (k : Nat) : ∀ n, sd_sum (fun j => sd_pow x j * z (k + j)) n = sd_pv z x k n := by
  intro n
  induction n with
  | zero => rfl
  | succ n ih => rw [sd_sum_s, ih, sd_pv_snoc]; grind

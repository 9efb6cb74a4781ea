/-! Berlekamp and Welch's equations; Gauss and Jordan's way to solve them -/
theorem sd_pv_shift {F : Type} [Lean.Grind.CommRing F] (z : Nat → F) (x : F) (a : Nat) : ∀ m k, sd_pv (fun j => z (a + j)) x k m = sd_pv z x (a + k) m := by
  intro m
  induction m with
  | zero => intro k; rfl
  | succ m ih => intro k; rw [sd_pv_s, sd_pv_s, ih (k + 1), Nat.add_assoc]
def sd_row {F : Type} [Lean.Grind.CommRing F] (t e : Nat) (x y : F) (k : Nat) : F :=
  if k < t + e + 1 then sd_pow x k else if k < t + e + 1 + e then 0 - y * sd_pow x (k - (t + e + 1)) else y * sd_pow x e
theorem sd_row_sum {F : Type} [Lean.Grind.CommRing F] (t e : Nat) (x y : F) (z : Nat → F) : sd_sum (fun k => sd_row t e x y k * z k) (t + e + 1 + e) = sd_pv z x 0 (t + e + 1) - y * sd_pv z x (t + e + 1) e := by
  rw [sd_sum_split]
  have h1 : sd_sum (fun k => sd_row t e x y k * z k) (t + e + 1) = sd_pv z x 0 (t + e + 1) := by
    rw [← sd_sum_pv]
    refine sd_sum_congr _ (fun k hk => ?_)
    show sd_row t e x y k * z k = sd_pow x k * z (0 + k)
    rw [sd_row, if_pos hk, Nat.zero_add]
  have h2 : sd_sum (fun j => (fun k => sd_row t e x y k * z k) (t + e + 1 + j)) e = (0 - y) * sd_pv z x (t + e + 1) e := by
    rw [← sd_sum_pv, ← sd_sum_mul]
    refine sd_sum_congr _ (fun k hk => ?_)
    show sd_row t e x y (t + e + 1 + k) * z (t + e + 1 + k) = (0 - y) * (sd_pow x k * z (t + e + 1 + k))
    rw [sd_row, if_neg (by omega), if_pos (by omega), Nat.add_sub_cancel_left]
    grind
  rw [h1, h2]
  grind
theorem sd_row_end {F : Type} [Lean.Grind.CommRing F] (t e : Nat) (x y : F) : sd_row t e x y (t + e + 1 + e) = y * sd_pow x e := by
  rw [sd_row, if_neg (by omega), if_neg (by omega)]
/-- the second curve of a solution, its highest part 1 -/
def sd_E {F : Type} [Lean.Grind.CommRing F] (z : Nat → F) (t e j : Nat) : F := if j < e then z (t + e + 1 + j) else if j = e then 1 else 0
theorem sd_E_hi {F : Type} [Lean.Grind.CommRing F] (z : Nat → F) (t e : Nat) : ∀ j, e < j → sd_E z t e j = 0 := by
  intro j h
  rw [sd_E, if_neg (by omega), if_neg (by omega)]
theorem sd_E_top {F : Type} [Lean.Grind.CommRing F] (z : Nat → F) (t e : Nat) : sd_E z t e e = 1 := by
  rw [sd_E, if_neg (by omega), if_pos rfl]
theorem sd_E_ev {F : Type} [Lean.Grind.CommRing F] (z : Nat → F) (t e : Nat) (x : F) : sd_pv (sd_E z t e) x 0 (e + 1) = sd_pv z x (t + e + 1) e + sd_pow x e := by
  rw [sd_pv_snoc, Nat.zero_add, sd_E_top]
  have h : sd_pv (sd_E z t e) x 0 e = sd_pv (fun j => z (t + e + 1 + j)) x 0 e := sd_pv_congr x e 0 (fun j _ h => by rw [sd_E, if_pos (by omega)])
  rw [h, sd_pv_shift, Nat.add_zero]
  grind
/-- there is a solution, if a curve misses at most e -/
theorem sd_bw_ex {F : Type} [Lean.Grind.CommRing F] (t e N : Nat) (hN : N = t + e + 1 + e) (f xs ys : Nat → F) (L : List F) (hL : L.length ≤ e) (h : ∀ i, i < N → ys i = sd_pv f (xs i) 0 (t + 1) ∨ xs i ∈ L) :
    ∃ z : Nat → F, ∀ i, i < N → sd_sum (fun k => sd_row t e (xs i) (ys i) k * z k) N = sd_row t e (xs i) (ys i) N := by
  subst hN
  have hlen : (L ++ List.replicate (e - L.length) (0 : F)).length = e := by
    rw [List.length_append, List.length_replicate]
    omega
  have hmem : ∀ x, x ∈ L → x ∈ (L ++ List.replicate (e - L.length) (0 : F)) := fun x hx => List.mem_append_left _ hx
  generalize (L ++ List.replicate (e - L.length) (0 : F)) = L2 at hlen hmem
  have hhi := sd_locs_hi L2
  have htop := sd_locs_top L2
  have hev := fun x => sd_locs_ev x L2
  rw [hlen] at hhi htop hev
  generalize sd_locs L2 = E0 at hhi htop hev
  refine ⟨fun k => if k < t + e + 1 then sd_cv f E0 (t + 1) k else E0 (k - (t + e + 1)), ?_⟩
  intro i hi
  rw [sd_row_sum, sd_row_end]
  have a1 : sd_pv (fun k => if k < t + e + 1 then sd_cv f E0 (t + 1) k else E0 (k - (t + e + 1))) (xs i) 0 (t + e + 1) = sd_pv f (xs i) 0 (t + 1) * sd_pv E0 (xs i) 0 (e + 1) := by
    rw [← sd_cv_ev f E0 (xs i) e hhi (t + 1) (t + e + 1) (by omega)]
    exact sd_pv_congr _ _ _ (fun j _ h => if_pos (by omega))
  have a2 : sd_pv (fun k => if k < t + e + 1 then sd_cv f E0 (t + 1) k else E0 (k - (t + e + 1))) (xs i) (t + e + 1) e = sd_pv E0 (xs i) 0 e := by
    have b := sd_pv_shift (fun k => if k < t + e + 1 then sd_cv f E0 (t + 1) k else E0 (k - (t + e + 1))) (xs i) (t + e + 1) e 0
    rw [Nat.add_zero] at b
    rw [← b]
    refine sd_pv_congr _ _ _ (fun j _ h => ?_)
    show (if t + e + 1 + j < t + e + 1 then sd_cv f E0 (t + 1) (t + e + 1 + j) else E0 (t + e + 1 + j - (t + e + 1))) = E0 j
    rw [if_neg (by omega), Nat.add_sub_cancel_left]
  have a3 := sd_pv_snoc E0 (xs i) e 0
  rw [Nat.zero_add, htop] at a3
  rw [a1, a2]
  rcases h i hi with q | q
  · rw [a3, q]
    grind
  · have a4 := hev (xs i) (hmem _ q)
    rw [a4]
    rw [a4] at a3
    grind
/-- and every solution's first curve is the product of the second and of that curve -/
theorem sd_bw_un {F : Type} [Lean.Grind.CommRing F] (hF : ∀ a : F, a ≠ 0 → ∃ b : F, a * b = 1) (t e N : Nat) (hN : N = t + e + 1 + e) (f xs ys z : Nat → F) (G : List F) (hG : G.Nodup) (hl : t + e + 1 ≤ G.length)
    (h : ∀ x, x ∈ G → ∃ i, i < N ∧ x = xs i ∧ ys i = sd_pv f (xs i) 0 (t + 1)) (hz : ∀ i, i < N → sd_sum (fun k => sd_row t e (xs i) (ys i) k * z k) N = sd_row t e (xs i) (ys i) N) :
    ∀ m, m < t + e + 1 → z m = sd_cv f (sd_E z t e) (t + 1) m := by
  subst hN
  intro m hm
  have hr := sd_roots hF (t + e + 1) (fun j => z j - sd_cv f (sd_E z t e) (t + 1) j) G hG hl (by
    intro x hx
    obtain ⟨i, hi, rfl, hy⟩ := h x hx
    have e1 := hz i hi
    rw [sd_row_sum, sd_row_end] at e1
    rw [sd_pv_sub, sd_cv_ev f (sd_E z t e) (xs i) e (sd_E_hi z t e) (t + 1) (t + e + 1) (by omega), sd_E_ev, ← hy]
    grind) m hm
  have hr : z m - sd_cv f (sd_E z t e) (t + 1) m = 0 := hr
  grind
/-- one step of the division by a curve whose highest part is 1 -/
theorem sd_div_step {F : Type} [Lean.Grind.CommRing F] (f E S : Nat → F) (e k : Nat) (hE : ∀ j, e < j → E j = 0) (h1 : E e = 1) (h : ∀ m, m < k + 1 + e → S m = sd_cv f E (k + 1) m) :
    S (k + e) = f k ∧ ∀ S2 : Nat → F, (∀ m, k ≤ m → m < k + e → S2 m = S m - f k * E (m - k)) → (∀ m, m < k → S2 m = S m) → ∀ m, m < k + e → S2 m = sd_cv f E k m := by
  refine ⟨by rw [h (k + e) (by omega)]; exact sd_cv_top f E e hE h1 k, ?_⟩
  intro S2 ha hb m hm
  rcases Nat.lt_or_ge m k with q | q
  · rw [hb m q, h m (by omega), sd_cv_s, if_neg (by omega)]
    grind
  · rw [ha m q hm, h m (by omega), sd_cv_s, if_pos q]
    grind
def sd_Sat {F : Type} [Lean.Grind.CommRing F] (M : Nat → Nat → F) (N : Nat) (z : Nat → F) : Prop := ∀ r, r < N → sd_sum (fun k => M r k * z k) N = M r N
def sd_elim {F : Type} [Lean.Grind.CommRing F] (M : Nat → Nat → F) (r u : Nat) (s : F) : Nat → Nat → F := fun a k => if a = r then M r k * s else M a k - M a u * (M r k * s)
theorem sd_elim_self {F : Type} [Lean.Grind.CommRing F] (M : Nat → Nat → F) (r u : Nat) (s : F) (k : Nat) : sd_elim M r u s r k = M r k * s := if_pos rfl
theorem sd_elim_ne {F : Type} [Lean.Grind.CommRing F] (M : Nat → Nat → F) {r u a : Nat} (s : F) (k : Nat) (h : a ≠ r) : sd_elim M r u s a k = M a k - M a u * (M r k * s) := if_neg h
theorem sd_elim_sum {F : Type} [Lean.Grind.CommRing F] (M : Nat → Nat → F) (r u N : Nat) (s : F) (z : Nat → F) :
    sd_sum (fun k => sd_elim M r u s r k * z k) N = s * sd_sum (fun k => M r k * z k) N ∧ ∀ a, a ≠ r → sd_sum (fun k => sd_elim M r u s a k * z k) N = sd_sum (fun k => M a k * z k) N - M a u * s * sd_sum (fun k => M r k * z k) N := by
  refine ⟨?_, fun a ha => ?_⟩
  · rw [← sd_sum_mul]
    refine sd_sum_congr _ (fun k _ => ?_)
    show sd_elim M r u s r k * z k = s * (M r k * z k)
    rw [sd_elim_self]
    grind
  · rw [← sd_sum_mul, ← sd_sum_sub]
    refine sd_sum_congr _ (fun k _ => ?_)
    show sd_elim M r u s a k * z k = M a k * z k - M a u * s * (M r k * z k)
    rw [sd_elim_ne M s k ha]
    grind
theorem sd_elim_sat {F : Type} [Lean.Grind.CommRing F] (M : Nat → Nat → F) (N r u : Nat) (s : F) (hr : r < N) (hs : M r u * s = 1) (z : Nat → F) : sd_Sat (sd_elim M r u s) N z ↔ sd_Sat M N z := by
  have hsum := sd_elim_sum M r u N s z
  constructor
  · intro h
    have h0 := h r hr
    rw [hsum.1, sd_elim_self] at h0
    have hA : sd_sum (fun k => M r k * z k) N = M r N := by
      generalize sd_sum (fun k => M r k * z k) N = A at h0 ⊢
      grind
    intro a ha
    by_cases e : a = r
    · rw [e]; exact hA
    · have h1 := h a ha
      rw [hsum.2 a e, sd_elim_ne M s N e, hA] at h1
      generalize sd_sum (fun k => M a k * z k) N = B at h1 ⊢
      grind
  · intro h a ha
    have hA := h r hr
    by_cases e : a = r
    · rw [e, hsum.1, sd_elim_self, hA]
      grind
    · rw [hsum.2 a e, sd_elim_ne M s N e, hA, h a ha]
      grind
def sd_up {α : Type} (f : Nat → α) (k : Nat) (v : α) : Nat → α := fun j => if j = k then v else f j
theorem sd_up_s {α : Type} (f : Nat → α) (k : Nat) (v : α) : sd_up f k v k = v := if_pos rfl
theorem sd_up_n {α : Type} (f : Nat → α) {k j : Nat} (v : α) (h : j ≠ k) : sd_up f k v j = f j := if_neg h
/-- behind the unknowns below u: the same solutions; rows not used are 0 there; each used row is alone at its unknown -/
def sd_GI {F : Type} [Lean.Grind.CommRing F] (N : Nat) (M0 M : Nat → Nat → F) (used : Nat → Bool) (ro : Nat → Option Nat) (u : Nat) : Prop :=
  (∀ z, sd_Sat M N z ↔ sd_Sat M0 N z) ∧ (∀ r, r < N → used r = false → ∀ k, k < u → M r k = 0) ∧ (∀ r, r < N → used r = true → ∃ v, v < u ∧ ro v = some r) ∧
  (∀ v r, v < u → ro v = some r → r < N ∧ used r = true ∧ M r v = 1 ∧ ∀ a, a < N → a ≠ r → M a v = 0) ∧ ∀ v w r, v < u → w < u → ro v = some r → ro w = some r → v = w
theorem sd_GI_0 {F : Type} [Lean.Grind.CommRing F] (N : Nat) (M : Nat → Nat → F) (used : Nat → Bool) (ro : Nat → Option Nat) (h : ∀ r, r < N → used r = false) : sd_GI N M M used ro 0 :=
  ⟨fun _ => Iff.rfl, fun _ _ _ k hk => absurd hk (Nat.not_lt_zero k), fun r hr hu => absurd hu (by rw [h r hr]; decide), fun v _ hv => absurd hv (Nat.not_lt_zero v), fun v _ _ hv => absurd hv (Nat.not_lt_zero v)⟩
theorem sd_GI_none {F : Type} [Lean.Grind.CommRing F] {N : Nat} {M0 M : Nat → Nat → F} {used : Nat → Bool} {ro : Nat → Option Nat} {u : Nat} (h : sd_GI N M0 M used ro u) (hz : ∀ r, r < N → used r = false → M r u = 0) : sd_GI N M0 M used (sd_up ro u none) (u + 1) := by
  obtain ⟨h1, h2, h3, h4, h5⟩ := h
  have key : ∀ v r, v < u + 1 → sd_up ro u none v = some r → v < u ∧ ro v = some r := by
    intro v r hv hr
    by_cases e : v = u
    · rw [e, sd_up_s] at hr; cases hr
    · rw [sd_up_n ro none e] at hr
      exact ⟨by omega, hr⟩
  refine ⟨h1, fun r hr hu k hk => ?_, fun r hr hu => ?_, fun v r hv hr => ?_, fun v w r hv hw a b => ?_⟩
  · rcases Nat.lt_or_ge k u with q | q
    · exact h2 r hr hu k q
    · rw [show k = u by omega]; exact hz r hr hu
  · obtain ⟨v, hv, e⟩ := h3 r hr hu
    exact ⟨v, by omega, by rw [sd_up_n ro none (by omega)]; exact e⟩
  · obtain ⟨a, b⟩ := key v r hv hr
    exact h4 v r a b
  · obtain ⟨a1, a2⟩ := key v r hv a
    obtain ⟨b1, b2⟩ := key w r hw b
    exact h5 v w r a1 b1 a2 b2
theorem sd_GI_some {F : Type} [Lean.Grind.CommRing F] {N : Nat} {M0 M : Nat → Nat → F} {used : Nat → Bool} {ro : Nat → Option Nat} {u r : Nat} {s : F} (h : sd_GI N M0 M used ro u) (hr : r < N) (hu : used r = false) (hs : M r u * s = 1) :
    sd_GI N M0 (sd_elim M r u s) (sd_up used r true) (sd_up ro u (some r)) (u + 1) := by
  obtain ⟨h1, h2, h3, h4, h5⟩ := h
  have hrz := h2 r hr hu
  have hold : ∀ v q, v < u → ro v = some q → q ≠ r := by
    intro v q hv hq e
    have := (h4 v q hv hq).2.1
    rw [e, hu] at this
    cases this
  have key : ∀ v q, v < u + 1 → sd_up ro u (some r) v = some q → (v = u ∧ q = r) ∨ (v < u ∧ ro v = some q) := by
    intro v q hv hq
    by_cases e : v = u
    · rw [e, sd_up_s] at hq
      exact Or.inl ⟨e, (Option.some.inj hq).symm⟩
    · rw [sd_up_n ro _ e] at hq
      exact Or.inr ⟨by omega, hq⟩
  refine ⟨fun z => (sd_elim_sat M N r u s hr hs z).trans (h1 z), fun a ha hua k hk => ?_, fun a ha hua => ?_, fun v q hv hq => ?_, fun v w q hv hw a b => ?_⟩
  · have hne : a ≠ r := fun e => by rw [e, sd_up_s] at hua; cases hua
    rw [sd_up_n used true hne] at hua
    rw [sd_elim_ne M s k hne]
    rcases Nat.lt_or_ge k u with q | q
    · rw [h2 a ha hua k q, hrz k q]
      grind
    · rw [show k = u by omega, hs]
      grind
  · by_cases e : a = r
    · exact ⟨u, by omega, by rw [sd_up_s, e]⟩
    · rw [sd_up_n used true e] at hua
      obtain ⟨v, hv, hq⟩ := h3 a ha hua
      exact ⟨v, by omega, by rw [sd_up_n ro _ (by omega)]; exact hq⟩
  · rcases key v q hv hq with ⟨e1, e2⟩ | ⟨hv2, hq2⟩
    · rw [e1, e2]
      refine ⟨hr, sd_up_s used r true, by rw [sd_elim_self]; exact hs, fun a _ hne => ?_⟩
      rw [sd_elim_ne M s u hne, hs]
      grind
    · obtain ⟨a1, a2, a3, a4⟩ := h4 v q hv2 hq2
      have hne := hold v q hv2 hq2
      refine ⟨a1, by rw [sd_up_n used true hne]; exact a2, ?_, fun a ha hna => ?_⟩
      · rw [sd_elim_ne M s v hne, hrz v hv2, a3]
        grind
      · by_cases e : a = r
        · rw [e, sd_elim_self, hrz v hv2]
          grind
        · rw [sd_elim_ne M s v e, hrz v hv2, a4 a ha hna]
          grind
  · rcases key v q hv a with ⟨e1, e2⟩ | ⟨hv2, hq2⟩ <;> rcases key w q hw b with ⟨e3, e4⟩ | ⟨hw2, hp2⟩
    · omega
    · exact absurd e2 (hold w q hw2 hp2)
    · exact absurd e4 (hold v q hv2 hq2)
    · exact h5 v w q hv2 hw2 hq2 hp2
theorem sd_Sat_congr {F : Type} [Lean.Grind.CommRing F] {M M2 : Nat → Nat → F} {N : Nat} (h : ∀ r k, r < N → k ≤ N → M2 r k = M r k) (z : Nat → F) : sd_Sat M2 N z ↔ sd_Sat M N z := by
  have e : ∀ r, r < N → (sd_sum (fun k => M2 r k * z k) N = sd_sum (fun k => M r k * z k) N ∧ M2 r N = M r N) := fun r hr =>
    ⟨sd_sum_congr N (fun k hk => by rw [h r k hr (by omega)]), h r N hr (Nat.le_refl N)⟩
  exact ⟨fun q r hr => by rw [← (e r hr).1, ← (e r hr).2]; exact q r hr, fun q r hr => by rw [(e r hr).1, (e r hr).2]; exact q r hr⟩
theorem sd_GI_congr {F : Type} [Lean.Grind.CommRing F] {N : Nat} {M0 M M2 : Nat → Nat → F} {used used2 : Nat → Bool} {ro ro2 : Nat → Option Nat} {u : Nat} (hu : u ≤ N) (h : sd_GI N M0 M used ro u)
    (hM : ∀ r k, r < N → k ≤ N → M2 r k = M r k) (hU : ∀ r, r < N → used2 r = used r) (hR : ∀ v, v < u → ro2 v = ro v) : sd_GI N M0 M2 used2 ro2 u := by
  obtain ⟨h1, h2, h3, h4, h5⟩ := h
  refine ⟨fun z => (sd_Sat_congr hM z).trans (h1 z), fun r hr q k hk => ?_, fun r hr q => ?_, fun v r hv q => ?_, fun v w r hv hw a b => ?_⟩
  · rw [hM r k hr (by omega)]
    exact h2 r hr (by rw [← hU r hr]; exact q) k hk
  · obtain ⟨v, hv, e⟩ := h3 r hr (by rw [← hU r hr]; exact q)
    exact ⟨v, hv, by rw [hR v hv]; exact e⟩
  · rw [hR v hv] at q
    obtain ⟨a1, a2, a3, a4⟩ := h4 v r hv q
    exact ⟨a1, by rw [hU r a1]; exact a2, by rw [hM r v a1 (by omega)]; exact a3, fun a ha hne => by rw [hM a v ha (by omega)]; exact a4 a ha hne⟩
  · rw [hR v hv] at a
    rw [hR w hw] at b
    exact h5 v w r hv hw a b
def sd_sol {F : Type} [Lean.Grind.CommRing F] (M : Nat → Nat → F) (N : Nat) (ro : Nat → Option Nat) (v : Nat) : F := match ro v with
  | none => 0
  | some r => M r N
theorem sd_GI_end {F : Type} [Lean.Grind.CommRing F] {N : Nat} {M0 M : Nat → Nat → F} {used : Nat → Bool} {ro : Nat → Option Nat} (h : sd_GI N M0 M used ro N) {z0 : Nat → F} (hz : sd_Sat M0 N z0) : sd_Sat M0 N (sd_sol M N ro) := by
  obtain ⟨h1, h2, h3, h4, h5⟩ := h
  have hz1 := (h1 z0).mpr hz
  refine (h1 _).mp ?_
  intro r hr
  cases hu : used r with
  | false =>
    have e0 := hz1 r hr
    rw [sd_sum_zero N (fun k hk => by rw [h2 r hr hu k hk]; grind)] at e0
    rw [← e0]
    exact sd_sum_zero N (fun k hk => by rw [h2 r hr hu k hk]; grind)
  | true =>
    obtain ⟨v, hv, hq⟩ := h3 r hr hu
    obtain ⟨-, -, a3, -⟩ := h4 v r hv hq
    rw [sd_sum_one v N hv]
    · rw [a3, sd_sol, hq]
      grind
    · intro k hk hne
      cases hk2 : ro k with
      | none =>
        rw [sd_sol, hk2]
        grind
      | some q =>
        obtain ⟨-, -, -, b4⟩ := h4 k q hk hk2
        have hqr : r ≠ q := fun e => hne (h5 k v r hk hv (by rw [hk2, e]) hq)
        rw [b4 r hr hqr]
        grind

/-! the desk's state beside the reference's: every answer is the same, and they stay side by side -/
def sd_Rq (a : DS) (b : MS) (q : Nat) : Prop := (sdg a q ≤ 8 ∧ spl a q ≤ 16) ∧ rdg b q = sdg a q ∧ rsz b q = spl a q ∧ ∀ j, 1 ≤ j → j ≤ spl a q → rth b (17 * q + j) = sth a q j ∧ (sth a q j = true → rsh b (17 * q + j) = svl a q j)
def sd_Rf (a : DS) (b : MS) : Prop := (rif b = false → sff a = -1 ∧ ∀ j, 1 ≤ j → j ≤ 16 → sfw a j = false) ∧ (rif b = true → rfs b < 8 ∧ sff a = nI (rfs b) ∧ (∀ k, k < 9 → scu a 2 k = rfo b k) ∧ ∀ j, 1 ≤ j → j ≤ 16 → sfw a j = rwr b j)
def sd_Rel (a : DS) (b : MS) : Prop := (∀ q, q < 8 → sd_Rq a b q) ∧ sd_Rf a b ∧ ∀ k, 1 ≤ k → k ≤ 16 → sd_N k * riv b k = 1
theorem sd_R_mk {a u : DS} {b w : MS} (h : sd_Rel a b) (hf : sd_fs a u) (mf : m_fs b w) (hq : ∀ q, q < 8 → sd_Rq u w q) : sd_Rel u w := by
  obtain ⟨f1, f2, f3⟩ := hf
  obtain ⟨m1, m2, m3, m4, m5⟩ := mf
  refine ⟨hq, ⟨fun e => ?_, fun e => ?_⟩, fun k h1 h2 => by rw [m5]; exact h.2.2 k h1 h2⟩
  · rw [m1] at e
    rw [f2, f3]
    exact h.2.1.1 e
  · rw [m1] at e
    rw [f1, f2, f3, m2, m3, m4]
    exact h.2.1.2 e
theorem sd_R_same {a u : DS} {b w : MS} (h : sd_Rel a b) (hs : sd_same a u) (ms : m_same b w) : sd_Rel u w := by
  obtain ⟨s1, s2, s3, s4, s5⟩ := hs
  obtain ⟨t1, t2, t3, t4, t5⟩ := ms
  refine sd_R_mk h s5 t5 (fun q hq => ?_)
  unfold sd_Rq
  rw [s1, s2, s3, s4, t1, t2, t3, t4]
  exact h.1 q hq
theorem sd_R_ok {a : DS} {b : MS} (h : sd_Rel a b) : ∀ q, q < 8 → sdg a q ≤ 8 ∧ spl a q ≤ 16 := fun q hq => (h.1 q hq).1
theorem sd_R_okm {a : DS} {b : MS} (h : sd_Rel a b) : ∀ q, q < 8 → rdg b q ≤ 8 ∧ rsz b q ≤ 16 := fun q hq => by
  obtain ⟨o, d, z, -⟩ := h.1 q hq
  rw [d, z]
  exact o
theorem T_put {x y : Int32} {v : Int64} {a u : DS} {b w : MS} {r r2 : Int32} (h : sd_Rel a b) (hp : P_put x y v a r u) (hm : M_put x y v b r2 w) : r = r2 ∧ sd_Rel u w := by
  rcases hp with ⟨q, k, p1, p2, p3, p4, p5, p6, p7, p8, p9, p10, p11⟩ | ⟨p1, p2, p3⟩ <;> rcases hm with ⟨q2, k2, m1, m2, m3, m4, m5, m6, m7, m8, m9, m10, m11⟩ | ⟨m1, m2, m3⟩
  · have e1 := sd_nI_inj (by omega) (by omega) (p2.symm.trans m2)
    subst e1
    obtain ⟨o, d, z, t⟩ := h.1 q p1
    have e2 := sd_nI_inj (by omega) (by omega) (p5.symm.trans m5)
    subst e2
    refine ⟨p6.trans m6.symm, sd_R_mk h p11 m11 (fun i hi => ?_)⟩
    obtain ⟨o2, d2, z2, t2⟩ := h.1 i hi
    unfold sd_Rq
    rw [p7, p8, p9, p10, m7, m8, m9, m10]
    refine ⟨o2, d2, z2, fun j j1 j2 => ?_⟩
    rw [sd_up2, sd_up2]
    by_cases e : i = q ∧ j = k
    · rw [if_pos e, if_pos e, e.1, e.2, sd_up_s, sd_up_s]
      exact ⟨rfl, fun _ => rfl⟩
    · rw [if_neg e, if_neg e, sd_up_n _ _ (fun z => e (by omega)), sd_up_n _ _ (fun z => e (by omega))]
      exact t2 j j1 j2
  · exact absurd ⟨q, k, p1, p2, p3, by rw [(h.1 q p1).2.2.1]; exact p4, p5⟩ m1
  · exact absurd ⟨q2, k2, m1, m2, m3, by rw [← (h.1 q2 m1).2.2.1]; exact m4, m5⟩ p1
  · exact ⟨p2.trans m2.symm, sd_R_same h p3 m3⟩
theorem T_lose {x y : Int32} {a u : DS} {b w : MS} {r r2 : Int32} (h : sd_Rel a b) (hp : P_lose x y a r u) (hm : M_lose x y b r2 w) : r = r2 ∧ sd_Rel u w := by
  rcases hp with ⟨q, k, p1, p2, p3, p4, p5, p0, p6, p7, p8, p9, p10, p11⟩ | ⟨p1, p2, p3⟩ <;> rcases hm with ⟨q2, k2, m1, m2, m3, m4, m5, m0, m6, m7, m8, m9, m10, m11⟩ | ⟨m1, m2, m3⟩
  · have e1 := sd_nI_inj (by omega) (by omega) (p2.symm.trans m2)
    subst e1
    obtain ⟨o, d, z, t⟩ := h.1 q p1
    have e2 := sd_nI_inj (by omega) (by omega) (p5.symm.trans m5)
    subst e2
    refine ⟨p6.trans m6.symm, sd_R_mk h p11 m11 (fun i hi => ?_)⟩
    obtain ⟨o2, d2, z2, t2⟩ := h.1 i hi
    unfold sd_Rq
    rw [p7, p8, p9, p10, m7, m8, m9, m10]
    refine ⟨o2, d2, z2, fun j j1 j2 => ?_⟩
    rw [sd_up2]
    by_cases e : i = q ∧ j = k
    · rw [if_pos e, e.1, e.2, sd_up_s]
      exact ⟨rfl, fun z => nomatch z⟩
    · rw [if_neg e, sd_up_n _ _ (fun z => e (by omega))]
      exact t2 j j1 j2
  · exact absurd ⟨q, k, p1, p2, p3, by rw [(h.1 q p1).2.2.1]; exact p4, p5, by rw [((h.1 q p1).2.2.2 k p3 p4).1]; exact p0⟩ m1
  · have m4' : k2 ≤ spl a q2 := by rw [← (h.1 q2 m1).2.2.1]; exact m4
    exact absurd ⟨q2, k2, m1, m2, m3, m4', m5, by rw [← ((h.1 q2 m1).2.2.2 k2 m3 m4').1]; exact m0⟩ p1
  · exact ⟨p2.trans m2.symm, sd_R_same h p3 m3⟩
theorem T_scale {x : Int32} {v v2 : Int64} {a u : DS} {b w : MS} {r r2 : Int32} (h : sd_Rel a b) (hp : P_scale x v v2 a r u) (hm : M_scale x v v2 b r2 w) : r = r2 ∧ sd_Rel u w := by
  rcases hp with ⟨q, p1, p2, p6, p7, p8, p9, p10, p11, p12⟩ | ⟨p1, p2, p3⟩ <;> rcases hm with ⟨q2, m1, m2, m6, m7, m8, m9, m10, m11⟩ | ⟨m1, m2, m3⟩
  · have e1 := sd_nI_inj (by omega) (by omega) (p2.symm.trans m2)
    subst e1
    refine ⟨p6.trans m6.symm, sd_R_mk h p10 m10 (fun i hi => ?_)⟩
    obtain ⟨o, d, z, t⟩ := h.1 q p1
    obtain ⟨o2, d2, z2, t2⟩ := h.1 i hi
    unfold sd_Rq
    rw [p7, p8, p9, m7, m8, m9]
    refine ⟨o2, d2, z2, fun j j1 j2 => ⟨(t2 j j1 j2).1, fun ht => ?_⟩⟩
    rw [m11, z]
    by_cases e : i = q
    · subst e
      rw [if_pos (by omega), p12 j j1 j2 ht, (t2 j j1 j2).2 ht]
    · rw [if_neg (by omega), p11 i j e, (t2 j j1 j2).2 ht]
  · exact absurd ⟨q, p1, p2⟩ m1
  · exact absurd ⟨q2, m1, m2⟩ p1
  · exact ⟨p2.trans m2.symm, sd_R_same h p3 m3⟩
theorem T_renew {x : Int32} {seed : Int64} {a u : DS} {b w : MS} {r r2 : Int32} (h : sd_Rel a b) (hp : P_renew x seed a r u) (hm : M_renew x seed b r2 w) : r = r2 ∧ sd_Rel u w := by
  rcases hp with ⟨q, p1, p2, p6, p7, p8, p9, p10, p11, p12⟩ | ⟨p1, p2, p3⟩ <;> rcases hm with ⟨q2, m1, m2, m6, m7, m8, m9, m10, m11⟩ | ⟨m1, m2, m3⟩
  · have e1 := sd_nI_inj (by omega) (by omega) (p2.symm.trans m2)
    subst e1
    refine ⟨p6.trans m6.symm, sd_R_mk h p10 m10 (fun i hi => ?_)⟩
    obtain ⟨o, d, z, t⟩ := h.1 q p1
    obtain ⟨o2, d2, z2, t2⟩ := h.1 i hi
    unfold sd_Rq
    rw [p7, p8, p9, m7, m8, m9]
    refine ⟨o2, d2, z2, fun j j1 j2 => ⟨(t2 j j1 j2).1, fun ht => ?_⟩⟩
    rw [m11, z]
    by_cases e : i = q
    · subst e
      rw [if_pos (by omega), p12 j j1 j2 ht, (t2 j j1 j2).2 ht, d, Nat.add_sub_cancel_left]
    · rw [if_neg (by omega), p11 i j e, (t2 j j1 j2).2 ht]
  · exact absurd ⟨q, p1, p2⟩ m1
  · exact absurd ⟨q2, m1, m2⟩ p1
  · exact ⟨p2.trans m2.symm, sd_R_same h p3 m3⟩
theorem T_deal {x y z : Int32} {v seed : Int64} {a u : DS} {b w : MS} {r r2 : Int32} (h : sd_Rel a b) (hp : P_deal x y z v seed a r u) (hm : M_deal x y z v seed b r2 w) : r = r2 ∧ sd_Rel u w := by
  rcases hp with ⟨q, t, n, p1, p6, p7, p8, p10, p11⟩ | ⟨p1, p2, p3⟩ <;> rcases hm with ⟨q2, t2, n2, m1, m6, m7, m8, m10, m11⟩ | ⟨m1, m2, m3⟩
  · obtain ⟨g1, g2, g3, g4, g5, g6, g7⟩ := p1
    obtain ⟨k1, k2, k3, k4, k5, k6, k7⟩ := m1
    have e1 := sd_nI_inj (by omega) (by omega) (g2.symm.trans k2)
    have e2 := sd_nI_inj (by omega) (by omega) (g4.symm.trans k4)
    have e3 := sd_nI_inj (by omega) (by omega) (g7.symm.trans k7)
    subst e1
    subst e2
    subst e3
    refine ⟨p6.trans m6.symm, sd_R_mk h p10 m10 (fun i hi => ?_)⟩
    obtain ⟨o2, d2, z2, s2⟩ := h.1 i hi
    unfold sd_Rq
    rw [p7, p8, m7, m8]
    by_cases e : i = q
    · subst e
      rw [sd_up_s, sd_up_s, sd_up_s, sd_up_s]
      refine ⟨⟨g3, g6⟩, rfl, rfl, fun j j1 j2 => ?_⟩
      rw [(m11 _).1, (m11 _).2, (p11 i j).1, (p11 i j).2, if_pos (by omega), if_pos (by omega), if_pos (by omega), if_pos (by omega), Nat.add_sub_cancel_left]
      exact ⟨rfl, fun _ => rfl⟩
    · rw [sd_up_n _ _ e, sd_up_n _ _ e, sd_up_n _ _ e, sd_up_n _ _ e]
      refine ⟨o2, d2, z2, fun j j1 j2 => ?_⟩
      rw [(m11 _).1, (m11 _).2, (p11 i j).1, (p11 i j).2, if_neg (by omega), if_neg (by omega), if_neg (by omega), if_neg (by omega)]
      exact s2 j j1 j2
  · exact absurd ⟨q, t, n, p1⟩ m1
  · exact absurd ⟨q2, t2, n2, m1⟩ p1
  · exact ⟨p2.trans m2.symm, sd_R_same h p3 m3⟩
theorem sd_jd_R {a : DS} {b : MS} {qa qb k : Nat} (h : sd_Rel a b) (ha : qa < 8) (hb : qb < 8) : m_jd b qa qb k = sd_jd a qa qb k := by
  unfold m_jd sd_jd
  rw [(h.1 qa ha).2.1, (h.1 qb hb).2.1]
theorem T_join {x y z v : Int32} {a u : DS} {b w : MS} {r r2 : Int32} (h : sd_Rel a b) (hp : P_join x y z v a r u) (hm : M_join x y z v b r2 w) : r = r2 ∧ sd_Rel u w := by
  rcases hp with ⟨q, qa, qb, k, p1, p6, p7, p8, p10, p11, p12⟩ | ⟨p1, p2, p3⟩ <;> rcases hm with ⟨q2, qa2, qb2, k2, m1, m6, m7, m8, m10, m11⟩ | ⟨m1, m2, m3⟩
  · obtain ⟨g1, g2, g3, g4, g5, g6, g7, g8, g9⟩ := p1
    obtain ⟨l1, l2, l3, l4, l5, l6, l7, l8, l9⟩ := m1
    have e1 := sd_nI_inj (by omega) (by omega) (g2.symm.trans l2)
    have e2 := sd_nI_inj (by omega) (by omega) (g4.symm.trans l4)
    have e3 := sd_nI_inj (by omega) (by omega) (g6.symm.trans l6)
    have e4 := sd_nI_inj (by omega) (by omega) (g8.symm.trans l8)
    subst e1
    subst e2
    subst e3
    subst e4
    obtain ⟨oa, da, za, ta⟩ := h.1 qa g3
    obtain ⟨ob, db, zb, tb⟩ := h.1 qb g5
    refine ⟨p6.trans m6.symm, sd_R_mk h p10 m10 (fun i hi => ?_)⟩
    obtain ⟨o2, d2, z2, s2⟩ := h.1 i hi
    unfold sd_Rq
    rw [p7, p8, m7, m8, sd_jd_R h g3 g5, za, zb]
    rw [za, zb] at m11
    by_cases e : i = q
    · subst e
      rw [sd_up_s, sd_up_s, sd_up_s, sd_up_s]
      refine ⟨⟨g9, by omega⟩, rfl, rfl, fun j j1 j2 => ?_⟩
      have n1 := (m11 (17 * i + j)).1 (by omega)
      rw [Nat.add_sub_cancel_left] at n1
      have n2 := p12 j j1 j2
      rw [n1.1, n1.2, n2.1, (ta j j1 (by omega)).1, (tb j j1 (by omega)).1]
      refine ⟨rfl, fun ht => ?_⟩
      have ht2 := Bool.and_eq_true_iff.mp ht
      rw [n2.2 ht2.1 ht2.2, (ta j j1 (by omega)).2 ht2.1, (tb j j1 (by omega)).2 ht2.2]
    · rw [sd_up_n _ _ e, sd_up_n _ _ e, sd_up_n _ _ e, sd_up_n _ _ e]
      refine ⟨o2, d2, z2, fun j j1 j2 => ?_⟩
      have n1 := (m11 (17 * i + j)).2 (by omega)
      rw [n1.1, n1.2, (p11 i j e).1, (p11 i j e).2]
      exact s2 j j1 j2
  · obtain ⟨g1, g2, g3, g4, g5, g6, g7, g8, g9⟩ := p1
    exact absurd ⟨q, qa, qb, k, g1, g2, g3, g4, g5, g6, g7, g8, by rw [sd_jd_R h g3 g5]; exact g9⟩ m1
  · obtain ⟨l1, l2, l3, l4, l5, l6, l7, l8, l9⟩ := m1
    exact absurd ⟨q2, qa2, qb2, k2, l1, l2, l3, l4, l5, l6, l7, l8, by rw [← sd_jd_R h l3 l5]; exact l9⟩ p1
  · exact ⟨p2.trans m2.symm, sd_R_same h p3 m3⟩
theorem T_mend {a u : DS} {b w : MS} {r r2 : Int32} (h : sd_Rel a b) (hp : P_mend a r u) (hm : M_mend b r2 w) : r = r2 ∧ sd_Rel u w := by
  rcases hp with ⟨q, p1, p2, p6, p7, p8, p10, p11⟩ | ⟨p1, p2, p3⟩ <;> rcases hm with ⟨m1, m6, m7, m8, m10, m11⟩ | ⟨m1, m2, m3⟩
  · obtain ⟨f1, f2, f3, f4⟩ := h.2.1.2 m1
    have e1 := sd_nI_inj (by omega) (by omega) (p2.symm.trans f2)
    rw [← e1] at m11
    obtain ⟨oq, dq, zq, tq⟩ := h.1 q p1
    rw [zq] at m11
    refine ⟨p6.trans m6.symm, sd_R_mk h p10 m10 (fun i hi => ?_)⟩
    obtain ⟨o2, d2, z2, s2⟩ := h.1 i hi
    unfold sd_Rq
    rw [p7, p8, m7, m8]
    refine ⟨o2, d2, z2, fun j j1 j2 => ?_⟩
    rw [(m11 _).1, (m11 _).2, (p11 i j).1, (p11 i j).2]
    by_cases e : i = q
    · subst e
      rw [if_pos (by omega), if_pos (by omega), if_pos (by omega), if_pos (by omega), Nat.add_sub_cancel_left, sd_ev_c f3]
      exact ⟨rfl, fun _ => rfl⟩
    · rw [if_neg (by omega), if_neg (by omega), if_neg (by omega), if_neg (by omega)]
      exact s2 j j1 j2
  · have z := (h.2.1.1 m1).1
    rw [p2] at z
    exact absurd z (sd_m1_ne (by omega))
  · obtain ⟨f1, f2, f3, f4⟩ := h.2.1.2 m1
    exact absurd ⟨rfs b, f1, f2⟩ p1
  · exact ⟨p2.trans m2.symm, sd_R_same h p3 m3⟩
theorem sd_cnt_R {a : DS} {b : MS} {q : Nat} (h : sd_Rel a b) (hq : q < 8) : sd_cnt (m_th b q) (rsz b q) = sd_cnt (sth a q) (spl a q) := by
  obtain ⟨o, d, z, t⟩ := h.1 q hq
  rw [z]
  exact sd_cnt_congr _ (fun j j1 j2 => (t j j1 j2).1)
theorem T_split {x y : Int32} {a : DS} {b w : MS} {r r2 : Int32} (h : sd_Rel a b) (hp : P_split x y a r) (hs : m_same b w) (hm : M_split x y b r2) : r = r2 ∧ sd_Rel a w := by
  refine ⟨?_, sd_R_same h ⟨rfl, rfl, rfl, rfl, rfl, rfl, rfl⟩ hs⟩
  rcases hp with ⟨q, p1, p2, p3⟩ | ⟨p1, p2⟩ <;> rcases hm with ⟨q2, m1, m2, m3⟩ | ⟨m1, m2⟩
  · have e1 := sd_nI_inj (by omega) (by omega) (p2.symm.trans m2)
    subst e1
    have e2 : sd_cnt (fun j => rth b (17 * q + j)) (rsz b q) = sd_cnt (sth a q) (spl a q) := sd_cnt_R h p1
    obtain ⟨o, d, z, t⟩ := h.1 q p1
    rw [p3, m3, e2, d, z]
  · exact absurd ⟨q, p1, p2⟩ m1
  · exact absurd ⟨q2, m1, m2⟩ p1
  · rw [p2, m2]
theorem T_wrong {x : Int32} {a : DS} {b : MS} (h : sd_Rel a b) : bI (sd_hs 16 (sfw a) x) = bI (rif b && sd_hs 16 (rwr b) x) := by
  unfold sd_hs
  by_cases hx : sd_hp 16 x = true
  · obtain ⟨j, j1, j2, rfl⟩ := sd_hp_of (by decide) hx
    rw [hx, Bool.true_and, Bool.true_and, nI_toInt (by omega), Int.toNat_natCast]
    cases e : rif b with
    | false => rw [(h.2.1.1 e).2 j j1 j2]; rfl
    | true => rw [(h.2.1.2 e).2.2.2 j j1 j2]; rfl
  · rw [Bool.not_eq_true] at hx
    rw [hx, Bool.false_and, Bool.false_and, Bool.and_false]
theorem sd_ms_R {a : DS} {b : MS} {q : Nat} (h : sd_Rel a b) (hq : q < 8) (f : Nat → FP) (j : Nat) (j1 : 1 ≤ j) (j2 : j ≤ spl a q) : sd_ms (m_th b q) (m_vl b q) f j = sd_ms (sth a q) (svl a q) f j := by
  obtain ⟨o, d, z, t⟩ := h.1 q hq
  unfold sd_ms
  show (rth b (17 * q + j) && decide (¬ rsh b (17 * q + j) = sd_ev f (sd_N j))) = _
  rw [(t j j1 j2).1]
  cases e : sth a q j with
  | false => rfl
  | true => rw [(t j j1 j2).2 e]
theorem sd_Fd_R {a : DS} {b : MS} {q e : Nat} (h : sd_Rel a b) (hq : q < 8) (f : Nat → FP) : sd_Fd (rdg b q) (rsz b q) e (m_th b q) (m_vl b q) f ↔ sd_Fd (sdg a q) (spl a q) e (sth a q) (svl a q) f := by
  unfold sd_Fd
  rw [sd_cnt_congr (rsz b q) (fun j j1 j2 => sd_ms_R h hq f j j1 (by rw [← (h.1 q hq).2.2.1]; exact j2)), (h.1 q hq).2.1, (h.1 q hq).2.2.1]
theorem sd_fv_R {x y : Int32} {a : DS} {b : MS} {q e : Nat} (h : sd_Rel a b) : m_fv b x y q e ↔ P_fv a x y q e := by
  unfold m_fv P_fv
  refine ⟨fun ⟨h1, h2, h3, h4, h5⟩ => ⟨h1, h2, h3, h4, ?_⟩, fun ⟨h1, h2, h3, h4, h5⟩ => ⟨h1, h2, h3, h4, ?_⟩⟩
  · have z := sd_cnt_R h h1
    have d := (h.1 q h1).2.1
    rw [← z, ← d]
    exact h5
  · have z : sd_cnt (fun j => rth b (17 * q + j)) (rsz b q) = sd_cnt (sth a q) (spl a q) := sd_cnt_R h h1
    have d := (h.1 q h1).2.1
    rw [z, d]
    exact h5
theorem sd_fv_un {x y : Int32} {a : DS} {q e q2 e2 : Nat} (h1 : P_fv a x y q e) (h2 : P_fv a x y q2 e2) : q = q2 ∧ e = e2 := ⟨sd_nI_inj (by have := h1.1; omega) (by have := h2.1; omega) (h1.2.1.symm.trans h2.2.1), sd_nI_inj (by have := h1.2.2.1; omega) (by have := h2.2.2.1; omega) (h1.2.2.2.1.symm.trans h2.2.2.2.1)⟩
/-- find: the same thrown, or the same number; o is what the class put out -/
theorem T_find {x y : Int32} {a u : DS} {b w : MS} {r r2 : Int32} {o : Int64} (h : sd_Rel a b) (hp : H_find x y a r u o) (hm : M_find x y b r2 w) : rtn w = r ∧ (r = nI 0 → o = r2.toInt64) ∧ sd_Rel u w := by
  obtain ⟨n1, n2, n3, n4, n5, hm⟩ := hm
  rcases hp with ⟨p0, v, ⟨q, e, p1, p2, p3, p4, p5, p6, p7, p8, p9⟩, p10⟩ | ⟨p0, p1, p2⟩ | ⟨p0, p1, p2⟩
  · rcases hm with ⟨m1, m2, m3⟩ | ⟨q2, e2, m1, m2, m3, m4⟩ | ⟨q2, e2, m1, m2, m3, m4, m5, m6, m7⟩
    · exact absurd ⟨q, e, (sd_fv_R h).mpr p1⟩ m1
    · obtain ⟨rfl, rfl⟩ := sd_fv_un p1 ((sd_fv_R h).mp m1)
      exact absurd ⟨scu u 2, (sd_Fd_R h p1.1 _).mpr p7⟩ m2
    · obtain ⟨rfl, rfl⟩ := sd_fv_un p1 ((sd_fv_R h).mp m1)
      have hq := p1.1
      obtain ⟨oq, dq, zq, tq⟩ := h.1 q hq
      have hu := sd_Fd_un oq.1 oq.2 p1.2.2.2.2 p7 ((sd_Fd_R h hq _).mp m2)
      refine ⟨m3.trans p0.symm, fun _ => ?_, ⟨fun i hi => ?_, ⟨fun e9 => ?_, fun _ => ?_⟩, ?_⟩⟩
      · rw [p10, p9, m7, zq, sd_cnt_congr (spl a q) (fun j j1 j2 => sd_ms_R h hq (rfo w) j j1 j2), sd_cm_c hu]
      · unfold sd_Rq
        rw [p2, p3, p4, p5, n1, n2, n3, n4]
        exact h.1 i hi
      · rw [m4] at e9
        cases e9
      · refine ⟨by rw [m5]; exact hq, by rw [m5]; exact p6, hu, fun j j1 j2 => ?_⟩
        rw [p8 j j1 j2, m6 j j1 j2, sd_mk_c hu, zq]
        unfold sd_mk
        by_cases e9 : j ≤ spl a q
        · rw [sd_ms_R h hq _ j j1 e9]
        · rw [decide_eq_false e9, Bool.false_and, Bool.false_and]
      · rw [n5]
        exact h.2.2
  · rcases hm with ⟨m1, m2, m3⟩ | ⟨q2, e2, m1, m2, m3, m4⟩ | ⟨q2, e2, m1, m2, m3, m4, m5, m6, m7⟩
    · exact ⟨m2.trans p0.symm, fun z => absurd (p0.symm.trans z) (by decide), sd_R_same h p1 ⟨n1, n2, n3, n4, m3⟩⟩
    · rcases p2 with ⟨-, p2⟩ | ⟨z, -⟩
      · exact absurd ⟨q2, e2, (sd_fv_R h).mp m1⟩ p2
      · exact absurd z (by decide)
    · rcases p2 with ⟨-, p2⟩ | ⟨z, -⟩
      · exact absurd ⟨q2, e2, (sd_fv_R h).mp m1⟩ p2
      · exact absurd z (by decide)
  · rcases p2 with ⟨z, -⟩ | ⟨-, q, e, p3, p4⟩
    · exact absurd z (by decide)
    · rcases hm with ⟨m1, m2, m3⟩ | ⟨q2, e2, m1, m2, m3, m4⟩ | ⟨q2, e2, m1, m2, m3, m4, m5, m6, m7⟩
      · exact absurd ⟨q, e, (sd_fv_R h).mpr p3⟩ m1
      · exact ⟨m3.trans p0.symm, fun z => absurd (p0.symm.trans z) (by decide), sd_R_same h p1 ⟨n1, n2, n3, n4, m4⟩⟩
      · obtain ⟨rfl, rfl⟩ := sd_fv_un p3 ((sd_fv_R h).mp m1)
        exact absurd ⟨rfo w, (sd_Fd_R h p3.1 _).mp m2⟩ p4
theorem T_at {x : Int64} {a u : DS} {b w : MS} {r : Int32} {r2 o : Int64} (h : sd_Rel a b) (hp : H_at x a r u o) (m1 : rtn w = (if rif b = true then nI 0 else nI 1)) (m2 : m_same b w) (m3 : rif b = true → r2 = sd_L (sd_ev (rfo b) (sd_of x))) : rtn w = r ∧ (r = nI 0 → o = r2) ∧ sd_Rel u w := by
  rcases hp with ⟨p0, p1, p2, p3⟩ | ⟨p0, p1, p2, p3⟩
  · cases e : rif b with
    | false => exact absurd (h.2.1.1 e).1 p2
    | true =>
      rw [if_pos e] at m1
      refine ⟨m1.trans p0.symm, fun _ => ?_, sd_R_same h p1 m2⟩
      rw [p3, m3 e, sd_ev_c (h.2.1.2 e).2.2.1]
  · cases e : rif b with
    | false =>
      rw [if_neg (by rw [e]; decide)] at m1
      exact ⟨m1.trans p0.symm, fun z => absurd (p0.symm.trans z) (by decide), sd_R_same h p1 m2⟩
    | true =>
      have z := (h.2.1.2 e).2.1
      rw [p3] at z
      exact absurd z.symm (sd_m1_ne (by have := (h.2.1.2 e).1; omega))
theorem T_part {x : Int32} {a u : DS} {b w : MS} {r : Int32} {r2 o : Int64} (h : sd_Rel a b) (hp : H_part x a r u o) (m2 : m_same b w) (hm : M_part x b r2 w) : rtn w = r ∧ (r = nI 0 → o = r2) ∧ sd_Rel u w := by
  have key : sff a ≠ -1 ↔ rif b = true := by
    cases e : rif b with
    | false => exact ⟨fun z => absurd (h.2.1.1 e).1 z, fun z => nomatch z⟩
    | true =>
      refine ⟨fun _ => rfl, fun _ z => ?_⟩
      have y := (h.2.1.2 e).2.1
      rw [z] at y
      exact absurd y.symm (sd_m1_ne (by have := (h.2.1.2 e).1; omega))
  rcases hp with ⟨p0, p1, k, p2, p3, p4, p5⟩ | ⟨p0, p1, p2, p3⟩ <;> rcases hm with ⟨k2, m3, m4, m5, m6, m7⟩ | ⟨m3, m4⟩
  · have e1 := sd_nI_inj (by omega) (by omega) (p3.symm.trans m4)
    subst e1
    refine ⟨m6.trans p0.symm, fun _ => ?_, sd_R_same h p1 m2⟩
    rw [p5, m7, (h.2.1.2 m5).2.2.1 k (by omega)]
  · exact absurd ⟨k, p2, p3, key.mp p4⟩ m3
  · exact absurd ⟨k2, m3, m4, key.mpr m5⟩ p3
  · exact ⟨m4.trans p0.symm, fun z => absurd (p0.symm.trans z) (by decide), sd_R_same h p1 m2⟩
theorem T_share {x y : Int32} {a u : DS} {b w : MS} {r : Int32} {r2 o : Int64} (h : sd_Rel a b) (hp : H_share x y a r u o) (m2 : m_same b w) (hm : M_share x y b r2 w) : rtn w = r ∧ (r = nI 0 → o = r2) ∧ sd_Rel u w := by
  rcases hp with ⟨p0, p1, q, k, ⟨p2, p3, p4, p5, p6, p7⟩, p8⟩ | ⟨p0, p1, p2, p3⟩ <;> rcases hm with ⟨q2, k2, m3, m4, m5, m6, m7, m8, m9, m10⟩ | ⟨m3, m4⟩
  · have e1 := sd_nI_inj (by omega) (by omega) (p3.symm.trans m4)
    subst e1
    obtain ⟨oq, dq, zq, tq⟩ := h.1 q p2
    have e2 := sd_nI_inj (by omega) (by omega) (p6.symm.trans m7)
    subst e2
    refine ⟨m9.trans p0.symm, fun _ => ?_, sd_R_same h p1 m2⟩
    rw [p8, m10, (tq k p4 p5).2 p7]
  · obtain ⟨oq, dq, zq, tq⟩ := h.1 q p2
    exact absurd ⟨q, k, p2, p3, p4, by rw [zq]; exact p5, p6, by rw [(tq k p4 p5).1]; exact p7⟩ m3
  · obtain ⟨oq, dq, zq, tq⟩ := h.1 q2 m3
    have m6' : k2 ≤ spl a q2 := by rw [← zq]; exact m6
    exact absurd ⟨q2, k2, m3, m4, m5, m6', m7, by rw [← (tq k2 m5 m6').1]; exact m8⟩ p3
  · exact ⟨m4.trans p0.symm, fun z => absurd (p0.symm.trans z) (by decide), sd_R_same h p1 m2⟩
theorem sd_Rel_0 {iv : Nat → FP} (h : ∀ k, 1 ≤ k → k ≤ 16 → sd_N k * iv k = 1) : sd_Rel ((fun _ => 0), (fun _ => 0), (fun _ _ => 0), (fun _ _ => false), (fun _ _ => 0), (fun _ _ => 0), (fun _ => false), (fun _ => 0), (fun _ => 0), (fun _ => false), -1) (0, (fun _ => 0), (fun _ => 0), (fun _ => 0), (fun _ => false), iv, false, 0, (fun _ => 0), (fun _ => false), (fun _ => 0), 0, (fun _ => 0), (fun _ => 0), (fun _ => 0)) :=
  ⟨fun q hq => ⟨⟨Nat.zero_le _, Nat.zero_le _⟩, rfl, rfl, fun j h1 h2 => absurd h1 (Nat.not_le.mpr (Nat.lt_succ_of_le h2))⟩, ⟨fun _ => ⟨rfl, fun _ _ _ => rfl⟩, fun z => nomatch z⟩, h⟩

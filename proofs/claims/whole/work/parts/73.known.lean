/-! the start: what the machine's start gives, the three objects, the loop -/
theorem sd_str {own tx : String} {k : Nat} {args : Array Value} {s : State} (h : (Cond.stringRef own k tx).before args s = true) : ∃ a, vk_R own k tx a s := by
  have h0 := h
  simp only [Cond.before, Cond.holds, Cond.value] at h
  cases hc : s.vm.findClass own with
  | none => simp [hc] at h
  | some c =>
    cases hr : s.resolvedAt? own k with
    | none => simp [hc, hr] at h
    | some r =>
      cases r with
      | string a =>
        refine ⟨a, vk_R.of h0 ?_⟩
        simp only [State.resolvedAt?, hc] at hr
        simp only [Term.eval, hc]
        cases hk : s.vm.classes[c]? with
        | none => simp [hk] at hr
        | some kk =>
          simp [hk] at hr
          simp [hk, hr]
      | _ => simp [hc, hr] at h
theorem sd_kl {args : Array Value} {s : State} (h : (Cond.arrayClass .long).before args s = true) : ∃ c, ArrOfT s c .long ∧ va_RA s c .long := by
  obtain ⟨c, k, comp, h1, h2, h3⟩ := Cond.arrayClass_spec h
  exact ⟨c, fun n z => ⟨(fun k9 h9 => by cases h9), k, h2, comp, h3⟩, h1⟩
theorem sd_kz {args : Array Value} {s : State} (h : (Cond.arrayClass .boolean).before args s = true) : ∃ c, ArrOfT s c .boolean ∧ va_RA s c .boolean := by
  obtain ⟨c, k, comp, h1, h2, h3⟩ := Cond.arrayClass_spec h
  exact ⟨c, fun n z => ⟨(fun k9 h9 => by cases h9), k, h2, comp, h3⟩, h1⟩
theorem sd_ki {args : Array Value} {s : State} (h : (Cond.arrayClass .int).before args s = true) : ∃ c, ArrOfT s c .int ∧ va_RA s c .int := by
  obtain ⟨c, k, comp, h1, h2, h3⟩ := Cond.arrayClass_spec h
  exact ⟨c, fun n z => ⟨(fun k9 h9 => by cases h9), k, h2, comp, h3⟩, h1⟩
theorem sd_kq {s : State} (h : va_AO "SplitDesk$Split" s) : ∃ c, ArrOfT s c (.object "SplitDesk$Split") ∧ va_RA s c (.object "SplitDesk$Split") := by
  obtain ⟨comp, c, k, h1, h2, h3, h4, h5⟩ := Cond.arrayOver_spec h
  exact ⟨c, fun n z => ⟨(fun k9 h9 => by cases h9), k, h3, comp, h4⟩, k, comp, h3, h4, h1, h5⟩
theorem sd_ka2 {s : State} (h : va_AOA .long s) : ∃ c, ArrOfT s c (.array .long) ∧ va_RA s c (.array .long) := by
  obtain ⟨comp, c, k, h1, h2, h3, h4, h5⟩ := sd_over h
  exact ⟨c, fun n z => ⟨(fun k9 h9 => by cases h9), k, h3, comp, h4⟩, h5⟩
theorem sd_ty_mk {D : va_G} {s : State} (hK : ∀ (k : Nat) (q : vw_C), vwCl[k]? = some q → u_Kn s q.1 q.2.1 q.2.2 (D.1 k) (D.2 k)) {c0 c1 c2 c3 c4 : ClassId} (h0 : ArrOfT s c0 .long ∧ va_RA s c0 .long) (h1 : ArrOfT s c1 .boolean ∧ va_RA s c1 .boolean) (h2 : ArrOfT s c2 .int ∧ va_RA s c2 .int) (h3 : ArrOfT s c3 (.object "SplitDesk$Split") ∧ va_RA s c3 (.object "SplitDesk$Split")) (h4 : ArrOfT s c4 (.array .long) ∧ va_RA s c4 (.array .long)) : ∃ tc : Nat → ClassId, va_K D vwCl (ty5 tc) s := by
  refine ⟨fun k => match k with | 0 => c0 | 1 => c1 | 2 => c2 | 3 => c3 | _ => c4, hK, fun k q hq => ?_⟩
  match k, hq with
  | 0, hq => cases hq; exact h0
  | 1, hq => cases hq; exact h1
  | 2, hq => cases hq; exact h2
  | 3, hq => cases hq; exact h3
  | 4, hq => cases hq; exact h4
  | k + 5, hq => exact absurd hq (by simp)
theorem sd_cl_mk {args : Array Value} {s : State} (hts : ∀ w ∈ bg, w.before args s = true) : ∃ D : va_G, ∀ (k : Nat) (q : vw_C), vwCl[k]? = some q → u_Kn s q.1 q.2.1 q.2.2 (D.1 k) (D.2 k) := by
  obtain ⟨c0, i0, k0⟩ := u_known (C := RX0) (T := TX0) (N := 1) (n := 1) hts inX0 (hts _ wa_X0)
  obtain ⟨c1, i1, k1⟩ := u_known (C := RX1) (T := TX1) (N := 5) (n := 5) hts inX1 (hts _ wa_X1)
  obtain ⟨c3, i3, k3⟩ := u_known (C := RX3) (T := TX3) (N := 4) (n := 4) hts inX3 (hts _ wa_X3)
  obtain ⟨c4, i4, k4⟩ := u_known (C := RX4) (T := TX4) (N := 6) (n := 6) hts inX4 (hts _ wa_X4)
  obtain ⟨c5, i5, k5⟩ := u_known (C := RX5) (T := TX5) (N := 15) (n := 15) hts inX5 (hts _ wa_X5)
  refine ⟨(fun k => match k with | 0 => c0 | 1 => c1 | 2 => c0 | 3 => c3 | 4 => c4 | _ => c5, fun k => match k with | 0 => i0 | 1 => i1 | 2 => i0 | 3 => i3 | 4 => i4 | _ => i5), fun k q hq => ?_⟩
  match k, hq with
  | 0, hq => cases hq; exact k0
  | 1, hq => cases hq; exact k1
  | 2, hq => cases hq; exact k0
  | 3, hq => cases hq; exact k3
  | 4, hq => cases hq; exact k4
  | 5, hq => cases hq; exact k5
  | k + 6, hq => exact absurd hq (by simp)
theorem sd_Cv_mk {args : Array Value} {s : State} (h : ∀ w ∈ lw_tbl, w.before args s = true) : sd_Cv s := ⟨va_Nw.of rfl (h _ (by decide +kernel)), va_Nw.of rfl (h _ (by decide +kernel)), va_Nw.of rfl (h _ (by decide +kernel)), va_Nw.of rfl (h _ (by decide +kernel)), h (.arrayOver (.object RX3)) (by decide +kernel), h (.arrayOver (.array .long)) (by decide +kernel)⟩
theorem sd_Ev_mk {args : Array Value} {s : State} (h : ∀ w ∈ lw_tbl, w.before args s = true) (hg : (Jvm.Cond.and given_1 narrow_1).before args s = true) : sd_Ev s := by
  have hm : ∀ w ∈ sd_dcl ++ [.castable eN eN, .castable eA eA, .castable eS eS], w ∈ lw_tbl := by decide +kernel
  exact ⟨fun w hw => va_Nw.of (sd_nw w hw) (h w (hm w hw)), va_Nc.of (flat_of_before _ hg (.not (.castable eS eA)) (by decide +kernel)), sd_str (h _ (by decide +kernel)), sd_str (h _ (by decide +kernel)), sd_str (h _ (by decide +kernel)), sd_str (h _ (by decide +kernel)), sd_str (h _ (by decide +kernel)), sd_str (h _ (by decide +kernel))⟩
theorem sd_Es_mk {args : Array Value} {s : State} (h : ∀ w ∈ lw_tbl, w.before args s = true) (hg : (Jvm.Cond.and given_1 narrow_1).before args s = true) : sd_Es (sd_LA s) s s.heap :=
  ⟨vx_Zqof (h _ (by decide +kernel)) (h _ (by decide +kernel)) (flat_of_before _ hg _ (by decide +kernel)) (fun a ha => Nat.not_le.mpr ha), vx_Zqof (h _ (by decide +kernel)) (h _ (by decide +kernel)) (flat_of_before _ hg _ (by decide +kernel)) (fun a ha => Nat.not_le.mpr ha)⟩

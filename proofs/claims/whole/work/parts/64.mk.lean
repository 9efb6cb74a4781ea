/-! rows for constructors: arrays and objects made, fields set once, calls of constructors -/
theorem wd_obj : Cond.code objectInit ⟨#[0xb1]⟩ 1 none ∈ bg := bg_1 22 rfl rfl
theorem sd_ra {s : State} {c1 c2 : ClassId} {ty : FieldType} (h1 : va_RA s c1 ty) (h2 : va_RA s c2 ty) : c1 = c2 := by
  cases ty with
  | object C =>
    obtain ⟨_, _, _, _, _, e1⟩ := h1
    obtain ⟨_, _, _, _, _, e2⟩ := h2
    exact Option.some.inj (e1.symm.trans e2)
  | _ => exact Option.some.inj (h1.symm.trans h2)
theorem sd_tyE {D : va_G} {cl : List vw_C} {tys : List (ClassId × FieldType)} {s : State} {c c0 : ClassId} {ty : FieldType} (hK : va_K D cl (tys ++ [(c, ty)]) s) {i : Nat} (hi : tys[i]? = some (c0, ty)) : c = c0 :=
  sd_ra (hK.2 tys.length (c, ty) (by rw [List.getElem?_append_right (Nat.le_refl _), Nat.sub_self]; rfl)).2 (hK.2 i (c0, ty) (by rw [List.getElem?_append_left (List.getElem?_eq_some_iff.mp hi).1]; exact hi)).2
theorem sd_arrE {c : ClassId} {n : Nat} {f g : Nat → Value} (h : ∀ j, j < n → f j = g j) : arrV c n f = arrV c n g := by
  unfold arrV
  congr 2
  funext j
  exact h j.1 j.2
/-- an array of references whose elements are the same as far as it goes -/
theorem sd_Pq {D : va_G} {cl : List vw_C} {ws ws2 : va_W} {H : Heap} {k a : Nat} {c : ClassId} {n : Nat} {f g : Nat → Option Nat} (h : va_P D cl ws H) (hk : ws[k]? = some (a, aR c n f)) (hfg : ∀ j, j < n → f j = g j) (hw : ws.set k (a, aR c n g) = ws2) : va_P D cl ws2 H := by
  subst hw
  intro i q hi
  by_cases e : i = k
  · subst e
    have hl := (List.getElem?_eq_some_iff.mp hk).1
    rw [List.getElem?_set_self hl] at hi
    cases hi
    have z : H[a]? = some (vp_cell c (n, .inr (.inr (.inr (.inr f))))) := h i _ hk
    show H[a]? = some (vp_cell c (n, .inr (.inr (.inr (.inr g)))))
    rw [z, vp_cell_q, vp_cell_q, sd_arrE (fun j hj => by rw [hfg j hj])]
  · rw [List.getElem?_set_ne (fun z => e z.symm)] at hi
    exact h i q hi
section
variable {p : Program} {l : Launch} {e : Env} {R : Room} {s : State} {m : MethodId} {args : Array Value} {below : List Frame} {meth : Method} {c : Code} {H : Heap} {locs : List Loc} {cells slots : Nat} {Q : State → Prop}
variable {cc : ByteArray} {pc : Nat} {ls : Array Slot} {rest st0 : List Value} {D : va_G} {cl : List vw_C} {A A0 : Nat → Prop} {a : Nat} {tys : List (ClassId × FieldType)} {ws : va_W} {H0 : Heap} {av : List Value} {mc ms : Nat} {aa : Array Value}
theorem sd_newA (hexec : p.tables.exec = Jvm.exec) (hb : c.code = cc) {atype : ArrayType} (harr : (Cond.arrayClass (newarray.typeOf atype)).before args s = true) {ty : FieldType} (hty : newarray.typeOf atype = ty) (hK : va_K D cl tys s) (hP : va_P D cl ws H) (hD : va_D A ws) (hS : va_S A H0 H locs) (hA : ∀ q, H0.size ≤ q → A q)
    {n : Nat} {a0 : vp_A} (i : Nat) {c0 : ClassId} (hi : tys[i]? = some (c0, ty)) (ha : ∀ cA : ClassId, vp_cell cA a0 = arrV cA n (fun _ => defaultValue ty)) (hn : n < 2 ^ 31) (hbytes : n * componentBytes ty ≤ 536870912) (hcells : cells + 1 ≤ R.cells) (hslots : slots + n ≤ R.slots) (hdg : decode cc pc = .ok (.newarray atype, 2))
    (kk : ∀ (q : Nat) (H1 : Heap), va_P D cl (ws ++ [(q, .inl (c0, a0))]) H1 → va_D A (ws ++ [(q, .inl (c0, a0))]) → va_S A H0 H1 locs → W p l e R s m args below meth c H1 locs (cells + 1) (slots + n) Q (F0 m (pc + 2) ls (.ref q :: rest))) : W p l e R s m args below meth c H locs cells slots Q (F0 m pc ls (.int (nI n) :: rest)) := by
  refine va_newa hexec hb harr hty hK hP hD hS hA ha (nI_pos hn) (nI_clamp hn) hbytes hcells hslots hdg (fun q cA H1 hK1 hP1 hD1 hS1 => ?_)
  rw [sd_tyE hK1 hi] at hP1 hD1
  exact kk q H1 hP1 hD1 hS1
theorem sd_cl {n : Nat} (cA : ClassId) : vp_cell cA (n, .inr (.inl (fun _ => sd_L 0))) = arrV cA n (fun _ => defaultValue .long) := by rw [sd_L_0]; rfl
theorem sd_cz {n : Nat} (cA : ClassId) : vp_cell cA (n, .inl (fun _ => bI false)) = arrV cA n (fun _ => defaultValue .boolean) := rfl
theorem sd_ci {n : Nat} (cA : ClassId) : vp_cell cA (n, .inl (fun _ => (0 : Int32))) = arrV cA n (fun _ => defaultValue .int) := rfl
theorem sd_cn {n : Nat} (cA : ClassId) : vp_cell cA (n, .inl (fun _ => nI 0)) = arrV cA n (fun _ => defaultValue .int) := rfl
theorem sd_putF (hexec : p.tables.exec = Jvm.exec) (hb : c.code = cc) {own C : String} {T : u_T} {N ci index : Nat} {Ts : List Cond} (hts : ∀ w ∈ Ts, w.before args s = true) (hin : ∀ w ∈ u_ws C T N, w ∈ Ts) (ty0 : Nat → FieldType) (hty : ∀ k, k < N → parseFieldDescriptor (T k).2.2.1 = some (ty0 k)) (hnm : ∀ a, a < N → ∀ b, b < N → a ≠ b → (T a).2.1 ≠ (T b).2.1) (hown : s.vm.findClass own = some m.cls) (hK : va_K D cl tys s) (hP : va_P D cl ws H) (hD : va_D A ws) (hS0 : va_S A H0 H locs) (q0 : Nat) {fs fs2 : List Value} (he : ws[q0]? = some (a, .inr (ci, fs))) (hc : cl[ci]? = some (C, T, N)) (k : Nat) (hk : k < N) (hlink : (Cond.fieldLink own index own (T k).2.1 (T k).2.2.1).before args s = true) (hsame : (T k).1 = own) (hfin : (T k).2.2.2 = true) (hin2 : meth.name = "<init>") {v : Value} (hn : narrow (ty0 k) v = v) (hfit : fits (ty0 k) v = true) (hl : k < fs.length) (hfs : fs.set k v = fs2) {ws2 : va_W} (hw : ws.set q0 (a, .inr (ci, fs2)) = ws2) (hdg : decode cc pc = .ok (.putfield index, 3))
    (kk : ∀ (H1 : Heap) (locs1 : List Loc), va_P D cl ws2 H1 → va_D A ws2 → va_S A H0 H1 locs1 → W p l e R s m args below meth c H1 locs1 cells slots Q (F0 m (pc + 3) ls rest)) : W p l e R s m args below meth c H locs cells slots Q (F0 m pc ls (v :: .ref a :: rest)) := by
  subst hfs
  subst hw
  exact va_putF hexec hb hts hin ty0 hty hnm hown hK hP hD hS0 q0 he hc k hk hlink (fun x hx => by rw [← hsame]; exact hx) hfin hin2 hsame (hty k hk) hn hfit hl hdg kk
/-- a constructor called on the cell made last -/
theorem sd_ctor {S : Type} {post : S → Prop} {w : S → va_W} {wr wc : va_W} (hr : va_Run p l e R s m args below meth c H locs cells slots mc ms (F0 m pc ls st0) rest (va_Qv post (sd_B D cl tys (va_A wc H.size) w) (va_A wc H.size) aa) (va_A wc H.size)) (hP : va_P D cl (wr ++ wc) H) (hD : va_D A0 (wr ++ wc)) (hS : va_S A0 H0 H locs) (hA : ∀ q, H0.size ≤ q → A0 q)
    (kk : ∀ (u : S) (H1 : Heap) (locs1 : List Loc), post u → va_P D cl (wr ++ w u) H1 → va_D A0 (wr ++ w u) → va_S A0 H0 H1 locs1 → W p l e R s m args below meth c H1 locs1 (cells + mc) (slots + ms) Q (F0 m (pc + 3) ls rest)) : W p l e R s m args below meth c H locs cells slots Q (F0 m pc ls st0) := by
  have hF := sd_free (sd_D_r hD) hS hA
  refine va_callv hr hS (fun q _ h => hF q h) hF (fun u t H1 locs1 ht hvm hu hB hz hk hS1 => ?_)
  obtain ⟨hP1, hK1, hD1⟩ := hB
  rw [ht] at hP1
  have hAp := (sd_D_x hD).symm
  exact kk u H1 locs1 hu ((sd_kp (sd_P_l hP) hAp hk).app hP1) ((sd_D_l hD).app (hD1.weaken (fun k q _ h => hF q.1 h)) (sd_ka (sd_P_l hP) hAp hD1).symm) hS1
end
/-- what constructors need of the machine's part of the start -/
def sd_Cv (U : State) : Prop := va_Nw (.methodLinkNest RX4 17 yX0_init RX4) U ∧ va_Nw (.methodLinkNest RX4 24 yX1_init RX4) U ∧ va_Nw (.methodLinkNest RX1 11 yX0_init RX4) U ∧ va_Nw (.methodLinkNest RX4 40 yX3_init RX4) U ∧ va_AO RX3 U ∧ va_AOA .long U
theorem sd_Cv.warm {s U : State} (hW : s.WarmedH U.vm) (h : sd_Cv s) : sd_Cv U := ⟨va_Nw.warmM hW h.1, va_Nw.warmM hW h.2.1, va_Nw.warmM hW h.2.2.1, va_Nw.warmM hW h.2.2.2.1, va_AO.moved hW.alike h.2.2.2.2.1, va_AOA.moved hW.alike h.2.2.2.2.2⟩
theorem sd_Cv.same {u U : State} (hv : U.vm = u.vm) (h : sd_Cv u) : sd_Cv U := ⟨va_Nw.same rfl hv.symm h.1, va_Nw.same rfl hv.symm h.2.1, va_Nw.same rfl hv.symm h.2.2.1, va_Nw.same rfl hv.symm h.2.2.2.1, va_AO.moved (by rw [hv]; exact Vm.Alike.refl _) h.2.2.2.2.1, va_AOA.moved (by rw [hv]; exact Vm.Alike.refl _) h.2.2.2.2.2⟩
def sd_Cr (D : va_G) (cl : List vw_C) (tys : List (ClassId × FieldType)) (ws : va_W) (sz : Nat) (av : List Value) : Array Value → State → Prop := va_Pc av (fun U => U.heap.size = sz ∧ va_P D cl ws U.heap ∧ va_K D cl tys U ∧ va_D (fun _ => True) ws ∧ sd_Cv U)
theorem sd_preC {D : va_G} {cl : List vw_C} {tys : List (ClassId × FieldType)} {ws : va_W} {A : Nat → Prop} {s : State} {H : Heap} {av : List Value} (hP : va_P D cl ws H) (hK : va_K D cl tys s) (hD : va_D A ws) (hC : sd_Cv s) : PreS s H (sd_Cr D cl tys ws H.size av) av :=
  ⟨fun a U g mk q => by
      obtain ⟨q0, q1, qP, qK, qD, qC⟩ := q
      exact ⟨q0, q1, qP, va_K.moved (u := U) (U := U.calling g mk a) (Vm.Alike.refl U.vm) qK, qD, sd_Cv.same (u := U) (U := U.calling g mk a) rfl qC⟩,
    fun U hU2 hW => ⟨rfl, by rw [hU2], by rw [hU2]; exact hP, va_K.moved hW.alike hK, hD.weaken (fun _ _ _ _ => trivial), hC.warm hW⟩⟩

section
-- ===== PART A: goes FIRST, ahead of the names: the tables' words, and 'selects' of the private methods out of them =====
/-- a private method of a class that the tables say can be made, by its rows of tables_1 -/
def lw_okq (q : MethodName × Nat) : Prop := (q.1.cls ≠ "java/lang/invoke/MethodHandle" ∧ q.1.cls ≠ "java/lang/invoke/VarHandle") ∧ Cond.instantiable q.1.cls q.2 ∈ tables_1 ∧ Cond.privateMethod q.1 ∈ tables_1 ∧ Cond.instanceMethod q.1 ∈ tables_1
theorem lw_p0 : lw_okq (⟨"SplitDesk", "splitOrNull", "(I)LSplitDesk$Split;"⟩, 6) := ⟨⟨by decide +kernel, by decide +kernel⟩, List.mem_of_getElem? (i := 16) (by decide +kernel), List.mem_of_getElem? (i := 115) (by decide +kernel), List.mem_of_getElem? (i := 116) (by decide +kernel)⟩
theorem lw_p1 : lw_okq (⟨"java/lang/Throwable", "fillInStackTrace", "(I)Ljava/lang/Throwable;"⟩, 6) := ⟨⟨by decide +kernel, by decide +kernel⟩, List.mem_of_getElem? (i := 270) (by decide +kernel), List.mem_of_getElem? (i := 268) (by decide +kernel), List.mem_of_getElem? (i := 269) (by decide +kernel)⟩
theorem lw_p2 : lw_okq (⟨"SplitDesk$Finder", "writeEquations", "(LSplitDesk$Split;II)V"⟩, 5) := ⟨⟨by decide +kernel, by decide +kernel⟩, List.mem_of_getElem? (i := 39) (by decide +kernel), List.mem_of_getElem? (i := 309) (by decide +kernel), List.mem_of_getElem? (i := 310) (by decide +kernel)⟩
theorem lw_p3 : lw_okq (⟨"SplitDesk$Finder", "solveEquations", "(I)V"⟩, 5) := ⟨⟨by decide +kernel, by decide +kernel⟩, List.mem_of_getElem? (i := 39) (by decide +kernel), List.mem_of_getElem? (i := 319) (by decide +kernel), List.mem_of_getElem? (i := 320) (by decide +kernel)⟩
theorem lw_p4 : lw_okq (⟨"SplitDesk$Finder", "unusedRowWith", "(II)I"⟩, 5) := ⟨⟨by decide +kernel, by decide +kernel⟩, List.mem_of_getElem? (i := 39) (by decide +kernel), List.mem_of_getElem? (i := 323) (by decide +kernel), List.mem_of_getElem? (i := 324) (by decide +kernel)⟩
theorem lw_p5 : lw_okq (⟨"SplitDesk$Finder", "clearElsewhere", "(III)V"⟩, 5) := ⟨⟨by decide +kernel, by decide +kernel⟩, List.mem_of_getElem? (i := 39) (by decide +kernel), List.mem_of_getElem? (i := 334) (by decide +kernel), List.mem_of_getElem? (i := 335) (by decide +kernel)⟩
theorem lw_p6 : lw_okq (⟨"SplitDesk$Finder", "divide", "(II)V"⟩, 5) := ⟨⟨by decide +kernel, by decide +kernel⟩, List.mem_of_getElem? (i := 39) (by decide +kernel), List.mem_of_getElem? (i := 341) (by decide +kernel), List.mem_of_getElem? (i := 342) (by decide +kernel)⟩
theorem lw_p7 : lw_okq (⟨"SplitDesk", "keepFound", "(ILSplitDesk$Split;)V"⟩, 6) := ⟨⟨by decide +kernel, by decide +kernel⟩, List.mem_of_getElem? (i := 16) (by decide +kernel), List.mem_of_getElem? (i := 370) (by decide +kernel), List.mem_of_getElem? (i := 371) (by decide +kernel)⟩
theorem lw_p8 : lw_okq (⟨"SplitDeskModel", "draw", "(JIJ)V"⟩, 15) := ⟨⟨by decide +kernel, by decide +kernel⟩, List.mem_of_getElem? (i := 422) (by decide +kernel), List.mem_of_getElem? (i := 505) (by decide +kernel), List.mem_of_getElem? (i := 506) (by decide +kernel)⟩
theorem lw_p9 : lw_okq (⟨"SplitDeskModel", "onCurve", "([JIJ)J"⟩, 15) := ⟨⟨by decide +kernel, by decide +kernel⟩, List.mem_of_getElem? (i := 422) (by decide +kernel), List.mem_of_getElem? (i := 517) (by decide +kernel), List.mem_of_getElem? (i := 518) (by decide +kernel)⟩
theorem lw_p10 : lw_okq (⟨"SplitDeskModel", "isPlace", "(II)Z"⟩, 15) := ⟨⟨by decide +kernel, by decide +kernel⟩, List.mem_of_getElem? (i := 422) (by decide +kernel), List.mem_of_getElem? (i := 525) (by decide +kernel), List.mem_of_getElem? (i := 526) (by decide +kernel)⟩
theorem lw_p11 : lw_okq (⟨"SplitDeskModel", "raise", "(I)I"⟩, 15) := ⟨⟨by decide +kernel, by decide +kernel⟩, List.mem_of_getElem? (i := 422) (by decide +kernel), List.mem_of_getElem? (i := 552) (by decide +kernel), List.mem_of_getElem? (i := 553) (by decide +kernel)⟩
theorem lw_p12 : lw_okq (⟨"SplitDeskModel", "isOne", "(III)Z"⟩, 15) := ⟨⟨by decide +kernel, by decide +kernel⟩, List.mem_of_getElem? (i := 422) (by decide +kernel), List.mem_of_getElem? (i := 556) (by decide +kernel), List.mem_of_getElem? (i := 557) (by decide +kernel)⟩
theorem lw_p13 : lw_okq (⟨"SplitDeskModel", "through", "(II)V"⟩, 15) := ⟨⟨by decide +kernel, by decide +kernel⟩, List.mem_of_getElem? (i := 422) (by decide +kernel), List.mem_of_getElem? (i := 560) (by decide +kernel), List.mem_of_getElem? (i := 561) (by decide +kernel)⟩
theorem lw_p14 : lw_okq (⟨"SplitDeskModel", "over", "(JI)J"⟩, 15) := ⟨⟨by decide +kernel, by decide +kernel⟩, List.mem_of_getElem? (i := 422) (by decide +kernel), List.mem_of_getElem? (i := 564) (by decide +kernel), List.mem_of_getElem? (i := 565) (by decide +kernel)⟩
theorem lw_p15 : lw_okq (⟨"SplitDeskModel", "missed", "(II)I"⟩, 15) := ⟨⟨by decide +kernel, by decide +kernel⟩, List.mem_of_getElem? (i := 422) (by decide +kernel), List.mem_of_getElem? (i := 568) (by decide +kernel), List.mem_of_getElem? (i := 569) (by decide +kernel)⟩
def lw_privs_1 : List (MethodName × Nat) := [(⟨"SplitDesk", "splitOrNull", "(I)LSplitDesk$Split;"⟩, 6), (⟨"java/lang/Throwable", "fillInStackTrace", "(I)Ljava/lang/Throwable;"⟩, 6), (⟨"SplitDesk$Finder", "writeEquations", "(LSplitDesk$Split;II)V"⟩, 5), (⟨"SplitDesk$Finder", "solveEquations", "(I)V"⟩, 5), (⟨"SplitDesk$Finder", "unusedRowWith", "(II)I"⟩, 5), (⟨"SplitDesk$Finder", "clearElsewhere", "(III)V"⟩, 5), (⟨"SplitDesk$Finder", "divide", "(II)V"⟩, 5), (⟨"SplitDesk", "keepFound", "(ILSplitDesk$Split;)V"⟩, 6), (⟨"SplitDeskModel", "draw", "(JIJ)V"⟩, 15), (⟨"SplitDeskModel", "onCurve", "([JIJ)J"⟩, 15), (⟨"SplitDeskModel", "isPlace", "(II)Z"⟩, 15), (⟨"SplitDeskModel", "raise", "(I)I"⟩, 15), (⟨"SplitDeskModel", "isOne", "(III)Z"⟩, 15), (⟨"SplitDeskModel", "through", "(II)V"⟩, 15), (⟨"SplitDeskModel", "over", "(JI)J"⟩, 15), (⟨"SplitDeskModel", "missed", "(II)I"⟩, 15)]
theorem lw_r1 : ∀ q ∈ lw_privs_1, lw_okq q := List.forall_mem_cons.mpr ⟨lw_p0, List.forall_mem_cons.mpr ⟨lw_p1, List.forall_mem_cons.mpr ⟨lw_p2, List.forall_mem_cons.mpr ⟨lw_p3, List.forall_mem_cons.mpr ⟨lw_p4, List.forall_mem_cons.mpr ⟨lw_p5, List.forall_mem_cons.mpr ⟨lw_p6, List.forall_mem_cons.mpr ⟨lw_p7, List.forall_mem_cons.mpr ⟨lw_p8, List.forall_mem_cons.mpr ⟨lw_p9, List.forall_mem_cons.mpr ⟨lw_p10, List.forall_mem_cons.mpr ⟨lw_p11, List.forall_mem_cons.mpr ⟨lw_p12, List.forall_mem_cons.mpr ⟨lw_p13, List.forall_mem_cons.mpr ⟨lw_p14, List.forall_mem_cons.mpr ⟨lw_p15, fun _ h => absurd h List.not_mem_nil⟩⟩⟩⟩⟩⟩⟩⟩⟩⟩⟩⟩⟩⟩⟩⟩
def lw_privs : List (MethodName × Nat) := lw_privs_1
def lw_tbl : List Cond := k2_sels lw_privs ++ tables_1
theorem lw_privs_ok : ∀ q ∈ lw_privs, lw_okq q := lw_r1
end
section
/-! the array class over arrays of t (the printed text asks for these two names) -/
def va_AOA (t : FieldType) (U : State) : Prop := (Cond.arrayOver (.array t)).before #[] U = true
theorem va_AOA.use {t : FieldType} {A : Array Value} {U : State} (h : va_AOA t U) : (Cond.arrayOver (.array t)).before A U = true := h
theorem sd_over {t : FieldType} {s : State} (h : va_AOA t s) : ∃ comp c k, s.vm.findClass (FieldType.array t).toString = some comp ∧ (s.vm.classes.findIdx? fun (x : Class) => match x.kind with | .array component _ => component == comp | _ => false) = some c ∧ s.vm.classes[c]? = some k ∧ k.kind = .array comp (.array t) ∧ s.vm.findClass ("[" ++ (FieldType.array t).toString) = some c := by
  simp only [va_AOA, Cond.before, Cond.holds, Cond.value, beq_iff_eq] at h
  cases hc : s.vm.findClass (FieldType.array t).toString with
  | none => simp [hc] at h
  | some comp =>
    simp only [hc, Option.bind_some, Option.bind_eq_some_iff, Option.map_eq_some_iff] at h
    obtain ⟨c, hi, k, hk, hb⟩ := h
    obtain ⟨hlt, hp, -⟩ := Array.findIdx?_eq_some_iff_getElem.mp hi
    have hkk : s.vm.classes[c] = k := (Array.getElem?_eq_some_iff.mp hk).2
    rw [hkk] at hp
    cases hkind : k.kind with
    | array component ty =>
      rw [hkind] at hb hp
      simp at hb hp
      exact ⟨comp, c, k, rfl, hi, hk, by rw [hkind, hp, hb.1], hb.2⟩
    | _ => rw [hkind] at hb; simp at hb
theorem va_AOA.moved {t : FieldType} {u U : State} (hvm : u.vm.Alike U.vm) (h : va_AOA t u) : va_AOA t U := by
  obtain ⟨comp, c, k, h1, h2, h3, h4, h5⟩ := sd_over h
  obtain ⟨k2, hk2, he⟩ := hvm.2.2 _ _ h3
  have hi : (U.vm.classes.findIdx? fun (x : Class) => match x.kind with | .array component _ => component == comp | _ => false) = some c := by
    have a := va_idx_bare U.vm comp
    have b := va_idx_bare u.vm comp
    have hbare : U.vm.bare = u.vm.bare := by first | exact hvm.bare_eq | exact hvm.bare_eq.symm
    rw [hbare] at a
    exact a.symm.trans (b.trans h2)
  have hkind : k2.kind = .array comp (.array t) := by rw [he]; exact h4
  have f1 : U.vm.findClass (FieldType.array t).toString = some comp := by rw [hvm.findClass]; exact h1
  have f2 : U.vm.findClass ("[" ++ (FieldType.array t).toString) = some c := by rw [hvm.findClass]; exact h5
  unfold va_AOA Cond.before Cond.holds
  simp only [Cond.value]
  rw [f1, Option.bind_some]
  refine (congrArg (fun o : Option Nat => (o.bind (fun c => (U.vm.classes[c]?).map fun (k : Class) => match k.kind with | .array _ ty => decide (ty = FieldType.array t) && decide (U.vm.findClass ("[" ++ (FieldType.array t).toString) = some c) | _ => false) == some true)) hi).trans ?_
  simp [hk2, hkind, f2]
section
variable {p : Program} {l : Launch} {e : Env} {R : Room} {s : State} {m : MethodId} {args : Array Value} {below : List Frame} {meth : Method} {c : Code} {H : Heap} {locs : List Loc} {cells slots : Nat} {Q : State → Prop}
variable {cc : ByteArray} {pc : Nat} {ls : Array Slot} {rest : List Value} {D : va_G} {cl : List vw_C} {a : Nat} {tys : List (ClassId × FieldType)} {ws : va_W}
/-- a row of an array of rows of longs -/
theorem sd_aldA (hexec : p.tables.exec = Jvm.exec) (hb : c.code = cc) (hK : va_K D cl tys s) (hP : va_P D cl ws H) (q0 t0 : Nat) {cA : ClassId} {t : FieldType} {n : Nat} {f : Nat → Option Nat} (ha : ws[q0]? = some (a, .inl (cA, n, .inr (.inr (.inr (.inr f)))))) (ht : tys[t0]? = some (cA, .array t)) {k v : Nat} (hk : k < n) (hn : n < 2 ^ 31) (hv : f k = some v) (hdg : decode cc pc = .ok (.aaload, 1))
    (kk : W p l e R s m args below meth c H locs cells slots Q (F0 m (pc + 1) ls (.ref v :: rest))) : W p l e R s m args below meth c H locs cells slots Q (F0 m pc ls (.int (nI k) :: .ref a :: rest)) := by
  have hc : (nI k).toNatClampNeg = k := nI_clamp (by omega)
  have hin : vp_in (nI k) n := vp_in_nI hk hn
  exact W.aald (v := .ref v) (ty := .array t) hexec hb (hP q0 _ ha) ((hK.2 t0 _ ht).1 n (fun j => va_rf (f j))) rfl (fun q => by cases q) (by show ¬ (nI k < 0 ∨ (arrV _ _ _).slots.size ≤ _); rw [arrV_size]; exact hin) (by show (arrV _ _ _).slots[_]? = _; rw [hc, arrV_read _ _ hk, hv]; rfl) rfl rfl hdg kk
/-- an object out of an array of objects -/
theorem sd_aldq (hexec : p.tables.exec = Jvm.exec) (hb : c.code = cc) (hK : va_K D cl tys s) (hP : va_P D cl ws H) (q0 t0 : Nat) {cA : ClassId} {C : String} {n : Nat} {f : Nat → Option Nat} (ha : ws[q0]? = some (a, .inl (cA, n, .inr (.inr (.inr (.inr f)))))) (ht : tys[t0]? = some (cA, .object C)) {k v : Nat} (hk : k < n) (hn : n < 2 ^ 31) (hv : f k = some v) (hdg : decode cc pc = .ok (.aaload, 1))
    (kk : W p l e R s m args below meth c H locs cells slots Q (F0 m (pc + 1) ls (.ref v :: rest))) : W p l e R s m args below meth c H locs cells slots Q (F0 m pc ls (.int (nI k) :: .ref a :: rest)) := by
  refine va_aldq hexec hb hK hP q0 t0 ha ht (vp_in_nI hk hn) hdg ?_
  rw [nI_clamp (by omega), hv]
  exact kk
end
end
section
/-! ===== BEGIN words of one list among another's, by their places ===== -/
theorem goodIn_r {big : List Cond} (ws : List Cond) (ps : List Nat) (hp : ws = ps.filterMap (fun i => big[i]?)) (h : ws.all goodWord = true) : GoodIn big ws := by
  intro w hw
  have h1 := List.all_eq_true.mp h w hw
  rw [hp] at hw
  obtain ⟨i, -, hi⟩ := List.mem_filterMap.mp hw
  have hm : w ∈ big := by first | exact List.mem_of_getElem? hi | exact List.getElem?_mem hi
  exact ⟨hm, good_of_word h1⟩
theorem goodIn_app {big a b : List Cond} (ha : GoodIn big a) (hb : GoodIn big b) : GoodIn big (a ++ b) := fun w h => (List.mem_append.mp h).elim (ha w) (hb w)
theorem goodIn_ca {big a b : List Cond} {c : Cond} (ha : GoodIn big (c :: a)) (hb : GoodIn big b) : GoodIn big (c :: (a ++ b)) := fun w h => (List.mem_cons.mp h).elim (fun e => ha w (List.mem_cons.mpr (Or.inl e))) (fun h => (List.mem_append.mp h).elim (fun h => ha w (List.mem_cons.mpr (Or.inr h))) (hb w))
theorem goodIn_sub {big ws : List Cond} (hm : ∀ w ∈ ws, w ∈ big) (h : ws.all goodWord = true) : GoodIn big ws := fun w hw => ⟨hm w hw, good_of_word (List.all_eq_true.mp h w hw)⟩
/-! ===== END ===== -/

/-! ===== BEGIN new T[n][m]: the outer array a place, the inner ones among the pooled ===== -/
/-- f, but v at every address of l -/
def vr_up {α : Type} (f : Nat → α) (l : List Nat) (v : α) : Nat → α := fun a => if a ∈ l then v else f a
theorem vr_up_in {α : Type} {f : Nat → α} {l : List Nat} {v : α} {a : Nat} (h : a ∈ l) : vr_up f l v a = v := if_pos h
theorem vr_up_ne {α : Type} {f : Nat → α} {l : List Nat} {v : α} {a : Nat} (h : a ∉ l) : vr_up f l v a = f a := if_neg h
theorem vr_rows {L l : List Nat} {f : Nat → va_E} {e : va_E} (h : ∀ a, a ∈ l → a ∉ L) : va_pl L f ++ l.map (fun a => (a, e)) = va_pl (L ++ l) (vr_up f l e) := by
  unfold va_pl
  rw [List.map_append]
  congr 1
  · apply List.map_congr_left
    intro a ha
    rw [vr_up_ne (fun q => h a q ha)]
  · apply List.map_congr_left
    intro a ha
    rw [vr_up_in ha]
theorem vr_lay {X rows : va_W} {x : Nat × va_E} {pl : va_W} {D : va_G} {cl : List vw_C} {H : Heap} (hP : va_P D cl (((X ++ pl) ++ [x]) ++ rows) H) : va_P D cl ((X ++ [x]) ++ (pl ++ rows)) H := by
  rw [List.append_assoc (X ++ pl)] at hP
  have h := va_P.swap hP
  rw [← List.append_assoc X] at h
  have h2 := va_P.swap h
  rw [List.append_assoc (X ++ [x])] at h2
  exact h2
theorem vr_layD {X rows : va_W} {x : Nat × va_E} {pl : va_W} {A : Nat → Prop} (hD : va_D A (((X ++ pl) ++ [x]) ++ rows)) : va_D A ((X ++ [x]) ++ (pl ++ rows)) := by
  rw [List.append_assoc (X ++ pl)] at hD
  have h := va_D.swap hD
  rw [← List.append_assoc X] at h
  have h2 := va_D.swap h
  rw [List.append_assoc (X ++ [x])] at h2
  exact h2
theorem vr_outer (c : ClassId) (N h0 : Nat) : ∀ i : Nat, Jvm.Free.Multi.outerC c N h0 i = arrV c N (fun j => va_rf (if j < i then some (h0 + 1 + j) else none))
  | 0 => by
    show ({ cls := c, slots := Array.replicate N .null, vm := .none } : Cell) = _
    rw [arrV_new]
    refine congrArg (arrV c N) (funext fun j => ?_)
    simp [va_rf]
  | i + 1 => by
    show (Jvm.Free.Multi.outerC c N h0 i).setSlot i (.ref (h0 + 1 + i)) = _
    rw [vr_outer c N h0 i, arrV_store]
    refine congrArg (arrV c N) (funext fun j => ?_)
    by_cases e : j = i
    · subst e
      simp [updV, va_rf]
    · by_cases h : j < i
      · simp [updV, e, h, Nat.lt_succ_of_lt h]
      · simp [updV, e, h, show ¬ j < i + 1 by omega]
section VGM
variable {p : Program} {l : Launch} {e : Env} {R : Room} {s : State} {m : MethodId} {args : Array Value} {below : List Frame} {meth : Method} {c : Code} {H : Heap} {locs : List Loc} {cells slots : Nat} {Q : State → Prop}
variable {cc : ByteArray} {pc : Nat} {ls : Array Slot} {rest : List Value} {D : va_G} {cl : List vw_C} {A : Nat → Prop} {a : Nat} {tys : List (ClassId × FieldType)} {ws : va_W} {H0 : Heap}
theorem va_mna {X : va_W} {L : List Nat} {f : Nat → va_E} {cc : ByteArray} (hexec : p.tables.exec = Jvm.exec) (hb : c.code = cc) {own : String} {index : Nat} {ty : FieldType} {cy : ClassId} (hown : s.vm.findClass own = some m.cls) (hclink : (Cond.classLink own index ("[" ++ (FieldType.array ty).toString)).before args s = true) (hover : va_AOA ty s) (harr : (Cond.arrayClass ty).before args s = true) (hcy : s.vm.findClass (FieldType.array ty).toString = some cy)
    (hK : va_K D cl tys s) (hP : va_P D cl (X ++ va_pl L f) H) (hD : va_D A (X ++ va_pl L f)) (hS : va_S A H0 H locs) (hA : ∀ q, H0.size ≤ q → A q) {n k : Int32} {N' K' : Nat} {z : vp_A} (hn : ¬ n < 0) (hk : ¬ k < 0) (hN : n.toNatClampNeg = N') (hM : k.toNatClampNeg = K')
    (hb1 : N' * 4 ≤ 536870912) (hb2 : K' * componentBytes ty ≤ 536870912) (hb3 : K' ≤ 536870912) (hdf : fits ty (defaultValue ty) = true) (hdd : (defaultValue ty).isDefault = true) (hcells : cells + (1 + N') ≤ R.cells) (hslots : slots + (N' + N' * K') ≤ R.slots) (hz : ∀ c : ClassId, Jvm.Free.Multi.innerC c K' (defaultValue ty) = vp_cell c z) (hdg : decode cc pc = .ok (.multianewarray index 2, 4))
    (kk : ∀ (q : Nat) (r : Nat → Nat) (cA : ClassId) (H1 : Heap), (∀ i j : Nat, i < N' → j < N' → r i = r j → i = j) → (∀ i : Nat, i < N' → r i ∉ L) → va_K D cl (tys ++ [(cA, .array ty)]) s →
      va_P D cl ((X ++ [(q, .inl (cA, N', .inr (.inr (.inr (.inr (fun i => if i < N' then some (r i) else none))))))]) ++ va_pl (L ++ (List.range N').map r) (vr_up f ((List.range N').map r) (.inl (cy, z)))) H1 → va_D A ((X ++ [(q, .inl (cA, N', .inr (.inr (.inr (.inr (fun i => if i < N' then some (r i) else none))))))]) ++ va_pl (L ++ (List.range N').map r) (vr_up f ((List.range N').map r) (.inl (cy, z)))) → va_S A H0 H1 locs →
      W p l e R s m args below meth c H1 locs (cells + 1 + N') (slots + N' + N' * K') Q (F0 m (pc + 4) ls (.ref q :: rest))) : W p l e R s m args below meth c H locs cells slots Q (F0 m pc ls (.int k :: .int n :: rest)) := by
  subst hN
  subst hM
  intro T hT Xs
  obtain ⟨vm₁, cA, comp, -, fA, fC, hO, -, X', step⟩ := Xs.multianewarray2F hexec hown hclink (va_AOA.use hover) harr (g := F0 m pc ls (.int k :: .int n :: rest)) rfl (by rw [hb]; exact hdg) rfl hn hk hb1 hb2 hb3 hdf hdd hcells hslots
  have ec : some cy = some comp := hcy.symm.trans fC
  cases ec
  generalize hF : Jvm.Free.Multi.fill (T.setVm vm₁) cA cy n.toNatClampNeg k.toNatClampNeg (defaultValue ty) n.toNatClampNeg = F at X' step
  have hTh : (T.setVm vm₁).heap = H := hT
  obtain ⟨f1, f2, -, -⟩ := Jvm.Free.Multi.fill_facts (T.setVm vm₁) cA cy n.toNatClampNeg k.toNatClampNeg (defaultValue ty) n.toNatClampNeg
  rw [hF, hTh] at f1 f2
  have hold : ∀ x : Nat, x < H.size → F.heap[x]? = H[x]? := fun x hx => by
    have := Jvm.Free.Multi.fill_old (T.setVm vm₁) cA cy n.toNatClampNeg k.toNatClampNeg (defaultValue ty) (a := x) (by rw [hTh]; exact hx) n.toNatClampNeg
    rw [hF, hTh] at this
    exact this
  have hrow : ∀ j : Nat, j < n.toNatClampNeg → F.heap[H.size + 1 + j]? = some (vp_cell cy z) := fun j hj => by
    have := Jvm.Free.Multi.fill_inner (T.setVm vm₁) cA cy n.toNatClampNeg k.toNatClampNeg (defaultValue ty) n.toNatClampNeg j hj
    rw [hF, hTh, hz] at this
    exact this
  have hout : Jvm.Free.Multi.outerC cA n.toNatClampNeg H.size n.toNatClampNeg = vp_cell cA (n.toNatClampNeg, .inr (.inr (.inr (.inr (fun i => if i < n.toNatClampNeg then some (H.size + 1 + i) else none))))) := by
    rw [vp_cell_q]
    exact vr_outer cA n.toNatClampNeg H.size n.toNatClampNeg
  rw [hout] at f2
  have hlt : ∀ a, a ∈ L → a < H.size := fun a ha => by
    obtain ⟨k9, hk9⟩ := va_pl_get (X := X) (f := f) ha
    exact (hP k9 _ hk9).lt
  have hnl : ∀ i : Nat, i < n.toNatClampNeg → H.size + 1 + i ∉ L := fun i _ h => by
    have := hlt _ h
    omega
  have hnm : ∀ a, a ∈ (List.range n.toNatClampNeg).map (fun i => H.size + 1 + i) → a ∉ L := fun a ha h => by
    obtain ⟨i, -, rfl⟩ := List.mem_map.mp ha
    have := hlt _ h
    omega
  have hP0 : va_P D cl (X ++ va_pl L f) F.heap := hP.kept (fun k9 x hx => hold x.1 ((hP k9 x hx).lt))
  have hP1 : va_P D cl ((X ++ va_pl L f) ++ [(H.size, .inl (cA, n.toNatClampNeg, .inr (.inr (.inr (.inr (fun i => if i < n.toNatClampNeg then some (H.size + 1 + i) else none))))))]) F.heap := hP0.app (fun k9 x hx => by
    have h0 : k9 < 1 := (List.getElem?_eq_some_iff.mp hx).1
    rw [show k9 = 0 by omega] at hx
    cases hx
    exact f2)
  have hP2 : va_P D cl (((X ++ va_pl L f) ++ [(H.size, .inl (cA, n.toNatClampNeg, .inr (.inr (.inr (.inr (fun i => if i < n.toNatClampNeg then some (H.size + 1 + i) else none))))))]) ++ ((List.range n.toNatClampNeg).map (fun i => H.size + 1 + i)).map (fun a => (a, .inl (cy, z)))) F.heap := hP1.app (fun k9 x hx => by
    obtain ⟨a, ha, rfl⟩ := List.mem_map.mp (List.mem_of_getElem? hx)
    obtain ⟨i, hi, rfl⟩ := List.mem_map.mp ha
    exact hrow i (List.mem_range.mp hi))
  have hD2 : va_D A (((X ++ va_pl L f) ++ [(H.size, .inl (cA, n.toNatClampNeg, .inr (.inr (.inr (.inr (fun i => if i < n.toNatClampNeg then some (H.size + 1 + i) else none))))))]) ++ ((List.range n.toNatClampNeg).map (fun i => H.size + 1 + i)).map (fun a => (a, .inl (cy, z)))) := by
    have hD1 := hD.push (e := .inl (cA, n.toNatClampNeg, .inr (.inr (.inr (.inr (fun i => if i < n.toNatClampNeg then some (H.size + 1 + i) else none)))))) hP rfl (hA _ hS.1)
    generalize hW1 : (X ++ va_pl L f) ++ [(H.size, .inl (cA, n.toNatClampNeg, .inr (.inr (.inr (.inr (fun i => if i < n.toNatClampNeg then some (H.size + 1 + i) else none))))))] = W1 at hD1 hP1 ⊢
    have hle : ∀ (k9 : Nat) (x : Nat × va_E), W1[k9]? = some x → x.1 ≤ H.size := fun k9 x hx => by
      rw [← hW1] at hx
      by_cases hl : k9 < (X ++ va_pl L f).length
      · rw [List.getElem?_append_left hl] at hx
        exact Nat.le_of_lt ((hP k9 x hx).lt)
      · rw [List.getElem?_append_right (by omega)] at hx
        have h0 : k9 - (X ++ va_pl L f).length < 1 := (List.getElem?_eq_some_iff.mp hx).1
        rw [show k9 - (X ++ va_pl L f).length = 0 by omega] at hx
        cases hx
        exact Nat.le_refl _
    have hr : ∀ (k9 : Nat) (x : Nat × va_E), (((List.range n.toNatClampNeg).map (fun i => H.size + 1 + i)).map (fun a => ((a, .inl (cy, z)) : Nat × va_E)))[k9]? = some x → x.1 = H.size + 1 + k9 := fun k9 x hx => by
      rw [List.getElem?_map, List.getElem?_map] at hx
      by_cases h9 : k9 < n.toNatClampNeg
      · rw [List.getElem?_range h9] at hx
        cases hx
        rfl
      · have hn0 : (List.range n.toNatClampNeg)[k9]? = none := List.getElem?_eq_none (by rw [List.length_range]; omega)
        rw [hn0] at hx
        cases hx
    refine ⟨fun i j x y hi hj hxy => ?_, fun k9 x hx => ?_⟩
    · by_cases h1 : i < W1.length <;> by_cases h2 : j < W1.length
      · rw [List.getElem?_append_left h1] at hi
        rw [List.getElem?_append_left h2] at hj
        exact hD1.1 i j x y hi hj hxy
      · rw [List.getElem?_append_left h1] at hi
        rw [List.getElem?_append_right (by omega)] at hj
        have := hle _ _ hi
        have := hr _ _ hj
        omega
      · rw [List.getElem?_append_right (by omega)] at hi
        rw [List.getElem?_append_left h2] at hj
        have := hle _ _ hj
        have := hr _ _ hi
        omega
      · rw [List.getElem?_append_right (by omega)] at hi hj
        have := hr _ _ hi
        have := hr _ _ hj
        omega
    · by_cases h1 : k9 < W1.length
      · rw [List.getElem?_append_left h1] at hx
        exact hD1.2 k9 x hx
      · rw [List.getElem?_append_right (by omega)] at hx
        have := hr _ _ hx
        exact hA _ (by have := hS.1; omega)
  have hAr : ArrOfT s cA (.array ty) := fun N9 z9 => by
    obtain ⟨-, k9, hk9, cm9, hkk9⟩ := (hO 0 0 0).1
    exact ⟨(fun q hq => by cases hq), k9, hk9, cm9, hkk9⟩
  have hK2 : va_K D cl (tys ++ [(cA, .array ty)]) s := ⟨hK.1, fun k9 x hx => by
    by_cases hl : k9 < tys.length
    · rw [List.getElem?_append_left hl] at hx
      exact hK.2 k9 x hx
    · rw [List.getElem?_append_right (by omega)] at hx
      have h0 : k9 - tys.length < 1 := (List.getElem?_eq_some_iff.mp hx).1
      rw [show k9 - tys.length = 0 by omega] at hx
      cases hx
      exact ⟨hAr, fA⟩⟩
  obtain ⟨t, a1, b1⟩ := kk H.size (fun i => H.size + 1 + i) cA F.heap (fun i j _ _ h => by have h9 : H.size + 1 + i = H.size + 1 + j := h; omega) hnl hK2 (by rw [← vr_rows hnm]; exact vr_lay hP2) (by rw [← vr_rows hnm]; exact vr_layD hD2) ⟨by rw [f1]; have := hS.1; omega, fun x h1 h2 => (hold x (Nat.lt_of_lt_of_le h1 hS.1)).trans (hS.2.1 x h1 h2), hS.2.2⟩ F rfl X'
  refine ⟨t, step t ?_, b1⟩
  have e : T.heap.size = H.size := by rw [hT]
  rw [e]
  exact a1
end VGM
/-! ===== END ===== -/

/-! ===== BEGIN exceptions that leave a method, and their catching by the caller (launches without stack traces) ===== -/
section VXA
/-! The laws vx_back, vx_callV, vx_callS, vx_callSW, vx_throw0, vx_throwS follow proofs of the library, with one case more: JvmDerived/Free/Laws.lean (Back.of_free), Shelf42/LK1.lean (callV, callS), Shelf/KitTraced.lean (throwNew0V, throwNewS). -/
/-- where a method has thrown q: the class by its name, the cell, what was written, the world -/
def vx_T (XC : String → State → State → Prop) (st : State) (q : Addr) (t : State) (mc ms : Nat) (free : Addr → Prop) : Prop :=
  ∃ (E : String) (ce : Cell) (L : List Loc), XC E st t ∧ t.heap[q]? = some ce ∧ ce.vm = .none ∧ st.vm.findClass E = some ce.cls ∧ st.WarmedH t.vm ∧ st.sameButNew ({ t with vm := st.vm } : State) L mc ms ∧ ∀ z ∈ L, free z.base
def vx_Q (Qc : Array Value → State → Outcome → State → Prop) (XC : String → State → State → Prop) (mc ms : Nat) (free : Addr → Prop) : Array Value → State → Outcome → State → Prop := fun a st o t =>
  (Qc a st o t ∧ ∃ L, FrameEnd st o t L mc ms ∧ ∀ q ∈ L, free q.base) ∨ ∃ q, o = .threw q ∧ vx_T XC st q t mc ms free
/-- a callee that returns or throws -/
def vx_Met (l : Launch) (y : MethodName) (ws : List Cond) (rm : Room) (Pc : Array Value → State → Prop) (Qc : Array Value → State → Outcome → State → Prop) (XC : String → State → State → Prop) (mc ms : Nat) (free : Addr → Prop) : Prop :=
  MetFree l y (headSpec ws rm) Pc (fun _ _ _ _ _ => True) (vx_Q Qc XC mc ms free)
def vx_Post (XC : String → State → State → Prop) (mc ms : Nat) (free : Addr → Prop) : Pt → Array Value → Addr → Pt → Prop := fun A a q B =>
  ∃ (g : JFrame) (mk : MethodId) (t : State) (L : List Loc) (E : String) (ce : Cell), B.U.heap = t.heap ∧ B.U.vm = t.vm ∧ XC E (A.U.calling g mk a) t ∧ t.heap[q]? = some ce ∧ ce.vm = .none ∧ A.U.vm.findClass E = some ce.cls ∧ B.locs = A.locs ++ L ∧ (∀ z ∈ L, free z.base) ∧ B.cells = A.cells + mc ∧ B.slots = A.slots + ms
def vx_Back (l : Launch) (R : Room) (p : Program) (e : Env) (below : List Frame) (s : State) (sargs : Array Value) (y : MethodName) (len W9 : Nat)
    (Pre : Pt → Array Value → Prop) (Post : Pt → Array Value → Option Value → Pt → Prop) (PostX : Pt → Array Value → Addr → Pt → Prop) : Prop :=
  ∀ (m : MethodId) (meth : Method) (c : Code) (A : Pt) (g : JFrame) (ig : Instr) (mk : MethodId) (a : Array Value),
    Stand p l e R s m sargs below meth c A.U A.locs A.cells A.slots → g.method = m → g.locals.size = c.maxLocals → decode c.code g.pc = .ok (ig, len) →
    2 * g.monitorRoom + (g.stack.map fun v => v.category).sum ≤ W9 → A.U.methodNamed? y = some mk → Pre A a →
    (∃ (v : Option Value) (B : Pt), Stand p l e R s m sargs below meth c B.U B.locs B.cells B.slots ∧ Post A a v B ∧
      Steps p.tables e below (doInvoke e (A.U.setTop g) [] mk a).1 (B.U.setTop { g with pc := g.pc + len, stack := v.toList ++ g.stack })) ∨
    (∃ (q : Addr) (B : Pt), Stand p l e R s m sargs below meth c B.U B.locs B.cells B.slots ∧ PostX A a q B ∧
      Steps p.tables e below (doInvoke e (A.U.setTop g) [] mk a).1 ((B.U.setTop g).pushFrame (.throwing q)))
section Payer
variable {l : Launch} {R : Room} {p : Program} {e : Env} {below : List Frame} {s : State} {sargs : Array Value} {y : MethodName} {len W9 : Nat}
theorem vx_back {ws : List Cond} {rm : Room} {Pc : Array Value → State → Prop} {Qc : Array Value → State → Outcome → State → Prop} {XC : String → State → State → Prop} {mc ms : Nat} {free : Addr → Prop} {bytes : ByteArray} {maxL : Nat} {ret : Option FieldType}
    (hM : vx_Met l y ws rm Pc Qc XC mc ms free) (hblind : FrameBlind Pc) (hrc : rm.cells = mc) (hrs : rm.slots = ms)
    (hframes : rm.frames + 1 ≤ R.frames) (hlocals : W9 + (maxL + 11) + rm.locals ≤ R.locals)
    (hws : ∀ w ∈ ws, ∀ a' U, s.WarmedH U.vm → w.before a' U = true) (hcode : Cond.code y bytes maxL ret ∈ ws) (hinit : ∀ a' U, s.WarmedH U.vm → (Cond.initialized y.cls).before a' U = true) :
    vx_Back l R p e below s sargs y len W9 (PreOf R mc ms Pc) (PostOf Qc mc ms free) (vx_Post XC mc ms free) := by
  intro m meth c A g ig mk a X hg hsize hdg hW hn hp
  have h1 : (headSpec ws rm).pre.before a A.U = true := atoms_intro fun w hw => hws w hw _ _ X.warmed
  have h2 : (Cond.code y bytes maxL ret).before a A.U = true := hws _ hcode _ _ X.warmed
  have h3 : (Cond.initialized y.cls).before a A.U = true := hinit _ _ X.warmed
  have h4 : A.cells + (headSpec ws rm).room.cells ≤ R.cells := by rw [show (headSpec ws rm).room.cells = mc from hrc]; exact hp.1
  have h5 : A.slots + (headSpec ws rm).room.slots ≤ R.slots := by rw [show (headSpec ws rm).room.slots = ms from hrs]; exact hp.2.1
  have hPc : Pc a (A.U.calling g mk a) := hblind _ _ _ _ hp.2.2
  obtain ⟨U, Ls, c0, s0⟩ := A
  dsimp only [Pt.U, Pt.locs, Pt.cells, Pt.slots] at h1 h2 h3 h4 h5 X hn hPc ⊢
  obtain ⟨methY, cY, hmY, hcY, -, hlY, -, -, -, -⟩ := Cond.code_spec hn h2
  obtain ⟨kY, hkY, -⟩ := className_of_methodNamed hn
  have hinitY : kY.init = .initialized := Cond.initialized_spec (findClass_of_methodNamed hn) hkY h3
  have h : At U g.method c below := by rw [hg]; exact X.here
  have hlocals9 : W9 + (maxL + 11) + (headSpec ws rm).room.locals ≤ R.locals := hlocals
  have happ : (headSpec ws rm).appliesLoose y e.platform (U.calling g mk a) = true :=
    Spec.appliesLoose_calling (g := g) h hdg hn hkY hinitY
      (X.room_calling (g := g) (R' := (headSpec ws rm).room) hsize hmY hcY hframes (by rw [hlY]; omega) h4 h5) h1
  obtain ⟨mid, hmid⟩ := h.above
  have hfr : (U.setTop g).frames = (.java g :: mid) ++ below := by rw [State.frames_setTop' g h.top, hmid]; rfl
  obtain ⟨o, s₂, hsteps, -, hend, hq⟩ := Steps.callFree hM p X.admits X.cas X.clock (acts := []) hfr happ hPc trivial
  have hq' : vx_Q Qc XC mc ms free a (U.calling g mk a) o s₂ := hq
  rw [State.frames_setTop' g h.top] at hend
  obtain ⟨g₀, hg0⟩ := Option.isSome_iff_exists.mp h.top
  obtain ⟨r, hr⟩ := State.topJava?_eq_some.mp hg0
  have hr' : (({ U with heap := s₂.heap, slotsUsed := s₂.slotsUsed } : State).setVm s₂.vm).frames = .java g₀ :: r := hr
  rcases hq' with ⟨hqc, L, hfe, hL⟩ | ⟨q, rfl, E, ce, L, hx, hce, hcv, hcl, hW₂, hsm, hL⟩
  · obtain ⟨⟨v, rfl⟩, hW₂, e2, q2, q3, q4, q5, q6⟩ := id hfe
    have e3 : s₂ = ({ (U.calling g mk a).setFrames s₂.frames with heap := s₂.heap, slotsUsed := s₂.slotsUsed } : State).setVm s₂.vm := by
      have : s₂ = ({ s₂ with vm := (U.calling g mk a).vm } : State).setVm s₂.vm := rfl
      rw [e2] at this
      exact this
    obtain ⟨c₂, i₂, len₂, hc₂, hd₂, hf₂⟩ := hend
    have hW' : U.WarmedH s₂.vm := hW₂
    have hcc : c₂ = c := by
      have h1 : s₂.code? g.method = U.code? g.method := by
        rw [State.code?_eq, State.code?_eq, hW'.alike.method?]
      exact Option.some.inj (hc₂.symm.trans (h1.trans h.code))
    subst hcc
    have hlen : len₂ = len := by rw [hdg] at hd₂; cases hd₂; rfl
    subst hlen
    have hs₂ : s₂ = (({ U with heap := s₂.heap, slotsUsed := s₂.slotsUsed } : State).setVm s₂.vm).setTop { g with pc := g.pc + len₂, stack := v.toList ++ g.stack } := by
      refine e3.trans ?_
      rw [hf₂, State.calling_eq h.top, State.setFrames_setFrames, State.setTop_of_frames _ hr', hr]
      rfl
    have hsame : U.sameButNew ({ U with heap := s₂.heap, slotsUsed := s₂.slotsUsed } : State) L mc ms := by
      refine ⟨?_, q2, q3, q4, q5, q6⟩
      obtain ⟨t, ht, -⟩ := State.frames_cons hr
      show ({ U with heap := s₂.heap, slotsUsed := s₂.slotsUsed } : State) = { U.setFrames U.frames with heap := s₂.heap, slotsUsed := s₂.slotsUsed }
      rw [State.setFrames_self ht]
    subst hg
    refine Or.inl ⟨v, ⟨(({ U with heap := s₂.heap, slotsUsed := s₂.slotsUsed } : State).setVm s₂.vm), Ls ++ L, c0 + mc, s0 + ms⟩,
      ⟨X.admits, X.cas, X.clock, X.frames, X.room, X.hears, X.method, X.code, (X.here.setHeapUsed s₂.heap s₂.slotsUsed).setVm hW'.alike, X.tail, State.WarmedH.trans X.warmed hW', X.limits, X.bytes, X.same.trans (hsame.setVm s.vm)⟩,
      ⟨g, mk, s₂, L, rfl, rfl, hqc, rfl, hL, rfl, rfl⟩, ?_⟩
    show Steps p.tables e below _ ((({ U with heap := s₂.heap, slotsUsed := s₂.slotsUsed } : State).setVm s₂.vm).setTop { g with pc := g.pc + len₂, stack := v.toList ++ g.stack })
    rw [← hs₂]
    exact hsteps
  · obtain ⟨e2, q2, q3, q4, q5, q6⟩ := id hsm
    have e3 : s₂ = ({ (U.calling g mk a).setFrames s₂.frames with heap := s₂.heap, slotsUsed := s₂.slotsUsed } : State).setVm s₂.vm := by
      have : s₂ = ({ s₂ with vm := (U.calling g mk a).vm } : State).setVm s₂.vm := rfl
      rw [e2] at this
      exact this
    have hf₂ : s₂.frames = .throwing q :: .java g :: U.frames.tail := hend
    have hW' : U.WarmedH s₂.vm := hW₂
    have hs₂ : s₂ = ((({ U with heap := s₂.heap, slotsUsed := s₂.slotsUsed } : State).setVm s₂.vm).setTop g).pushFrame (.throwing q) := by
      refine e3.trans ?_
      rw [hf₂, State.calling_eq h.top, State.setFrames_setFrames, State.pushFrame, State.frames_setTop _ hr', State.setTop_of_frames _ hr', State.setFrames_setFrames, hr]
      rfl
    have hsame : U.sameButNew ({ U with heap := s₂.heap, slotsUsed := s₂.slotsUsed } : State) L mc ms := by
      refine ⟨?_, q2, q3, q4, q5, q6⟩
      obtain ⟨t, ht, -⟩ := State.frames_cons hr
      show ({ U with heap := s₂.heap, slotsUsed := s₂.slotsUsed } : State) = { U.setFrames U.frames with heap := s₂.heap, slotsUsed := s₂.slotsUsed }
      rw [State.setFrames_self ht]
    subst hg
    refine Or.inr ⟨q, ⟨(({ U with heap := s₂.heap, slotsUsed := s₂.slotsUsed } : State).setVm s₂.vm), Ls ++ L, c0 + mc, s0 + ms⟩,
      ⟨X.admits, X.cas, X.clock, X.frames, X.room, X.hears, X.method, X.code, (X.here.setHeapUsed s₂.heap s₂.slotsUsed).setVm hW'.alike, X.tail, State.WarmedH.trans X.warmed hW', X.limits, X.bytes, X.same.trans (hsame.setVm s.vm)⟩,
      ⟨g, mk, s₂, L, E, ce, rfl, rfl, hx, hce, hcv, hcl, rfl, hL, rfl, rfl⟩, ?_⟩
    show Steps p.tables e below _ (((({ U with heap := s₂.heap, slotsUsed := s₂.slotsUsed } : State).setVm s₂.vm).setTop g).pushFrame (.throwing q))
    rw [← hs₂]
    exact hsteps
end Payer
section Calls
variable {p : Program} {l : Launch} {e : Env} {R : Room} {s : State} {m : MethodId} {args : Array Value} {below : List Frame} {meth : Method} {c : Code} {T : State} {locs : List Loc} {cells slots : Nat}
theorem vx_callV (X : Stand p l e R s m args below meth c T locs cells slots) (hexec : p.tables.exec = Jvm.exec) {own C : String} {index : Nat} {y : MethodName} {bytes : ByteArray} {maxL : Nat} {ret : Option FieldType}
    (hown : s.vm.findClass own = some m.cls) (hlink : (Cond.methodLink own index y).before args s = true) (hinst : (Cond.instanceMethod y).before args s = true) (hsel : (Cond.selects C y y).before args s = true)
    (hcode : (Cond.code y bytes maxL ret).before args s = true) (hy : y.cls ≠ "java/lang/invoke/MethodHandle" ∧ y.cls ≠ "java/lang/invoke/VarHandle")
    {W9 : Nat} {Pre : Pt → Array Value → Prop} {Post : Pt → Array Value → Option Value → Pt → Prop} {PostX : Pt → Array Value → Addr → Pt → Prop} (hK : vx_Back l R p e below s args y 3 W9 Pre Post PostX)
    {b : Addr} {cellB : Cell} (hcell : T.heap[b]? = some cellB) (hobj : cellB.vm.isStatics = false) (hcls : s.vm.findClass C = some cellB.cls)
    {g : JFrame} (hg : g.method = m) (hsize : g.locals.size = c.maxLocals) {argsL rest : List Value} (hlen : ∀ sig, parseMethodDescriptor y.desc = some sig → argsL.length = sig.parameters.length)
    (hstack : g.stack = argsL.reverse ++ .ref b :: rest) (hW : 2 * g.monitorRoom + (rest.map fun v => v.category).sum ≤ W9) (hdg : decode c.code g.pc = .ok (.invokevirtual index, 3))
    (hpre : ∀ vm₁, s.WarmedH vm₁ → Pre ⟨T.setVm vm₁, locs, cells, slots⟩ (Value.ref b :: argsL).toArray) :
    (∃ (v : Option Value) (vm₁ : Vm) (B : Pt), s.WarmedH vm₁ ∧ Stand p l e R s m args below meth c B.U B.locs B.cells B.slots ∧ Post ⟨T.setVm vm₁, locs, cells, slots⟩ (Value.ref b :: argsL).toArray v B ∧
      ∀ target, Steps p.tables e below (B.U.setTop { g with pc := g.pc + 3, stack := v.toList ++ rest }) target → Steps p.tables e below (T.setTop g) target) ∨
    (∃ (q : Addr) (vm₁ : Vm) (B : Pt), s.WarmedH vm₁ ∧ Stand p l e R s m args below meth c B.U B.locs B.cells B.slots ∧ PostX ⟨T.setVm vm₁, locs, cells, slots⟩ (Value.ref b :: argsL).toArray q B ∧
      Steps p.tables e below (T.setTop g) ((B.U.setTop { g with stack := rest }).pushFrame (.throwing q))) := by
  obtain ⟨mk, methM, hnamed, hmethM, hstM, habM⟩ := Cond.instanceMethod_spec hinst
  obtain ⟨methM', cM, hmethM', -, -, -, -, -, -, hsigM⟩ := Cond.code_spec hnamed hcode
  cases hmethM.symm.trans hmethM'
  obtain ⟨c2, r2, m2, q1, q2, q3, q4, kP, hkP, hkPi⟩ := Cond.selects_spec hsel
  cases hcls.symm.trans q1
  cases (State.methodFound?_of_named hnamed hy).symm.trans q2
  cases hnamed.symm.trans q3
  have hselP : selectMethod e.platform s.vm cellB.cls mk = .method mk := by rw [Launch.admits_selectMethod X.admits]; exact q4
  obtain ⟨vm₁, X₁, hstep₁⟩ := X.invokevirtual hexec hown hlink hnamed hmethM hstM hkP hkPi hy (a := b) (cell := cellB) hcell
    (fun z h => by rw [h] at hobj; cases hobj) hselP hmethM habM hkP hkPi (g := g) hg (argsL := argsL) (rest := rest) (hlen _ hsigM) hstack hdg
  rcases hK m meth c ⟨T.setVm vm₁, locs, cells, slots⟩ { g with stack := rest } (.invokevirtual index) mk (Value.ref b :: argsL).toArray X₁ hg hsize hdg hW (X₁.named hnamed) (hpre vm₁ X₁.warmed) with ⟨v, B, X', hpost, hsteps⟩ | ⟨q, B, X', hpost, hsteps⟩
  · exact Or.inl ⟨v, vm₁, B, X₁.warmed, X', hpost, fun target h => hstep₁ _ fun acts => by rw [doInvoke_state]; exact hsteps.trans h⟩
  · exact Or.inr ⟨q, vm₁, B, X₁.warmed, X', hpost, hstep₁ _ fun acts => by rw [doInvoke_state]; exact hsteps⟩
theorem vx_callS (X : Stand p l e R s m args below meth c T locs cells slots) (hexec : p.tables.exec = Jvm.exec) {own : String} {index : Nat} {y : MethodName} {bytes : ByteArray} {maxL : Nat} {ret : Option FieldType}
    (hown : s.vm.findClass own = some m.cls) (hlink : (Cond.methodLink own index y).before args s = true) (hstat : (Cond.static y).before args s = true) (hinit : (Cond.initialized y.cls).before args s = true)
    (hcode : (Cond.code y bytes maxL ret).before args s = true) (hy : y.cls ≠ "java/lang/invoke/MethodHandle" ∧ y.cls ≠ "java/lang/invoke/VarHandle")
    {W9 : Nat} {Pre : Pt → Array Value → Prop} {Post : Pt → Array Value → Option Value → Pt → Prop} {PostX : Pt → Array Value → Addr → Pt → Prop} (hK : vx_Back l R p e below s args y 3 W9 Pre Post PostX)
    {g : JFrame} (hg : g.method = m) (hsize : g.locals.size = c.maxLocals) {argsL rest : List Value} (hlen : ∀ sig, parseMethodDescriptor y.desc = some sig → argsL.length = sig.parameters.length)
    (hstack : g.stack = argsL.reverse ++ rest) (hW : 2 * g.monitorRoom + (rest.map fun v => v.category).sum ≤ W9) (hdg : decode c.code g.pc = .ok (.invokestatic index, 3))
    (hpre : ∀ vm₁, s.WarmedH vm₁ → Pre ⟨T.setVm vm₁, locs, cells, slots⟩ argsL.toArray) :
    (∃ (v : Option Value) (vm₁ : Vm) (B : Pt), s.WarmedH vm₁ ∧ Stand p l e R s m args below meth c B.U B.locs B.cells B.slots ∧ Post ⟨T.setVm vm₁, locs, cells, slots⟩ argsL.toArray v B ∧
      ∀ target, Steps p.tables e below (B.U.setTop { g with pc := g.pc + 3, stack := v.toList ++ rest }) target → Steps p.tables e below (T.setTop g) target) ∨
    (∃ (q : Addr) (vm₁ : Vm) (B : Pt), s.WarmedH vm₁ ∧ Stand p l e R s m args below meth c B.U B.locs B.cells B.slots ∧ PostX ⟨T.setVm vm₁, locs, cells, slots⟩ argsL.toArray q B ∧
      Steps p.tables e below (T.setTop g) ((B.U.setTop { g with stack := rest }).pushFrame (.throwing q))) := by
  obtain ⟨mk, hnamed⟩ := Cond.code_named hcode
  obtain ⟨methM, cM, hmethM, -, -, -, -, -, -, hsigM⟩ := Cond.code_spec hnamed hcode
  have hstatic : methM.isStatic = true := Cond.static_spec hnamed hmethM hstat
  obtain ⟨kP, hkP, -⟩ := className_of_methodNamed hnamed
  have hinitP : kP.init = .initialized := Cond.initialized_spec (findClass_of_methodNamed hnamed) hkP hinit
  obtain ⟨vm₁, X₁, hstep₁⟩ := X.invokestatic hexec hown hlink hnamed hmethM hstatic hkP hinitP hy (g := g) hg (argsL := argsL) (rest := rest) (hlen _ hsigM) hstack hdg
  rcases hK m meth c ⟨T.setVm vm₁, locs, cells, slots⟩ { g with stack := rest } (.invokestatic index) mk argsL.toArray X₁ hg hsize hdg hW (X₁.named hnamed) (hpre vm₁ X₁.warmed) with ⟨v, B, X', hpost, hsteps⟩ | ⟨q, B, X', hpost, hsteps⟩
  · exact Or.inl ⟨v, vm₁, B, X₁.warmed, X', hpost, fun target h => hstep₁ _ fun acts => by rw [doInvoke_state]; exact hsteps.trans h⟩
  · exact Or.inr ⟨q, vm₁, B, X₁.warmed, X', hpost, hstep₁ _ fun acts => by rw [doInvoke_state]; exact hsteps⟩
end Calls
theorem vx_cls {s : State} {T : State} {vm₁ : Vm} {E : String} {k : ClassId} (hW : s.WarmedH vm₁) (h : (T.setVm vm₁).vm.findClass E = some k) : s.vm.findClass E = some k := by
  have h1 : vm₁.findClass E = some k := h
  rw [hW.alike.findClass] at h1
  exact h1
/-- the method's frame g, with q thrown over it -/
def vx_W (p : Program) (l : Launch) (e : Env) (R : Room) (s : State) (m : MethodId) (args : Array Value) (below : List Frame) (meth : Method) (c : Code) (H : Heap) (locs : List Loc) (cells slots : Nat) (Q : State → Prop) (g : JFrame) (q : Addr) : Prop :=
  ∀ T : State, T.heap = H → Stand p l e R s m args below meth c T locs cells slots → ∃ t, Steps p.tables e below ((T.setTop g).pushFrame (.throwing q)) t ∧ Q t
def vx_Run (p : Program) (l : Launch) (e : Env) (R : Room) (s : State) (m : MethodId) (args : Array Value) (below : List Frame) (meth : Method) (c : Code) (H : Heap) (locs : List Loc) (cells slots mc ms : Nat) (g : JFrame) (rest : List Value) (Qa : State → Outcome → State → Prop) (XC : String → State → State → Prop) (free : Addr → Prop) : Prop :=
  ∀ T : State, T.heap = H → Stand p l e R s m args below meth c T locs cells slots →
    (∃ (v : Option Value) (st₀ t T' : State) (L : List Loc), st₀.heap = H ∧ Stand p l e R s m args below meth c T' (locs ++ L) (cells + mc) (slots + ms) ∧ (∀ q ∈ L, free q.base) ∧ T'.heap = t.heap ∧ T'.vm = t.vm ∧ Qa st₀ (.returned v) t ∧
      Goes p e below T g T' { g with pc := g.pc + 3, stack := v.toList ++ rest }) ∨
    (∃ (q : Addr) (st₀ t T' : State) (L : List Loc) (E : String) (ce : Cell), st₀.heap = H ∧ Stand p l e R s m args below meth c T' (locs ++ L) (cells + mc) (slots + ms) ∧ (∀ z ∈ L, free z.base) ∧ T'.heap = t.heap ∧ T'.vm = t.vm ∧ XC E st₀ t ∧ t.heap[q]? = some ce ∧ ce.vm = .none ∧ s.vm.findClass E = some ce.cls ∧
      Steps p.tables e below (T.setTop g) ((T'.setTop { g with stack := rest }).pushFrame (.throwing q)))
def vx_X {S : Type} (px : S → Prop) (B : String → S → State → Prop) (A : Nat → Prop) : String → State → State → Prop := fun E st t => ∃ u : S, px u ∧ B E u t ∧ va_F A st t
section Runs
variable {p : Program} {l : Launch} {e : Env} {R : Room} {s : State} {m : MethodId} {args : Array Value} {below : List Frame} {meth : Method} {c : Code} {H : Heap} {locs : List Loc} {cells slots : Nat}
variable {y : MethodName} {bytes cc : ByteArray} {maxL nL mc ms n index : Nat} {ret : Option FieldType} {ws : List Cond} {rm : Room} {Pc : Array Value → State → Prop} {Qc : Array Value → State → Outcome → State → Prop} {XC : String → State → State → Prop} {free : Addr → Prop} {Ts : List Cond} {own C : String} {b : Addr} {As rest : List Value} {g : JFrame}
theorem vx_callBack (cb : CallB R s args own index y bytes maxL ret ws rm mc ms n) (hM : vx_Met l y ws rm Pc Qc XC mc ms free) (hbl : FrameBlind Pc) : vx_Back l R p e below s args y 3 8 (PreOf R mc ms Pc) (PostOf Qc mc ms free) (vx_Post XC mc ms free) := by
  obtain ⟨hrc, hrs, hfr, hlo, hws, hcw, -, hini, -⟩ := cb
  exact vx_back (bytes := bytes) (maxL := maxL) (ret := ret) hM hbl hrc hrs hfr hlo hws hcw (fun a' U hW => word_at hW (Or.inl (by first | rfl | simp [Cond.onTables, Cond.keeps, Cond.steady])) hini)
theorem vx_runV (S : CallFix p m c cc nL s args Ts own) (hM : vx_Met l y ws rm Pc Qc XC mc ms free) (cw : CallW R s args own C index y bytes maxL ret ws rm mc ms n) (hp : PreV s H C b Pc As)
    (hg : g.method = m) (hn : As.length = n) (hsize : g.locals.size = nL) (hstack : g.stack = As.reverse ++ .ref b :: rest) (hW : 2 * g.monitorRoom + (rest.map fun v => v.category).sum ≤ 8) (hdg : decode cc g.pc = .ok (.invokevirtual index, 3)) (hf : cells + mc ≤ R.cells ∧ slots + ms ≤ R.slots) :
    vx_Run p l e R s m args below meth c H locs cells slots mc ms g rest (Qc (Value.ref b :: As).toArray) XC free := by
  have hK : vx_Back l R p e below s args y 3 8 (PreOf R mc ms Pc) (PostOf Qc mc ms free) (vx_Post XC mc ms free) := vx_callBack cw.1 hM hp.1
  obtain ⟨⟨-, -, -, -, -, -, hcode, -, hy, hlen, hl⟩, hin, hse⟩ := cw
  obtain ⟨hx, hb, hml, ho, -⟩ := S
  obtain ⟨-, ⟨cellB, hcB, hoB, hclB⟩, hPc⟩ := hp
  intro T hT X
  rcases vx_callV X hx (C := C) (bytes := bytes) (maxL := maxL) (ret := ret) ho hl hin hse hcode hy hK (by rw [hT]; exact hcB) hoB hclB hg (hsize.trans hml.symm) (argsL := As) (rest := rest) (fun sig h => hn.trans (hlen sig h)) hstack hW (by rw [hb]; exact hdg)
    (fun vm₁ hW₁ => ⟨hf.1, hf.2, hPc (T.setVm vm₁) hT hW₁⟩) with ⟨v, vm₁, ⟨U', l2, c2, s2⟩, hW₁, X', ⟨g', mk, t, L, e1, e2, hq, h1, hL, h2, h3⟩, st⟩ | ⟨q, vm₁, ⟨U', l2, c2, s2⟩, hW₁, X', ⟨g', mk, t, L, E, ce, e1, e2, hq, hce, hcv, hcl, h1, hL, h2, h3⟩, st⟩
  · dsimp only [Pt.U, Pt.locs, Pt.cells, Pt.slots] at X' e1 e2 h1 h2 h3 st
    subst h1; subst h2; subst h3
    exact Or.inl ⟨v, (T.setVm vm₁).calling g' mk (Value.ref b :: As).toArray, t, U', L, hT, X', hL, e1, e2, hq, st⟩
  · dsimp only [Pt.U, Pt.locs, Pt.cells, Pt.slots] at X' e1 e2 h1 h2 h3 st hcl
    subst h1; subst h2; subst h3
    exact Or.inr ⟨q, (T.setVm vm₁).calling g' mk (Value.ref b :: As).toArray, t, U', L, E, ce, hT, X', hL, e1, e2, hq, hce, hcv, vx_cls hW₁ hcl, st⟩
theorem vx_runS (S : CallFix p m c cc nL s args Ts own) (hM : vx_Met l y ws rm Pc Qc XC mc ms free) (cw : CallB R s args own index y bytes maxL ret ws rm mc ms n ∧ (Cond.static y).before args s = true) (hp : PreS s H Pc As)
    (hg : g.method = m) (hn : As.length = n) (hsize : g.locals.size = nL) (hstack : g.stack = As.reverse ++ rest) (hW : 2 * g.monitorRoom + (rest.map fun v => v.category).sum ≤ 8) (hdg : decode cc g.pc = .ok (.invokestatic index, 3)) (hf : cells + mc ≤ R.cells ∧ slots + ms ≤ R.slots) :
    vx_Run p l e R s m args below meth c H locs cells slots mc ms g rest (Qc As.toArray) XC free := by
  have hK : vx_Back l R p e below s args y 3 8 (PreOf R mc ms Pc) (PostOf Qc mc ms free) (vx_Post XC mc ms free) := vx_callBack cw.1 hM hp.1
  obtain ⟨⟨-, -, -, -, -, -, hcode, hini, hy, hlen, hl⟩, hstt⟩ := cw
  obtain ⟨hx, hb, hml, ho, -⟩ := S
  intro T hT X
  rcases vx_callS X hx (bytes := bytes) (maxL := maxL) (ret := ret) ho hl hstt hini hcode hy hK hg (hsize.trans hml.symm) (argsL := As) (rest := rest) (fun sig h => hn.trans (hlen sig h)) hstack hW (by rw [hb]; exact hdg)
    (fun vm₁ hW₁ => ⟨hf.1, hf.2, hp.2 (T.setVm vm₁) hT hW₁⟩) with ⟨v, vm₁, ⟨U', l2, c2, s2⟩, hW₁, X', ⟨g', mk, t, L, e1, e2, hq, h1, hL, h2, h3⟩, st⟩ | ⟨q, vm₁, ⟨U', l2, c2, s2⟩, hW₁, X', ⟨g', mk, t, L, E, ce, e1, e2, hq, hce, hcv, hcl, h1, hL, h2, h3⟩, st⟩
  · dsimp only [Pt.U, Pt.locs, Pt.cells, Pt.slots] at X' e1 e2 h1 h2 h3 st
    subst h1; subst h2; subst h3
    exact Or.inl ⟨v, (T.setVm vm₁).calling g' mk As.toArray, t, U', L, hT, X', hL, e1, e2, hq, st⟩
  · dsimp only [Pt.U, Pt.locs, Pt.cells, Pt.slots] at X' e1 e2 h1 h2 h3 st hcl
    subst h1; subst h2; subst h3
    exact Or.inr ⟨q, (T.setVm vm₁).calling g' mk As.toArray, t, U', L, E, ce, hT, X', hL, e1, e2, hq, hce, hcv, vx_cls hW₁ hcl, st⟩
end Runs
section Rows
variable {p : Program} {l : Launch} {e : Env} {R : Room} {s : State} {m : MethodId} {args : Array Value} {below : List Frame} {meth : Method} {c : Code} {H : Heap} {locs : List Loc} {cells slots : Nat} {Q : State → Prop}
variable {mc ms : Nat} {free : Addr → Prop} {A0 A1 : Nat → Prop} {H0 : Heap} {a : Array Value} {pc : Nat} {ls : Array Slot} {st0 rest : List Value}
theorem vx_keep {st₀ t T' : State} {L : List Loc} (h0 : st₀.heap = H) (e1 : T'.heap = t.heap) (hS : va_S A0 H0 H locs) (hA : ∀ q, q < H.size → A1 q → A0 q) (hf : ∀ q, free q → A0 q) (hL : ∀ q ∈ L, free q.base) (hF : va_F A1 st₀ t) :
    H.size ≤ T'.heap.size ∧ (∀ q : Nat, q < H.size → ¬ A1 q → T'.heap[q]? = H[q]?) ∧ va_S A0 H0 T'.heap (locs ++ L) := by
  obtain ⟨hz, hk⟩ := hF
  rw [h0] at hz hk
  exact ⟨by rw [e1]; exact hz, fun q h1 h2 => by rw [e1]; exact hk q h1 h2,
    ⟨Nat.le_trans hS.1 (by rw [e1]; exact hz), fun q h1 h2 => by rw [e1, hk q (Nat.lt_of_lt_of_le h1 hS.1) (fun z => h2 (hA q (Nat.lt_of_lt_of_le h1 hS.1) z))]; exact hS.2.1 q h1 h2, fun q hq => by
      rcases List.mem_append.mp hq with h | h
      · exact hS.2.2 q h
      · exact hf _ (hL q h)⟩⟩
theorem vx_calli {S SX : Type} {post : Int32 → S → Prop} {px : SX → Prop} {B : S → State → Prop} {BX : String → SX → State → Prop} {AX : Nat → Prop} (hr : vx_Run p l e R s m args below meth c H locs cells slots mc ms (F0 m pc ls st0) rest (va_Qi post B A1 a) (vx_X px BX AX) free) (hS : va_S A0 H0 H locs) (hA : ∀ q, q < H.size → A1 q → A0 q) (hf : ∀ q, free q → A0 q) (hAX : ∀ q, q < H.size → AX q → A0 q)
    (kx : ∀ (E : String) (ce : Cell) (q9 : Addr) (u : SX) (t : State) (H1 : Heap) (locs1 : List Loc), t.heap = H1 → s.vm.Alike t.vm → px u → BX E u t → H.size ≤ H1.size → (∀ q : Nat, q < H.size → ¬ AX q → H1[q]? = H[q]?) → va_S A0 H0 H1 locs1 → H1[q9]? = some ce → ce.vm = .none → s.vm.findClass E = some ce.cls → vx_W p l e R s m args below meth c H1 locs1 (cells + mc) (slots + ms) Q (F0 m pc ls rest) q9)
    (kk : ∀ (r : Int32) (u : S) (t : State) (H1 : Heap) (locs1 : List Loc), t.heap = H1 → s.vm.Alike t.vm → post r u → B u t → H.size ≤ H1.size → (∀ q : Nat, q < H.size → ¬ A1 q → H1[q]? = H[q]?) → va_S A0 H0 H1 locs1 → W p l e R s m args below meth c H1 locs1 (cells + mc) (slots + ms) Q (F0 m (pc + 3) ls (.int r :: rest))) : W p l e R s m args below meth c H locs cells slots Q (F0 m pc ls st0) := by
  intro T hT X
  rcases hr T hT X with ⟨v, st₀, t, T', L, h0, X', hL, e1, e2, ⟨⟨r, u, hv, hp, hb⟩, hF⟩, st⟩ | ⟨q, st₀, t, T', L, E, ce, h0, X', hL, e1, e2, ⟨u, hp, hb, hF⟩, hce, hcv, hcl, st⟩
  · cases hv
    obtain ⟨k1, k2, k3⟩ := vx_keep h0 e1 hS hA hf hL hF
    obtain ⟨t2, a1, b1⟩ := kk r u t T'.heap (locs ++ L) e1.symm (by rw [← e2]; exact X'.warmed.alike) hp hb k1 k2 k3 T' rfl X'
    exact ⟨t2, st t2 a1, b1⟩
  · obtain ⟨k1, k2, k3⟩ := vx_keep h0 e1 hS hAX hf hL hF
    obtain ⟨t2, a1, b1⟩ := kx E ce q u t T'.heap (locs ++ L) e1.symm (by rw [← e2]; exact X'.warmed.alike) hp hb k1 k2 k3 (by rw [e1]; exact hce) hcv hcl T' rfl X'
    exact ⟨t2, st.trans a1, b1⟩
theorem vx_calll {S SX : Type} {post : Int64 → S → Prop} {px : SX → Prop} {B : S → State → Prop} {BX : String → SX → State → Prop} {AX : Nat → Prop} (hr : vx_Run p l e R s m args below meth c H locs cells slots mc ms (F0 m pc ls st0) rest (va_Ql post B A1 a) (vx_X px BX AX) free) (hS : va_S A0 H0 H locs) (hA : ∀ q, q < H.size → A1 q → A0 q) (hf : ∀ q, free q → A0 q) (hAX : ∀ q, q < H.size → AX q → A0 q)
    (kx : ∀ (E : String) (ce : Cell) (q9 : Addr) (u : SX) (t : State) (H1 : Heap) (locs1 : List Loc), t.heap = H1 → s.vm.Alike t.vm → px u → BX E u t → H.size ≤ H1.size → (∀ q : Nat, q < H.size → ¬ AX q → H1[q]? = H[q]?) → va_S A0 H0 H1 locs1 → H1[q9]? = some ce → ce.vm = .none → s.vm.findClass E = some ce.cls → vx_W p l e R s m args below meth c H1 locs1 (cells + mc) (slots + ms) Q (F0 m pc ls rest) q9)
    (kk : ∀ (r : Int64) (u : S) (t : State) (H1 : Heap) (locs1 : List Loc), t.heap = H1 → s.vm.Alike t.vm → post r u → B u t → H.size ≤ H1.size → (∀ q : Nat, q < H.size → ¬ A1 q → H1[q]? = H[q]?) → va_S A0 H0 H1 locs1 → W p l e R s m args below meth c H1 locs1 (cells + mc) (slots + ms) Q (F0 m (pc + 3) ls (.long r :: rest))) : W p l e R s m args below meth c H locs cells slots Q (F0 m pc ls st0) := by
  intro T hT X
  rcases hr T hT X with ⟨v, st₀, t, T', L, h0, X', hL, e1, e2, ⟨⟨r, u, hv, hp, hb⟩, hF⟩, st⟩ | ⟨q, st₀, t, T', L, E, ce, h0, X', hL, e1, e2, ⟨u, hp, hb, hF⟩, hce, hcv, hcl, st⟩
  · cases hv
    obtain ⟨k1, k2, k3⟩ := vx_keep h0 e1 hS hA hf hL hF
    obtain ⟨t2, a1, b1⟩ := kk r u t T'.heap (locs ++ L) e1.symm (by rw [← e2]; exact X'.warmed.alike) hp hb k1 k2 k3 T' rfl X'
    exact ⟨t2, st t2 a1, b1⟩
  · obtain ⟨k1, k2, k3⟩ := vx_keep h0 e1 hS hAX hf hL hF
    obtain ⟨t2, a1, b1⟩ := kx E ce q u t T'.heap (locs ++ L) e1.symm (by rw [← e2]; exact X'.warmed.alike) hp hb k1 k2 k3 (by rw [e1]; exact hce) hcv hcl T' rfl X'
    exact ⟨t2, st.trans a1, b1⟩
theorem vx_callf {S SX : Type} {post : UInt32 → S → Prop} {px : SX → Prop} {B : S → State → Prop} {BX : String → SX → State → Prop} {AX : Nat → Prop} (hr : vx_Run p l e R s m args below meth c H locs cells slots mc ms (F0 m pc ls st0) rest (va_Qf post B A1 a) (vx_X px BX AX) free) (hS : va_S A0 H0 H locs) (hA : ∀ q, q < H.size → A1 q → A0 q) (hf : ∀ q, free q → A0 q) (hAX : ∀ q, q < H.size → AX q → A0 q)
    (kx : ∀ (E : String) (ce : Cell) (q9 : Addr) (u : SX) (t : State) (H1 : Heap) (locs1 : List Loc), t.heap = H1 → s.vm.Alike t.vm → px u → BX E u t → H.size ≤ H1.size → (∀ q : Nat, q < H.size → ¬ AX q → H1[q]? = H[q]?) → va_S A0 H0 H1 locs1 → H1[q9]? = some ce → ce.vm = .none → s.vm.findClass E = some ce.cls → vx_W p l e R s m args below meth c H1 locs1 (cells + mc) (slots + ms) Q (F0 m pc ls rest) q9)
    (kk : ∀ (r : UInt32) (u : S) (t : State) (H1 : Heap) (locs1 : List Loc), t.heap = H1 → s.vm.Alike t.vm → post r u → B u t → H.size ≤ H1.size → (∀ q : Nat, q < H.size → ¬ A1 q → H1[q]? = H[q]?) → va_S A0 H0 H1 locs1 → W p l e R s m args below meth c H1 locs1 (cells + mc) (slots + ms) Q (F0 m (pc + 3) ls (.float r :: rest))) : W p l e R s m args below meth c H locs cells slots Q (F0 m pc ls st0) := by
  intro T hT X
  rcases hr T hT X with ⟨v, st₀, t, T', L, h0, X', hL, e1, e2, ⟨⟨r, u, hv, hp, hb⟩, hF⟩, st⟩ | ⟨q, st₀, t, T', L, E, ce, h0, X', hL, e1, e2, ⟨u, hp, hb, hF⟩, hce, hcv, hcl, st⟩
  · cases hv
    obtain ⟨k1, k2, k3⟩ := vx_keep h0 e1 hS hA hf hL hF
    obtain ⟨t2, a1, b1⟩ := kk r u t T'.heap (locs ++ L) e1.symm (by rw [← e2]; exact X'.warmed.alike) hp hb k1 k2 k3 T' rfl X'
    exact ⟨t2, st t2 a1, b1⟩
  · obtain ⟨k1, k2, k3⟩ := vx_keep h0 e1 hS hAX hf hL hF
    obtain ⟨t2, a1, b1⟩ := kx E ce q u t T'.heap (locs ++ L) e1.symm (by rw [← e2]; exact X'.warmed.alike) hp hb k1 k2 k3 (by rw [e1]; exact hce) hcv hcl T' rfl X'
    exact ⟨t2, st.trans a1, b1⟩
theorem vx_calld {S SX : Type} {post : UInt64 → S → Prop} {px : SX → Prop} {B : S → State → Prop} {BX : String → SX → State → Prop} {AX : Nat → Prop} (hr : vx_Run p l e R s m args below meth c H locs cells slots mc ms (F0 m pc ls st0) rest (va_Qd post B A1 a) (vx_X px BX AX) free) (hS : va_S A0 H0 H locs) (hA : ∀ q, q < H.size → A1 q → A0 q) (hf : ∀ q, free q → A0 q) (hAX : ∀ q, q < H.size → AX q → A0 q)
    (kx : ∀ (E : String) (ce : Cell) (q9 : Addr) (u : SX) (t : State) (H1 : Heap) (locs1 : List Loc), t.heap = H1 → s.vm.Alike t.vm → px u → BX E u t → H.size ≤ H1.size → (∀ q : Nat, q < H.size → ¬ AX q → H1[q]? = H[q]?) → va_S A0 H0 H1 locs1 → H1[q9]? = some ce → ce.vm = .none → s.vm.findClass E = some ce.cls → vx_W p l e R s m args below meth c H1 locs1 (cells + mc) (slots + ms) Q (F0 m pc ls rest) q9)
    (kk : ∀ (r : UInt64) (u : S) (t : State) (H1 : Heap) (locs1 : List Loc), t.heap = H1 → s.vm.Alike t.vm → post r u → B u t → H.size ≤ H1.size → (∀ q : Nat, q < H.size → ¬ A1 q → H1[q]? = H[q]?) → va_S A0 H0 H1 locs1 → W p l e R s m args below meth c H1 locs1 (cells + mc) (slots + ms) Q (F0 m (pc + 3) ls (.double r :: rest))) : W p l e R s m args below meth c H locs cells slots Q (F0 m pc ls st0) := by
  intro T hT X
  rcases hr T hT X with ⟨v, st₀, t, T', L, h0, X', hL, e1, e2, ⟨⟨r, u, hv, hp, hb⟩, hF⟩, st⟩ | ⟨q, st₀, t, T', L, E, ce, h0, X', hL, e1, e2, ⟨u, hp, hb, hF⟩, hce, hcv, hcl, st⟩
  · cases hv
    obtain ⟨k1, k2, k3⟩ := vx_keep h0 e1 hS hA hf hL hF
    obtain ⟨t2, a1, b1⟩ := kk r u t T'.heap (locs ++ L) e1.symm (by rw [← e2]; exact X'.warmed.alike) hp hb k1 k2 k3 T' rfl X'
    exact ⟨t2, st t2 a1, b1⟩
  · obtain ⟨k1, k2, k3⟩ := vx_keep h0 e1 hS hAX hf hL hF
    obtain ⟨t2, a1, b1⟩ := kx E ce q u t T'.heap (locs ++ L) e1.symm (by rw [← e2]; exact X'.warmed.alike) hp hb k1 k2 k3 (by rw [e1]; exact hce) hcv hcl T' rfl X'
    exact ⟨t2, st.trans a1, b1⟩
theorem vx_callv {S SX : Type} {post : S → Prop} {px : SX → Prop} {B : S → State → Prop} {BX : String → SX → State → Prop} {AX : Nat → Prop} (hr : vx_Run p l e R s m args below meth c H locs cells slots mc ms (F0 m pc ls st0) rest (va_Qv post B A1 a) (vx_X px BX AX) free) (hS : va_S A0 H0 H locs) (hA : ∀ q, q < H.size → A1 q → A0 q) (hf : ∀ q, free q → A0 q) (hAX : ∀ q, q < H.size → AX q → A0 q)
    (kx : ∀ (E : String) (ce : Cell) (q9 : Addr) (u : SX) (t : State) (H1 : Heap) (locs1 : List Loc), t.heap = H1 → s.vm.Alike t.vm → px u → BX E u t → H.size ≤ H1.size → (∀ q : Nat, q < H.size → ¬ AX q → H1[q]? = H[q]?) → va_S A0 H0 H1 locs1 → H1[q9]? = some ce → ce.vm = .none → s.vm.findClass E = some ce.cls → vx_W p l e R s m args below meth c H1 locs1 (cells + mc) (slots + ms) Q (F0 m pc ls rest) q9)
    (kk : ∀ (u : S) (t : State) (H1 : Heap) (locs1 : List Loc), t.heap = H1 → s.vm.Alike t.vm → post u → B u t → H.size ≤ H1.size → (∀ q : Nat, q < H.size → ¬ A1 q → H1[q]? = H[q]?) → va_S A0 H0 H1 locs1 → W p l e R s m args below meth c H1 locs1 (cells + mc) (slots + ms) Q (F0 m (pc + 3) ls (rest))) : W p l e R s m args below meth c H locs cells slots Q (F0 m pc ls st0) := by
  intro T hT X
  rcases hr T hT X with ⟨v, st₀, t, T', L, h0, X', hL, e1, e2, ⟨⟨u, hv, hp, hb⟩, hF⟩, st⟩ | ⟨q, st₀, t, T', L, E, ce, h0, X', hL, e1, e2, ⟨u, hp, hb, hF⟩, hce, hcv, hcl, st⟩
  · cases hv
    obtain ⟨k1, k2, k3⟩ := vx_keep h0 e1 hS hA hf hL hF
    obtain ⟨t2, a1, b1⟩ := kk u t T'.heap (locs ++ L) e1.symm (by rw [← e2]; exact X'.warmed.alike) hp hb k1 k2 k3 T' rfl X'
    exact ⟨t2, st t2 a1, b1⟩
  · obtain ⟨k1, k2, k3⟩ := vx_keep h0 e1 hS hAX hf hL hF
    obtain ⟨t2, a1, b1⟩ := kx E ce q u t T'.heap (locs ++ L) e1.symm (by rw [← e2]; exact X'.warmed.alike) hp hb k1 k2 k3 (by rw [e1]; exact hce) hcv hcl T' rfl X'
    exact ⟨t2, st.trans a1, b1⟩
/-- caught by the row x of this method's table; the rows ahead don't take it -/
theorem vx_catch {own name : String} {E : String} {ce : Cell} {q : Addr} (hown : s.vm.findClass own = some m.cls) (pre : List ExceptionTableEntry) (x : ExceptionTableEntry) (suf : List ExceptionTableEntry) (hsplit : c.exceptionTable.toList = pre ++ x :: suf)
    (hpass : ∀ z ∈ pre, covers z pc = false ∨ (z.catchType ≠ 0 ∧ ∃ nm : String, (Cond.classLink own z.catchType nm).before args s = true ∧ va_Nc E nm s)) (hx : covers x pc = true) (h0 : x.catchType ≠ 0)
    (hlink : (Cond.classLink own x.catchType name).before args s = true) (hcast : (Cond.castable E name).before args s = true) (hcell : H[q]? = some ce) (hv : ce.vm = .none) (hcl : s.vm.findClass E = some ce.cls)
    (kk : W p l e R s m args below meth c H locs cells slots Q (F0 m x.handlerPc ls [.ref q])) : vx_W p l e R s m args below meth c H locs cells slots Q (F0 m pc ls rest) q := by
  intro T hT X
  have hpl : e.platform.magicAccessors = ({} : Platform).magicAccessors := by rw [X.admits.platform]
  obtain ⟨c3, c4, hc3, hc4, hasg⟩ := Cond.castable_spec hcast
  cases Option.some.inj (hc3.symm.trans hcl)
  obtain ⟨c5, hc5, hcl5⟩ := Cond.classLink_spec hown hlink e.platform hpl
  cases Option.some.inj (hc4.symm.trans hc5)
  obtain ⟨vm', X', st⟩ := X.thenCaughtThrough q (g := F0 m pc ls rest) rfl (Steps.refl _) (by rw [hT]; exact hcell) (by rw [hv]; rfl) (by obtain ⟨k9, h9, -⟩ := Vm.findClass_spec hcl; exact ⟨k9, h9⟩) pre x suf hsplit
    (fun z hz => by
      rcases hpass z hz with h | ⟨hz0, nm, hl1, hn1⟩
      · exact Or.inl h
      · obtain ⟨c6, hc6, hcl6⟩ := Cond.classLink_spec hown hl1 e.platform hpl
        obtain ⟨a8, b8, h1, h2, h3⟩ := hn1
        cases Option.some.inj (h1.symm.trans hcl)
        cases Option.some.inj (h2.symm.trans hc6)
        exact Or.inr ⟨hz0, _, hcl6, h3⟩) hx (Or.inr ⟨h0, c4, hcl5, hasg⟩)
  obtain ⟨t, a1, b1⟩ := kk (T.setVm vm') hT X'
  exact ⟨t, st.trans a1, b1⟩
end Rows
section Ends
variable {p : Program} {l : Launch} {e : Env} {R : Room} {s : State} {m : MethodId} {args : Array Value} {below : List Frame} {meth : Method} {c : Code} {H : Heap} {locs : List Loc} {cells slots : Nat} {Q : State → Prop}
variable {mc ms : Nat} {free : Addr → Prop} {A0 A1 : Nat → Prop} {H0 : Heap} {a : Array Value} {ls : Array Slot} {st0 rest : List Value}
variable {Qc : Array Value → State → Outcome → State → Prop} {XC : String → State → State → Prop}
/-- what a body that may throw owes at its end -/
def vx_MQ (below : List Frame) (Qc : Array Value → State → Outcome → State → Prop) (XC : String → State → State → Prop) (a : Array Value) (s : State) (mc ms : Nat) (free : Addr → Prop) : State → Prop := fun t =>
  ∃ o, t.status = .running ∧ Ended t below o ∧ vx_Q Qc XC mc ms free a s o t
theorem vx_ret {g : JFrame} {mc ms : Nat} (k : W p l e R s m args below meth c H locs cells slots (MQ below Qc args s mc ms free) g) : W p l e R s m args below meth c H locs cells slots (vx_MQ below Qc XC args s mc ms free) g := by
  intro T hT X
  obtain ⟨t, a1, o, b1, b2, b3, b4⟩ := k T hT X
  exact ⟨t, a1, o, b1, b2, Or.inl ⟨b3, b4⟩⟩
/-- not caught here: it goes on to the caller -/
theorem vx_widen {g : JFrame} {q : Addr} {k n : Nat} (h1 : cells ≤ k) (h2 : slots ≤ n) (kk : vx_W p l e R s m args below meth c H locs k n Q g q) : vx_W p l e R s m args below meth c H locs cells slots Q g q := fun T hT X => kk T hT (stand_widen X h1 h2)
theorem vx_out {pc : Nat} {E : String} {ce : Cell} {q : Addr} {mc ms : Nat} (hout : ∀ x ∈ c.exceptionTable.toList, covers x pc = false) (hlocks : meth.locks = false) (hcell : H[q]? = some ce) (hv : ce.vm = .none) (hcl : s.vm.findClass E = some ce.cls)
    (hx : ∀ t : State, t.heap = H → s.vm.Alike t.vm → XC E s t) (hf : ∀ z ∈ locs, free z.base) (hc : cells ≤ mc) (hs : slots ≤ ms) :
    vx_W p l e R s m args below meth c H locs cells slots (vx_MQ below Qc XC args s mc ms free) (F0 m pc ls rest) q := by
  intro T hT X
  obtain ⟨st1, hrun, hend, hW, hsm⟩ := X.leaveThrown q (g := F0 m pc ls rest) rfl rfl rfl hout hlocks
  have hcell9 : (T.setFrames (.throwing q :: below)).heap[q]? = some ce := by
    show T.heap[q]? = some ce
    rw [hT]; exact hcell
  exact ⟨_, st1, .threw q, hrun, hend, Or.inr ⟨q, rfl, E, ce, locs, hx _ hT hW.alike, hcell9, hv, hcl, hW, hsm.mono hc hs, hf⟩⟩
theorem vx_frame {U : State} {k n : Nat} (h : s.sameButNew ({ U with vm := s.vm } : State) locs k n) : s.heap.size ≤ U.heap.size ∧ ∀ q : Nat, q < s.heap.size → (∀ z ∈ locs, z.base ≠ q) → U.heap[q]? = s.heap[q]? := by
  obtain ⟨-, h2, -, -, -, h6⟩ := h
  refine ⟨h2, fun q hq hz => ?_⟩
  obtain ⟨c9, e1, e2, e3, e4⟩ := h6 q _ (Array.getElem?_eq_getElem hq)
  have hs : c9.slots = (s.heap[q]).slots := Array.ext_getElem? fun i => e4 i fun hm => hz _ hm rfl
  have h9 : c9 = s.heap[q] := by
    rw [hs] at e2
    exact e2
  have e5 : U.heap[q]? = some c9 := e1
  rw [e5, h9, Array.getElem?_eq_getElem hq]
/-- the words of a throw but the four that speak of the heap -/
def vx_no (w : Cond) : Bool := decide (w ≠ .isRef (.static Bundle.tN "UNASSIGNED_STACK" Bundle.steD)) && decide (w ≠ .isRef (.static Bundle.tN "SUPPRESSED_SENTINEL" Bundle.listD)) && decide (w ≠ .laysStatic Bundle.tN "UNASSIGNED_STACK" Bundle.steD) && decide (w ≠ .laysStatic Bundle.tN "SUPPRESSED_SENTINEL" Bundle.listD)
def vx_at0 (own : String) (ic : Nat) (X : String) (names : List String) : List Cond := (Bundle.ownAtoms0 own ic X names).filter vx_no
def vx_atS (own : String) (ic : Nat) (X : String) (names : List String) : List Cond := (Bundle.ownAtoms own ic X names).filter vx_no
/-- a word that the tables alone decide, or a good one -/
def vx_ot (w : Cond) : Bool := w.onTables || goodWord w
theorem vx_ot_at {args a' : Array Value} {s U : State} {w : Cond} (hW : s.WarmedH U.vm) (hvm : s.vm = U.vm) (hg : vx_ot w = true) (h : w.before args s = true) : w.before a' U = true := by
  simp only [vx_ot, Bool.or_eq_true] at hg
  rcases hg with hg | hg
  · exact va_tabs hg hvm h
  · exact word_at hW (good_of_word hg) h
/-- a list's words: the good ones out of the method's own list, the others by premises of their own -/
theorem vx_hat {args : Array Value} {s : State} {L B : List Cond} (h1 : ∀ w ∈ L.filter goodWord, w.before args s = true) (h2 : ∀ w ∈ L.filter (fun w => !goodWord w), w ∈ B) (h3 : ∀ w ∈ B, w.before args s = true) : ∀ w ∈ L, w.before args s = true := by
  intro w hw
  by_cases g : goodWord w = true
  · exact h1 w (List.mem_filter.mpr ⟨hw, g⟩)
  · refine h3 w (h2 w (List.mem_filter.mpr ⟨hw, ?_⟩))
    show (!goodWord w) = true
    cases hgw : goodWord w
    · rfl
    · exact absurd hgw g
theorem vx_c {args : Array Value} {s : State} {w : Cond} {B : List Cond} (h : w.before args s = true) (t : ∀ w ∈ B, w.before args s = true) : ∀ w' ∈ w :: B, w'.before args s = true := fun w' h' => (List.mem_cons.mp h').elim (fun e => by rw [e]; exact h) (t w')
theorem vx_n {args : Array Value} {s : State} : ∀ w ∈ ([] : List Cond), w.before args s = true := fun _ h => nomatch h
theorem vx_own {args : Array Value} {s : State} {L : List Cond} (h1 : ∀ w ∈ L.filter vx_no, w.before args s = true)
    (hU : (Cond.isRef (.static Bundle.tN "UNASSIGNED_STACK" Bundle.steD)).before args s = true) (hN : (Cond.isRef (.static Bundle.tN "SUPPRESSED_SENTINEL" Bundle.listD)).before args s = true)
    (lU : (Cond.laysStatic Bundle.tN "UNASSIGNED_STACK" Bundle.steD).before args s = true) (lN : (Cond.laysStatic Bundle.tN "SUPPRESSED_SENTINEL" Bundle.listD).before args s = true) : ∀ w ∈ L, w.before args s = true := by
  intro w hw
  by_cases e1 : w = .isRef (.static Bundle.tN "UNASSIGNED_STACK" Bundle.steD)
  · rw [e1]; exact hU
  · by_cases e2 : w = .isRef (.static Bundle.tN "SUPPRESSED_SENTINEL" Bundle.listD)
    · rw [e2]; exact hN
    · by_cases e3 : w = .laysStatic Bundle.tN "UNASSIGNED_STACK" Bundle.steD
      · rw [e3]; exact lU
      · by_cases e4 : w = .laysStatic Bundle.tN "SUPPRESSED_SENTINEL" Bundle.listD
        · rw [e4]; exact lN
        · exact h1 w (List.mem_filter.mpr ⟨hw, by unfold vx_no; rw [decide_eq_true e1, decide_eq_true e2, decide_eq_true e3, decide_eq_true e4]; rfl⟩)
/-- where a static field lies, its class's statics cell in H -/
def vx_L (C n d : String) (A : Nat → Prop) (U : State) (H : Heap) : Prop := ∃ (c : ClassId) (k : Class) (i : Nat) (f : Field) (a : Nat) (cell : Cell), U.vm.findClass C = some c ∧ U.fieldFound? C n d = some (c, k, i, f) ∧ f.isStatic = true ∧ k.statics = some a ∧ H[a]? = some cell ∧ cell.vm.isStatics = true ∧ cell.cls = c ∧ f.slot < cell.slots.size ∧ k.staticTypes[f.slot]? = some f.type ∧ ¬ A a
theorem vx_L.moved {C n d : String} {A : Nat → Prop} {u U : State} {H : Heap} (hvm : u.vm.Alike U.vm) (h : vx_L C n d A u H) : vx_L C n d A U H := by
  obtain ⟨c, k, i, f, a, cell, h1, h2, h3, h4, h5, h6, h7, h8, h9, h10⟩ := h
  obtain ⟨k', hi', he⟩ := State.fieldFound?_setVm hvm h2
  exact ⟨c, k', i, f, a, cell, by rw [hvm.findClass]; exact h1, hi', h3, by rw [he]; exact h4, h5, h6, h7, h8, by rw [he]; exact h9, h10⟩
theorem vx_L.kept {C n d : String} {A : Nat → Prop} {U : State} {H H1 : Heap} (h : vx_L C n d A U H) (hq : ∀ a : Nat, a < H.size → ¬ A a → H1[a]? = H[a]?) : vx_L C n d A U H1 := by
  obtain ⟨c, k, i, f, a, cell, h1, h2, h3, h4, h5, h6, h7, h8, h9, h10⟩ := h
  exact ⟨c, k, i, f, a, cell, h1, h2, h3, h4, by rw [hq a (Array.getElem?_eq_some_iff.mp h5).1 h10]; exact h5, h6, h7, h8, h9, h10⟩
theorem vx_L.narrow {C n d : String} {A B : Nat → Prop} {U : State} {H : Heap} (h : vx_L C n d A U H) (hAB : ∀ q, B q → A q) : vx_L C n d B U H := by
  obtain ⟨c, k, i, f, a, cell, h1, h2, h3, h4, h5, h6, h7, h8, h9, h10⟩ := h
  exact ⟨c, k, i, f, a, cell, h1, h2, h3, h4, h5, h6, h7, h8, h9, fun z => h10 (hAB _ z)⟩
theorem vx_L.word {C n d : String} {A : Nat → Prop} {s : State} {args : Array Value} (h : vx_L C n d A s s.heap) : (Cond.laysStatic C n d).before args s = true := by
  obtain ⟨c, k, i, f, a, cell, h1, h2, h3, h4, h5, h6, h7, h8, h9, -⟩ := h
  show (Cond.laysStatic C n d).holds args s none s [] = true
  exact Cond.laysStatic_of h1 h2 h3 h4 h5 h6 h7 h8 h9
/-- .. and what it holds: null or some reference -/
def vx_Zq (C n d : String) (A : Nat → Prop) (U : State) (H : Heap) : Prop := va_Zq C n d A U H ∧ vx_L C n d A U H
theorem vx_Zq.moved {C n d : String} {A : Nat → Prop} {u U : State} {H : Heap} (hvm : u.vm.Alike U.vm) (h : vx_Zq C n d A u H) : vx_Zq C n d A U H := ⟨va_Zq.moved hvm h.1, vx_L.moved hvm h.2⟩
theorem vx_Zq.kept {C n d : String} {A : Nat → Prop} {U : State} {H H1 : Heap} (h : vx_Zq C n d A U H) (hq : ∀ a : Nat, a < H.size → ¬ A a → H1[a]? = H[a]?) : vx_Zq C n d A U H1 := ⟨va_Zq.kept h.1 hq, vx_L.kept h.2 hq⟩
theorem vx_Zq.narrow {C n d : String} {A B : Nat → Prop} {U : State} {H : Heap} (h : vx_Zq C n d A U H) (hAB : ∀ q, B q → A q) : vx_Zq C n d B U H := ⟨va_Zq.narrow h.1 hAB, vx_L.narrow h.2 hAB⟩
theorem vx_Zqof {args : Array Value} {s : State} {C n d : String} {A : Nat → Prop} (hl : (Cond.laysStatic C n d).before args s = true) (hini : (Cond.initialized C).before args s = true) (h : (Cond.isRef (.static C n d)).before args s = true) (hA : ∀ a : Nat, a < s.heap.size → ¬ A a) : vx_Zq C n d A s s.heap := by
  refine ⟨va_Zqof hl hini h hA, ?_⟩
  obtain ⟨c, k, i, f, a, cell, h1, h2, h3, h4, h5, h6, h7, h8, h9⟩ := Cond.laysStatic_spec hl
  exact ⟨c, k, i, f, a, cell, h1, h2, h3, h4, h5, h6, h7, h8, h9, hA a (Array.getElem?_eq_some_iff.mp h5).1⟩
theorem vx_isRef {C n d : String} {v : Value} {A : Nat → Prop} {s : State} {args : Array Value} (h : va_Z C n d v A s s.heap) (hv : v.isRef = true) : (Cond.isRef (.static C n d)).before args s = true := by
  obtain ⟨cf, kf, fi, f, a, cell, h1, h2, h3, h4, h5, h6, h7, -⟩ := h
  have he : (Term.static C n d).eval args s none [] s = some v := by
    simp [Term.eval, State.fieldNamed?, h1, h2, h4, h5, h6, h7]
  simp only [Cond.before, Cond.holds, Cond.value, he]
  cases v <;> simp_all [Value.isRef]
theorem vx_isRefq {C n d : String} {A : Nat → Prop} {s : State} {args : Array Value} (h : va_Zq C n d A s s.heap) : (Cond.isRef (.static C n d)).before args s = true := by
  rcases h with h | ⟨t, h⟩
  · exact vx_isRef h rfl
  · exact vx_isRef h rfl
/-- the same frame, seen from here: as if the method were called anew in this heap -/
theorem vx_rebase {T : State} (X : Stand p l e R s m args below meth c T locs cells slots) {R' : Room} (hf : R'.frames ≤ R.frames) (hl : R'.locals ≤ R.locals) (hc : cells + R'.cells ≤ R.cells) (hs : slots + R'.slots ≤ R.slots) :
    Stand p l e R' ((T.setVm s.vm).setFrames (.invoking m args :: below)) m args below meth c T [] 0 0 := by
  have htop : (T.setVm s.vm).topJava?.isSome := X.here.top
  have hF : ((T.setVm s.vm).setFrames (.invoking m args :: below)).frames = .invoking m args :: below := State.frames_setFrames _ (State.cur_lt_of_top htop)
  obtain ⟨g₀, hg0⟩ := Option.isSome_iff_exists.mp htop
  obtain ⟨r, hr⟩ := State.topJava?_eq_some.mp hg0
  have hl9 : e.platform.stackLimits (T.setVm s.vm).me = e.platform.stackLimits s.me := X.limits
  have hb9 : (T.setVm s.vm).me.stackBytes = s.me.stackBytes := X.bytes
  refine ⟨X.admits, X.cas, X.clock, hF, ?_, X.hears, X.method, X.code, X.here, X.tail, X.warmed, ?_, ?_, ?_⟩
  · have h := X.room
    have hU : ((T.setVm s.vm).setFrames (.invoking m args :: below)).localsInUse = s.localsInUse := by
      rw [State.localsInUse_invoking hF (meth := meth) (c := c) X.method X.code, State.localsInUse_invoking X.frames X.method X.code]
    simp only [State.hasRoom, Bool.and_eq_true, decide_eq_true_eq] at h ⊢
    obtain ⟨⟨⟨⟨h1, h2, h3, h4, h5, h6⟩, h7⟩, h8⟩, h9⟩ := h
    rw [X.frames, List.length_cons] at h2 h3
    have q1 := X.heapSize
    have q2 := X.used
    simp only [hF, hU, List.length_cons, State.stackLimits_setFrames, State.stackBytes_setFrames, hl9, hb9]
    refine ⟨⟨⟨⟨by omega, by omega, by omega, by omega, by omega, h6⟩, ?_⟩, ?_⟩, X.book⟩
    · show T.heap.size + R'.cells ≤ e.platform.maxCells
      omega
    · show T.slotsUsed + R'.slots ≤ e.platform.maxSlots
      omega
  · rw [State.stackLimits_setFrames]; rfl
  · rw [State.stackBytes_setFrames]; rfl
  · refine ⟨?_, Nat.le_refl _, Nat.le_refl _, ?_, ?_, fun a c9 h9 => ⟨c9, h9, rfl, rfl, fun _ _ => rfl⟩⟩
    · obtain ⟨t, ht, -⟩ := State.frames_cons hr
      show T.setVm s.vm = { ((T.setVm s.vm).setFrames (.invoking m args :: below)).setFrames (T.setVm s.vm).frames with heap := T.heap, slotsUsed := T.slotsUsed }
      rw [State.setFrames_setFrames, State.setFrames_self ht]
      rfl
    · show T.slotsUsed = T.slotsUsed + ((T.heap.toList.drop T.heap.size).map (·.slots.size)).sum
      rw [List.drop_eq_nil_of_le (Nat.le_of_eq Array.length_toList)]
      rfl
    · show ((T.heap.toList.drop T.heap.size).map (·.slots.size)).sum ≤ 0
      rw [List.drop_eq_nil_of_le (Nat.le_of_eq Array.length_toList)]
      exact Nat.le_refl _
/-- 'throw new E()': new; dup; invokespecial; athrow -/
theorem vx_throw0 {cc : ByteArray} {pc : Nat} (hexec : p.tables.exec = Jvm.exec) (hb : c.code = cc) (hl : l.stackTraces = false) {own cls : String} {names : List String} {ik ic mc ms : Nat} {A : Nat → Prop}
    (hown : s.vm.findClass own = some m.cls) (hcls : Bundle.fit cls = true) (hnames : ∀ n ∈ names, Bundle.fit n = true)
    (hk : (Cond.classLink own ik cls).before args s = true) (hini : (Cond.initialized cls).before args s = true) (hat : ∀ w ∈ vx_at0 own ic cls names, w.before args s = true)
    (hgood : ∀ w ∈ Cond.classLink own ik cls :: Cond.initialized cls :: vx_at0 own ic cls names, vx_ot w = true)
    (hU : vx_Zq Bundle.tN "UNASSIGNED_STACK" Bundle.steD A s s.heap) (hN : vx_Zq Bundle.tN "SUPPRESSED_SENTINEL" Bundle.listD A s s.heap) (hS : va_S A s.heap H locs) (hsize : ls.size = c.maxLocals)
    (d0 : decode cc pc = .ok (.new ik, 3)) (d3 : decode cc (pc + 3) = .ok (.dup, 1)) (d4 : decode cc (pc + 4) = .ok (.invokespecial ic, 3)) (d7 : decode cc (pc + 7) = .ok (.athrow, 1))
    (hout : ∀ x ∈ c.exceptionTable.toList, covers x (pc + 7) = false)
    (hRframes : names.length + 3 < R.frames) (hRlocals : (rest.map fun v => v.category).sum + (13 * (names.length + 1) + 42) ≤ R.locals) (hRcells : cells + 1 ≤ R.cells) (hRslots : slots + 6 ≤ R.slots) (hlocks : meth.locks = false)
    (hx : ∀ t : State, s.vm.Alike t.vm → H.size ≤ t.heap.size → (∀ q : Nat, q < H.size → t.heap[q]? = H[q]?) → XC cls s t)
    (hf : ∀ z ∈ locs, free z.base) (hc : cells + 1 ≤ mc) (hs : slots + 6 ≤ ms) :
    W p l e R s m args below meth c H locs cells slots (vx_MQ below Qc XC args s mc ms free) (F0 m pc ls rest) := by
  intro T hT X
  have htr : e.platform.stackTraces = false := (show e.platform.stackTraces = l.stackTraces by rw [X.admits.platform]).trans hl
  have Y := vx_rebase X (R' := { frames := R.frames, locals := R.locals, cells := 1, slots := 6 }) (Nat.le_refl _) (Nat.le_refl _) hRcells hRslots
  obtain ⟨s', hA⟩ : ∃ z, z = (T.setVm s.vm).setFrames (.invoking m args :: below) := ⟨_, rfl⟩
  rw [← hA] at Y
  have hvm : s'.vm = s.vm := by rw [hA]; rfl
  have hhp : s'.heap = H := by rw [hA]; exact hT
  have hW0 : s.WarmedH s'.vm := by rw [hvm]; exact State.WarmedH.refl s
  have hat' : ∀ w ∈ vx_at0 own ic cls names, w.before args s' = true := fun w hw => vx_ot_at hW0 hvm.symm (hgood w (List.mem_cons_of_mem _ (List.mem_cons_of_mem _ hw))) (hat w hw)
  have hk' : (Cond.classLink own ik cls).before args s' = true := vx_ot_at hW0 hvm.symm (hgood _ List.mem_cons_self) hk
  have hini' : (Cond.initialized cls).before args s' = true := vx_ot_at hW0 hvm.symm (hgood _ (List.mem_cons_of_mem _ List.mem_cons_self)) hini
  have hU' : vx_Zq Bundle.tN "UNASSIGNED_STACK" Bundle.steD A s' s'.heap := by rw [hhp]; exact vx_Zq.moved hW0.alike (hU.kept hS.2.1)
  have hN' : vx_Zq Bundle.tN "SUPPRESSED_SENTINEL" Bundle.listD A s' s'.heap := by rw [hhp]; exact vx_Zq.moved hW0.alike (hN.kept hS.2.1)
  have h : ∀ w ∈ Bundle.ownAtoms0 own ic cls names, w.before args s' = true := vx_own hat' (vx_isRefq hU'.1) (vx_isRefq hN'.1) hU'.2.word hN'.2.word
  have hown' : s'.vm.findClass own = some m.cls := by rw [hvm]; exact hown
  have hins : (Cond.instantiable cls 6).before args s' = true := h _ (by simp [Bundle.ownAtoms0])
  obtain ⟨vm₁, cX, kX, hfX, hkX, -, -, X₁, st1⟩ := Y.newCold hexec (own := own) (C := cls) (index := ik) (n := 6) hown' hk' hins hini'
    (g := F0 m pc ls rest) rfl (by rw [hb]; exact d0) (Nat.le_refl _) (Nat.le_refl _)
  generalize hT1 : (T.setVm vm₁).pushCell { cls := cX, slots := kX.instanceTypes.map defaultValue, vm := .none } = T1 at X₁ st1
  have hcat : (Value.ref T.heap.size).category = 1 := rfl
  have hcellA : T1.heap[T.heap.size]? = some (freshCell cX kX) := by rw [← hT1]; exact State.heap_pushCell_size _ _
  have d3' : decode c.code (pc + 3) = .ok (.dup, 1) := by rw [hb]; exact d3
  obtain ⟨U, hsteps, hrun, hend, hW, hsame, ce, hce, hO⟩ := X₁.ctorThrow0 hexec htr (own := own) (cls := cls) (names := names) (ic := ic) hown' hcls hnames h (fun x hx => nomatch hx) hfX hkX hcellA (by rw [hhp, hT]; exact Nat.le_refl _)
    (g := { method := m, pc := pc + 4, locals := ls, stack := .ref T.heap.size :: .ref T.heap.size :: rest, locked := none }) rfl hsize rfl rfl (rest := rest) rfl
    (by rw [hb]; exact d4) (by rw [hb]; exact d7) hout hRframes (by simp only [List.map_cons, List.sum_cons, hcat]; omega) hlocks
  obtain ⟨f1, f2⟩ := vx_frame hsame
  rw [hhp] at f1 f2
  have hWs : s.WarmedH U.vm := State.WarmedH.trans hW0 hW
  have hcl : s.vm.findClass cls = some ce.cls := by
    have h9 := hO.cls
    rw [hvm] at h9
    exact h9
  have hall : s.sameButNew ({ U with vm := s.vm } : State) locs mc ms := by
    subst hA
    obtain ⟨e1, e2⟩ := hsame
    rw [State.setFrames_setFrames] at e1
    have h2 : (T.setVm s.vm).sameButNew ({ U with vm := s.vm } : State) [] (0 + 1) (0 + 6) := ⟨e1, e2⟩
    have h3 := X.same.trans h2
    rw [List.append_nil] at h3
    exact h3.mono hc hs
  refine ⟨U, ?_, .threw T.heap.size, hrun, hend, Or.inr ⟨T.heap.size, rfl, cls, ce, locs, hx U hWs.alike f1 (fun q hq => f2 q hq (fun z hz => nomatch hz)), hce, hO.vm, hcl, hWs, hall, hf⟩⟩
  refine st1 _ ?_
  show Steps p.tables e below (T1.setTop { method := m, pc := pc + 3, locals := ls, stack := .ref T.heap.size :: rest, locked := none }) _
  jvm_step X₁.here [X₁.here.top, hexec, d3', Value.category]
  exact hsteps
/-- 'throw new E("text")': new; dup; ldc; invokespecial; athrow -/
theorem vx_throwS {cc : ByteArray} {pc : Nat} (hexec : p.tables.exec = Jvm.exec) (hb : c.code = cc) (hl : l.stackTraces = false) {own cls text : String} {names : List String} {ik is ic mc ms sa : Nat} {A : Nat → Prop}
    (hown : s.vm.findClass own = some m.cls) (hcls : Bundle.fit cls = true) (hnames : ∀ n ∈ names, Bundle.fit n = true)
    (hk : (Cond.classLink own ik cls).before args s = true) (hini : (Cond.initialized cls).before args s = true) (hstr : vk_R own is text sa s) (hat : ∀ w ∈ vx_atS own ic cls names, w.before args s = true)
    (hgood : ∀ w ∈ Cond.classLink own ik cls :: Cond.initialized cls :: vx_atS own ic cls names, vx_ot w = true)
    (hU : vx_Zq Bundle.tN "UNASSIGNED_STACK" Bundle.steD A s s.heap) (hN : vx_Zq Bundle.tN "SUPPRESSED_SENTINEL" Bundle.listD A s s.heap) (hS : va_S A s.heap H locs) (hsize : ls.size = c.maxLocals)
    (d0 : decode cc pc = .ok (.new ik, 3)) (d3 : decode cc (pc + 3) = .ok (.dup, 1)) (d4 : decode cc (pc + 4) = .ok (.ldc is, 2)) (d6 : decode cc (pc + 6) = .ok (.invokespecial ic, 3)) (d9 : decode cc (pc + 9) = .ok (.athrow, 1))
    (hout : ∀ x ∈ c.exceptionTable.toList, covers x (pc + 9) = false)
    (hRframes : names.length + 3 < R.frames) (hRlocals : (rest.map fun v => v.category).sum + (13 * (names.length + 1) + 43) ≤ R.locals) (hRcells : cells + 1 ≤ R.cells) (hRslots : slots + 6 ≤ R.slots) (hlocks : meth.locks = false)
    (hx : ∀ t : State, s.vm.Alike t.vm → H.size ≤ t.heap.size → (∀ q : Nat, q < H.size → t.heap[q]? = H[q]?) → XC cls s t)
    (hf : ∀ z ∈ locs, free z.base) (hc : cells + 1 ≤ mc) (hs : slots + 6 ≤ ms) :
    W p l e R s m args below meth c H locs cells slots (vx_MQ below Qc XC args s mc ms free) (F0 m pc ls rest) := by
  intro T hT X
  have htr : e.platform.stackTraces = false := (show e.platform.stackTraces = l.stackTraces by rw [X.admits.platform]).trans hl
  have Y := vx_rebase X (R' := { frames := R.frames, locals := R.locals, cells := 1, slots := 6 }) (Nat.le_refl _) (Nat.le_refl _) hRcells hRslots
  obtain ⟨s', hA⟩ : ∃ z, z = (T.setVm s.vm).setFrames (.invoking m args :: below) := ⟨_, rfl⟩
  rw [← hA] at Y
  have hvm : s'.vm = s.vm := by rw [hA]; rfl
  have hhp : s'.heap = H := by rw [hA]; exact hT
  have hW0 : s.WarmedH s'.vm := by rw [hvm]; exact State.WarmedH.refl s
  have hat' : ∀ w ∈ vx_atS own ic cls names, w.before args s' = true := fun w hw => vx_ot_at hW0 hvm.symm (hgood w (List.mem_cons_of_mem _ (List.mem_cons_of_mem _ hw))) (hat w hw)
  have hk' : (Cond.classLink own ik cls).before args s' = true := vx_ot_at hW0 hvm.symm (hgood _ List.mem_cons_self) hk
  have hini' : (Cond.initialized cls).before args s' = true := vx_ot_at hW0 hvm.symm (hgood _ (List.mem_cons_of_mem _ List.mem_cons_self)) hini
  have hU' : vx_Zq Bundle.tN "UNASSIGNED_STACK" Bundle.steD A s' s'.heap := by rw [hhp]; exact vx_Zq.moved hW0.alike (hU.kept hS.2.1)
  have hN' : vx_Zq Bundle.tN "SUPPRESSED_SENTINEL" Bundle.listD A s' s'.heap := by rw [hhp]; exact vx_Zq.moved hW0.alike (hN.kept hS.2.1)
  have h : ∀ w ∈ Bundle.ownAtoms own ic cls names, w.before args s' = true := vx_own hat' (vx_isRefq hU'.1) (vx_isRefq hN'.1) hU'.2.word hN'.2.word
  have hown' : s'.vm.findClass own = some m.cls := by rw [hvm]; exact hown
  have hins : (Cond.instantiable cls 6).before args s' = true := h _ (by simp [Bundle.ownAtoms])
  obtain ⟨vm₁, cX, kX, hfX, hkX, -, -, X₁, st1⟩ := Y.newCold hexec (own := own) (C := cls) (index := ik) (n := 6) hown' hk' hins hini'
    (g := F0 m pc ls rest) rfl (by rw [hb]; exact d0) (Nat.le_refl _) (Nat.le_refl _)
  generalize hT1 : (T.setVm vm₁).pushCell { cls := cX, slots := kX.instanceTypes.map defaultValue, vm := .none } = T1 at X₁ st1
  have hcat : (Value.ref T.heap.size).category = 1 := rfl
  have hcellA : T1.heap[T.heap.size]? = some (freshCell cX kX) := by rw [← hT1]; exact State.heap_pushCell_size _ _
  have d3' : decode c.code (pc + 3) = .ok (.dup, 1) := by rw [hb]; exact d3
  have d4' : decode c.code (pc + 4) = .ok (.ldc is, 2) := by rw [hb]; exact d4
  have hstr' : vk_R own is text sa s' := vk_R.warm hW0 hstr
  obtain ⟨U, hsteps, hrun, hend, hW, hsame, ce, hce, hO⟩ := X₁.ctorThrowS hexec htr (own := own) (cls := cls) (names := names) (ic := ic) hown' hcls hnames h (fun x hx => nomatch hx) hfX hkX hcellA (by rw [hhp, hT]; exact Nat.le_refl _) (msg := .ref sa) rfl
    (g := { method := m, pc := pc + 6, locals := ls, stack := .ref sa :: .ref T.heap.size :: .ref T.heap.size :: rest, locked := none }) rfl hsize rfl rfl (rest := rest) rfl
    (by rw [hb]; exact d6) (by rw [hb]; exact d9) hout hRframes (by simp only [List.map_cons, List.sum_cons, hcat]; omega) hlocks
  obtain ⟨f1, f2⟩ := vx_frame hsame
  rw [hhp] at f1 f2
  have hWs : s.WarmedH U.vm := State.WarmedH.trans hW0 hW
  have hcl : s.vm.findClass cls = some ce.cls := by
    have h9 := hO.cls
    rw [hvm] at h9
    exact h9
  have hall : s.sameButNew ({ U with vm := s.vm } : State) locs mc ms := by
    subst hA
    obtain ⟨e1, e2⟩ := hsame
    rw [State.setFrames_setFrames] at e1
    have h2 : (T.setVm s.vm).sameButNew ({ U with vm := s.vm } : State) [] (0 + 1) (0 + 6) := ⟨e1, e2⟩
    have h3 := X.same.trans h2
    rw [List.append_nil] at h3
    exact h3.mono hc hs
  refine ⟨U, ?_, .threw T.heap.size, hrun, hend, Or.inr ⟨T.heap.size, rfl, cls, ce, locs, hx U hWs.alike f1 (fun q hq => f2 q hq (fun z hz => nomatch hz)), hce, hO.vm, hcl, hWs, hall, hf⟩⟩
  refine st1 _ ?_
  show Steps p.tables e below (T1.setTop { method := m, pc := pc + 3, locals := ls, stack := .ref T.heap.size :: rest, locked := none }) _
  jvm_step X₁.here [X₁.here.top, hexec, d3', Value.category]
  exact X₁.ldcString hexec (own := own) (text := text) (index := is) (a := sa) hown' hstr'.1 hstr'.2
    (g := { method := m, pc := pc + 4, locals := ls, stack := .ref T.heap.size :: .ref T.heap.size :: rest, locked := none }) rfl d4' _ hsteps
/-- 'throw new E("text")', the text by a wide index -/
theorem vx_throwSW {cc : ByteArray} {pc : Nat} (hexec : p.tables.exec = Jvm.exec) (hb : c.code = cc) (hl : l.stackTraces = false) {own cls text : String} {names : List String} {ik is ic mc ms sa : Nat} {A : Nat → Prop}
    (hown : s.vm.findClass own = some m.cls) (hcls : Bundle.fit cls = true) (hnames : ∀ n ∈ names, Bundle.fit n = true)
    (hk : (Cond.classLink own ik cls).before args s = true) (hini : (Cond.initialized cls).before args s = true) (hstr : vk_R own is text sa s) (hat : ∀ w ∈ vx_atS own ic cls names, w.before args s = true)
    (hgood : ∀ w ∈ Cond.classLink own ik cls :: Cond.initialized cls :: vx_atS own ic cls names, vx_ot w = true)
    (hU : vx_Zq Bundle.tN "UNASSIGNED_STACK" Bundle.steD A s s.heap) (hN : vx_Zq Bundle.tN "SUPPRESSED_SENTINEL" Bundle.listD A s s.heap) (hS : va_S A s.heap H locs) (hsize : ls.size = c.maxLocals)
    (d0 : decode cc pc = .ok (.new ik, 3)) (d3 : decode cc (pc + 3) = .ok (.dup, 1)) (d4 : decode cc (pc + 4) = .ok (.ldc_w is, 3)) (d7 : decode cc (pc + 7) = .ok (.invokespecial ic, 3)) (d10 : decode cc (pc + 10) = .ok (.athrow, 1))
    (hout : ∀ x ∈ c.exceptionTable.toList, covers x (pc + 10) = false)
    (hRframes : names.length + 3 < R.frames) (hRlocals : (rest.map fun v => v.category).sum + (13 * (names.length + 1) + 43) ≤ R.locals) (hRcells : cells + 1 ≤ R.cells) (hRslots : slots + 6 ≤ R.slots) (hlocks : meth.locks = false)
    (hx : ∀ t : State, s.vm.Alike t.vm → H.size ≤ t.heap.size → (∀ q : Nat, q < H.size → t.heap[q]? = H[q]?) → XC cls s t)
    (hf : ∀ z ∈ locs, free z.base) (hc : cells + 1 ≤ mc) (hs : slots + 6 ≤ ms) :
    W p l e R s m args below meth c H locs cells slots (vx_MQ below Qc XC args s mc ms free) (F0 m pc ls rest) := by
  intro T hT X
  have htr : e.platform.stackTraces = false := (show e.platform.stackTraces = l.stackTraces by rw [X.admits.platform]).trans hl
  have Y := vx_rebase X (R' := { frames := R.frames, locals := R.locals, cells := 1, slots := 6 }) (Nat.le_refl _) (Nat.le_refl _) hRcells hRslots
  obtain ⟨s', hA⟩ : ∃ z, z = (T.setVm s.vm).setFrames (.invoking m args :: below) := ⟨_, rfl⟩
  rw [← hA] at Y
  have hvm : s'.vm = s.vm := by rw [hA]; rfl
  have hhp : s'.heap = H := by rw [hA]; exact hT
  have hW0 : s.WarmedH s'.vm := by rw [hvm]; exact State.WarmedH.refl s
  have hat' : ∀ w ∈ vx_atS own ic cls names, w.before args s' = true := fun w hw => vx_ot_at hW0 hvm.symm (hgood w (List.mem_cons_of_mem _ (List.mem_cons_of_mem _ hw))) (hat w hw)
  have hk' : (Cond.classLink own ik cls).before args s' = true := vx_ot_at hW0 hvm.symm (hgood _ List.mem_cons_self) hk
  have hini' : (Cond.initialized cls).before args s' = true := vx_ot_at hW0 hvm.symm (hgood _ (List.mem_cons_of_mem _ List.mem_cons_self)) hini
  have hU' : vx_Zq Bundle.tN "UNASSIGNED_STACK" Bundle.steD A s' s'.heap := by rw [hhp]; exact vx_Zq.moved hW0.alike (hU.kept hS.2.1)
  have hN' : vx_Zq Bundle.tN "SUPPRESSED_SENTINEL" Bundle.listD A s' s'.heap := by rw [hhp]; exact vx_Zq.moved hW0.alike (hN.kept hS.2.1)
  have h : ∀ w ∈ Bundle.ownAtoms own ic cls names, w.before args s' = true := vx_own hat' (vx_isRefq hU'.1) (vx_isRefq hN'.1) hU'.2.word hN'.2.word
  have hown' : s'.vm.findClass own = some m.cls := by rw [hvm]; exact hown
  have hins : (Cond.instantiable cls 6).before args s' = true := h _ (by simp [Bundle.ownAtoms])
  obtain ⟨vm₁, cX, kX, hfX, hkX, -, -, X₁, st1⟩ := Y.newCold hexec (own := own) (C := cls) (index := ik) (n := 6) hown' hk' hins hini'
    (g := F0 m pc ls rest) rfl (by rw [hb]; exact d0) (Nat.le_refl _) (Nat.le_refl _)
  generalize hT1 : (T.setVm vm₁).pushCell { cls := cX, slots := kX.instanceTypes.map defaultValue, vm := .none } = T1 at X₁ st1
  have hcat : (Value.ref T.heap.size).category = 1 := rfl
  have hcellA : T1.heap[T.heap.size]? = some (freshCell cX kX) := by rw [← hT1]; exact State.heap_pushCell_size _ _
  have d3' : decode c.code (pc + 3) = .ok (.dup, 1) := by rw [hb]; exact d3
  have d4' : decode c.code (pc + 4) = .ok (.ldc_w is, 3) := by rw [hb]; exact d4
  have hstr' : vk_R own is text sa s' := vk_R.warm hW0 hstr
  obtain ⟨U, hsteps, hrun, hend, hW, hsame, ce, hce, hO⟩ := X₁.ctorThrowS hexec htr (own := own) (cls := cls) (names := names) (ic := ic) hown' hcls hnames h (fun x hx => nomatch hx) hfX hkX hcellA (by rw [hhp, hT]; exact Nat.le_refl _) (msg := .ref sa) rfl
    (g := { method := m, pc := pc + 7, locals := ls, stack := .ref sa :: .ref T.heap.size :: .ref T.heap.size :: rest, locked := none }) rfl hsize rfl rfl (rest := rest) rfl
    (by rw [hb]; exact d7) (by rw [hb]; exact d10) hout hRframes (by simp only [List.map_cons, List.sum_cons, hcat]; omega) hlocks
  obtain ⟨f1, f2⟩ := vx_frame hsame
  rw [hhp] at f1 f2
  have hWs : s.WarmedH U.vm := State.WarmedH.trans hW0 hW
  have hcl : s.vm.findClass cls = some ce.cls := by
    have h9 := hO.cls
    rw [hvm] at h9
    exact h9
  have hall : s.sameButNew ({ U with vm := s.vm } : State) locs mc ms := by
    subst hA
    obtain ⟨e1, e2⟩ := hsame
    rw [State.setFrames_setFrames] at e1
    have h2 : (T.setVm s.vm).sameButNew ({ U with vm := s.vm } : State) [] (0 + 1) (0 + 6) := ⟨e1, e2⟩
    have h3 := X.same.trans h2
    rw [List.append_nil] at h3
    exact h3.mono hc hs
  refine ⟨U, ?_, .threw T.heap.size, hrun, hend, Or.inr ⟨T.heap.size, rfl, cls, ce, locs, hx U hWs.alike f1 (fun q hq => f2 q hq (fun z hz => nomatch hz)), hce, hO.vm, hcl, hWs, hall, hf⟩⟩
  refine st1 _ ?_
  show Steps p.tables e below (T1.setTop { method := m, pc := pc + 3, locals := ls, stack := .ref T.heap.size :: rest, locked := none }) _
  jvm_step X₁.here [X₁.here.top, hexec, d3', Value.category]
  exact X₁.ldcStringW hexec (own := own) (text := text) (index := is) (a := sa) hown' hstr'.1 hstr'.2
    (g := { method := m, pc := pc + 4, locals := ls, stack := .ref T.heap.size :: .ref T.heap.size :: rest, locked := none }) rfl d4' _ hsteps
end Ends
section Bodies
variable {l : Launch}
theorem vx_ofW {y : MethodName} {ws ws' : List Cond} {rm : Room} {Pc : Array Value → State → Prop} {Qc : Array Value → State → Outcome → State → Prop} {XC : String → State → State → Prop} {mc ms : Nat} {free : Addr → Prop} {cc : ByteArray} {maxL : Nat} {ret : Option FieldType}
    (hy : plainName y.cls = true) (hw : ws = Cond.code y cc maxL ret :: ws')
    (body : ∀ p e s m args below meth c s₁, BodyLoose p l y (headSpec ws rm) cc maxL ret e s m args below meth c s₁ → c.maxLocals = maxL → (∀ x ∈ c.exceptionTable.toList, False) → Pc args s →
      W p l e (headSpec ws rm).room s m args below meth c s.heap [] 0 0 (vx_MQ below Qc XC args s mc ms free) (entryFrame m args maxL)) : vx_Met l y ws rm Pc Qc XC mc ms free := by
  refine MetFree.of_bodyS (code := cc) (maxLocals := maxL) (ret := ret) hy ?_ ?_
  · intro args s m h hn
    obtain ⟨meth, c, h1, h2, h3, h4, h5, h6, -, -⟩ := Cond.code_spec hn (atoms_spec (ws := ws) h _ (by rw [hw]; exact List.mem_cons_self))
    exact ⟨meth, c, h1, h2, h3, h4, h5, h6⟩
  · intro p e s m args below meth c s₁ B hml hP _
    have hh0 : s₁.heap = s.heap := by rw [B.state]; rfl
    have ht : ∀ x ∈ c.exceptionTable.toList, False := by
      obtain ⟨meth9, c9, h1, h2, -, -, -, -, h7, -⟩ := Cond.code_spec B.named (atoms_spec (ws := ws) B.pre _ (by rw [hw]; exact List.mem_cons_self))
      cases Option.some.inj (h1.symm.trans B.method)
      cases Option.some.inj (h2.symm.trans (Stand.of_body B).code)
      intro x hx
      rw [Array.isEmpty_iff.mp h7] at hx
      cases hx
    obtain ⟨t, a1, o, b1, b2, b3⟩ := body p e s m args below meth c s₁ B hml ht hP s₁ hh0 (Stand.of_body B)
    exact ⟨t, o, a1, b1, b2, b3⟩
/-- the table of a body with handlers -/
theorem vx_table {p : Program} {x y : MethodName} {S : Spec} {cc bytes : ByteArray} {maxL maxL' : Nat} {ret ret' : Option FieldType} {e : Env} {s s₁ : State} {m : MethodId} {args : Array Value} {below : List Frame} {meth : Method} {c : Code} {hh : List (Nat × Nat × Nat × Nat)}
    (B : BodyLoose p l y S cc maxL ret e s m args below meth c s₁) (h : (Cond.codeWith y bytes maxL' ret' hh).before args s = true) : c.exceptionTable.toList = tableOf hh := by
  obtain ⟨m9, meth9, c9, hn9, h1, h2, -, -, h6, -⟩ := Cond.codeWith_spec h
  cases Option.some.inj (hn9.symm.trans B.named)
  cases Option.some.inj (h1.symm.trans B.method)
  cases Option.some.inj (h2.symm.trans (Stand.of_body B).code)
  rw [← h6, table_eq]
end Bodies
end VXA
/-! ===== END ===== -/
/-! ===== BEGIN a static call of a method with an exception table ===== -/
section VXS
variable {p : Program} {l : Launch} {e : Env} {R : Room} {s : State} {m : MethodId} {args : Array Value} {below : List Frame} {meth : Method} {c : Code} {T : State} {H : Heap} {locs : List Loc} {cells slots : Nat}
abbrev vx_CSW (R : Room) (s : State) (args : Array Value) (own : String) (index : Nat) (y : MethodName) (bytes : ByteArray) (maxL : Nat) (ret : Option FieldType) (hh : List (Nat × Nat × Nat × Nat)) (ws : List Cond) (rm : Room) (mc ms n : Nat) : Prop :=
  (rm.cells = mc ∧ rm.slots = ms ∧ rm.frames + 1 ≤ R.frames ∧ 8 + (maxL + 11) + rm.locals ≤ R.locals ∧ (∀ w ∈ ws, ∀ (a' : Array Value) (U : State), s.WarmedH U.vm → w.before a' U = true) ∧ Cond.codeWith y bytes maxL ret hh ∈ ws) ∧
  (Cond.codeWith y bytes maxL ret hh).before args s = true ∧ (Cond.initialized y.cls).before args s = true ∧ (y.cls ≠ "java/lang/invoke/MethodHandle" ∧ y.cls ≠ "java/lang/invoke/VarHandle") ∧
  (∀ sig, parseMethodDescriptor y.desc = some sig → n = sig.parameters.length) ∧ (Cond.methodLink own index y).before args s = true ∧ (Cond.static y).before args s = true
theorem vx_cwSW {own : String} {index maxL mc ms : Nat} {y : MethodName} {bytes : ByteArray} {ret : Option FieldType} {hh : List (Nat × Nat × Nat × Nat)} {Ts ws ws' : List Cond} {rm : Room} (n : Nat) (ht : ∀ w ∈ Ts, w.before args s = true) (hT : GoodIn Ts (va_wsS own index y ws)) (hw : ws = Cond.codeWith y bytes maxL ret hh :: ws') (hrc : rm.cells = mc) (hrs : rm.slots = ms)
    (hd : y.cls ≠ "java/lang/invoke/MethodHandle" ∧ y.cls ≠ "java/lang/invoke/VarHandle" ∧ (parseMethodDescriptor y.desc).map (fun d => d.parameters.length) = some n) (hR : rm.frames + 1 ≤ R.frames ∧ 8 + (maxL + 11) + rm.locals ≤ R.locals) :
    vx_CSW R s args own index y bytes maxL ret hh ws rm mc ms n := by
  have ok : ∀ w ∈ va_wsS own index y ws, w.before args s = true := fun w h => ht w (hT w h).1
  have hG : GoodIn Ts ws := fun w h => hT w (by unfold va_wsS; exact List.mem_append_right _ h)
  have hc : Cond.codeWith y bytes maxL ret hh ∈ ws := by rw [hw]; exact List.mem_cons_self
  refine ⟨⟨hrc, hrs, hR.1, hR.2, pay_in ht hG, hc⟩, ht _ (hG _ hc).1, ok _ (by simp [va_wsS]), ⟨hd.1, hd.2.1⟩, fun sig h => ?_, ok _ (by simp [va_wsS]), ok _ (by simp [va_wsS])⟩
  have h2 := hd.2.2
  rw [h] at h2
  exact (Option.some.inj h2).symm
theorem vx_callSW (X : Stand p l e R s m args below meth c T locs cells slots) (hexec : p.tables.exec = Jvm.exec) {own : String} {index : Nat} {y : MethodName} {bytes : ByteArray} {maxL : Nat} {ret : Option FieldType} {hh : List (Nat × Nat × Nat × Nat)}
    (hown : s.vm.findClass own = some m.cls) (hlink : (Cond.methodLink own index y).before args s = true) (hstat : (Cond.static y).before args s = true) (hinit : (Cond.initialized y.cls).before args s = true)
    (hcode : (Cond.codeWith y bytes maxL ret hh).before args s = true) (hy : y.cls ≠ "java/lang/invoke/MethodHandle" ∧ y.cls ≠ "java/lang/invoke/VarHandle")
    {W9 : Nat} {Pre : Pt → Array Value → Prop} {Post : Pt → Array Value → Option Value → Pt → Prop} (hK : Back l R p e below s args y 3 W9 Pre Post)
    {g : JFrame} (hg : g.method = m) (hsize : g.locals.size = c.maxLocals) {argsL rest : List Value} (hlen : ∀ sig, parseMethodDescriptor y.desc = some sig → argsL.length = sig.parameters.length)
    (hstack : g.stack = argsL.reverse ++ rest) (hW : 2 * g.monitorRoom + (rest.map fun v => v.category).sum ≤ W9) (hdg : decode c.code g.pc = .ok (.invokestatic index, 3))
    (hpre : ∀ vm₁, s.WarmedH vm₁ → Pre ⟨T.setVm vm₁, locs, cells, slots⟩ argsL.toArray) :
    ∃ (v : Option Value) (vm₁ : Vm) (B : Pt), s.WarmedH vm₁ ∧ Stand p l e R s m args below meth c B.U B.locs B.cells B.slots ∧ Post ⟨T.setVm vm₁, locs, cells, slots⟩ argsL.toArray v B ∧
      ∀ target, Steps p.tables e below (B.U.setTop { g with pc := g.pc + 3, stack := v.toList ++ rest }) target → Steps p.tables e below (T.setTop g) target := by
  obtain ⟨mk, methM, cM, hnamed, hmethM, -, -, -, -, -, -, hsigM⟩ := Cond.codeWith_spec hcode
  have hstatic : methM.isStatic = true := Cond.static_spec hnamed hmethM hstat
  obtain ⟨kP, hkP, -⟩ := className_of_methodNamed hnamed
  have hinitP : kP.init = .initialized := Cond.initialized_spec (findClass_of_methodNamed hnamed) hkP hinit
  obtain ⟨vm₁, X₁, hstep₁⟩ := X.invokestatic hexec hown hlink hnamed hmethM hstatic hkP hinitP hy (g := g) hg (argsL := argsL) (rest := rest) (hlen _ hsigM) hstack hdg
  obtain ⟨v, B, X', hpost, hsteps⟩ := hK m meth c ⟨T.setVm vm₁, locs, cells, slots⟩ { g with stack := rest } (.invokestatic index) mk argsL.toArray X₁ hg hsize hdg hW (X₁.named hnamed) (hpre vm₁ X₁.warmed)
  exact ⟨v, vm₁, B, X₁.warmed, X', hpost, fun target h => hstep₁ _ fun acts => by rw [doInvoke_state]; exact hsteps.trans h⟩
theorem vx_runSW {y : MethodName} {bytes cc : ByteArray} {maxL nL mc ms n index : Nat} {ret : Option FieldType} {hh : List (Nat × Nat × Nat × Nat)} {ws : List Cond} {rm : Room} {Pc : Array Value → State → Prop} {Qc : Array Value → State → Outcome → State → Prop} {free : Addr → Prop} {Ts : List Cond} {own : String} {As rest : List Value} {g : JFrame}
    (S : CallFix p m c cc nL s args Ts own) (hM : Met l y ws rm Pc Qc mc ms free) (cw : vx_CSW R s args own index y bytes maxL ret hh ws rm mc ms n) (hp : PreS s H Pc As)
    (hg : g.method = m) (hn : As.length = n) (hsize : g.locals.size = nL) (hstack : g.stack = As.reverse ++ rest) (hW : 2 * g.monitorRoom + (rest.map fun v => v.category).sum ≤ 8) (hdg : decode cc g.pc = .ok (.invokestatic index, 3)) (hf : cells + mc ≤ R.cells ∧ slots + ms ≤ R.slots) :
    va_Run p l e R s m args below meth c H locs cells slots mc ms g rest (Qc As.toArray) (free) := by
  obtain ⟨⟨hrc, hrs, hfr, hlo, hws, hcw⟩, hcode, hini, hy, hlen, hl, hstt⟩ := cw
  have hK : Back l R p e below s args y 3 8 (PreOf R mc ms Pc) (PostOf Qc mc ms free) := va_backW (hh := hh) (bytes := bytes) (maxL := maxL) (ret := ret) hM hp.1 hrc hrs hfr hlo hws hcw (fun a' U hW => word_at hW (Or.inl (by first | rfl | simp [Cond.onTables, Cond.keeps, Cond.steady])) hini)
  obtain ⟨hx, hb, hml, ho, -⟩ := S
  intro T hT X
  obtain ⟨v, vm₁, ⟨U', l2, c2, s2⟩, hW₁, X', ⟨g', mk, t, L, e1, e2, hq, h1, hL, h2, h3⟩, st⟩ := vx_callSW X hx (hh := hh) (bytes := bytes) (maxL := maxL) (ret := ret) ho hl hstt hini hcode hy hK hg (hsize.trans hml.symm) (argsL := As) (rest := rest) (fun sig h => hn.trans (hlen sig h)) hstack hW (by rw [hb]; exact hdg)
    (fun vm₁ hW₁ => ⟨hf.1, hf.2, hp.2 (T.setVm vm₁) hT hW₁⟩)
  dsimp only [Pt.U, Pt.locs, Pt.cells, Pt.slots] at X' e1 e2 h1 h2 h3 st
  subst h1; subst h2; subst h3
  exact ⟨v, (T.setVm vm₁).calling g' mk As.toArray, t, U', L, hT, X', hL, e1, e2, hq, st⟩
/-- not caught here, past rows that name other classes: it goes on to the caller -/
theorem vx_outP {p : Program} {l : Launch} {e : Env} {R : Room} {s : State} {m : MethodId} {args : Array Value} {below : List Frame} {meth : Method} {c : Code} {H : Heap} {locs : List Loc} {cells slots : Nat} {free : Addr → Prop} {ls : Array Slot} {rest : List Value} {Qc : Array Value → State → Outcome → State → Prop} {XC : String → State → State → Prop}
    {pc : Nat} {own E : String} {ce : Cell} {q : Addr} {mc ms : Nat} (hown : s.vm.findClass own = some m.cls) (hlocks : meth.locks = false)
    (hpass : ∀ z ∈ c.exceptionTable.toList, covers z pc = false ∨ (z.catchType ≠ 0 ∧ ∃ nm : String, (Cond.classLink own z.catchType nm).before args s = true ∧ va_Nc E nm s)) (hcell : H[q]? = some ce) (hv : ce.vm = .none) (hcl : s.vm.findClass E = some ce.cls)
    (hx : ∀ t : State, t.heap = H → s.vm.Alike t.vm → XC E s t) (hf : ∀ z ∈ locs, free z.base) (hc : cells ≤ mc) (hs : slots ≤ ms) :
    vx_W p l e R s m args below meth c H locs cells slots (vx_MQ below Qc XC args s mc ms free) (F0 m pc ls rest) q := by
  intro T hT X
  have hpl : e.platform.magicAccessors = ({} : Platform).magicAccessors := by rw [X.admits.platform]
  obtain ⟨vm', hW', X', st⟩ := X.outThrough hlocks q (g := F0 m pc ls rest) rfl rfl rfl (cell := ce) (by rw [hT]; exact hcell) (by rw [hv]; rfl)
    (by obtain ⟨k9, h9, -⟩ := Vm.findClass_spec hcl; exact ⟨k9, h9⟩) (fun z hz => by
      rcases hpass z hz with h | ⟨hz0, nm, hl1, hn1⟩
      · exact Or.inl h
      · obtain ⟨c6, hc6, hcl6⟩ := Cond.classLink_spec hown hl1 e.platform hpl
        obtain ⟨a8, b8, h1, h2, h3⟩ := hn1
        cases Option.some.inj (h1.symm.trans hcl)
        cases Option.some.inj (h2.symm.trans hc6)
        exact Or.inr ⟨hz0, _, hcl6, h3⟩)
  obtain ⟨g₀, hfr⟩ := X'.frames_eq
  have hcell9 : ((T.setVm vm').setFrames (.throwing q :: below)).heap[q]? = some ce := by
    show T.heap[q]? = some ce
    rw [hT]; exact hcell
  have hend : Ended ((T.setVm vm').setFrames (.throwing q :: below)) below (.threw q) := State.frames_setFrames _ (State.cur_lt_of_frames hfr)
  refine ⟨(T.setVm vm').setFrames (.throwing q :: below), ?_, .threw q, X'.here.running, hend, Or.inr ⟨q, rfl, E, ce, locs, hx _ hT (X'.ends _).1.alike, hcell9, hv, hcl, (X'.ends _).1, (X'.ends _).2.mono hc hs, hf⟩⟩
  rw [X.pushThrowing_eq]
  exact st
/-- a thing of a world lies in the heap -/
theorem vx_lt {D : va_G} {cl : List vw_C} {ws : va_W} {H1 : Heap} (h : va_P D cl ws H1) {k : Nat} {q : Nat × va_E} (hk : ws[k]? = some q) : q.1 < H1.size := (h k q hk).lt
end VXS
/-! ===== END ===== -/
/-! ===== BEGIN methods with a table of their own: called by a name, returning or throwing ===== -/
section VXH
/-! vx_backW, vx_callVX, vx_callSX, vx_callVW, vx_runVW, vx_runVX, vx_runSX, vx_ofWH follow the same proofs as their sisters above (Free/Laws.lean, Shelf42/LK1.lean); vx_outP calls Shelf42/NT130.lean (outThrough). -/
section
variable {l : Launch} {R : Room} {p : Program} {e : Env} {below : List Frame} {s : State} {sargs : Array Value} {y : MethodName} {len W9 : Nat}
theorem vx_backW {ws : List Cond} {rm : Room} {Pc : Array Value → State → Prop} {Qc : Array Value → State → Outcome → State → Prop} {XC : String → State → State → Prop} {mc ms : Nat} {free : Addr → Prop} {bytes : ByteArray} {maxL : Nat} {ret : Option FieldType} {hh : List (Nat × Nat × Nat × Nat)}
    (hM : vx_Met l y ws rm Pc Qc XC mc ms free) (hblind : FrameBlind Pc) (hrc : rm.cells = mc) (hrs : rm.slots = ms)
    (hframes : rm.frames + 1 ≤ R.frames) (hlocals : W9 + (maxL + 11) + rm.locals ≤ R.locals)
    (hws : ∀ w ∈ ws, ∀ a' U, s.WarmedH U.vm → w.before a' U = true) (hcode : Cond.codeWith y bytes maxL ret hh ∈ ws) (hinit : ∀ a' U, s.WarmedH U.vm → (Cond.initialized y.cls).before a' U = true) :
    vx_Back l R p e below s sargs y len W9 (PreOf R mc ms Pc) (PostOf Qc mc ms free) (vx_Post XC mc ms free) := by
  intro m meth c A g ig mk a X hg hsize hdg hW hn hp
  have h1 : (headSpec ws rm).pre.before a A.U = true := atoms_intro fun w hw => hws w hw _ _ X.warmed
  have h2 : (Cond.codeWith y bytes maxL ret hh).before a A.U = true := hws _ hcode _ _ X.warmed
  have h3 : (Cond.initialized y.cls).before a A.U = true := hinit _ _ X.warmed
  have h4 : A.cells + (headSpec ws rm).room.cells ≤ R.cells := by rw [show (headSpec ws rm).room.cells = mc from hrc]; exact hp.1
  have h5 : A.slots + (headSpec ws rm).room.slots ≤ R.slots := by rw [show (headSpec ws rm).room.slots = ms from hrs]; exact hp.2.1
  have hPc : Pc a (A.U.calling g mk a) := hblind _ _ _ _ hp.2.2
  obtain ⟨U, Ls, c0, s0⟩ := A
  dsimp only [Pt.U, Pt.locs, Pt.cells, Pt.slots] at h1 h2 h3 h4 h5 X hn hPc ⊢
  obtain ⟨m9, methY, cY, hn9, hmY, hcY, -, hlY, -⟩ := Cond.codeWith_spec h2
  cases Option.some.inj (hn9.symm.trans hn)
  obtain ⟨kY, hkY, -⟩ := className_of_methodNamed hn
  have hinitY : kY.init = .initialized := Cond.initialized_spec (findClass_of_methodNamed hn) hkY h3
  have h : At U g.method c below := by rw [hg]; exact X.here
  have hlocals9 : W9 + (maxL + 11) + (headSpec ws rm).room.locals ≤ R.locals := hlocals
  have happ : (headSpec ws rm).appliesLoose y e.platform (U.calling g mk a) = true :=
    Spec.appliesLoose_calling (g := g) h hdg hn hkY hinitY
      (X.room_calling (g := g) (R' := (headSpec ws rm).room) hsize hmY hcY hframes (by rw [hlY]; omega) h4 h5) h1
  obtain ⟨mid, hmid⟩ := h.above
  have hfr : (U.setTop g).frames = (.java g :: mid) ++ below := by rw [State.frames_setTop' g h.top, hmid]; rfl
  obtain ⟨o, s₂, hsteps, -, hend, hq⟩ := Steps.callFree hM p X.admits X.cas X.clock (acts := []) hfr happ hPc trivial
  have hq' : vx_Q Qc XC mc ms free a (U.calling g mk a) o s₂ := hq
  rw [State.frames_setTop' g h.top] at hend
  obtain ⟨g₀, hg0⟩ := Option.isSome_iff_exists.mp h.top
  obtain ⟨r, hr⟩ := State.topJava?_eq_some.mp hg0
  have hr' : (({ U with heap := s₂.heap, slotsUsed := s₂.slotsUsed } : State).setVm s₂.vm).frames = .java g₀ :: r := hr
  rcases hq' with ⟨hqc, L, hfe, hL⟩ | ⟨q, rfl, E, ce, L, hx, hce, hcv, hcl, hW₂, hsm, hL⟩
  · obtain ⟨⟨v, rfl⟩, hW₂, e2, q2, q3, q4, q5, q6⟩ := id hfe
    have e3 : s₂ = ({ (U.calling g mk a).setFrames s₂.frames with heap := s₂.heap, slotsUsed := s₂.slotsUsed } : State).setVm s₂.vm := by
      have : s₂ = ({ s₂ with vm := (U.calling g mk a).vm } : State).setVm s₂.vm := rfl
      rw [e2] at this
      exact this
    obtain ⟨c₂, i₂, len₂, hc₂, hd₂, hf₂⟩ := hend
    have hW' : U.WarmedH s₂.vm := hW₂
    have hcc : c₂ = c := by
      have h1 : s₂.code? g.method = U.code? g.method := by
        rw [State.code?_eq, State.code?_eq, hW'.alike.method?]
      exact Option.some.inj (hc₂.symm.trans (h1.trans h.code))
    subst hcc
    have hlen : len₂ = len := by rw [hdg] at hd₂; cases hd₂; rfl
    subst hlen
    have hs₂ : s₂ = (({ U with heap := s₂.heap, slotsUsed := s₂.slotsUsed } : State).setVm s₂.vm).setTop { g with pc := g.pc + len₂, stack := v.toList ++ g.stack } := by
      refine e3.trans ?_
      rw [hf₂, State.calling_eq h.top, State.setFrames_setFrames, State.setTop_of_frames _ hr', hr]
      rfl
    have hsame : U.sameButNew ({ U with heap := s₂.heap, slotsUsed := s₂.slotsUsed } : State) L mc ms := by
      refine ⟨?_, q2, q3, q4, q5, q6⟩
      obtain ⟨t, ht, -⟩ := State.frames_cons hr
      show ({ U with heap := s₂.heap, slotsUsed := s₂.slotsUsed } : State) = { U.setFrames U.frames with heap := s₂.heap, slotsUsed := s₂.slotsUsed }
      rw [State.setFrames_self ht]
    subst hg
    refine Or.inl ⟨v, ⟨(({ U with heap := s₂.heap, slotsUsed := s₂.slotsUsed } : State).setVm s₂.vm), Ls ++ L, c0 + mc, s0 + ms⟩,
      ⟨X.admits, X.cas, X.clock, X.frames, X.room, X.hears, X.method, X.code, (X.here.setHeapUsed s₂.heap s₂.slotsUsed).setVm hW'.alike, X.tail, State.WarmedH.trans X.warmed hW', X.limits, X.bytes, X.same.trans (hsame.setVm s.vm)⟩,
      ⟨g, mk, s₂, L, rfl, rfl, hqc, rfl, hL, rfl, rfl⟩, ?_⟩
    show Steps p.tables e below _ ((({ U with heap := s₂.heap, slotsUsed := s₂.slotsUsed } : State).setVm s₂.vm).setTop { g with pc := g.pc + len₂, stack := v.toList ++ g.stack })
    rw [← hs₂]
    exact hsteps
  · obtain ⟨e2, q2, q3, q4, q5, q6⟩ := id hsm
    have e3 : s₂ = ({ (U.calling g mk a).setFrames s₂.frames with heap := s₂.heap, slotsUsed := s₂.slotsUsed } : State).setVm s₂.vm := by
      have : s₂ = ({ s₂ with vm := (U.calling g mk a).vm } : State).setVm s₂.vm := rfl
      rw [e2] at this
      exact this
    have hf₂ : s₂.frames = .throwing q :: .java g :: U.frames.tail := hend
    have hW' : U.WarmedH s₂.vm := hW₂
    have hs₂ : s₂ = ((({ U with heap := s₂.heap, slotsUsed := s₂.slotsUsed } : State).setVm s₂.vm).setTop g).pushFrame (.throwing q) := by
      refine e3.trans ?_
      rw [hf₂, State.calling_eq h.top, State.setFrames_setFrames, State.pushFrame, State.frames_setTop _ hr', State.setTop_of_frames _ hr', State.setFrames_setFrames, hr]
      rfl
    have hsame : U.sameButNew ({ U with heap := s₂.heap, slotsUsed := s₂.slotsUsed } : State) L mc ms := by
      refine ⟨?_, q2, q3, q4, q5, q6⟩
      obtain ⟨t, ht, -⟩ := State.frames_cons hr
      show ({ U with heap := s₂.heap, slotsUsed := s₂.slotsUsed } : State) = { U.setFrames U.frames with heap := s₂.heap, slotsUsed := s₂.slotsUsed }
      rw [State.setFrames_self ht]
    subst hg
    refine Or.inr ⟨q, ⟨(({ U with heap := s₂.heap, slotsUsed := s₂.slotsUsed } : State).setVm s₂.vm), Ls ++ L, c0 + mc, s0 + ms⟩,
      ⟨X.admits, X.cas, X.clock, X.frames, X.room, X.hears, X.method, X.code, (X.here.setHeapUsed s₂.heap s₂.slotsUsed).setVm hW'.alike, X.tail, State.WarmedH.trans X.warmed hW', X.limits, X.bytes, X.same.trans (hsame.setVm s.vm)⟩,
      ⟨g, mk, s₂, L, E, ce, rfl, rfl, hx, hce, hcv, hcl, rfl, hL, rfl, rfl⟩, ?_⟩
    show Steps p.tables e below _ (((({ U with heap := s₂.heap, slotsUsed := s₂.slotsUsed } : State).setVm s₂.vm).setTop g).pushFrame (.throwing q))
    rw [← hs₂]
    exact hsteps
end
variable {p : Program} {l : Launch} {e : Env} {R : Room} {s : State} {m : MethodId} {args : Array Value} {below : List Frame} {meth : Method} {c : Code} {T : State} {H : Heap} {locs : List Loc} {cells slots : Nat}
theorem vx_callVX (X : Stand p l e R s m args below meth c T locs cells slots) (hexec : p.tables.exec = Jvm.exec) {own C : String} {index : Nat} {y : MethodName} {bytes : ByteArray} {maxL : Nat} {ret : Option FieldType} {hh : List (Nat × Nat × Nat × Nat)}
    (hown : s.vm.findClass own = some m.cls) (hlink : (Cond.methodLink own index y).before args s = true) (hinst : (Cond.instanceMethod y).before args s = true) (hsel : (Cond.selects C y y).before args s = true)
    (hcode : (Cond.codeWith y bytes maxL ret hh).before args s = true) (hy : y.cls ≠ "java/lang/invoke/MethodHandle" ∧ y.cls ≠ "java/lang/invoke/VarHandle")
    {W9 : Nat} {Pre : Pt → Array Value → Prop} {Post : Pt → Array Value → Option Value → Pt → Prop} {PostX : Pt → Array Value → Addr → Pt → Prop} (hK : vx_Back l R p e below s args y 3 W9 Pre Post PostX)
    {b : Addr} {cellB : Cell} (hcell : T.heap[b]? = some cellB) (hobj : cellB.vm.isStatics = false) (hcls : s.vm.findClass C = some cellB.cls)
    {g : JFrame} (hg : g.method = m) (hsize : g.locals.size = c.maxLocals) {argsL rest : List Value} (hlen : ∀ sig, parseMethodDescriptor y.desc = some sig → argsL.length = sig.parameters.length)
    (hstack : g.stack = argsL.reverse ++ .ref b :: rest) (hW : 2 * g.monitorRoom + (rest.map fun v => v.category).sum ≤ W9) (hdg : decode c.code g.pc = .ok (.invokevirtual index, 3))
    (hpre : ∀ vm₁, s.WarmedH vm₁ → Pre ⟨T.setVm vm₁, locs, cells, slots⟩ (Value.ref b :: argsL).toArray) :
    (∃ (v : Option Value) (vm₁ : Vm) (B : Pt), s.WarmedH vm₁ ∧ Stand p l e R s m args below meth c B.U B.locs B.cells B.slots ∧ Post ⟨T.setVm vm₁, locs, cells, slots⟩ (Value.ref b :: argsL).toArray v B ∧
      ∀ target, Steps p.tables e below (B.U.setTop { g with pc := g.pc + 3, stack := v.toList ++ rest }) target → Steps p.tables e below (T.setTop g) target) ∨
    (∃ (q : Addr) (vm₁ : Vm) (B : Pt), s.WarmedH vm₁ ∧ Stand p l e R s m args below meth c B.U B.locs B.cells B.slots ∧ PostX ⟨T.setVm vm₁, locs, cells, slots⟩ (Value.ref b :: argsL).toArray q B ∧
      Steps p.tables e below (T.setTop g) ((B.U.setTop { g with stack := rest }).pushFrame (.throwing q))) := by
  obtain ⟨mk, methM, hnamed, hmethM, hstM, habM⟩ := Cond.instanceMethod_spec hinst
  obtain ⟨m8, methM', cM, hn8, hmethM', -, -, -, -, -, -, hsigM⟩ := Cond.codeWith_spec hcode
  cases Option.some.inj (hn8.symm.trans hnamed)
  cases hmethM.symm.trans hmethM'
  obtain ⟨c2, r2, m2, q1, q2, q3, q4, kP, hkP, hkPi⟩ := Cond.selects_spec hsel
  cases hcls.symm.trans q1
  cases (State.methodFound?_of_named hnamed hy).symm.trans q2
  cases hnamed.symm.trans q3
  have hselP : selectMethod e.platform s.vm cellB.cls mk = .method mk := by rw [Launch.admits_selectMethod X.admits]; exact q4
  obtain ⟨vm₁, X₁, hstep₁⟩ := X.invokevirtual hexec hown hlink hnamed hmethM hstM hkP hkPi hy (a := b) (cell := cellB) hcell
    (fun z h => by rw [h] at hobj; cases hobj) hselP hmethM habM hkP hkPi (g := g) hg (argsL := argsL) (rest := rest) (hlen _ hsigM) hstack hdg
  rcases hK m meth c ⟨T.setVm vm₁, locs, cells, slots⟩ { g with stack := rest } (.invokevirtual index) mk (Value.ref b :: argsL).toArray X₁ hg hsize hdg hW (X₁.named hnamed) (hpre vm₁ X₁.warmed) with ⟨v, B, X', hpost, hsteps⟩ | ⟨q, B, X', hpost, hsteps⟩
  · exact Or.inl ⟨v, vm₁, B, X₁.warmed, X', hpost, fun target h => hstep₁ _ fun acts => by rw [doInvoke_state]; exact hsteps.trans h⟩
  · exact Or.inr ⟨q, vm₁, B, X₁.warmed, X', hpost, hstep₁ _ fun acts => by rw [doInvoke_state]; exact hsteps⟩
theorem vx_callSX (X : Stand p l e R s m args below meth c T locs cells slots) (hexec : p.tables.exec = Jvm.exec) {own : String} {index : Nat} {y : MethodName} {bytes : ByteArray} {maxL : Nat} {ret : Option FieldType} {hh : List (Nat × Nat × Nat × Nat)}
    (hown : s.vm.findClass own = some m.cls) (hlink : (Cond.methodLink own index y).before args s = true) (hstat : (Cond.static y).before args s = true) (hinit : (Cond.initialized y.cls).before args s = true)
    (hcode : (Cond.codeWith y bytes maxL ret hh).before args s = true) (hy : y.cls ≠ "java/lang/invoke/MethodHandle" ∧ y.cls ≠ "java/lang/invoke/VarHandle")
    {W9 : Nat} {Pre : Pt → Array Value → Prop} {Post : Pt → Array Value → Option Value → Pt → Prop} {PostX : Pt → Array Value → Addr → Pt → Prop} (hK : vx_Back l R p e below s args y 3 W9 Pre Post PostX)
    {g : JFrame} (hg : g.method = m) (hsize : g.locals.size = c.maxLocals) {argsL rest : List Value} (hlen : ∀ sig, parseMethodDescriptor y.desc = some sig → argsL.length = sig.parameters.length)
    (hstack : g.stack = argsL.reverse ++ rest) (hW : 2 * g.monitorRoom + (rest.map fun v => v.category).sum ≤ W9) (hdg : decode c.code g.pc = .ok (.invokestatic index, 3))
    (hpre : ∀ vm₁, s.WarmedH vm₁ → Pre ⟨T.setVm vm₁, locs, cells, slots⟩ argsL.toArray) :
    (∃ (v : Option Value) (vm₁ : Vm) (B : Pt), s.WarmedH vm₁ ∧ Stand p l e R s m args below meth c B.U B.locs B.cells B.slots ∧ Post ⟨T.setVm vm₁, locs, cells, slots⟩ argsL.toArray v B ∧
      ∀ target, Steps p.tables e below (B.U.setTop { g with pc := g.pc + 3, stack := v.toList ++ rest }) target → Steps p.tables e below (T.setTop g) target) ∨
    (∃ (q : Addr) (vm₁ : Vm) (B : Pt), s.WarmedH vm₁ ∧ Stand p l e R s m args below meth c B.U B.locs B.cells B.slots ∧ PostX ⟨T.setVm vm₁, locs, cells, slots⟩ argsL.toArray q B ∧
      Steps p.tables e below (T.setTop g) ((B.U.setTop { g with stack := rest }).pushFrame (.throwing q))) := by
  obtain ⟨mk, methM, cM, hnamed, hmethM, -, -, -, -, -, -, hsigM⟩ := Cond.codeWith_spec hcode
  have hstatic : methM.isStatic = true := Cond.static_spec hnamed hmethM hstat
  obtain ⟨kP, hkP, -⟩ := className_of_methodNamed hnamed
  have hinitP : kP.init = .initialized := Cond.initialized_spec (findClass_of_methodNamed hnamed) hkP hinit
  obtain ⟨vm₁, X₁, hstep₁⟩ := X.invokestatic hexec hown hlink hnamed hmethM hstatic hkP hinitP hy (g := g) hg (argsL := argsL) (rest := rest) (hlen _ hsigM) hstack hdg
  rcases hK m meth c ⟨T.setVm vm₁, locs, cells, slots⟩ { g with stack := rest } (.invokestatic index) mk argsL.toArray X₁ hg hsize hdg hW (X₁.named hnamed) (hpre vm₁ X₁.warmed) with ⟨v, B, X', hpost, hsteps⟩ | ⟨q, B, X', hpost, hsteps⟩
  · exact Or.inl ⟨v, vm₁, B, X₁.warmed, X', hpost, fun target h => hstep₁ _ fun acts => by rw [doInvoke_state]; exact hsteps.trans h⟩
  · exact Or.inr ⟨q, vm₁, B, X₁.warmed, X', hpost, hstep₁ _ fun acts => by rw [doInvoke_state]; exact hsteps⟩
theorem vx_callVW (X : Stand p l e R s m args below meth c T locs cells slots) (hexec : p.tables.exec = Jvm.exec) {own C : String} {index : Nat} {y : MethodName} {bytes : ByteArray} {maxL : Nat} {ret : Option FieldType} {hh : List (Nat × Nat × Nat × Nat)}
    (hown : s.vm.findClass own = some m.cls) (hlink : (Cond.methodLink own index y).before args s = true) (hinst : (Cond.instanceMethod y).before args s = true) (hsel : (Cond.selects C y y).before args s = true)
    (hcode : (Cond.codeWith y bytes maxL ret hh).before args s = true) (hy : y.cls ≠ "java/lang/invoke/MethodHandle" ∧ y.cls ≠ "java/lang/invoke/VarHandle")
    {W9 : Nat} {Pre : Pt → Array Value → Prop} {Post : Pt → Array Value → Option Value → Pt → Prop} (hK : Back l R p e below s args y 3 W9 Pre Post)
    {b : Addr} {cellB : Cell} (hcell : T.heap[b]? = some cellB) (hobj : cellB.vm.isStatics = false) (hcls : s.vm.findClass C = some cellB.cls)
    {g : JFrame} (hg : g.method = m) (hsize : g.locals.size = c.maxLocals) {argsL rest : List Value} (hlen : ∀ sig, parseMethodDescriptor y.desc = some sig → argsL.length = sig.parameters.length)
    (hstack : g.stack = argsL.reverse ++ .ref b :: rest) (hW : 2 * g.monitorRoom + (rest.map fun v => v.category).sum ≤ W9) (hdg : decode c.code g.pc = .ok (.invokevirtual index, 3))
    (hpre : ∀ vm₁, s.WarmedH vm₁ → Pre ⟨T.setVm vm₁, locs, cells, slots⟩ (Value.ref b :: argsL).toArray) :
    ∃ (v : Option Value) (vm₁ : Vm) (B : Pt), s.WarmedH vm₁ ∧ Stand p l e R s m args below meth c B.U B.locs B.cells B.slots ∧ Post ⟨T.setVm vm₁, locs, cells, slots⟩ (Value.ref b :: argsL).toArray v B ∧
      ∀ target, Steps p.tables e below (B.U.setTop { g with pc := g.pc + 3, stack := v.toList ++ rest }) target → Steps p.tables e below (T.setTop g) target := by
  obtain ⟨mk, methM, hnamed, hmethM, hstM, habM⟩ := Cond.instanceMethod_spec hinst
  obtain ⟨m8, methM', cM, hn8, hmethM', -, -, -, -, -, -, hsigM⟩ := Cond.codeWith_spec hcode
  cases Option.some.inj (hn8.symm.trans hnamed)
  cases hmethM.symm.trans hmethM'
  obtain ⟨c2, r2, m2, q1, q2, q3, q4, kP, hkP, hkPi⟩ := Cond.selects_spec hsel
  cases hcls.symm.trans q1
  cases (State.methodFound?_of_named hnamed hy).symm.trans q2
  cases hnamed.symm.trans q3
  have hselP : selectMethod e.platform s.vm cellB.cls mk = .method mk := by rw [Launch.admits_selectMethod X.admits]; exact q4
  obtain ⟨vm₁, X₁, hstep₁⟩ := X.invokevirtual hexec hown hlink hnamed hmethM hstM hkP hkPi hy (a := b) (cell := cellB) hcell
    (fun z h => by rw [h] at hobj; cases hobj) hselP hmethM habM hkP hkPi (g := g) hg (argsL := argsL) (rest := rest) (hlen _ hsigM) hstack hdg
  obtain ⟨v, B, X', hpost, hsteps⟩ := hK m meth c ⟨T.setVm vm₁, locs, cells, slots⟩ { g with stack := rest } (.invokevirtual index) mk (Value.ref b :: argsL).toArray X₁ hg hsize hdg hW (X₁.named hnamed) (hpre vm₁ X₁.warmed)
  exact ⟨v, vm₁, B, X₁.warmed, X', hpost, fun target h => hstep₁ _ fun acts => by rw [doInvoke_state]; exact hsteps.trans h⟩
abbrev vx_CVW (R : Room) (s : State) (args : Array Value) (own C : String) (index : Nat) (y : MethodName) (bytes : ByteArray) (maxL : Nat) (ret : Option FieldType) (hh : List (Nat × Nat × Nat × Nat)) (ws : List Cond) (rm : Room) (mc ms n : Nat) : Prop :=
  (rm.cells = mc ∧ rm.slots = ms ∧ rm.frames + 1 ≤ R.frames ∧ 8 + (maxL + 11) + rm.locals ≤ R.locals ∧ (∀ w ∈ ws, ∀ (a' : Array Value) (U : State), s.WarmedH U.vm → w.before a' U = true) ∧ Cond.codeWith y bytes maxL ret hh ∈ ws) ∧
  (Cond.codeWith y bytes maxL ret hh).before args s = true ∧ (Cond.initialized y.cls).before args s = true ∧ (y.cls ≠ "java/lang/invoke/MethodHandle" ∧ y.cls ≠ "java/lang/invoke/VarHandle") ∧
  (∀ sig, parseMethodDescriptor y.desc = some sig → n = sig.parameters.length) ∧ (Cond.methodLink own index y).before args s = true ∧ (Cond.instanceMethod y).before args s = true ∧ (Cond.selects C y y).before args s = true
theorem vx_cwVW {own C : String} {index maxL mc ms : Nat} {y : MethodName} {bytes : ByteArray} {ret : Option FieldType} {hh : List (Nat × Nat × Nat × Nat)} {Ts ws ws' : List Cond} {rm : Room} (n : Nat) (ht : ∀ w ∈ Ts, w.before args s = true) (hT : GoodIn Ts (wsV own index C y ws)) (hw : ws = Cond.codeWith y bytes maxL ret hh :: ws') (hrc : rm.cells = mc) (hrs : rm.slots = ms)
    (hd : y.cls = C ∧ y.cls ≠ "java/lang/invoke/MethodHandle" ∧ y.cls ≠ "java/lang/invoke/VarHandle" ∧ (parseMethodDescriptor y.desc).map (fun d => d.parameters.length) = some n) (hR : rm.frames + 1 ≤ R.frames ∧ 8 + (maxL + 11) + rm.locals ≤ R.locals) :
    vx_CVW R s args own C index y bytes maxL ret hh ws rm mc ms n := by
  obtain ⟨hC, hd⟩ := hd
  subst hC
  have ok : ∀ w ∈ wsV own index y.cls y ws, w.before args s = true := fun w h => ht w (hT w h).1
  have hG : GoodIn Ts ws := fun w h => hT w (by unfold wsV; exact List.mem_append_right _ h)
  have hc : Cond.codeWith y bytes maxL ret hh ∈ ws := by rw [hw]; exact List.mem_cons_self
  refine ⟨⟨hrc, hrs, hR.1, hR.2, pay_in ht hG, hc⟩, ht _ (hG _ hc).1, ok _ (by simp [wsV]), ⟨hd.1, hd.2.1⟩, fun sig h => ?_, ok _ (by simp [wsV]), ok _ (by simp [wsV]), ok _ (by simp [wsV])⟩
  have h2 := hd.2.2
  rw [h] at h2
  exact (Option.some.inj h2).symm
theorem vx_runVW {y : MethodName} {bytes cc : ByteArray} {maxL nL mc ms n index : Nat} {ret : Option FieldType} {hh : List (Nat × Nat × Nat × Nat)} {ws : List Cond} {rm : Room} {Pc : Array Value → State → Prop} {Qc : Array Value → State → Outcome → State → Prop} {free : Addr → Prop} {Ts : List Cond} {own C : String} {b : Addr} {As rest : List Value} {g : JFrame}
    (S : CallFix p m c cc nL s args Ts own) (hM : Met l y ws rm Pc Qc mc ms free) (cw : vx_CVW R s args own C index y bytes maxL ret hh ws rm mc ms n) (hp : PreV s H C b Pc As)
    (hg : g.method = m) (hn : As.length = n) (hsize : g.locals.size = nL) (hstack : g.stack = As.reverse ++ .ref b :: rest) (hW : 2 * g.monitorRoom + (rest.map fun v => v.category).sum ≤ 8) (hdg : decode cc g.pc = .ok (.invokevirtual index, 3)) (hf : cells + mc ≤ R.cells ∧ slots + ms ≤ R.slots) :
    va_Run p l e R s m args below meth c H locs cells slots mc ms g rest (Qc (Value.ref b :: As).toArray) free := by
  obtain ⟨⟨hrc, hrs, hfr, hlo, hws, hcw⟩, hcode, hini, hy, hlen, hl, hin, hse⟩ := cw
  have hK : Back l R p e below s args y 3 8 (PreOf R mc ms Pc) (PostOf Qc mc ms free) := va_backW (hh := hh) (bytes := bytes) (maxL := maxL) (ret := ret) hM hp.1 hrc hrs hfr hlo hws hcw (fun a' U hW => word_at hW (Or.inl (by first | rfl | simp [Cond.onTables, Cond.keeps, Cond.steady])) hini)
  obtain ⟨hx, hb, hml, ho, -⟩ := S
  obtain ⟨-, ⟨cellB, hcB, hoB, hclB⟩, hPc⟩ := hp
  intro T hT X
  obtain ⟨v, vm₁, ⟨U', l2, c2, s2⟩, hW₁, X', ⟨g', mk, t, L, e1, e2, hq, h1, hL, h2, h3⟩, st⟩ := vx_callVW X hx (C := C) (hh := hh) (bytes := bytes) (maxL := maxL) (ret := ret) ho hl hin hse hcode hy hK (by rw [hT]; exact hcB) hoB hclB hg (hsize.trans hml.symm) (argsL := As) (rest := rest) (fun sig h => hn.trans (hlen sig h)) hstack hW (by rw [hb]; exact hdg)
    (fun vm₁ hW₁ => ⟨hf.1, hf.2, hPc (T.setVm vm₁) hT hW₁⟩)
  dsimp only [Pt.U, Pt.locs, Pt.cells, Pt.slots] at X' e1 e2 h1 h2 h3 st
  subst h1; subst h2; subst h3
  exact ⟨v, (T.setVm vm₁).calling g' mk (Value.ref b :: As).toArray, t, U', L, hT, X', hL, e1, e2, hq, st⟩
section
variable {y : MethodName} {bytes cc : ByteArray} {maxL nL mc ms n index : Nat} {ret : Option FieldType} {ws : List Cond} {rm : Room} {Pc : Array Value → State → Prop} {Qc : Array Value → State → Outcome → State → Prop} {XC : String → State → State → Prop} {free : Addr → Prop} {Ts : List Cond} {own C : String} {b : Addr} {As rest : List Value} {g : JFrame}
theorem vx_runVX {hh : List (Nat × Nat × Nat × Nat)} (S : CallFix p m c cc nL s args Ts own) (hM : vx_Met l y ws rm Pc Qc XC mc ms free) (cw : vx_CVW R s args own C index y bytes maxL ret hh ws rm mc ms n) (hp : PreV s H C b Pc As)
    (hg : g.method = m) (hn : As.length = n) (hsize : g.locals.size = nL) (hstack : g.stack = As.reverse ++ .ref b :: rest) (hW : 2 * g.monitorRoom + (rest.map fun v => v.category).sum ≤ 8) (hdg : decode cc g.pc = .ok (.invokevirtual index, 3)) (hf : cells + mc ≤ R.cells ∧ slots + ms ≤ R.slots) :
    vx_Run p l e R s m args below meth c H locs cells slots mc ms g rest (Qc (Value.ref b :: As).toArray) XC free := by
  obtain ⟨⟨hrc, hrs, hfr, hlo, hws, hcw⟩, hcode, hini, hy, hlen, hl, hin, hse⟩ := cw
  have hK : vx_Back l R p e below s args y 3 8 (PreOf R mc ms Pc) (PostOf Qc mc ms free) (vx_Post XC mc ms free) := vx_backW (hh := hh) (bytes := bytes) (maxL := maxL) (ret := ret) hM hp.1 hrc hrs hfr hlo hws hcw (fun a' U hW => word_at hW (Or.inl (by first | rfl | simp [Cond.onTables, Cond.keeps, Cond.steady])) hini)
  obtain ⟨hx, hb, hml, ho, -⟩ := S
  obtain ⟨-, ⟨cellB, hcB, hoB, hclB⟩, hPc⟩ := hp
  intro T hT X
  rcases vx_callVX X hx (C := C) (hh := hh) (bytes := bytes) (maxL := maxL) (ret := ret) ho hl hin hse hcode hy hK (by rw [hT]; exact hcB) hoB hclB hg (hsize.trans hml.symm) (argsL := As) (rest := rest) (fun sig h => hn.trans (hlen sig h)) hstack hW (by rw [hb]; exact hdg)
    (fun vm₁ hW₁ => ⟨hf.1, hf.2, hPc (T.setVm vm₁) hT hW₁⟩) with ⟨v, vm₁, ⟨U', l2, c2, s2⟩, hW₁, X', ⟨g', mk, t, L, e1, e2, hq, h1, hL, h2, h3⟩, st⟩ | ⟨q, vm₁, ⟨U', l2, c2, s2⟩, hW₁, X', ⟨g', mk, t, L, E, ce, e1, e2, hq, hce, hcv, hcl, h1, hL, h2, h3⟩, st⟩
  · dsimp only [Pt.U, Pt.locs, Pt.cells, Pt.slots] at X' e1 e2 h1 h2 h3 st
    subst h1; subst h2; subst h3
    exact Or.inl ⟨v, (T.setVm vm₁).calling g' mk (Value.ref b :: As).toArray, t, U', L, hT, X', hL, e1, e2, hq, st⟩
  · dsimp only [Pt.U, Pt.locs, Pt.cells, Pt.slots] at X' e1 e2 h1 h2 h3 st hcl
    subst h1; subst h2; subst h3
    exact Or.inr ⟨q, (T.setVm vm₁).calling g' mk (Value.ref b :: As).toArray, t, U', L, E, ce, hT, X', hL, e1, e2, hq, hce, hcv, vx_cls hW₁ hcl, st⟩
theorem vx_runSX {hh : List (Nat × Nat × Nat × Nat)} (S : CallFix p m c cc nL s args Ts own) (hM : vx_Met l y ws rm Pc Qc XC mc ms free) (cw : vx_CSW R s args own index y bytes maxL ret hh ws rm mc ms n) (hp : PreS s H Pc As)
    (hg : g.method = m) (hn : As.length = n) (hsize : g.locals.size = nL) (hstack : g.stack = As.reverse ++ rest) (hW : 2 * g.monitorRoom + (rest.map fun v => v.category).sum ≤ 8) (hdg : decode cc g.pc = .ok (.invokestatic index, 3)) (hf : cells + mc ≤ R.cells ∧ slots + ms ≤ R.slots) :
    vx_Run p l e R s m args below meth c H locs cells slots mc ms g rest (Qc As.toArray) XC free := by
  obtain ⟨⟨hrc, hrs, hfr, hlo, hws, hcw⟩, hcode, hini, hy, hlen, hl, hstt⟩ := cw
  have hK : vx_Back l R p e below s args y 3 8 (PreOf R mc ms Pc) (PostOf Qc mc ms free) (vx_Post XC mc ms free) := vx_backW (hh := hh) (bytes := bytes) (maxL := maxL) (ret := ret) hM hp.1 hrc hrs hfr hlo hws hcw (fun a' U hW => word_at hW (Or.inl (by first | rfl | simp [Cond.onTables, Cond.keeps, Cond.steady])) hini)
  obtain ⟨hx, hb, hml, ho, -⟩ := S
  intro T hT X
  rcases vx_callSX X hx (hh := hh) (bytes := bytes) (maxL := maxL) (ret := ret) ho hl hstt hini hcode hy hK hg (hsize.trans hml.symm) (argsL := As) (rest := rest) (fun sig h => hn.trans (hlen sig h)) hstack hW (by rw [hb]; exact hdg)
    (fun vm₁ hW₁ => ⟨hf.1, hf.2, hp.2 (T.setVm vm₁) hT hW₁⟩) with ⟨v, vm₁, ⟨U', l2, c2, s2⟩, hW₁, X', ⟨g', mk, t, L, e1, e2, hq, h1, hL, h2, h3⟩, st⟩ | ⟨q, vm₁, ⟨U', l2, c2, s2⟩, hW₁, X', ⟨g', mk, t, L, E, ce, e1, e2, hq, hce, hcv, hcl, h1, hL, h2, h3⟩, st⟩
  · dsimp only [Pt.U, Pt.locs, Pt.cells, Pt.slots] at X' e1 e2 h1 h2 h3 st
    subst h1; subst h2; subst h3
    exact Or.inl ⟨v, (T.setVm vm₁).calling g' mk As.toArray, t, U', L, hT, X', hL, e1, e2, hq, st⟩
  · dsimp only [Pt.U, Pt.locs, Pt.cells, Pt.slots] at X' e1 e2 h1 h2 h3 st hcl
    subst h1; subst h2; subst h3
    exact Or.inr ⟨q, (T.setVm vm₁).calling g' mk As.toArray, t, U', L, E, ce, hT, X', hL, e1, e2, hq, hce, hcv, vx_cls hW₁ hcl, st⟩
end
end VXH
theorem vx_ofWH {l : Launch} {y : MethodName} {ws ws' : List Cond} {rm : Room} {Pc : Array Value → State → Prop} {Qc : Array Value → State → Outcome → State → Prop} {XC : String → State → State → Prop} {mc ms : Nat} {free : Addr → Prop} {cc : ByteArray} {maxL : Nat} {ret : Option FieldType} {hh : List (Nat × Nat × Nat × Nat)}
    (hy : plainName y.cls = true) (hw : ws = Cond.codeWith y cc maxL ret hh :: ws')
    (body : ∀ p e s m args below meth c s₁, BodyLoose p l y (headSpec ws rm) cc maxL ret e s m args below meth c s₁ → c.maxLocals = maxL → Pc args s →
      W p l e (headSpec ws rm).room s m args below meth c s.heap [] 0 0 (vx_MQ below Qc XC args s mc ms free) (entryFrame m args maxL)) : vx_Met l y ws rm Pc Qc XC mc ms free := by
  refine MetFree.of_bodyS (code := cc) (maxLocals := maxL) (ret := ret) hy ?_ ?_
  · intro args s m h hn
    obtain ⟨m9, meth, c, hn9, h1, h2, h3, h4, -, h5, h6, -⟩ := Cond.codeWith_spec (atoms_spec (ws := ws) h _ (by rw [hw]; exact List.mem_cons_self))
    cases hn.symm.trans hn9
    exact ⟨meth, c, h1, h2, h3, h4, h5, h6⟩
  · intro p e s m args below meth c s₁ B hml hP _
    have hh0 : s₁.heap = s.heap := by rw [B.state]; rfl
    obtain ⟨t, a1, o, b1, b2, b3⟩ := body p e s m args below meth c s₁ B hml hP s₁ hh0 (Stand.of_body B)
    exact ⟨t, o, a1, b1, b2, b3⟩
/-! ===== END ===== -/
end
section
/-! P = 2^61 - 1 is prime: by the order of 37 (Lucas); then every number but 0 has an inverse -/
def sd_pw (N : Nat) : Nat → Nat → Nat → Nat
  | 0, _, _ => 1 % N
  | f + 1, b, e => if e % 2 = 1 then (b * sd_pw N f (b * b % N) (e / 2)) % N else sd_pw N f (b * b % N) (e / 2)
theorem sd_pw_eq (N : Nat) : ∀ (f b e : Nat), e < 2 ^ f → sd_pw N f b e = b ^ e % N := by
  intro f
  induction f with
  | zero =>
    intro b e h
    have h0 : e = 0 := by rw [Nat.pow_zero] at h; omega
    subst h0
    rw [sd_pw, Nat.pow_zero]
  | succ f ihf =>
    intro b e h
    have h2 : e / 2 < 2 ^ f := by rw [Nat.pow_succ] at h; omega
    have ih := ihf (b * b % N) (e / 2) h2
    have hb : (b * b % N) ^ (e / 2) % N = (b * b) ^ (e / 2) % N := (Nat.pow_mod (b * b) (e / 2) N).symm
    have he : b ^ e = (b * b) ^ (e / 2) * b ^ (e % 2) := by
      rw [← Nat.pow_two, ← Nat.pow_mul, ← Nat.pow_add, Nat.div_add_mod]
    rw [sd_pw, ih, hb, he]
    by_cases h1 : e % 2 = 1
    · rw [if_pos h1, h1, Nat.pow_one, Nat.mul_mod_mod, Nat.mul_comm]
    · have h3 : e % 2 = 0 := by omega
      rw [if_neg h1, h3, Nat.pow_zero, Nat.mul_one]
theorem sd_one_mul {g d a : Nat} (h : g ^ a % d = 1 % d) (k : Nat) : g ^ (a * k) % d = 1 % d := by
  rw [Nat.pow_mul, Nat.pow_mod, h, ← Nat.pow_mod, Nat.one_pow]
theorem sd_one_add {g d a : Nat} (b : Nat) (ha : g ^ a % d = 1 % d) : g ^ (a + b) % d = g ^ b % d := by
  rw [Nat.pow_add, Nat.mul_mod, ha, ← Nat.mul_mod, Nat.one_mul]
theorem sd_one_gcd {g d : Nat} (a b : Nat) : g ^ a % d = 1 % d → g ^ b % d = 1 % d → g ^ (Nat.gcd a b) % d = 1 % d := by
  induction a, b using Nat.gcd.induction with
  | H0 n => intro _ h; rw [Nat.gcd_zero_left]; exact h
  | H1 m n hm ih =>
    intro h1 h2
    rw [Nat.gcd_rec]
    refine ih ?_ h1
    have h3 := sd_one_add (n % m) (sd_one_mul h1 (n / m))
    rw [Nat.div_add_mod] at h3
    rw [← h3]
    exact h2
theorem sd_pigeon (N d : Nat) (f : Nat → Nat) (h1 : ∀ i, i < N → f i < d ∧ f i ≠ 0) (h2 : ∀ i j, i < j → j < N → f i ≠ f j) : N ≤ d - 1 := by
  have hn : ((List.range N).map f).Nodup := by
    refine List.pairwise_map.mpr (List.Pairwise.imp_of_mem (R := fun a b => a < b) ?_ List.pairwise_lt_range)
    intro a b ha hb hab
    exact h2 a b hab (List.mem_range.mp hb)
  have hs : (List.range N).map f ⊆ List.range' 1 (d - 1) := by
    intro x hx
    obtain ⟨i, hi, rfl⟩ := List.mem_map.mp hx
    have := h1 i (List.mem_range.mp hi)
    rw [List.mem_range'_1]
    omega
  have h := List.Nodup.length_le_of_subset hn hs
  rw [List.length_map, List.length_range, List.length_range'] at h
  exact h
theorem sd_lucas (N g f : Nat) (qs : List Nat) (hN : 1 < N) (hf : N - 1 < 2 ^ f) (h1 : sd_pw N f g (N - 1) = 1)
    (hq : ∀ q ∈ qs, Nat.gcd (sd_pw N f g ((N - 1) / q) + (N - 1)) N = 1)
    (hm : ∀ m, m ∣ N - 1 → (∀ q ∈ qs, ¬ q ∣ m) → m = 1) (hq0 : ∀ q ∈ qs, 0 < q) : ∀ d, 1 < d → d ∣ N → N ≤ d := by
  intro d hd hdN
  have hdd : 1 % d = 1 := Nat.mod_eq_of_lt hd
  have hone : g ^ (N - 1) % d = 1 % d := by
    have := sd_pw_eq N f g (N - 1) hf
    rw [h1] at this
    rw [← Nat.mod_mod_of_dvd _ hdN, ← this]
  have hnot : ∀ q ∈ qs, ¬ g ^ ((N - 1) / q) % d = 1 % d := by
    intro q hqq hc
    have hlt : (N - 1) / q < 2 ^ f := Nat.lt_of_le_of_lt (Nat.div_le_self _ _) hf
    have hx := sd_pw_eq N f g ((N - 1) / q) hlt
    have hg := hq q hqq
    generalize hX : sd_pw N f g ((N - 1) / q) = X at hx hg
    have hXd : X % d = 1 := by rw [hx, Nat.mod_mod_of_dvd _ hdN, hc, hdd]
    have hdX : d ∣ X + (N - 1) := by
      have e := Nat.div_add_mod X d
      rw [hXd] at e
      have e2 : X + (N - 1) = d * (X / d) + N := by omega
      rw [e2]
      exact Nat.dvd_add (Nat.dvd_mul_right _ _) hdN
    have hd1 : d ∣ 1 := by rw [← hg]; exact Nat.dvd_gcd hdX hdN
    have := Nat.le_of_dvd (by omega) hd1
    omega
  have hp : N - 1 ≤ d - 1 := by
    refine sd_pigeon (N - 1) d (fun i => g ^ i % d) ?_ ?_
    · intro i hi
      refine ⟨Nat.mod_lt _ (by omega), ?_⟩
      intro h0
      have h0 : g ^ i % d = 0 := h0
      have e : g ^ (N - 1) % d = 0 := by
        rw [show N - 1 = i + (N - 1 - i) by omega, Nat.pow_add, Nat.mul_mod, h0, Nat.zero_mul, Nat.zero_mod]
      rw [hone, hdd] at e
      omega
    · intro i j hij hj hc
      have hc : g ^ i % d = g ^ j % d := hc
      have e1 : g ^ (N - 1 - i) * g ^ i % d = g ^ (N - 1 - i) * g ^ j % d := by rw [Nat.mul_mod, hc, ← Nat.mul_mod]
      rw [← Nat.pow_add, ← Nat.pow_add, show N - 1 - i + i = N - 1 by omega, show N - 1 - i + j = (N - 1) + (j - i) by omega, sd_one_add (j - i) hone, hone] at e1
      have hr := sd_one_gcd (j - i) (N - 1) e1.symm hone
      have hr1 : Nat.gcd (j - i) (N - 1) ∣ N - 1 := Nat.gcd_dvd_right _ _
      have hr2 : Nat.gcd (j - i) (N - 1) ≤ j - i := Nat.le_of_dvd (by omega) (Nat.gcd_dvd_left _ _)
      generalize Nat.gcd (j - i) (N - 1) = r at hr hr1 hr2
      obtain ⟨m, hrm⟩ := hr1
      have hm1 : m ≠ 1 := by
        intro e
        rw [e, Nat.mul_one] at hrm
        omega
      have hex : ∃ q, q ∈ qs ∧ q ∣ m := Classical.byContradiction (fun hn => hm1 (hm m ⟨r, by rw [hrm, Nat.mul_comm]⟩ (fun q h9 h8 => hn ⟨q, h9, h8⟩)))
      obtain ⟨q, hqq, m2, hm2⟩ := hex
      refine hnot q hqq ?_
      have e3 : (N - 1) / q = r * m2 := by
        rw [hrm, hm2, show r * (q * m2) = q * (r * m2) by rw [← Nat.mul_assoc, Nat.mul_comm r q, Nat.mul_assoc]]
        exact Nat.mul_div_cancel_left _ (hq0 q hqq)
      rw [e3]
      exact sd_one_mul hr m2
  omega
theorem sd_cop (q m : Nat) (hq : ∀ d, d < q + 1 → q % d = 0 → d = 1 ∨ d = q) (h0 : 0 < q) (h : ¬ q ∣ m) : Nat.Coprime m q := by
  have h1 : Nat.gcd m q ∣ q := Nat.gcd_dvd_right _ _
  have h2 : Nat.gcd m q < q + 1 := Nat.lt_succ_of_le (Nat.le_of_dvd h0 h1)
  rcases hq _ h2 (Nat.mod_eq_zero_of_dvd h1) with e | e
  · exact e
  · exact absurd (by rw [← e]; exact Nat.gcd_dvd_left _ _) h
abbrev sd_P : Nat := 2305843009213693951
def sd_qs : List Nat := [2, 3, 5, 7, 11, 13, 31, 41, 61, 151, 331, 1321]
theorem sd_small : ∀ q ∈ sd_qs, 0 < q ∧ ∀ d, d < q + 1 → q % d = 0 → d = 1 ∨ d = q := by decide +kernel
theorem sd_P_fac : sd_P - 1 = 2 * (3 * (3 * (5 * (5 * (7 * (11 * (13 * (31 * (41 * (61 * (151 * (331 * 1321)))))))))))) := by decide +kernel
theorem sd_P_div : ∀ d, 1 < d → d ∣ sd_P → sd_P ≤ d := by
  refine sd_lucas sd_P 37 61 sd_qs (by decide +kernel) (by decide +kernel) (by decide +kernel) (by decide +kernel) ?_ (fun q h => (sd_small q h).1)
  intro m hm hq
  have c : ∀ q ∈ sd_qs, Nat.Coprime m q := fun q h => sd_cop q m (sd_small q h).2 (sd_small q h).1 (hq q h)
  have c2 := c 2 (by decide)
  have c3 := c 3 (by decide)
  have c5 := c 5 (by decide)
  rw [sd_P_fac] at hm
  refine Nat.Coprime.eq_one_of_dvd ?_ hm
  exact Nat.Coprime.mul_right c2 (Nat.Coprime.mul_right c3 (Nat.Coprime.mul_right c3 (Nat.Coprime.mul_right c5 (Nat.Coprime.mul_right c5 (Nat.Coprime.mul_right (c 7 (by decide)) (Nat.Coprime.mul_right (c 11 (by decide)) (Nat.Coprime.mul_right (c 13 (by decide)) (Nat.Coprime.mul_right (c 31 (by decide)) (Nat.Coprime.mul_right (c 41 (by decide)) (Nat.Coprime.mul_right (c 61 (by decide)) (Nat.Coprime.mul_right (c 151 (by decide)) (Nat.Coprime.mul_right (c 331 (by decide)) (c 1321 (by decide))))))))))))))
theorem sd_P_cop {a : Nat} (h0 : 0 < a) (h : a < sd_P) : Nat.gcd a sd_P = 1 := by
  have h1 : Nat.gcd a sd_P ∣ sd_P := Nat.gcd_dvd_right _ _
  have h2 : Nat.gcd a sd_P ≤ a := Nat.le_of_dvd h0 (Nat.gcd_dvd_left _ _)
  have h3 : 0 < Nat.gcd a sd_P := Nat.gcd_pos_of_pos_left _ h0
  generalize Nat.gcd a sd_P = d at h1 h2 h3
  rcases Nat.lt_or_ge 1 d with q | q
  · have := sd_P_div d q h1
    omega
  · omega
theorem sd_bez (a b : Nat) : ∃ x y : Int, (a : Int) * x + (b : Int) * y = ((Nat.gcd a b : Nat) : Int) := by
  induction a, b using Nat.gcd.induction with
  | H0 n => exact ⟨0, 1, by simp⟩
  | H1 m n hm ih =>
    obtain ⟨x, y, h⟩ := ih
    refine ⟨y - ((n / m : Nat) : Int) * x, x, ?_⟩
    rw [Nat.gcd_rec, ← h]
    have k2 : (m : Int) * ((n / m : Nat) : Int) + ((n % m : Nat) : Int) = (n : Int) := by exact_mod_cast Nat.div_add_mod n m
    generalize ((n / m : Nat) : Int) = q at k2 ⊢
    generalize ((n % m : Nat) : Int) = r at k2 ⊢
    rw [← k2]
    grind
/-- the numbers -/
abbrev FP : Type := Fin 2305843009213693951
theorem sd_inv (a : FP) (h : a ≠ 0) : ∃ b : FP, a * b = 1 := by
  have ha0 : 0 < a.val := by
    rcases Nat.eq_zero_or_pos a.val with e | e
    · exact absurd (Fin.ext e) h
    · exact e
  have hc := sd_P_cop ha0 a.isLt
  obtain ⟨x, y, hxy⟩ := sd_bez a.val sd_P
  rw [hc] at hxy
  have hp : (0 : Int) < (sd_P : Int) := by decide
  have hn := Int.emod_nonneg x (Int.ne_of_gt hp)
  have hl := Int.emod_lt_of_pos x hp
  have ht : (((x % (sd_P : Int)).toNat : Nat) : Int) = x % (sd_P : Int) := Int.toNat_of_nonneg hn
  have hlt : (x % (sd_P : Int)).toNat < sd_P := by omega
  refine ⟨⟨(x % (sd_P : Int)).toNat, hlt⟩, ?_⟩
  apply Fin.ext
  rw [Fin.val_mul]
  show a.val * (x % (sd_P : Int)).toNat % sd_P = 1
  have hd := Int.mul_ediv_add_emod x (sd_P : Int)
  have e : ((a.val * (x % (sd_P : Int)).toNat : Nat) : Int) = 1 + (sd_P : Int) * (-y - (a.val : Int) * (x / (sd_P : Int))) := by
    rw [Int.natCast_mul, ht]
    generalize (x % (sd_P : Int)) = r at hd ⊢
    generalize (x / (sd_P : Int)) = q at hd ⊢
    generalize (sd_P : Int) = p at hd hxy ⊢
    generalize (a.val : Int) = b at hxy ⊢
    grind
  have e2 : ((a.val * (x % (sd_P : Int)).toNat : Nat) : Int) % (sd_P : Int) = 1 := by
    rw [e, Int.add_mul_emod_self_left]
    decide
  exact_mod_cast e2
end
section
/-! curves over a field: Horner's value, roots, products, and what Berlekamp and Welch's equations say -/
theorem sd_noZD {F : Type} [Lean.Grind.CommRing F] (hF : ∀ a : F, a ≠ 0 → ∃ b : F, a * b = 1) {a b : F} (h : a * b = 0) (ha : a ≠ 0) : b = 0 := by
  obtain ⟨c, hc⟩ := hF a ha
  grind
/-- c k + c (k+1) x + .., m parts -/
def sd_pv {F : Type} [Lean.Grind.CommRing F] (c : Nat → F) (x : F) : Nat → Nat → F
  | _, 0 => 0
  | k, m + 1 => c k + x * sd_pv c x (k + 1) m
def sd_pow {F : Type} [Lean.Grind.CommRing F] (x : F) : Nat → F
  | 0 => 1
  | n + 1 => sd_pow x n * x
theorem sd_pv_0 {F : Type} [Lean.Grind.CommRing F] (c : Nat → F) (x : F) (k : Nat) : sd_pv c x k 0 = 0 := rfl
theorem sd_pv_s {F : Type} [Lean.Grind.CommRing F] (c : Nat → F) (x : F) (k m : Nat) : sd_pv c x k (m + 1) = c k + x * sd_pv c x (k + 1) m := rfl
theorem sd_pow_0 {F : Type} [Lean.Grind.CommRing F] (x : F) : sd_pow x 0 = 1 := rfl
theorem sd_pow_s {F : Type} [Lean.Grind.CommRing F] (x : F) (n : Nat) : sd_pow x (n + 1) = sd_pow x n * x := rfl
theorem sd_pow_add {F : Type} [Lean.Grind.CommRing F] (x : F) (a : Nat) : ∀ b, sd_pow x (a + b) = sd_pow x a * sd_pow x b := by
  intro b
  induction b with
  | zero => rw [Nat.add_zero, sd_pow_0]; grind
  | succ b ih => rw [← Nat.add_assoc, sd_pow_s, ih, sd_pow_s]; grind
theorem sd_pv_snoc {F : Type} [Lean.Grind.CommRing F] (c : Nat → F) (x : F) : ∀ m k, sd_pv c x k (m + 1) = sd_pv c x k m + c (k + m) * sd_pow x m := by
  intro m
  induction m with
  | zero => intro k; rw [sd_pv_s, sd_pv_0, sd_pv_0, Nat.add_zero, sd_pow_0]; grind
  | succ m ih =>
    intro k
    rw [sd_pv_s, ih (k + 1), sd_pv_s, sd_pow_s, show k + 1 + m = k + (m + 1) by omega]
    grind
theorem sd_pv_congr {F : Type} [Lean.Grind.CommRing F] {c d : Nat → F} (x : F) : ∀ m k, (∀ j, k ≤ j → j < k + m → c j = d j) → sd_pv c x k m = sd_pv d x k m := by
  intro m
  induction m with
  | zero => intro k _; rfl
  | succ m ih =>
    intro k h
    rw [sd_pv_s, sd_pv_s, h k (Nat.le_refl k) (by omega), ih (k + 1) (fun j h1 h2 => h j (by omega) (by omega))]
theorem sd_pv_zero {F : Type} [Lean.Grind.CommRing F] {c : Nat → F} (x : F) : ∀ m k, (∀ j, k ≤ j → j < k + m → c j = 0) → sd_pv c x k m = 0 := by
  intro m
  induction m with
  | zero => intro k _; rfl
  | succ m ih =>
    intro k h
    rw [sd_pv_s, h k (Nat.le_refl k) (by omega), ih (k + 1) (fun j h1 h2 => h j (by omega) (by omega))]
    grind
theorem sd_pv_add {F : Type} [Lean.Grind.CommRing F] (c d : Nat → F) (x : F) : ∀ m k, sd_pv (fun j => c j + d j) x k m = sd_pv c x k m + sd_pv d x k m := by
  intro m
  induction m with
  | zero => intro k; rw [sd_pv_0, sd_pv_0, sd_pv_0]; grind
  | succ m ih => intro k; rw [sd_pv_s, sd_pv_s, sd_pv_s, ih (k + 1)]; grind
theorem sd_pv_sub {F : Type} [Lean.Grind.CommRing F] (c d : Nat → F) (x : F) : ∀ m k, sd_pv (fun j => c j - d j) x k m = sd_pv c x k m - sd_pv d x k m := by
  intro m
  induction m with
  | zero => intro k; rw [sd_pv_0, sd_pv_0, sd_pv_0]; grind
  | succ m ih => intro k; rw [sd_pv_s, sd_pv_s, sd_pv_s, ih (k + 1)]; grind
/-- parts behind the last are 0 -/
theorem sd_pv_ext {F : Type} [Lean.Grind.CommRing F] {c : Nat → F} (x : F) (k m : Nat) (h : ∀ j, k + m ≤ j → c j = 0) : ∀ r, sd_pv c x k (m + r) = sd_pv c x k m := by
  intro r
  induction r with
  | zero => rfl
  | succ r ih => rw [← Nat.add_assoc, sd_pv_snoc, ih, h (k + (m + r)) (by omega)]; grind
theorem sd_pv_div {F : Type} [Lean.Grind.CommRing F] (c : Nat → F) (x r : F) : ∀ m k, sd_pv c x k (m + 1) - sd_pv c r k (m + 1) = (x - r) * sd_pv (fun j => sd_pv c r (j + 1) (k + m - j)) x k m := by
  intro m
  induction m with
  | zero => intro k; rw [sd_pv_s, sd_pv_s, sd_pv_0, sd_pv_0, sd_pv_0]; grind
  | succ m ih =>
    intro k
    have h := ih (k + 1)
    have e : (fun j => sd_pv c r (j + 1) (k + 1 + m - j)) = (fun j => sd_pv c r (j + 1) (k + (m + 1) - j)) := by
      funext j
      rw [show k + 1 + m = k + (m + 1) by omega]
    rw [e] at h
    have hq : (fun j => sd_pv c r (j + 1) (k + (m + 1) - j)) k = sd_pv c r (k + 1) (m + 1) := by
      show sd_pv c r (k + 1) (k + (m + 1) - k) = _
      rw [show k + (m + 1) - k = m + 1 by omega]
    generalize (fun j => sd_pv c r (j + 1) (k + (m + 1) - j)) = q at h hq ⊢
    rw [sd_pv_s c x k, sd_pv_s c r k, sd_pv_s q x k, hq]
    generalize sd_pv c x (k + 1) (m + 1) = A at h ⊢
    generalize sd_pv c r (k + 1) (m + 1) = B at h ⊢
    generalize sd_pv q x (k + 1) m = C at h ⊢
    grind
/-- as many roots as parts: all parts are 0 -/
theorem sd_roots {F : Type} [Lean.Grind.CommRing F] (hF : ∀ a : F, a ≠ 0 → ∃ b : F, a * b = 1) : ∀ (n : Nat) (c : Nat → F) (rs : List F), rs.Nodup → n ≤ rs.length → (∀ r ∈ rs, sd_pv c r 0 n = 0) → ∀ k, k < n → c k = 0 := by
  intro n
  induction n with
  | zero => intro c rs _ _ _ k h; exact absurd h (Nat.not_lt_zero k)
  | succ n ih =>
    intro c rs hnd hlen hroot
    match rs, hnd, hlen, hroot with
    | [], _, hlen, _ => exact absurd hlen (by simp)
    | r :: rs', hnd, hlen, hroot =>
      have hr := hroot r List.mem_cons_self
      have hnd2 := List.nodup_cons.mp hnd
      have hz : ∀ k, k < n → sd_pv c r (k + 1) (0 + n - k) = 0 := by
        refine ih (fun j => sd_pv c r (j + 1) (0 + n - j)) rs' hnd2.2 (by simpa using hlen) ?_
        intro r' h'
        have e := sd_pv_div c r' r n 0
        rw [hroot r' (List.mem_cons_of_mem _ h'), hr] at e
        refine sd_noZD hF (a := r' - r) (by rw [← e]; grind) ?_
        intro z
        refine hnd2.1 ?_
        have : r = r' := by grind
        rw [this]
        exact h'
      have hg : ∀ j, j ≤ n + 1 → sd_pv c r j (n + 1 - j) = 0 := by
        intro j hj
        match j, hj with
        | 0, _ => exact hr
        | j + 1, hj =>
          rcases Nat.lt_or_ge j n with q | q
          · have := hz j q
            rw [show 0 + n - j = n + 1 - (j + 1) by omega] at this
            exact this
          · rw [show n + 1 - (j + 1) = 0 by omega, sd_pv_0]
      intro k hk
      have a := hg k (by omega)
      have b := hg (k + 1) (by omega)
      rw [show n + 1 - k = (n + 1 - (k + 1)) + 1 by omega, sd_pv_s, b] at a
      grind
/-- the product of two curves, the first cut behind k parts -/
def sd_cv {F : Type} [Lean.Grind.CommRing F] (f E : Nat → F) : Nat → Nat → F
  | 0, _ => 0
  | k + 1, m => sd_cv f E k m + (if k ≤ m then f k * E (m - k) else 0)
theorem sd_cv_0 {F : Type} [Lean.Grind.CommRing F] (f E : Nat → F) (m : Nat) : sd_cv f E 0 m = 0 := rfl
theorem sd_cv_s {F : Type} [Lean.Grind.CommRing F] (f E : Nat → F) (k m : Nat) : sd_cv f E (k + 1) m = sd_cv f E k m + (if k ≤ m then f k * E (m - k) else 0) := rfl
theorem sd_sh_ev {F : Type} [Lean.Grind.CommRing F] (E : Nat → F) (a x : F) (k : Nat) : ∀ N, sd_pv (fun m => if k ≤ m then a * E (m - k) else 0) x 0 (k + N) = a * sd_pow x k * sd_pv E x 0 N := by
  intro N
  induction N with
  | zero =>
    rw [Nat.add_zero, sd_pv_0, sd_pv_zero x k 0 (fun j _ h => if_neg (by omega))]
    grind
  | succ N ih =>
    rw [← Nat.add_assoc, sd_pv_snoc, ih, sd_pv_snoc, Nat.zero_add, Nat.zero_add, if_pos (Nat.le_add_right k N), Nat.add_sub_cancel_left, sd_pow_add]
    grind
theorem sd_cv_ev {F : Type} [Lean.Grind.CommRing F] (f E : Nat → F) (x : F) (e : Nat) (hE : ∀ j, e < j → E j = 0) : ∀ k N, k + e ≤ N → sd_pv (sd_cv f E k) x 0 N = sd_pv f x 0 k * sd_pv E x 0 (e + 1) := by
  intro k
  induction k with
  | zero =>
    intro N _
    have h0 : sd_pv (sd_cv f E 0) x 0 N = 0 := sd_pv_zero x N 0 (fun j _ _ => rfl)
    rw [h0, sd_pv_0]
    grind
  | succ k ih =>
    intro N hN
    have h1 : sd_pv (sd_cv f E (k + 1)) x 0 N = sd_pv (fun m => sd_cv f E k m + (if k ≤ m then f k * E (m - k) else 0)) x 0 N := rfl
    rw [h1, sd_pv_add, ih N (by omega), sd_pv_snoc f x k 0, Nat.zero_add]
    have h2 := sd_sh_ev E (f k) x k (e + 1 + (N - (k + e + 1)))
    rw [show k + (e + 1 + (N - (k + e + 1))) = N by omega, sd_pv_ext x 0 (e + 1) (fun j h => hE j (by omega))] at h2
    rw [h2]
    grind
/-- a part above all of the product is 0; the highest of a monic divisor gives the first curve's part -/
theorem sd_cv_hi {F : Type} [Lean.Grind.CommRing F] (f E : Nat → F) (e : Nat) (hE : ∀ j, e < j → E j = 0) : ∀ k m, k + e ≤ m → sd_cv f E k m = 0 := by
  intro k
  induction k with
  | zero => intro m _; rfl
  | succ k ih =>
    intro m hm
    rw [sd_cv_s, ih m (by omega), if_pos (by omega), hE (m - k) (by omega)]
    grind
theorem sd_cv_top {F : Type} [Lean.Grind.CommRing F] (f E : Nat → F) (e : Nat) (hE : ∀ j, e < j → E j = 0) (h1 : E e = 1) (k : Nat) : sd_cv f E (k + 1) (k + e) = f k := by
  rw [sd_cv_s, sd_cv_hi f E e hE k (k + e) (Nat.le_refl _), if_pos (Nat.le_add_right k e), Nat.add_sub_cancel_left, h1]
  grind
/-- times x - r -/
def sd_lin {F : Type} [Lean.Grind.CommRing F] (r : F) (c : Nat → F) : Nat → F
  | 0 => 0 - r * c 0
  | m + 1 => c m - r * c (m + 1)
theorem sd_lin_ev {F : Type} [Lean.Grind.CommRing F] (r x : F) (c : Nat → F) : ∀ n, sd_pv (sd_lin r c) x 0 (n + 1) = x * sd_pv c x 0 n - r * sd_pv c x 0 (n + 1) := by
  intro n
  induction n with
  | zero =>
    rw [sd_pv_s, sd_pv_0, sd_pv_0, sd_pv_s, sd_pv_0, show sd_lin r c 0 = 0 - r * c 0 from rfl]
    grind
  | succ n ih =>
    rw [sd_pv_snoc, ih, sd_pv_snoc c x (n + 1), sd_pv_snoc c x n, Nat.zero_add, Nat.zero_add, show sd_lin r c (n + 1) = c n - r * c (n + 1) from rfl, sd_pow_s]
    grind
def sd_locs {F : Type} [Lean.Grind.CommRing F] : List F → Nat → F
  | [] => fun m => if m = 0 then 1 else 0
  | r :: L => sd_lin r (sd_locs L)
theorem sd_locs_hi {F : Type} [Lean.Grind.CommRing F] : ∀ (L : List F) (j : Nat), L.length < j → sd_locs L j = 0 := by
  intro L
  induction L with
  | nil =>
    intro j h
    show (if j = 0 then (1 : F) else 0) = 0
    exact if_neg (by have h : 0 < j := h; omega)
  | cons r L ih =>
    intro j h
    match j, h with
    | 0, h => exact absurd h (Nat.not_lt_zero _)
    | j + 1, h =>
      rw [List.length_cons] at h
      show sd_locs L j - r * sd_locs L (j + 1) = 0
      rw [ih j (by omega), ih (j + 1) (by omega)]
      grind
theorem sd_locs_top {F : Type} [Lean.Grind.CommRing F] : ∀ (L : List F), sd_locs L L.length = 1 := by
  intro L
  induction L with
  | nil =>
    show (if (0 : Nat) = 0 then (1 : F) else 0) = 1
    exact if_pos rfl
  | cons r L ih =>
    show sd_locs L L.length - r * sd_locs L (L.length + 1) = 1
    rw [ih, sd_locs_hi L (L.length + 1) (Nat.lt_succ_self _)]
    grind
theorem sd_locs_ev {F : Type} [Lean.Grind.CommRing F] (x : F) : ∀ (L : List F), x ∈ L → sd_pv (sd_locs L) x 0 (L.length + 1) = 0 := by
  intro L
  induction L with
  | nil => intro h; cases h
  | cons r L ih =>
    intro h
    show sd_pv (sd_lin r (sd_locs L)) x 0 (L.length + 1 + 1) = 0
    rw [sd_lin_ev, sd_pv_snoc (sd_locs L) x (L.length + 1), Nat.zero_add, sd_locs_hi L (L.length + 1) (Nat.lt_succ_self _)]
    rcases List.mem_cons.mp h with e | e
    · rw [e]; grind
    · rw [ih e]; grind
/-- a sum of n -/
def sd_sum {F : Type} [Lean.Grind.CommRing F] (f : Nat → F) : Nat → F
  | 0 => 0
  | n + 1 => sd_sum f n + f n
theorem sd_sum_s {F : Type} [Lean.Grind.CommRing F] (f : Nat → F) (n : Nat) : sd_sum f (n + 1) = sd_sum f n + f n := rfl
theorem sd_sum_0 {F : Type} [Lean.Grind.CommRing F] (f : Nat → F) : sd_sum f 0 = 0 := rfl
theorem sd_sum_congr {F : Type} [Lean.Grind.CommRing F] {f g : Nat → F} : ∀ n, (∀ k, k < n → f k = g k) → sd_sum f n = sd_sum g n := by
  intro n
  induction n with
  | zero => intro _; rfl
  | succ n ih => intro h; rw [sd_sum_s, sd_sum_s, ih (fun k hk => h k (by omega)), h n (by omega)]
theorem sd_sum_split {F : Type} [Lean.Grind.CommRing F] (f : Nat → F) (a : Nat) : ∀ b, sd_sum f (a + b) = sd_sum f a + sd_sum (fun j => f (a + j)) b := by
  intro b
  induction b with
  | zero => rw [Nat.add_zero, sd_sum_0]; grind
  | succ b ih => rw [← Nat.add_assoc, sd_sum_s, ih, sd_sum_s]; grind
theorem sd_sum_zero {F : Type} [Lean.Grind.CommRing F] {f : Nat → F} : ∀ n, (∀ k, k < n → f k = 0) → sd_sum f n = 0 := by
  intro n
  induction n with
  | zero => intro _; rfl
  | succ n ih => intro h; rw [sd_sum_s, ih (fun k hk => h k (by omega)), h n (by omega)]; grind
theorem sd_sum_one {F : Type} [Lean.Grind.CommRing F] {f : Nat → F} (v : Nat) : ∀ n, v < n → (∀ k, k < n → k ≠ v → f k = 0) → sd_sum f n = f v := by
  intro n
  induction n with
  | zero => intro h _; exact absurd h (Nat.not_lt_zero v)
  | succ n ih =>
    intro hv h
    rw [sd_sum_s]
    rcases Nat.lt_or_ge v n with q | q
    · rw [ih q (fun k hk hne => h k (by omega) hne), h n (by omega) (by omega)]
      grind
    · have e : v = n := by omega
      rw [e, sd_sum_zero n (fun k hk => h k (by omega) (by omega))]
      grind
theorem sd_sum_mul {F : Type} [Lean.Grind.CommRing F] (f : Nat → F) (a : F) : ∀ n, sd_sum (fun k => a * f k) n = a * sd_sum f n := by
  intro n
  induction n with
  | zero => rw [sd_sum_0, sd_sum_0]; grind
  | succ n ih => rw [sd_sum_s, sd_sum_s, ih]; grind
theorem sd_sum_sub {F : Type} [Lean.Grind.CommRing F] (f g : Nat → F) : ∀ n, sd_sum (fun k => f k - g k) n = sd_sum f n - sd_sum g n := by
  intro n
  induction n with
  | zero => rw [sd_sum_0, sd_sum_0, sd_sum_0]; grind
  | succ n ih => rw [sd_sum_s, sd_sum_s, sd_sum_s, ih]; grind
theorem sd_sum_pv {F : Type} [Lean.Grind.CommRing F] (z : Nat → F) (x : F) (k : Nat) : ∀ n, sd_sum (fun j => sd_pow x j * z (k + j)) n = sd_pv z x k n := by
  intro n
  induction n with
  | zero => rfl
  | succ n ih => rw [sd_sum_s, ih, sd_pv_snoc]; grind
end
section
/-! Berlekamp and Welch's equations; Gauss and Jordan's way to solve them -/
theorem sd_pv_shift {F : Type} [Lean.Grind.CommRing F] (z : Nat → F) (x : F) (a : Nat) : ∀ m k, sd_pv (fun j => z (a + j)) x k m = sd_pv z x (a + k) m := by
  intro m
  induction m with
  | zero => intro k; rfl
  | succ m ih => intro k; rw [sd_pv_s, sd_pv_s, ih (k + 1), Nat.add_assoc]
def sd_row {F : Type} [Lean.Grind.CommRing F] (t e : Nat) (x y : F) (k : Nat) : F :=
  if k < t + e + 1 then sd_pow x k else if k < t + e + 1 + e then 0 - y * sd_pow x (k - (t + e + 1)) else y * sd_pow x e
theorem sd_row_sum {F : Type} [Lean.Grind.CommRing F] (t e : Nat) (x y : F) (z : Nat → F) : sd_sum (fun k => sd_row t e x y k * z k) (t + e + 1 + e) = sd_pv z x 0 (t + e + 1) - y * sd_pv z x (t + e + 1) e := by
  rw [sd_sum_split]
  have h1 : sd_sum (fun k => sd_row t e x y k * z k) (t + e + 1) = sd_pv z x 0 (t + e + 1) := by
    rw [← sd_sum_pv]
    refine sd_sum_congr _ (fun k hk => ?_)
    show sd_row t e x y k * z k = sd_pow x k * z (0 + k)
    rw [sd_row, if_pos hk, Nat.zero_add]
  have h2 : sd_sum (fun j => (fun k => sd_row t e x y k * z k) (t + e + 1 + j)) e = (0 - y) * sd_pv z x (t + e + 1) e := by
    rw [← sd_sum_pv, ← sd_sum_mul]
    refine sd_sum_congr _ (fun k hk => ?_)
    show sd_row t e x y (t + e + 1 + k) * z (t + e + 1 + k) = (0 - y) * (sd_pow x k * z (t + e + 1 + k))
    rw [sd_row, if_neg (by omega), if_pos (by omega), Nat.add_sub_cancel_left]
    grind
  rw [h1, h2]
  grind
theorem sd_row_end {F : Type} [Lean.Grind.CommRing F] (t e : Nat) (x y : F) : sd_row t e x y (t + e + 1 + e) = y * sd_pow x e := by
  rw [sd_row, if_neg (by omega), if_neg (by omega)]
/-- the second curve of a solution, its highest part 1 -/
def sd_E {F : Type} [Lean.Grind.CommRing F] (z : Nat → F) (t e j : Nat) : F := if j < e then z (t + e + 1 + j) else if j = e then 1 else 0
theorem sd_E_hi {F : Type} [Lean.Grind.CommRing F] (z : Nat → F) (t e : Nat) : ∀ j, e < j → sd_E z t e j = 0 := by
  intro j h
  rw [sd_E, if_neg (by omega), if_neg (by omega)]
theorem sd_E_top {F : Type} [Lean.Grind.CommRing F] (z : Nat → F) (t e : Nat) : sd_E z t e e = 1 := by
  rw [sd_E, if_neg (by omega), if_pos rfl]
theorem sd_E_ev {F : Type} [Lean.Grind.CommRing F] (z : Nat → F) (t e : Nat) (x : F) : sd_pv (sd_E z t e) x 0 (e + 1) = sd_pv z x (t + e + 1) e + sd_pow x e := by
  rw [sd_pv_snoc, Nat.zero_add, sd_E_top]
  have h : sd_pv (sd_E z t e) x 0 e = sd_pv (fun j => z (t + e + 1 + j)) x 0 e := sd_pv_congr x e 0 (fun j _ h => by rw [sd_E, if_pos (by omega)])
  rw [h, sd_pv_shift, Nat.add_zero]
  grind
/-- there is a solution, if a curve misses at most e -/
theorem sd_bw_ex {F : Type} [Lean.Grind.CommRing F] (t e N : Nat) (hN : N = t + e + 1 + e) (f xs ys : Nat → F) (L : List F) (hL : L.length ≤ e) (h : ∀ i, i < N → ys i = sd_pv f (xs i) 0 (t + 1) ∨ xs i ∈ L) :
    ∃ z : Nat → F, ∀ i, i < N → sd_sum (fun k => sd_row t e (xs i) (ys i) k * z k) N = sd_row t e (xs i) (ys i) N := by
  subst hN
  have hlen : (L ++ List.replicate (e - L.length) (0 : F)).length = e := by
    rw [List.length_append, List.length_replicate]
    omega
  have hmem : ∀ x, x ∈ L → x ∈ (L ++ List.replicate (e - L.length) (0 : F)) := fun x hx => List.mem_append_left _ hx
  generalize (L ++ List.replicate (e - L.length) (0 : F)) = L2 at hlen hmem
  have hhi := sd_locs_hi L2
  have htop := sd_locs_top L2
  have hev := fun x => sd_locs_ev x L2
  rw [hlen] at hhi htop hev
  generalize sd_locs L2 = E0 at hhi htop hev
  refine ⟨fun k => if k < t + e + 1 then sd_cv f E0 (t + 1) k else E0 (k - (t + e + 1)), ?_⟩
  intro i hi
  rw [sd_row_sum, sd_row_end]
  have a1 : sd_pv (fun k => if k < t + e + 1 then sd_cv f E0 (t + 1) k else E0 (k - (t + e + 1))) (xs i) 0 (t + e + 1) = sd_pv f (xs i) 0 (t + 1) * sd_pv E0 (xs i) 0 (e + 1) := by
    rw [← sd_cv_ev f E0 (xs i) e hhi (t + 1) (t + e + 1) (by omega)]
    exact sd_pv_congr _ _ _ (fun j _ h => if_pos (by omega))
  have a2 : sd_pv (fun k => if k < t + e + 1 then sd_cv f E0 (t + 1) k else E0 (k - (t + e + 1))) (xs i) (t + e + 1) e = sd_pv E0 (xs i) 0 e := by
    have b := sd_pv_shift (fun k => if k < t + e + 1 then sd_cv f E0 (t + 1) k else E0 (k - (t + e + 1))) (xs i) (t + e + 1) e 0
    rw [Nat.add_zero] at b
    rw [← b]
    refine sd_pv_congr _ _ _ (fun j _ h => ?_)
    show (if t + e + 1 + j < t + e + 1 then sd_cv f E0 (t + 1) (t + e + 1 + j) else E0 (t + e + 1 + j - (t + e + 1))) = E0 j
    rw [if_neg (by omega), Nat.add_sub_cancel_left]
  have a3 := sd_pv_snoc E0 (xs i) e 0
  rw [Nat.zero_add, htop] at a3
  rw [a1, a2]
  rcases h i hi with q | q
  · rw [a3, q]
    grind
  · have a4 := hev (xs i) (hmem _ q)
    rw [a4]
    rw [a4] at a3
    grind
/-- and every solution's first curve is the product of the second and of that curve -/
theorem sd_bw_un {F : Type} [Lean.Grind.CommRing F] (hF : ∀ a : F, a ≠ 0 → ∃ b : F, a * b = 1) (t e N : Nat) (hN : N = t + e + 1 + e) (f xs ys z : Nat → F) (G : List F) (hG : G.Nodup) (hl : t + e + 1 ≤ G.length)
    (h : ∀ x, x ∈ G → ∃ i, i < N ∧ x = xs i ∧ ys i = sd_pv f (xs i) 0 (t + 1)) (hz : ∀ i, i < N → sd_sum (fun k => sd_row t e (xs i) (ys i) k * z k) N = sd_row t e (xs i) (ys i) N) :
    ∀ m, m < t + e + 1 → z m = sd_cv f (sd_E z t e) (t + 1) m := by
  subst hN
  intro m hm
  have hr := sd_roots hF (t + e + 1) (fun j => z j - sd_cv f (sd_E z t e) (t + 1) j) G hG hl (by
    intro x hx
    obtain ⟨i, hi, rfl, hy⟩ := h x hx
    have e1 := hz i hi
    rw [sd_row_sum, sd_row_end] at e1
    rw [sd_pv_sub, sd_cv_ev f (sd_E z t e) (xs i) e (sd_E_hi z t e) (t + 1) (t + e + 1) (by omega), sd_E_ev, ← hy]
    grind) m hm
  have hr : z m - sd_cv f (sd_E z t e) (t + 1) m = 0 := hr
  grind
/-- one step of the division by a curve whose highest part is 1 -/
theorem sd_div_step {F : Type} [Lean.Grind.CommRing F] (f E S : Nat → F) (e k : Nat) (hE : ∀ j, e < j → E j = 0) (h1 : E e = 1) (h : ∀ m, m < k + 1 + e → S m = sd_cv f E (k + 1) m) :
    S (k + e) = f k ∧ ∀ S2 : Nat → F, (∀ m, k ≤ m → m < k + e → S2 m = S m - f k * E (m - k)) → (∀ m, m < k → S2 m = S m) → ∀ m, m < k + e → S2 m = sd_cv f E k m := by
  refine ⟨by rw [h (k + e) (by omega)]; exact sd_cv_top f E e hE h1 k, ?_⟩
  intro S2 ha hb m hm
  rcases Nat.lt_or_ge m k with q | q
  · rw [hb m q, h m (by omega), sd_cv_s, if_neg (by omega)]
    grind
  · rw [ha m q hm, h m (by omega), sd_cv_s, if_pos q]
    grind
def sd_Sat {F : Type} [Lean.Grind.CommRing F] (M : Nat → Nat → F) (N : Nat) (z : Nat → F) : Prop := ∀ r, r < N → sd_sum (fun k => M r k * z k) N = M r N
def sd_elim {F : Type} [Lean.Grind.CommRing F] (M : Nat → Nat → F) (r u : Nat) (s : F) : Nat → Nat → F := fun a k => if a = r then M r k * s else M a k - M a u * (M r k * s)
theorem sd_elim_self {F : Type} [Lean.Grind.CommRing F] (M : Nat → Nat → F) (r u : Nat) (s : F) (k : Nat) : sd_elim M r u s r k = M r k * s := if_pos rfl
theorem sd_elim_ne {F : Type} [Lean.Grind.CommRing F] (M : Nat → Nat → F) {r u a : Nat} (s : F) (k : Nat) (h : a ≠ r) : sd_elim M r u s a k = M a k - M a u * (M r k * s) := if_neg h
theorem sd_elim_sum {F : Type} [Lean.Grind.CommRing F] (M : Nat → Nat → F) (r u N : Nat) (s : F) (z : Nat → F) :
    sd_sum (fun k => sd_elim M r u s r k * z k) N = s * sd_sum (fun k => M r k * z k) N ∧ ∀ a, a ≠ r → sd_sum (fun k => sd_elim M r u s a k * z k) N = sd_sum (fun k => M a k * z k) N - M a u * s * sd_sum (fun k => M r k * z k) N := by
  refine ⟨?_, fun a ha => ?_⟩
  · rw [← sd_sum_mul]
    refine sd_sum_congr _ (fun k _ => ?_)
    show sd_elim M r u s r k * z k = s * (M r k * z k)
    rw [sd_elim_self]
    grind
  · rw [← sd_sum_mul, ← sd_sum_sub]
    refine sd_sum_congr _ (fun k _ => ?_)
    show sd_elim M r u s a k * z k = M a k * z k - M a u * s * (M r k * z k)
    rw [sd_elim_ne M s k ha]
    grind
theorem sd_elim_sat {F : Type} [Lean.Grind.CommRing F] (M : Nat → Nat → F) (N r u : Nat) (s : F) (hr : r < N) (hs : M r u * s = 1) (z : Nat → F) : sd_Sat (sd_elim M r u s) N z ↔ sd_Sat M N z := by
  have hsum := sd_elim_sum M r u N s z
  constructor
  · intro h
    have h0 := h r hr
    rw [hsum.1, sd_elim_self] at h0
    have hA : sd_sum (fun k => M r k * z k) N = M r N := by
      generalize sd_sum (fun k => M r k * z k) N = A at h0 ⊢
      grind
    intro a ha
    by_cases e : a = r
    · rw [e]; exact hA
    · have h1 := h a ha
      rw [hsum.2 a e, sd_elim_ne M s N e, hA] at h1
      generalize sd_sum (fun k => M a k * z k) N = B at h1 ⊢
      grind
  · intro h a ha
    have hA := h r hr
    by_cases e : a = r
    · rw [e, hsum.1, sd_elim_self, hA]
      grind
    · rw [hsum.2 a e, sd_elim_ne M s N e, hA, h a ha]
      grind
def sd_up {α : Type} (f : Nat → α) (k : Nat) (v : α) : Nat → α := fun j => if j = k then v else f j
theorem sd_up_s {α : Type} (f : Nat → α) (k : Nat) (v : α) : sd_up f k v k = v := if_pos rfl
theorem sd_up_n {α : Type} (f : Nat → α) {k j : Nat} (v : α) (h : j ≠ k) : sd_up f k v j = f j := if_neg h
/-- behind the unknowns below u: the same solutions; rows not used are 0 there; each used row is alone at its unknown -/
def sd_GI {F : Type} [Lean.Grind.CommRing F] (N : Nat) (M0 M : Nat → Nat → F) (used : Nat → Bool) (ro : Nat → Option Nat) (u : Nat) : Prop :=
  (∀ z, sd_Sat M N z ↔ sd_Sat M0 N z) ∧ (∀ r, r < N → used r = false → ∀ k, k < u → M r k = 0) ∧ (∀ r, r < N → used r = true → ∃ v, v < u ∧ ro v = some r) ∧
  (∀ v r, v < u → ro v = some r → r < N ∧ used r = true ∧ M r v = 1 ∧ ∀ a, a < N → a ≠ r → M a v = 0) ∧ ∀ v w r, v < u → w < u → ro v = some r → ro w = some r → v = w
theorem sd_GI_0 {F : Type} [Lean.Grind.CommRing F] (N : Nat) (M : Nat → Nat → F) (used : Nat → Bool) (ro : Nat → Option Nat) (h : ∀ r, r < N → used r = false) : sd_GI N M M used ro 0 :=
  ⟨fun _ => Iff.rfl, fun _ _ _ k hk => absurd hk (Nat.not_lt_zero k), fun r hr hu => absurd hu (by rw [h r hr]; decide), fun v _ hv => absurd hv (Nat.not_lt_zero v), fun v _ _ hv => absurd hv (Nat.not_lt_zero v)⟩
theorem sd_GI_none {F : Type} [Lean.Grind.CommRing F] {N : Nat} {M0 M : Nat → Nat → F} {used : Nat → Bool} {ro : Nat → Option Nat} {u : Nat} (h : sd_GI N M0 M used ro u) (hz : ∀ r, r < N → used r = false → M r u = 0) : sd_GI N M0 M used (sd_up ro u none) (u + 1) := by
  obtain ⟨h1, h2, h3, h4, h5⟩ := h
  have key : ∀ v r, v < u + 1 → sd_up ro u none v = some r → v < u ∧ ro v = some r := by
    intro v r hv hr
    by_cases e : v = u
    · rw [e, sd_up_s] at hr; cases hr
    · rw [sd_up_n ro none e] at hr
      exact ⟨by omega, hr⟩
  refine ⟨h1, fun r hr hu k hk => ?_, fun r hr hu => ?_, fun v r hv hr => ?_, fun v w r hv hw a b => ?_⟩
  · rcases Nat.lt_or_ge k u with q | q
    · exact h2 r hr hu k q
    · rw [show k = u by omega]; exact hz r hr hu
  · obtain ⟨v, hv, e⟩ := h3 r hr hu
    exact ⟨v, by omega, by rw [sd_up_n ro none (by omega)]; exact e⟩
  · obtain ⟨a, b⟩ := key v r hv hr
    exact h4 v r a b
  · obtain ⟨a1, a2⟩ := key v r hv a
    obtain ⟨b1, b2⟩ := key w r hw b
    exact h5 v w r a1 b1 a2 b2
theorem sd_GI_some {F : Type} [Lean.Grind.CommRing F] {N : Nat} {M0 M : Nat → Nat → F} {used : Nat → Bool} {ro : Nat → Option Nat} {u r : Nat} {s : F} (h : sd_GI N M0 M used ro u) (hr : r < N) (hu : used r = false) (hs : M r u * s = 1) :
    sd_GI N M0 (sd_elim M r u s) (sd_up used r true) (sd_up ro u (some r)) (u + 1) := by
  obtain ⟨h1, h2, h3, h4, h5⟩ := h
  have hrz := h2 r hr hu
  have hold : ∀ v q, v < u → ro v = some q → q ≠ r := by
    intro v q hv hq e
    have := (h4 v q hv hq).2.1
    rw [e, hu] at this
    cases this
  have key : ∀ v q, v < u + 1 → sd_up ro u (some r) v = some q → (v = u ∧ q = r) ∨ (v < u ∧ ro v = some q) := by
    intro v q hv hq
    by_cases e : v = u
    · rw [e, sd_up_s] at hq
      exact Or.inl ⟨e, (Option.some.inj hq).symm⟩
    · rw [sd_up_n ro _ e] at hq
      exact Or.inr ⟨by omega, hq⟩
  refine ⟨fun z => (sd_elim_sat M N r u s hr hs z).trans (h1 z), fun a ha hua k hk => ?_, fun a ha hua => ?_, fun v q hv hq => ?_, fun v w q hv hw a b => ?_⟩
  · have hne : a ≠ r := fun e => by rw [e, sd_up_s] at hua; cases hua
    rw [sd_up_n used true hne] at hua
    rw [sd_elim_ne M s k hne]
    rcases Nat.lt_or_ge k u with q | q
    · rw [h2 a ha hua k q, hrz k q]
      grind
    · rw [show k = u by omega, hs]
      grind
  · by_cases e : a = r
    · exact ⟨u, by omega, by rw [sd_up_s, e]⟩
    · rw [sd_up_n used true e] at hua
      obtain ⟨v, hv, hq⟩ := h3 a ha hua
      exact ⟨v, by omega, by rw [sd_up_n ro _ (by omega)]; exact hq⟩
  · rcases key v q hv hq with ⟨e1, e2⟩ | ⟨hv2, hq2⟩
    · rw [e1, e2]
      refine ⟨hr, sd_up_s used r true, by rw [sd_elim_self]; exact hs, fun a _ hne => ?_⟩
      rw [sd_elim_ne M s u hne, hs]
      grind
    · obtain ⟨a1, a2, a3, a4⟩ := h4 v q hv2 hq2
      have hne := hold v q hv2 hq2
      refine ⟨a1, by rw [sd_up_n used true hne]; exact a2, ?_, fun a ha hna => ?_⟩
      · rw [sd_elim_ne M s v hne, hrz v hv2, a3]
        grind
      · by_cases e : a = r
        · rw [e, sd_elim_self, hrz v hv2]
          grind
        · rw [sd_elim_ne M s v e, hrz v hv2, a4 a ha hna]
          grind
  · rcases key v q hv a with ⟨e1, e2⟩ | ⟨hv2, hq2⟩ <;> rcases key w q hw b with ⟨e3, e4⟩ | ⟨hw2, hp2⟩
    · omega
    · exact absurd e2 (hold w q hw2 hp2)
    · exact absurd e4 (hold v q hv2 hq2)
    · exact h5 v w q hv2 hw2 hq2 hp2
theorem sd_Sat_congr {F : Type} [Lean.Grind.CommRing F] {M M2 : Nat → Nat → F} {N : Nat} (h : ∀ r k, r < N → k ≤ N → M2 r k = M r k) (z : Nat → F) : sd_Sat M2 N z ↔ sd_Sat M N z := by
  have e : ∀ r, r < N → (sd_sum (fun k => M2 r k * z k) N = sd_sum (fun k => M r k * z k) N ∧ M2 r N = M r N) := fun r hr =>
    ⟨sd_sum_congr N (fun k hk => by rw [h r k hr (by omega)]), h r N hr (Nat.le_refl N)⟩
  exact ⟨fun q r hr => by rw [← (e r hr).1, ← (e r hr).2]; exact q r hr, fun q r hr => by rw [(e r hr).1, (e r hr).2]; exact q r hr⟩
theorem sd_GI_congr {F : Type} [Lean.Grind.CommRing F] {N : Nat} {M0 M M2 : Nat → Nat → F} {used used2 : Nat → Bool} {ro ro2 : Nat → Option Nat} {u : Nat} (hu : u ≤ N) (h : sd_GI N M0 M used ro u)
    (hM : ∀ r k, r < N → k ≤ N → M2 r k = M r k) (hU : ∀ r, r < N → used2 r = used r) (hR : ∀ v, v < u → ro2 v = ro v) : sd_GI N M0 M2 used2 ro2 u := by
  obtain ⟨h1, h2, h3, h4, h5⟩ := h
  refine ⟨fun z => (sd_Sat_congr hM z).trans (h1 z), fun r hr q k hk => ?_, fun r hr q => ?_, fun v r hv q => ?_, fun v w r hv hw a b => ?_⟩
  · rw [hM r k hr (by omega)]
    exact h2 r hr (by rw [← hU r hr]; exact q) k hk
  · obtain ⟨v, hv, e⟩ := h3 r hr (by rw [← hU r hr]; exact q)
    exact ⟨v, hv, by rw [hR v hv]; exact e⟩
  · rw [hR v hv] at q
    obtain ⟨a1, a2, a3, a4⟩ := h4 v r hv q
    exact ⟨a1, by rw [hU r a1]; exact a2, by rw [hM r v a1 (by omega)]; exact a3, fun a ha hne => by rw [hM a v ha (by omega)]; exact a4 a ha hne⟩
  · rw [hR v hv] at a
    rw [hR w hw] at b
    exact h5 v w r hv hw a b
def sd_sol {F : Type} [Lean.Grind.CommRing F] (M : Nat → Nat → F) (N : Nat) (ro : Nat → Option Nat) (v : Nat) : F := match ro v with
  | none => 0
  | some r => M r N
theorem sd_GI_end {F : Type} [Lean.Grind.CommRing F] {N : Nat} {M0 M : Nat → Nat → F} {used : Nat → Bool} {ro : Nat → Option Nat} (h : sd_GI N M0 M used ro N) {z0 : Nat → F} (hz : sd_Sat M0 N z0) : sd_Sat M0 N (sd_sol M N ro) := by
  obtain ⟨h1, h2, h3, h4, h5⟩ := h
  have hz1 := (h1 z0).mpr hz
  refine (h1 _).mp ?_
  intro r hr
  cases hu : used r with
  | false =>
    have e0 := hz1 r hr
    rw [sd_sum_zero N (fun k hk => by rw [h2 r hr hu k hk]; grind)] at e0
    rw [← e0]
    exact sd_sum_zero N (fun k hk => by rw [h2 r hr hu k hk]; grind)
  | true =>
    obtain ⟨v, hv, hq⟩ := h3 r hr hu
    obtain ⟨-, -, a3, -⟩ := h4 v r hv hq
    rw [sd_sum_one v N hv]
    · rw [a3, sd_sol, hq]
      grind
    · intro k hk hne
      cases hk2 : ro k with
      | none =>
        rw [sd_sol, hk2]
        grind
      | some q =>
        obtain ⟨-, -, -, b4⟩ := h4 k q hk hk2
        have hqr : r ≠ q := fun e => hne (h5 k v r hk hv (by rw [hk2, e]) hq)
        rw [b4 r hr hqr]
        grind
end
section
/-! Euclid's way to the inverse, with its steps counted -/
def sd_fib : Nat → Nat
  | 0 => 0
  | 1 => 1
  | n + 2 => sd_fib n + sd_fib (n + 1)
theorem sd_fib_ss (n : Nat) : sd_fib (n + 2) = sd_fib n + sd_fib (n + 1) := rfl
theorem sd_fib_mono (n : Nat) : sd_fib n ≤ sd_fib (n + 1) := by
  match n with
  | 0 => exact Nat.zero_le _
  | n + 1 => rw [sd_fib_ss]; omega
theorem sd_fib_10 (n : Nat) : 55 * sd_fib (n + 1) + 34 * sd_fib n = sd_fib (n + 10) ∧ 89 * sd_fib (n + 1) + 55 * sd_fib n = sd_fib (n + 11) := by
  have a2 := sd_fib_ss n
  have a3 := sd_fib_ss (n + 1)
  have a4 := sd_fib_ss (n + 2)
  have a5 := sd_fib_ss (n + 3)
  have a6 := sd_fib_ss (n + 4)
  have a7 := sd_fib_ss (n + 5)
  have a8 := sd_fib_ss (n + 6)
  have a9 := sd_fib_ss (n + 7)
  have a10 := sd_fib_ss (n + 8)
  have a11 := sd_fib_ss (n + 9)
  simp only [Nat.add_assoc, Nat.reduceAdd] at a2 a3 a4 a5 a6 a7 a8 a9 a10 a11 ⊢
  omega
theorem sd_fib_big : 2305843009213693951 < sd_fib 101 := by
  have b0 := sd_fib_10 0
  have b1 := sd_fib_10 10
  have b2 := sd_fib_10 20
  have b3 := sd_fib_10 30
  have b4 := sd_fib_10 40
  have b5 := sd_fib_10 50
  have b6 := sd_fib_10 60
  have b7 := sd_fib_10 70
  have b8 := sd_fib_10 80
  have b9 := sd_fib_10 90
  have c0 : sd_fib 0 = 0 := rfl
  have c1 : sd_fib 1 = 1 := rfl
  simp only [Nat.reduceAdd, Nat.zero_add] at b0 b1 b2 b3 b4 b5 b6 b7 b8 b9
  omega
def sd_EI (a i r n : Nat) (x y : Int) : Prop :=
  n < r ∧ r ≤ 2305843009213693951 ∧ Nat.gcd r n = 1 ∧ (∃ k : Int, (r : Int) = x * a + k * 2305843009213693951) ∧ (∃ k : Int, (n : Int) = y * a + k * 2305843009213693951) ∧
  (∃ fa na : Nat, fa ≤ na ∧ r * na + n * fa = 2305843009213693951 ∧ ((x = fa ∧ y = -(na : Int)) ∨ (x = -(fa : Int) ∧ y = na))) ∧ r * sd_fib (i + 1) + n * sd_fib i ≤ 2305843009213693951
theorem sd_EI_0 {a : Nat} (h0 : 0 < a) (h : a < 2305843009213693951) : sd_EI a 0 2305843009213693951 a 0 1 := by
  refine ⟨h, Nat.le_refl _, by rw [Nat.gcd_comm]; exact sd_P_cop h0 h, ⟨1, by omega⟩, ⟨0, by omega⟩, ⟨0, 1, by omega, by omega, Or.inr ⟨by omega, by omega⟩⟩, ?_⟩
  have c0 : sd_fib 0 = 0 := rfl
  have c1 : sd_fib 1 = 1 := rfl
  rw [Nat.zero_add, c0, c1]
  omega
theorem sd_EI_s {a i r n : Nat} {x y : Int} (h : sd_EI a i r n x y) (hn : n ≠ 0) : sd_EI a (i + 1) n (r % n) y (x - ((r / n : Nat) : Int) * y) := by
  obtain ⟨h1, h2, h3, ⟨k1, h4⟩, ⟨k2, h5⟩, ⟨fa, na, h6, h7, h8⟩, h9⟩ := h
  have hd := Nat.div_add_mod r n
  have hq : 1 ≤ r / n := (Nat.one_le_div_iff (by omega)).mpr (by omega)
  have hm : r % n < n := Nat.mod_lt _ (by omega)
  generalize hQ : r / n = q at *
  generalize hR : r % n = w at *
  have hdz : (n : Int) * (q : Int) + (w : Int) = (r : Int) := by exact_mod_cast hd
  refine ⟨hm, by omega, ?_, ⟨k2, h5⟩, ⟨k1 - (q : Int) * k2, ?_⟩, ⟨na, fa + q * na, ?_, ?_, ?_⟩, ?_⟩
  · rw [← hR, ← Nat.gcd_comm (r % n), ← Nat.gcd_rec, Nat.gcd_comm]
    exact h3
  · have : (w : Int) = (r : Int) - (n : Int) * (q : Int) := by omega
    rw [this, h4, h5]
    grind
  · have : 1 * na ≤ q * na := Nat.mul_le_mul_right na hq
    omega
  · rw [← h7, ← hd]
    grind
  · rcases h8 with ⟨e1, e2⟩ | ⟨e1, e2⟩
    · refine Or.inr ⟨e2, ?_⟩
      rw [e1, e2, Int.natCast_add, Int.natCast_mul]
      grind
    · refine Or.inl ⟨e2, ?_⟩
      rw [e1, e2, Int.natCast_add, Int.natCast_mul]
      grind
  · have hge : n + w ≤ r := by
      have : n * 1 ≤ n * q := Nat.mul_le_mul_left n hq
      omega
    have e1 : (n + w) * sd_fib (i + 1) ≤ r * sd_fib (i + 1) := Nat.mul_le_mul_right _ hge
    rw [Nat.add_mul] at e1
    rw [show i + 1 + 1 = i + 2 from rfl, sd_fib_ss, Nat.mul_add]
    omega
theorem sd_EI_lim {a r n : Nat} {x y : Int} (h : sd_EI a 100 r n x y) : n = 0 := by
  obtain ⟨h1, h2, h3, -, -, -, h9⟩ := h
  have hb := sd_fib_big
  have e : 1 * sd_fib 101 ≤ r * sd_fib 101 := Nat.mul_le_mul_right _ (by omega)
  have h9 : r * sd_fib 101 + n * sd_fib 100 ≤ 2305843009213693951 := h9
  omega
/-- at the end: the factor is the inverse, and a long holds it -/
theorem sd_EI_end {a i r : Nat} {x y : Int} (h : sd_EI a i r 0 x y) : (∃ k : Int, x * a = 1 + k * 2305843009213693951) ∧ -2305843009213693951 ≤ x ∧ x ≤ 2305843009213693951 := by
  obtain ⟨h1, h2, h3, ⟨k1, h4⟩, -, ⟨fa, na, h6, h7, h8⟩, -⟩ := h
  rw [Nat.gcd_zero_right] at h3
  subst h3
  refine ⟨⟨-k1, ?_⟩, ?_⟩
  · have : ((1 : Nat) : Int) = 1 := rfl
    rw [this] at h4
    grind
  · rcases h8 with ⟨e1, e2⟩ | ⟨e1, e2⟩ <;> omega
/-- all factors on the way are small, too -/
theorem sd_EI_fit {a i r n : Nat} {x y : Int} (h : sd_EI a i r n x y) : (-2305843009213693951 ≤ x ∧ x ≤ 2305843009213693951) ∧ -2305843009213693951 ≤ y ∧ y ≤ 2305843009213693951 := by
  obtain ⟨h1, h2, h3, -, -, ⟨fa, na, h6, h7, h8⟩, -⟩ := h
  have hna : 1 * na ≤ r * na := Nat.mul_le_mul_right na (by omega)
  have : 0 ≤ n * fa := Nat.zero_le _
  rcases h8 with ⟨e1, e2⟩ | ⟨e1, e2⟩ <;> omega
end
section
/-! numbers as longs -/
def sd_L (a : FP) : Int64 := lN a.val
theorem sd_lNP : lN 2305843009213693951 = (2305843009213693951 : Int64) := by decide +kernel
theorem sd_L_inj {a b : FP} (h : sd_L a = sd_L b) : a = b := by
  have ha := a.isLt
  have hb := b.isLt
  exact Fin.ext ((pk_lEQ (by omega) (by omega)).mp h)
theorem sd_L_eq {a b : FP} : sd_L a = sd_L b ↔ a = b := ⟨sd_L_inj, fun h => by rw [h]⟩
theorem sd_L_0 : sd_L 0 = 0 := by decide +kernel
theorem sd_L_1 : sd_L 1 = 1 := by decide +kernel
theorem sd_plus_ge {a b : FP} (h : (2305843009213693951 : Int64) ≤ sd_L a + sd_L b) : sd_L a + sd_L b - 2305843009213693951 = sd_L (a + b) := by
  have ha := a.isLt
  have hb := b.isLt
  rw [← sd_lNP] at h ⊢
  unfold sd_L at h ⊢
  rw [lN_add] at h ⊢
  have h2 := (pk_lLE (by omega) (by omega)).mp h
  rw [lN_sub h2, Fin.val_add]
  refine congrArg lN ?_
  omega
theorem sd_plus_lt {a b : FP} (h : ¬ (2305843009213693951 : Int64) ≤ sd_L a + sd_L b) : sd_L a + sd_L b = sd_L (a + b) := by
  have ha := a.isLt
  have hb := b.isLt
  rw [← sd_lNP] at h
  unfold sd_L at h ⊢
  rw [lN_add] at h ⊢
  have h2 : ¬ 2305843009213693951 ≤ a.val + b.val := fun q => h ((pk_lLE (by omega) (by omega)).mpr q)
  rw [Fin.val_add]
  refine congrArg lN ?_
  omega
theorem sd_minus_ge {a b : FP} (h : sd_L b ≤ sd_L a) : sd_L a - sd_L b = sd_L (a - b) := by
  have ha := a.isLt
  have hb := b.isLt
  unfold sd_L at h ⊢
  have h2 := (pk_lLE (by omega) (by omega)).mp h
  rw [lN_sub h2, Fin.sub_def]
  refine congrArg lN ?_
  show a.val - b.val = (2305843009213693951 - b.val + a.val) % 2305843009213693951
  omega
theorem sd_minus_lt {a b : FP} (h : ¬ sd_L b ≤ sd_L a) : sd_L a - sd_L b + 2305843009213693951 = sd_L (a - b) := by
  have ha := a.isLt
  have hb := b.isLt
  unfold sd_L at h ⊢
  have h2 : ¬ b.val ≤ a.val := fun q => h ((pk_lLE (by omega) (by omega)).mpr q)
  have e : lN a.val - lN b.val + 2305843009213693951 = (lN a.val + 2305843009213693951) - lN b.val := by grind
  rw [e, ← sd_lNP, lN_add, lN_sub (by omega), Fin.sub_def]
  refine congrArg lN ?_
  show a.val + 2305843009213693951 - b.val = (2305843009213693951 - b.val + a.val) % 2305843009213693951
  omega
/-- the product out of halves -/
theorem sd_times_nat {a b : Nat} (ha : a < 2305843009213693951) (hb : b < 2305843009213693951) :
    (2 * (a / 2147483648) * (b / 2147483648) + (((a / 2147483648) * (b % 2147483648) + (a % 2147483648) * (b / 2147483648)) / 1073741824 + (((a / 2147483648) * (b % 2147483648) + (a % 2147483648) * (b / 2147483648)) % 1073741824) * 2147483648) + (a % 2147483648) * (b % 2147483648)) % 2305843009213693951 = (a * b) % 2305843009213693951 ∧
    2 * (a / 2147483648) * (b / 2147483648) + (((a / 2147483648) * (b % 2147483648) + (a % 2147483648) * (b / 2147483648)) / 1073741824 + (((a / 2147483648) * (b % 2147483648) + (a % 2147483648) * (b / 2147483648)) % 1073741824) * 2147483648) + (a % 2147483648) * (b % 2147483648) < 2 ^ 63 ∧
    (a / 2147483648) * (b % 2147483648) + (a % 2147483648) * (b / 2147483648) < 2 ^ 63 := by
  have a1 := Nat.div_add_mod a 2147483648
  have b1 := Nat.div_add_mod b 2147483648
  have a2 : a % 2147483648 < 2147483648 := Nat.mod_lt _ (by decide)
  have b2 : b % 2147483648 < 2147483648 := Nat.mod_lt _ (by decide)
  have a3 : a / 2147483648 < 1073741824 := by omega
  have b3 : b / 2147483648 < 1073741824 := by omega
  generalize a / 2147483648 = x at *
  generalize a % 2147483648 = y at *
  generalize b / 2147483648 = z at *
  generalize b % 2147483648 = w at *
  have m1 : x * w ≤ 1073741823 * 2147483647 := Nat.mul_le_mul (by omega) (by omega)
  have m2 : y * z ≤ 2147483647 * 1073741823 := Nat.mul_le_mul (by omega) (by omega)
  have m3 : x * z ≤ 1073741823 * 1073741823 := Nat.mul_le_mul (by omega) (by omega)
  have m4 : y * w ≤ 2147483647 * 2147483647 := Nat.mul_le_mul (by omega) (by omega)
  have hq := Nat.div_add_mod (x * w + y * z) 1073741824
  have hr : (x * w + y * z) % 1073741824 < 1073741824 := Nat.mod_lt _ (by decide)
  have hmid : x * w + y * z < 2 ^ 63 := by omega
  have e2 : 2 * x * z = 2 * (x * z) := Nat.mul_assoc 2 x z
  generalize (x * w + y * z) / 1073741824 = q at *
  generalize (x * w + y * z) % 1073741824 = r at *
  have hab : a * b = (2 * x * z + (q + r * 2147483648) + y * w) + 2305843009213693951 * (2 * (x * z) + q) := by
    rw [← a1, ← b1, e2]
    have e3 : (2147483648 * x + y) * (2147483648 * z + w) = 4611686018427387904 * (x * z) + 2147483648 * (x * w + y * z) + y * w := by grind
    rw [e3, ← hq]
    omega
  refine ⟨?_, ?_, hmid⟩
  · rw [hab, Nat.add_mul_mod_self_left]
  · rw [e2]
    omega
theorem sd_mul_val (a b : FP) : (a * b).val = (a.val * b.val) % 2305843009213693951 := Fin.val_mul a b
/-- a long from outside -/
def sd_of (x : Int64) : FP := ⟨(x.toInt % 2305843009213693951).toNat, by
  have h1 := Int.emod_nonneg x.toInt (show (2305843009213693951 : Int) ≠ 0 by decide)
  have h2 := Int.emod_lt_of_pos x.toInt (show (0 : Int) < 2305843009213693951 by decide)
  omega⟩
theorem sd_of_L (a : FP) : sd_of (sd_L a) = a := by
  have ha := a.isLt
  apply Fin.ext
  show ((sd_L a).toInt % 2305843009213693951).toNat = a.val
  unfold sd_L
  rw [pk_lT (by omega)]
  omega
end
section
/-! ===== lN n to 2^64: shifts, and, or, masks, one bit ===== -/
theorem wb_tb (n : Nat) : (lN n).toBitVec = BitVec.ofNat 64 n := rfl
theorem wb_inj {a b : Int64} (h : a.toBitVec = b.toBitVec) : a = b := Int64.toBitVec_inj.mp h
theorem wb_tn {n : Nat} (h : n < 2 ^ 64) : (lN n).toBitVec.toNat = n := by rw [wb_tb, BitVec.toNat_ofNat, Nat.mod_eq_of_lt h]
theorem wb_of (x : Int64) : ∃ n, n < 2 ^ 64 ∧ x = lN n := ⟨x.toBitVec.toNat, x.toBitVec.isLt, wb_inj (by rw [wb_tb]; simp)⟩
theorem wb_of32 (x : Int32) : ∃ n, n < 2 ^ 32 ∧ x = nI n := ⟨x.toBitVec.toNat, x.toBitVec.isLt, Int32.toBitVec_inj.mp (by show _ = BitVec.ofNat 32 _; simp)⟩
theorem wb_c : ∀ k, k < 64 → ((nI k).toInt64 &&& 63) = lN k := by decide +kernel
theorem wb_cu : ∀ k, k < 64 → ((nI k).toInt64.toUInt64 &&& Int64.toUInt64 63) = UInt64.ofNat k := by decide +kernel
theorem wb_sm : ∀ k, k < 64 → (BitVec.ofNat 64 k).smod 64 = BitVec.ofNat 64 k := by decide +kernel
theorem wb_pw {a b : Nat} (h : a ≤ b) : 2 ^ b = 2 ^ a * 2 ^ (b - a) := by rw [← Nat.pow_add]; congr 1; omega
theorem wb_lt2 {a b : Nat} (h : a < b) : 2 ^ a < 2 ^ b := Nat.pow_lt_pow_right (by decide) h
theorem wb_mod (n : Nat) : lN n = lN (n % 2 ^ 64) := wb_inj (by rw [wb_tb, wb_tb]; apply BitVec.eq_of_toNat_eq; rw [BitVec.toNat_ofNat, BitVec.toNat_ofNat, Nat.mod_mod])
theorem wb_shr {n k : Nat} (hn : n < 2 ^ 64) (hk : k < 64) : ((lN n).toUInt64 >>> ((nI k).toInt64.toUInt64 &&& Int64.toUInt64 63)).toInt64 = lN (n / 2 ^ k) := by
  rw [wb_cu k hk]
  apply wb_inj
  apply BitVec.eq_of_toNat_eq
  show ((lN n).toUInt64 >>> UInt64.ofNat k).toNat = (BitVec.ofNat 64 _).toNat
  have h1 : (UInt64.ofNat k).toNat = k := by
    show (BitVec.ofNat 64 k).toNat = k
    rw [BitVec.toNat_ofNat, Nat.mod_eq_of_lt (by omega)]
  have h2 : (lN n).toUInt64.toNat = n := wb_tn hn
  rw [UInt64.toNat_shiftRight, h1, h2, Nat.mod_eq_of_lt hk, Nat.shiftRight_eq_div_pow, BitVec.toNat_ofNat, Nat.mod_eq_of_lt (Nat.lt_of_le_of_lt (Nat.div_le_self _ _) hn)]
theorem wb_shl (n : Nat) {k : Nat} (hk : k < 64) : lN n <<< ((nI k).toInt64 &&& 63) = lN (n * 2 ^ k) := by
  rw [wb_c k hk]
  apply wb_inj
  rw [Int64.toBitVec_shiftLeft, wb_tb, wb_tb, wb_tb, wb_sm k hk]
  apply BitVec.eq_of_toNat_eq
  rw [BitVec.shiftLeft_eq', BitVec.toNat_shiftLeft, BitVec.toNat_ofNat, BitVec.toNat_ofNat, BitVec.toNat_ofNat, Nat.mod_eq_of_lt (show k < 2 ^ 64 by omega), Nat.shiftLeft_eq, Nat.mul_mod, Nat.mod_mod, ← Nat.mul_mod]
theorem wb_and {a b : Nat} (ha : a < 2 ^ 64) (hb : b < 2 ^ 64) : lN a &&& lN b = lN (a &&& b) := by
  apply wb_inj
  rw [Int64.toBitVec_and, wb_tb, wb_tb, wb_tb]
  apply BitVec.eq_of_toNat_eq
  rw [BitVec.toNat_and, BitVec.toNat_ofNat, BitVec.toNat_ofNat, BitVec.toNat_ofNat, Nat.mod_eq_of_lt ha, Nat.mod_eq_of_lt hb, Nat.mod_eq_of_lt (Nat.and_lt_two_pow _ hb)]
theorem wb_or {a b : Nat} (ha : a < 2 ^ 64) (hb : b < 2 ^ 64) : lN a ||| lN b = lN (a ||| b) := by
  apply wb_inj
  rw [Int64.toBitVec_or, wb_tb, wb_tb, wb_tb]
  apply BitVec.eq_of_toNat_eq
  rw [BitVec.toNat_or, BitVec.toNat_ofNat, BitVec.toNat_ofNat, BitVec.toNat_ofNat, Nat.mod_eq_of_lt ha, Nat.mod_eq_of_lt hb, Nat.mod_eq_of_lt (Nat.or_lt_two_pow ha hb)]
theorem wb_mask {n k : Nat} (hn : n < 2 ^ 64) (hk : k < 64) : lN n &&& lN (2 ^ k - 1) = lN (n % 2 ^ k) := by
  rw [wb_and hn (by have := wb_lt2 hk; omega), Nat.and_two_pow_sub_one_eq_mod]
theorem wb_a1 {n : Nat} (hn : n < 2 ^ 64) : lN n &&& 1 = lN (n % 2) := wb_mask (k := 1) hn (by decide)
theorem wb_bit {n k : Nat} (hn : n < 2 ^ 64) (hk : k < 64) : ((lN n).toUInt64 >>> ((nI k).toInt64.toUInt64 &&& Int64.toUInt64 63)).toInt64 &&& 1 = lN (n / 2 ^ k % 2) := by
  rw [wb_shr hn hk, wb_a1 (Nat.lt_of_le_of_lt (Nat.div_le_self _ _) hn)]
theorem wb_xor {q k : Nat} (hk : k < 63) (h : 2 ^ k ≤ q) (h2 : q < 2 ^ (k + 1)) : lN q ^^^ lN (2 ^ k) = lN (q - 2 ^ k) := by
  obtain ⟨r, rfl⟩ : ∃ r, q = 2 ^ k + r := ⟨q - 2 ^ k, by omega⟩
  have hr : r < 2 ^ k := by rw [Nat.pow_succ] at h2; omega
  have hx : (2 ^ k + r) ^^^ 2 ^ k = r := by
    apply Nat.eq_of_testBit_eq
    intro i
    rw [Nat.testBit_xor, Nat.testBit_two_pow]
    rcases Nat.lt_trichotomy i k with h | h | h
    · rw [Nat.testBit_two_pow_add_gt h]
      simp [show ¬ k = i by omega]
    · subst h
      rw [Nat.testBit_two_pow_add_eq]
      simp
    · have a1 : 2 ^ (k + 1) ≤ 2 ^ i := Nat.pow_le_pow_right (by decide) h
      rw [Nat.testBit_lt_two_pow (show 2 ^ k + r < 2 ^ i by omega), Nat.testBit_lt_two_pow (show r < 2 ^ i by omega)]
      simp [show ¬ k = i by omega]
  have b1 := wb_lt2 (show k + 1 < 64 by omega)
  have b2 := wb_lt2 (show k < 64 by omega)
  apply wb_inj
  rw [Int64.toBitVec_xor, wb_tb, wb_tb, wb_tb]
  apply BitVec.eq_of_toNat_eq
  rw [BitVec.toNat_xor, BitVec.toNat_ofNat, BitVec.toNat_ofNat, BitVec.toNat_ofNat, Nat.mod_eq_of_lt (by omega : 2 ^ k + r < 2 ^ 64), Nat.mod_eq_of_lt b2, hx, Nat.add_sub_cancel_left, Nat.mod_eq_of_lt (by omega)]
/-! ===== lN to 2^62 under >> and >>> ===== -/
theorem pf_lI {a : Nat} (h : a < 2 ^ 63) : (lN a).toInt = (a : Int) := lg_ofNat_toInt h
theorem pf_shr {a d : Nat} {D : Int64} (hD : (D.toBitVec.smod 64).toNat = d) (h : a < 2 ^ 62) : lN a >>> D = lN (a / 2 ^ d) := by
  have hd : a / 2 ^ d ≤ a := Nat.div_le_self _ _
  apply Int64.toInt_inj.mp
  have e : (lN a >>> D).toInt = (lN a).toInt >>> d := by
    rw [← hD]
    exact BitVec.toInt_sshiftRight ..
  rw [e, Int.shiftRight_eq_div_pow, pf_lI (by omega), pf_lI (by omega)]
  rfl
theorem pf_ushr {a d : Nat} {D : UInt64} (hD : D.toNat % 64 = d) (h : a < 2 ^ 62) : ((lN a).toUInt64 >>> D).toInt64 = lN (a / 2 ^ d) := by
  have hd : a / 2 ^ d ≤ a := Nat.div_le_self _ _
  have e : (lN a).toUInt64 >>> D = UInt64.ofNat (a / 2 ^ d) := UInt64.toNat_inj.mp (by
    rw [UInt64.toNat_shiftRight, hD, Nat.shiftRight_eq_div_pow, UInt64.toNat_ofNat']
    show (UInt64.ofNat a).toNat / 2 ^ d = _
    rw [UInt64.toNat_ofNat', Nat.mod_eq_of_lt (by omega), Nat.mod_eq_of_lt (by omega)])
  rw [e]
  rfl
theorem pf_andw (x : Int64) : ∃ m, m < 2 ^ 32 ∧ x &&& 4294967295 = lN m := ⟨x.toBitVec.toNat % 2 ^ 32, Nat.mod_lt _ (by decide), Int64.toBitVec_inj.mp (BitVec.eq_of_toNat_eq (by
  show (x.toBitVec &&& 4294967295#64).toNat = (BitVec.ofNat 64 (x.toBitVec.toNat % 2 ^ 32)).toNat
  rw [BitVec.toNat_and, show (4294967295#64).toNat = 2 ^ 32 - 1 from by decide, Nat.and_two_pow_sub_one_eq_mod, BitVec.toNat_ofNat]
  omega))⟩
end
section
/-! what FOUND means: counts over the places 1 .. n, and that there is at most one such curve -/
def sd_N (k : Nat) : FP := Fin.ofNat 2305843009213693951 k
theorem sd_N_val {k : Nat} (h : k < 2305843009213693951) : (sd_N k).val = k := Nat.mod_eq_of_lt h
theorem sd_N_L {k : Nat} (h : k < 2305843009213693951) : sd_L (sd_N k) = lN k := by
  unfold sd_L
  rw [sd_N_val h]
theorem sd_N_inj {a b : Nat} (ha : a < 2305843009213693951) (hb : b < 2305843009213693951) (h : sd_N a = sd_N b) : a = b := by
  have := congrArg Fin.val h
  rw [sd_N_val ha, sd_N_val hb] at this
  exact this
/-- how many of 1 .. n -/
def sd_cnt (b : Nat → Bool) : Nat → Nat
  | 0 => 0
  | n + 1 => sd_cnt b n + (if b (n + 1) = true then 1 else 0)
theorem sd_cnt_0 (b : Nat → Bool) : sd_cnt b 0 = 0 := rfl
theorem sd_cnt_s (b : Nat → Bool) (n : Nat) : sd_cnt b (n + 1) = sd_cnt b n + (if b (n + 1) = true then 1 else 0) := rfl
theorem sd_cnt_t {b : Nat → Bool} {n : Nat} (h : b (n + 1) = true) : sd_cnt b (n + 1) = sd_cnt b n + 1 := by rw [sd_cnt_s, if_pos h]
theorem sd_cnt_f {b : Nat → Bool} {n : Nat} (h : b (n + 1) = false) : sd_cnt b (n + 1) = sd_cnt b n := by rw [sd_cnt_s, if_neg (by rw [h]; decide), Nat.add_zero]
theorem sd_cnt_le (b : Nat → Bool) : ∀ n, sd_cnt b n ≤ n := by
  intro n
  induction n with
  | zero => exact Nat.le_refl 0
  | succ n ih =>
    cases h : b (n + 1) with
    | true => rw [sd_cnt_t h]; omega
    | false => rw [sd_cnt_f h]; omega
theorem sd_cnt_mono (b : Nat → Bool) {i j : Nat} (h : i ≤ j) : sd_cnt b i ≤ sd_cnt b j := by
  induction j with
  | zero => rw [Nat.le_zero.mp h]; exact Nat.le_refl _
  | succ j ih =>
    rcases Nat.lt_or_ge i (j + 1) with q | q
    · refine Nat.le_trans (ih (by omega)) ?_
      rw [sd_cnt_s]
      omega
    · rw [show i = j + 1 by omega]
      exact Nat.le_refl _
theorem sd_cnt_congr {a b : Nat → Bool} : ∀ n, (∀ j, 1 ≤ j → j ≤ n → a j = b j) → sd_cnt a n = sd_cnt b n := by
  intro n
  induction n with
  | zero => intro _; rfl
  | succ n ih => intro h; rw [sd_cnt_s, sd_cnt_s, ih (fun j h1 h2 => h j h1 (by omega)), h (n + 1) (by omega) (by omega)]
/-- a sum of three counts bounds one, if it does so place by place -/
theorem sd_cnt_sum {a b c d : Nat → Bool} : ∀ n, (∀ j, 1 ≤ j → j ≤ n → a j = true → b j = true ∨ c j = true ∨ d j = true) → sd_cnt a n ≤ sd_cnt b n + sd_cnt c n + sd_cnt d n := by
  intro n
  induction n with
  | zero => intro _; exact Nat.le_refl 0
  | succ n ih =>
    intro h
    have i := ih (fun j h1 h2 => h j h1 (by omega))
    rw [sd_cnt_s a, sd_cnt_s b, sd_cnt_s c, sd_cnt_s d]
    by_cases ha : a (n + 1) = true
    · rw [if_pos ha]
      rcases h (n + 1) (by omega) (by omega) ha with q | q | q
      · rw [if_pos q]; omega
      · rw [if_pos q]; omega
      · rw [if_pos q]; omega
    · rw [if_neg ha]; omega
theorem sd_cnt_list (b : Nat → Bool) : ∀ n, ∃ L : List Nat, L.Nodup ∧ L.length = sd_cnt b n ∧ ∀ j, j ∈ L ↔ (1 ≤ j ∧ j ≤ n ∧ b j = true) := by
  intro n
  induction n with
  | zero => exact ⟨[], List.nodup_nil, rfl, fun j => ⟨fun h => absurd h List.not_mem_nil, fun h => absurd h.2.1 (by omega)⟩⟩
  | succ n ih =>
    obtain ⟨L, h1, h2, h3⟩ := ih
    cases h : b (n + 1) with
    | false =>
      refine ⟨L, h1, by rw [sd_cnt_f h]; exact h2, fun j => ?_⟩
      rw [h3]
      constructor
      · intro q; exact ⟨q.1, by omega, q.2.2⟩
      · intro q
        refine ⟨q.1, ?_, q.2.2⟩
        rcases Nat.lt_or_ge j (n + 1) with z | z
        · omega
        · have e : j = n + 1 := by omega
          have := q.2.2
          rw [e, h] at this
          cases this
    | true =>
      refine ⟨(n + 1) :: L, List.nodup_cons.mpr ⟨fun q => ?_, h1⟩, by rw [List.length_cons, sd_cnt_t h, h2], fun j => ?_⟩
      · have := ((h3 (n + 1)).mp q).2.1
        omega
      · rw [List.mem_cons, h3]
        constructor
        · rintro (q | q)
          · rw [q]; exact ⟨by omega, by omega, h⟩
          · exact ⟨q.1, by omega, q.2.2⟩
        · intro q
          rcases Nat.lt_or_ge j (n + 1) with z | z
          · exact Or.inr ⟨q.1, by omega, q.2.2⟩
          · exact Or.inl (by omega)
theorem sd_map_nodup {L : List Nat} (h : L.Nodup) (hl : ∀ j, j ∈ L → j ≤ 16) : (L.map sd_N).Nodup := by
  refine List.pairwise_map.mpr (List.Pairwise.imp_of_mem (R := fun a b => a ≠ b) ?_ h)
  intro a b ha hb hab q
  have := hl a ha
  have := hl b hb
  exact hab (sd_N_inj (by omega) (by omega) q)
/-- a curve's value -/
def sd_ev (f : Nat → FP) (x : FP) : FP := sd_pv f x 0 9
theorem sd_ev_cut {f : Nat → FP} {t : Nat} (ht : t ≤ 8) (h : ∀ k, t < k → k < 9 → f k = 0) (x : FP) : sd_ev f x = sd_pv f x 0 (t + 1) := by
  unfold sd_ev
  have e : sd_pv f x 0 9 = sd_pv (fun k => if k < 9 then f k else 0) x 0 9 := sd_pv_congr x 9 0 (fun j _ h => (if_pos (by omega)).symm)
  have e2 : sd_pv f x 0 (t + 1) = sd_pv (fun k => if k < 9 then f k else 0) x 0 (t + 1) := sd_pv_congr x (t + 1) 0 (fun j _ h => (if_pos (by omega)).symm)
  rw [e, e2, show 9 = (t + 1) + (8 - t) by omega]
  refine sd_pv_ext x 0 (t + 1) (fun j hj => ?_) _
  show (if j < (t + 1) + (8 - t) then f j else 0) = 0
  by_cases q : j < (t + 1) + (8 - t)
  · rw [if_pos q]; exact h j (by omega) (by omega)
  · rw [if_neg q]
/-- the share at a place is there, and the curve misses it -/
def sd_ms (th : Nat → Bool) (v f : Nat → FP) (j : Nat) : Bool := th j && decide (¬ v j = sd_ev f (sd_N j))
/-- FOUND: of at most the degree t, and at most e of the n places' shares are missed -/
def sd_Fd (t n e : Nat) (th : Nat → Bool) (v f : Nat → FP) : Prop := (∀ k, t < k → k < 9 → f k = 0) ∧ sd_cnt (sd_ms th v f) n ≤ e
theorem sd_Fd_un {t n e : Nat} {th : Nat → Bool} {v f g : Nat → FP} (ht : t ≤ 8) (hn : n ≤ 16) (hm : t + 1 + 2 * e ≤ sd_cnt th n) (hf : sd_Fd t n e th v f) (hg : sd_Fd t n e th v g) : ∀ k, k < 9 → f k = g k := by
  have hs := sd_cnt_sum (a := th) (b := sd_ms th v f) (c := sd_ms th v g) (d := fun j => th j && (decide (v j = sd_ev f (sd_N j)) && decide (v j = sd_ev g (sd_N j)))) n (by
    intro j _ _ h
    by_cases q1 : v j = sd_ev f (sd_N j)
    · by_cases q2 : v j = sd_ev g (sd_N j)
      · exact Or.inr (Or.inr (by simp only [h, Bool.true_and, Bool.and_eq_true, decide_eq_true_eq]; exact ⟨q1, q2⟩))
      · exact Or.inr (Or.inl (by simp only [sd_ms, h, Bool.true_and, decide_eq_true_eq]; exact q2))
    · exact Or.inl (by simp only [sd_ms, h, Bool.true_and, decide_eq_true_eq]; exact q1))
  obtain ⟨L, l1, l2, l3⟩ := sd_cnt_list (fun j => th j && (decide (v j = sd_ev f (sd_N j)) && decide (v j = sd_ev g (sd_N j)))) n
  have hl : t + 1 ≤ (L.map sd_N).length := by
    rw [List.length_map, l2]
    have a := hf.2
    have b := hg.2
    omega
  have hr := sd_roots sd_inv (t + 1) (fun k => f k - g k) (L.map sd_N) (sd_map_nodup l1 (fun j hj => by have := ((l3 j).mp hj).2.1; omega)) hl (by
    intro x hx
    obtain ⟨j, hj, rfl⟩ := List.mem_map.mp hx
    have q := ((l3 j).mp hj).2.2
    simp only [Bool.and_eq_true, decide_eq_true_eq] at q
    rw [sd_pv_sub, ← sd_ev_cut ht hf.1, ← sd_ev_cut ht hg.1, ← q.2.1, ← q.2.2]
    grind)
  intro k hk
  rcases Nat.lt_or_ge t k with q | q
  · rw [hf.1 k q hk, hg.1 k q hk]
  · have z : f k - g k = 0 := hr k (by omega)
    grind
/-- the r-th share that is there, from 0 on -/
theorem sd_nth (th : Nat → Bool) (r : Nat) : ∀ n, r < sd_cnt th n → ∃ p, 1 ≤ p ∧ p ≤ n ∧ th p = true ∧ sd_cnt th (p - 1) = r := by
  intro n
  induction n with
  | zero => intro h0; rw [sd_cnt_0] at h0; omega
  | succ n ih =>
    intro h0
    rcases Nat.lt_or_ge r (sd_cnt th n) with y | y
    · obtain ⟨p, a, b, c, d⟩ := ih y
      exact ⟨p, a, by omega, c, d⟩
    · cases hc : th (n + 1) with
      | false => rw [sd_cnt_f hc] at h0; omega
      | true =>
        rw [sd_cnt_t hc] at h0
        exact ⟨n + 1, by omega, by omega, hc, by rw [Nat.add_sub_cancel]; omega⟩
theorem sd_cnt_first (th : Nat → Bool) (N : Nat) : ∀ n, sd_cnt (fun p => th p && decide (sd_cnt th (p - 1) < N)) n = min (sd_cnt th n) N := by
  intro n
  induction n with
  | zero => rw [sd_cnt_0, sd_cnt_0]; omega
  | succ n ih =>
    rw [sd_cnt_s, ih, sd_cnt_s th n, Nat.add_sub_cancel]
    cases hc : th (n + 1) with
    | false =>
      rw [if_neg (by simp), if_neg (by simp)]
      omega
    | true =>
      rw [if_pos rfl]
      by_cases q : sd_cnt th n < N
      · rw [if_pos (by simp [q])]
        omega
      · rw [if_neg (by simp [q])]
        omega
/-- what solves the equations of the first shares gives the curve that is FOUND, if there is one -/
theorem sd_seek {t n e N : Nat} {th : Nat → Bool} {v : Nat → FP} (ht : t ≤ 8) (hn : n ≤ 16) (hN : N = t + e + 1 + e) (hm : N ≤ sd_cnt th n) {M0 : Nat → Nat → FP}
    (hM : ∀ p, 1 ≤ p → p ≤ n → th p = true → sd_cnt th (p - 1) < N → ∀ k, k ≤ N → M0 (sd_cnt th (p - 1)) k = sd_row t e (sd_N p) (v p) k)
    {M : Nat → Nat → FP} {used : Nat → Bool} {ro : Nat → Option Nat} (hG : sd_GI N M0 M used ro N) {f : Nat → FP} (hf : sd_Fd t n e th v f) :
    ∀ m, m < t + e + 1 → sd_sol M N ro m = sd_cv f (sd_E (sd_sol M N ro) t e) (t + 1) m := by
  have hp : ∀ r, ∃ p, r < N → 1 ≤ p ∧ p ≤ n ∧ th p = true ∧ sd_cnt th (p - 1) = r := by
    intro r
    by_cases q : r < N
    · obtain ⟨p, h⟩ := sd_nth th r n (by omega)
      exact ⟨p, fun _ => h⟩
    · exact ⟨0, fun h => absurd h q⟩
  have hpt : ∃ pt : Nat → Nat, ∀ r, r < N → 1 ≤ pt r ∧ pt r ≤ n ∧ th (pt r) = true ∧ sd_cnt th (pt r - 1) = r := ⟨fun r => Classical.choose (hp r), fun r => Classical.choose_spec (hp r)⟩
  obtain ⟨pt, hpt⟩ := hpt
  have hrow : ∀ r, r < N → ∀ k, k ≤ N → M0 r k = sd_row t e (sd_N (pt r)) (v (pt r)) k := by
    intro r hr k hk
    obtain ⟨h1, h2, h3, h4⟩ := hpt r hr
    have := hM (pt r) h1 h2 h3 (by omega) k hk
    rw [h4] at this
    exact this
  have hsat : ∀ z, sd_Sat M0 N z ↔ ∀ i, i < N → sd_sum (fun k => sd_row t e (sd_N (pt i)) (v (pt i)) k * z k) N = sd_row t e (sd_N (pt i)) (v (pt i)) N := by
    intro z
    exact sd_Sat_congr (M := fun r k => sd_row t e (sd_N (pt r)) (v (pt r)) k) (fun r k hr hk => hrow r hr k hk) z
  obtain ⟨hf1, hf2⟩ := hf
  obtain ⟨L, -, l2, l3⟩ := sd_cnt_list (sd_ms th v f) n
  obtain ⟨z0, hz0⟩ := sd_bw_ex t e N hN f (fun r => sd_N (pt r)) (fun r => v (pt r)) (L.map sd_N) (by rw [List.length_map, l2]; exact hf2) (by
    intro i hi
    obtain ⟨h1, h2, h3, h4⟩ := hpt i hi
    by_cases q : v (pt i) = sd_ev f (sd_N (pt i))
    · exact Or.inl (by rw [← sd_ev_cut ht hf1]; exact q)
    · exact Or.inr (List.mem_map.mpr ⟨pt i, (l3 (pt i)).mpr ⟨h1, h2, by simp only [sd_ms, h3, Bool.true_and, decide_eq_true_eq]; exact q⟩, rfl⟩))
  have hs := (hsat _).mp (sd_GI_end hG ((hsat z0).mpr hz0))
  have hcount := sd_cnt_sum (a := fun p => th p && decide (sd_cnt th (p - 1) < N)) (b := sd_ms th v f) (c := fun p => (th p && decide (sd_cnt th (p - 1) < N)) && decide (v p = sd_ev f (sd_N p))) (d := fun _ => false) n (by
    intro j _ _ h
    by_cases q : v j = sd_ev f (sd_N j)
    · exact Or.inr (Or.inl (by rw [h]; simp only [Bool.true_and, decide_eq_true_eq]; exact q))
    · simp only [Bool.and_eq_true] at h
      exact Or.inl (by simp only [sd_ms, h.1, Bool.true_and, decide_eq_true_eq]; exact q))
  have hzero : sd_cnt (fun _ => false) n = 0 := by
    have : ∀ n, sd_cnt (fun _ => false) n = 0 := by
      intro n
      induction n with
      | zero => rfl
      | succ n ih => rw [sd_cnt_f rfl, ih]
    exact this n
  rw [sd_cnt_first, hzero] at hcount
  obtain ⟨G, g1, g2, g3⟩ := sd_cnt_list (fun p => (th p && decide (sd_cnt th (p - 1) < N)) && decide (v p = sd_ev f (sd_N p))) n
  refine sd_bw_un sd_inv t e N hN f (fun r => sd_N (pt r)) (fun r => v (pt r)) _ (G.map sd_N) (sd_map_nodup g1 (fun j hj => by have := ((g3 j).mp hj).2.1; omega)) (by rw [List.length_map, g2]; omega) ?_ hs
  intro x hx
  obtain ⟨j, hj, rfl⟩ := List.mem_map.mp hx
  obtain ⟨j1, j2, j3⟩ := (g3 j).mp hj
  simp only [Bool.and_eq_true, decide_eq_true_eq] at j3
  obtain ⟨h1, h2, h3, h4⟩ := hpt (sd_cnt th (j - 1)) j3.1.2
  have hinj : pt (sd_cnt th (j - 1)) = j := by
    generalize pt (sd_cnt th (j - 1)) = q at h1 h2 h3 h4
    rcases Nat.lt_trichotomy q j with z | z | z
    · have a := sd_cnt_mono th (show q ≤ j - 1 by omega)
      have b : sd_cnt th q = sd_cnt th (q - 1) + 1 := by
        have c := sd_cnt_t (b := th) (n := q - 1) (by rw [Nat.sub_add_cancel h1]; exact h3)
        rw [Nat.sub_add_cancel h1] at c
        exact c
      omega
    · exact z
    · have a := sd_cnt_mono th (show j ≤ q - 1 by omega)
      have b : sd_cnt th j = sd_cnt th (j - 1) + 1 := by
        have c := sd_cnt_t (b := th) (n := j - 1) (by rw [Nat.sub_add_cancel j1]; exact j3.1.1)
        rw [Nat.sub_add_cancel j1] at c
        exact c
      omega
  exact ⟨sd_cnt th (j - 1), j3.1.2, by rw [hinj], by rw [hinj, ← sd_ev_cut ht hf1]; exact j3.2⟩
end
section
/-! rows of our own over the kit's: ints as nI of a number, stores that name the new world, calls that keep the world's order -/
theorem sd_free {A0 : Nat → Prop} {ws : va_W} {H0 H : Heap} {locs : List Loc} (hD : va_D A0 ws) (hS : va_S A0 H0 H locs) (hA : ∀ q, H0.size ≤ q → A0 q) : ∀ q, va_A ws H.size q → A0 q := by
  intro q h
  rcases h with ⟨k, e, h⟩ | h
  · exact hD.2 k (q, e) h
  · exact hA q (Nat.le_trans hS.1 h)
/-- the world behind a method that writes -/
def sd_B {S : Type} (D : va_G) (cl : List vw_C) (tys : List (ClassId × FieldType)) (A : Nat → Prop) (w : S → va_W) : S → State → Prop := fun u t => va_P D cl (w u) t.heap ∧ va_K D cl tys t ∧ va_D A (w u)
/-- the world ahead of a method that reads, and of one that writes -/
def sd_R (D : va_G) (cl : List vw_C) (tys : List (ClassId × FieldType)) (ws : va_W) (av : List Value) : Array Value → State → Prop := va_Pc av (fun U => va_P D cl ws U.heap ∧ va_K D cl tys U)
def sd_Wr (D : va_G) (cl : List vw_C) (tys : List (ClassId × FieldType)) (ws : va_W) (sz : Nat) (av : List Value) : Array Value → State → Prop := va_Pc av (fun U => U.heap.size = sz ∧ va_P D cl ws U.heap ∧ va_K D cl tys U ∧ va_D (fun _ => True) ws)
def sd_N0 (av : List Value) : Array Value → State → Prop := va_Pc av (fun _ => True)
section
variable {p : Program} {l : Launch} {e : Env} {R : Room} {s : State} {m : MethodId} {args : Array Value} {below : List Frame} {meth : Method} {c : Code} {H : Heap} {locs : List Loc} {cells slots : Nat} {Q : State → Prop}
variable {cc : ByteArray} {pc : Nat} {ls : Array Slot} {rest st0 : List Value} {D : va_G} {cl : List vw_C} {A A0 : Nat → Prop} {a : Nat} {tys : List (ClassId × FieldType)} {ws : va_W} {H0 : Heap} {av : List Value} {mc ms : Nat} {aa : Array Value}
theorem sd_preN : PreS s H (sd_N0 av) av := ⟨fun _ _ _ _ q => ⟨q.1, trivial⟩, fun _ _ _ => ⟨rfl, trivial⟩⟩
theorem sd_preR (hP : va_P D cl ws H) (hK : va_K D cl tys s) : PreS s H (sd_R D cl tys ws av) av :=
  ⟨fun a U g mk q => by obtain ⟨q0, qP, qK⟩ := q; exact ⟨q0, qP, va_K.moved (u := U) (U := U.calling g mk a) (Vm.Alike.refl U.vm) qK⟩, fun U hU hW => ⟨rfl, by rw [hU]; exact hP, va_K.moved hW.alike hK⟩⟩
theorem sd_preW (hP : va_P D cl ws H) (hK : va_K D cl tys s) (hD : va_D A ws) : PreS s H (sd_Wr D cl tys ws H.size av) av :=
  ⟨fun a U g mk q => by obtain ⟨q0, q1, qP, qK, qD⟩ := q; exact ⟨q0, q1, qP, va_K.moved (u := U) (U := U.calling g mk a) (Vm.Alike.refl U.vm) qK, qD⟩, fun U hU hW => ⟨rfl, by rw [hU], by rw [hU]; exact hP, va_K.moved hW.alike hK, hD.weaken (fun _ _ _ _ => trivial)⟩⟩
theorem sd_preVR {C : String} {b q0 ci : Nat} {q : vw_C} {fs : List Value} (hP : va_P D cl ws H) (hK : va_K D cl tys s) (hc : cl[ci]? = some q) (hq : q.1 = C) (he : ws[q0]? = some (b, .inr (ci, fs))) : PreV s H C b (sd_R D cl tys ws (.ref b :: av)) av := by
  subst hq
  exact ⟨(sd_preR hP hK).1, va_recv hK hP hc he, (sd_preR hP hK).2⟩
theorem sd_preVW {C : String} {b q0 ci : Nat} {q : vw_C} {fs : List Value} (hP : va_P D cl ws H) (hK : va_K D cl tys s) (hD : va_D A ws) (hc : cl[ci]? = some q) (hq : q.1 = C) (he : ws[q0]? = some (b, .inr (ci, fs))) : PreV s H C b (sd_Wr D cl tys ws H.size (.ref b :: av)) av := by
  subst hq
  exact ⟨(sd_preW (av := .ref b :: av) hP hK hD).1, va_recv hK hP hc he, (sd_preW (av := .ref b :: av) hP hK hD).2⟩
theorem sd_wv {S : Type} {post : S → Prop} {w : S → va_W} (hr : va_Run p l e R s m args below meth c H locs cells slots mc ms (F0 m pc ls st0) rest (va_Qv post (sd_B D cl tys (va_A ws H.size) w) (va_A ws H.size) aa) (va_A ws H.size)) (hD : va_D A0 ws) (hS : va_S A0 H0 H locs) (hA : ∀ q, H0.size ≤ q → A0 q)
    (kk : ∀ (u : S) (H1 : Heap) (locs1 : List Loc), post u → va_P D cl (w u) H1 → va_D A0 (w u) → va_S A0 H0 H1 locs1 → W p l e R s m args below meth c H1 locs1 (cells + mc) (slots + ms) Q (F0 m (pc + 3) ls rest)) : W p l e R s m args below meth c H locs cells slots Q (F0 m pc ls st0) := by
  have hF := sd_free hD hS hA
  refine va_callv hr hS (fun q _ h => hF q h) hF (fun u t H1 locs1 ht hvm hu hB hz hk hS1 => ?_)
  obtain ⟨hP1, hK1, hD1⟩ := hB
  rw [ht] at hP1
  exact kk u H1 locs1 hu hP1 (hD1.weaken (fun k q _ h => hF q.1 h)) hS1
theorem sd_wi {S : Type} {post : Int32 → S → Prop} {w : S → va_W} (hr : va_Run p l e R s m args below meth c H locs cells slots mc ms (F0 m pc ls st0) rest (va_Qi post (sd_B D cl tys (va_A ws H.size) w) (va_A ws H.size) aa) (va_A ws H.size)) (hD : va_D A0 ws) (hS : va_S A0 H0 H locs) (hA : ∀ q, H0.size ≤ q → A0 q)
    (kk : ∀ (r : Int32) (u : S) (H1 : Heap) (locs1 : List Loc), post r u → va_P D cl (w u) H1 → va_D A0 (w u) → va_S A0 H0 H1 locs1 → W p l e R s m args below meth c H1 locs1 (cells + mc) (slots + ms) Q (F0 m (pc + 3) ls (.int r :: rest))) : W p l e R s m args below meth c H locs cells slots Q (F0 m pc ls st0) := by
  have hF := sd_free hD hS hA
  refine va_calli hr hS (fun q _ h => hF q h) hF (fun r u t H1 locs1 ht hvm hu hB hz hk hS1 => ?_)
  obtain ⟨hP1, hK1, hD1⟩ := hB
  rw [ht] at hP1
  exact kk r u H1 locs1 hu hP1 (hD1.weaken (fun k q _ h => hF q.1 h)) hS1
theorem sd_wl {S : Type} {post : Int64 → S → Prop} {w : S → va_W} (hr : va_Run p l e R s m args below meth c H locs cells slots mc ms (F0 m pc ls st0) rest (va_Ql post (sd_B D cl tys (va_A ws H.size) w) (va_A ws H.size) aa) (va_A ws H.size)) (hD : va_D A0 ws) (hS : va_S A0 H0 H locs) (hA : ∀ q, H0.size ≤ q → A0 q)
    (kk : ∀ (r : Int64) (u : S) (H1 : Heap) (locs1 : List Loc), post r u → va_P D cl (w u) H1 → va_D A0 (w u) → va_S A0 H0 H1 locs1 → W p l e R s m args below meth c H1 locs1 (cells + mc) (slots + ms) Q (F0 m (pc + 3) ls (.long r :: rest))) : W p l e R s m args below meth c H locs cells slots Q (F0 m pc ls st0) := by
  have hF := sd_free hD hS hA
  refine va_calll hr hS (fun q _ h => hF q h) hF (fun r u t H1 locs1 ht hvm hu hB hz hk hS1 => ?_)
  obtain ⟨hP1, hK1, hD1⟩ := hB
  rw [ht] at hP1
  exact kk r u H1 locs1 hu hP1 (hD1.weaken (fun k q _ h => hF q.1 h)) hS1
theorem sd_iadd (hexec : p.tables.exec = Jvm.exec) (hb : c.code = cc) {a b : Nat} (hdg : decode cc pc = .ok (.iadd, 1)) (k : W p l e R s m args below meth c H locs cells slots Q (F0 m (pc + 1) ls (.int (nI (a + b)) :: rest))) : W p l e R s m args below meth c H locs cells slots Q (F0 m pc ls (.int (nI b) :: .int (nI a) :: rest)) := lv_iadd hexec hb hdg (by rw [nI_add]; exact k)
theorem sd_imul (hexec : p.tables.exec = Jvm.exec) (hb : c.code = cc) {a b : Nat} (hdg : decode cc pc = .ok (.imul, 1)) (k : W p l e R s m args below meth c H locs cells slots Q (F0 m (pc + 1) ls (.int (nI (a * b)) :: rest))) : W p l e R s m args below meth c H locs cells slots Q (F0 m pc ls (.int (nI b) :: .int (nI a) :: rest)) := lv_imul hexec hb hdg (by rw [pk_mul]; exact k)
theorem sd_isub (hexec : p.tables.exec = Jvm.exec) (hb : c.code = cc) {a b : Nat} (h : b ≤ a) (hdg : decode cc pc = .ok (.isub, 1)) (k : W p l e R s m args below meth c H locs cells slots Q (F0 m (pc + 1) ls (.int (nI (a - b)) :: rest))) : W p l e R s m args below meth c H locs cells slots Q (F0 m pc ls (.int (nI b) :: .int (nI a) :: rest)) := lv_isub hexec hb hdg (by rw [pk_sub h]; exact k)
theorem sd_icmp_lt (hexec : p.tables.exec = Jvm.exec) (hb : c.code = cc) {a b : Nat} {off : Int} {tgt : Nat} (h1 : a < 2 ^ 31) (h2 : b < 2 ^ 31) (hdg : decode cc pc = .ok (.if_icmp .lt off, 3)) (ht : (pc : Int) + off = (tgt : Int)) (kt : a < b → W p l e R s m args below meth c H locs cells slots Q (F0 m tgt ls rest)) (kf : b ≤ a → W p l e R s m args below meth c H locs cells slots Q (F0 m (pc + 3) ls rest)) : W p l e R s m args below meth c H locs cells slots Q (F0 m pc ls (.int (nI b) :: .int (nI a) :: rest)) := lv_icmp_lt hexec hb hdg ht (fun q => kt ((nI_ltI h1 h2).mp q)) (fun q => kf (Nat.not_lt.mp (fun z => q ((nI_ltI h1 h2).mpr z))))
theorem sd_icmp_ge (hexec : p.tables.exec = Jvm.exec) (hb : c.code = cc) {a b : Nat} {off : Int} {tgt : Nat} (h1 : a < 2 ^ 31) (h2 : b < 2 ^ 31) (hdg : decode cc pc = .ok (.if_icmp .ge off, 3)) (ht : (pc : Int) + off = (tgt : Int)) (kt : b ≤ a → W p l e R s m args below meth c H locs cells slots Q (F0 m tgt ls rest)) (kf : a < b → W p l e R s m args below meth c H locs cells slots Q (F0 m (pc + 3) ls rest)) : W p l e R s m args below meth c H locs cells slots Q (F0 m pc ls (.int (nI b) :: .int (nI a) :: rest)) := lv_icmp_ge hexec hb hdg ht (fun q => kt ((nI_leI h2 h1).mp q)) (fun q => kf (Nat.not_le.mp (fun z => q ((nI_leI h2 h1).mpr z))))
theorem sd_icmp_gt (hexec : p.tables.exec = Jvm.exec) (hb : c.code = cc) {a b : Nat} {off : Int} {tgt : Nat} (h1 : a < 2 ^ 31) (h2 : b < 2 ^ 31) (hdg : decode cc pc = .ok (.if_icmp .gt off, 3)) (ht : (pc : Int) + off = (tgt : Int)) (kt : b < a → W p l e R s m args below meth c H locs cells slots Q (F0 m tgt ls rest)) (kf : a ≤ b → W p l e R s m args below meth c H locs cells slots Q (F0 m (pc + 3) ls rest)) : W p l e R s m args below meth c H locs cells slots Q (F0 m pc ls (.int (nI b) :: .int (nI a) :: rest)) := lv_icmp_gt hexec hb hdg ht (fun q => kt ((nI_ltI h2 h1).mp q)) (fun q => kf (Nat.not_lt.mp (fun z => q ((nI_ltI h2 h1).mpr z))))
theorem sd_icmp_le (hexec : p.tables.exec = Jvm.exec) (hb : c.code = cc) {a b : Nat} {off : Int} {tgt : Nat} (h1 : a < 2 ^ 31) (h2 : b < 2 ^ 31) (hdg : decode cc pc = .ok (.if_icmp .le off, 3)) (ht : (pc : Int) + off = (tgt : Int)) (kt : a ≤ b → W p l e R s m args below meth c H locs cells slots Q (F0 m tgt ls rest)) (kf : b < a → W p l e R s m args below meth c H locs cells slots Q (F0 m (pc + 3) ls rest)) : W p l e R s m args below meth c H locs cells slots Q (F0 m pc ls (.int (nI b) :: .int (nI a) :: rest)) := lv_icmp_le hexec hb hdg ht (fun q => kt ((nI_leI h1 h2).mp q)) (fun q => kf (Nat.not_le.mp (fun z => q ((nI_leI h1 h2).mpr z))))
theorem sd_icmp_eq (hexec : p.tables.exec = Jvm.exec) (hb : c.code = cc) {a b : Nat} {off : Int} {tgt : Nat} (h1 : a < 2 ^ 31) (h2 : b < 2 ^ 31) (hdg : decode cc pc = .ok (.if_icmp .eq off, 3)) (ht : (pc : Int) + off = (tgt : Int)) (kt : a = b → W p l e R s m args below meth c H locs cells slots Q (F0 m tgt ls rest)) (kf : a ≠ b → W p l e R s m args below meth c H locs cells slots Q (F0 m (pc + 3) ls rest)) : W p l e R s m args below meth c H locs cells slots Q (F0 m pc ls (.int (nI b) :: .int (nI a) :: rest)) := lv_icmp_eq hexec hb hdg ht (fun q => kt ((nI_eq h1 h2).mp q)) (fun q => kf (fun z => q ((nI_eq h1 h2).mpr z)))
theorem sd_icmp_ne (hexec : p.tables.exec = Jvm.exec) (hb : c.code = cc) {a b : Nat} {off : Int} {tgt : Nat} (h1 : a < 2 ^ 31) (h2 : b < 2 ^ 31) (hdg : decode cc pc = .ok (.if_icmp .ne off, 3)) (ht : (pc : Int) + off = (tgt : Int)) (kt : a ≠ b → W p l e R s m args below meth c H locs cells slots Q (F0 m tgt ls rest)) (kf : a = b → W p l e R s m args below meth c H locs cells slots Q (F0 m (pc + 3) ls rest)) : W p l e R s m args below meth c H locs cells slots Q (F0 m pc ls (.int (nI b) :: .int (nI a) :: rest)) := lv_icmp_ne hexec hb hdg ht (fun q => kt (fun z => q ((nI_eq h1 h2).mpr z))) (fun q => kf ((nI_eq h1 h2).mp q))
theorem sd_iald (hexec : p.tables.exec = Jvm.exec) (hb : c.code = cc) (hK : va_K D cl tys s) (hP : va_P D cl ws H) (q0 t0 : Nat) {cA : ClassId} {n : Nat} {f : Nat → Int32} (ha : ws[q0]? = some (a, .inl (cA, n, .inl f))) (ht : tys[t0]? = some (cA, .int)) {k : Nat} (hk : k < n) (hn : n < 2 ^ 31) (hdg : decode cc pc = .ok (.iaload, 1)) (kk : W p l e R s m args below meth c H locs cells slots Q (F0 m (pc + 1) ls (.int (f k) :: rest))) : W p l e R s m args below meth c H locs cells slots Q (F0 m pc ls (.int (nI k) :: .ref a :: rest)) := va_iald hexec hb hK hP q0 t0 ha ht (vp_in_nI hk hn) hdg (by rw [nI_clamp (by omega)]; exact kk)
theorem sd_iast (hexec : p.tables.exec = Jvm.exec) (hb : c.code = cc) (hK : va_K D cl tys s) (hP : va_P D cl ws H) (hD : va_D A ws) (hS : va_S A H0 H locs) (q0 t0 : Nat) {cA : ClassId} {n : Nat} {f : Nat → Int32} (ha : ws[q0]? = some (a, .inl (cA, n, .inl f))) (ht : tys[t0]? = some (cA, .int)) {k : Nat} {x : Int32} (hk : k < n) (hn : n < 2 ^ 31) {ws2 : va_W} (hw : ws.set q0 (a, .inl (cA, n, .inl (upd f k x))) = ws2) (hdg : decode cc pc = .ok (.iastore, 1))
    (kk : ∀ (H1 : Heap) (locs1 : List Loc), va_P D cl ws2 H1 → va_D A ws2 → va_S A H0 H1 locs1 → W p l e R s m args below meth c H1 locs1 cells slots Q (F0 m (pc + 1) ls rest)) : W p l e R s m args below meth c H locs cells slots Q (F0 m pc ls (.int x :: .int (nI k) :: .ref a :: rest)) := by
  refine va_iast hexec hb hK hP hD hS q0 t0 ha ht (vp_in_nI hk hn) hdg (fun H1 locs1 h1 h2 h3 => ?_)
  rw [nI_clamp (by omega), hw] at h1 h2
  exact kk H1 locs1 h1 h2 h3
theorem sd_zald (hexec : p.tables.exec = Jvm.exec) (hb : c.code = cc) (hK : va_K D cl tys s) (hP : va_P D cl ws H) (q0 t0 : Nat) {cA : ClassId} {n : Nat} {f : Nat → Int32} (ha : ws[q0]? = some (a, .inl (cA, n, .inl f))) (ht : tys[t0]? = some (cA, .boolean)) {k : Nat} (hk : k < n) (hn : n < 2 ^ 31) (hdg : decode cc pc = .ok (.baload, 1)) (kk : W p l e R s m args below meth c H locs cells slots Q (F0 m (pc + 1) ls (.int (f k) :: rest))) : W p l e R s m args below meth c H locs cells slots Q (F0 m pc ls (.int (nI k) :: .ref a :: rest)) := va_zald hexec hb hK hP q0 t0 ha ht (vp_in_nI hk hn) hdg (by rw [nI_clamp (by omega)]; exact kk)
theorem sd_zast (hexec : p.tables.exec = Jvm.exec) (hb : c.code = cc) (hK : va_K D cl tys s) (hP : va_P D cl ws H) (hD : va_D A ws) (hS : va_S A H0 H locs) (q0 t0 : Nat) {cA : ClassId} {n : Nat} {f : Nat → Int32} (ha : ws[q0]? = some (a, .inl (cA, n, .inl f))) (ht : tys[t0]? = some (cA, .boolean)) {k : Nat} {x : Int32} (hk : k < n) (hn : n < 2 ^ 31) {ws2 : va_W} (hw : ws.set q0 (a, .inl (cA, n, .inl (upd f k (vp_nar .boolean x)))) = ws2) (hdg : decode cc pc = .ok (.bastore, 1))
    (kk : ∀ (H1 : Heap) (locs1 : List Loc), va_P D cl ws2 H1 → va_D A ws2 → va_S A H0 H1 locs1 → W p l e R s m args below meth c H1 locs1 cells slots Q (F0 m (pc + 1) ls rest)) : W p l e R s m args below meth c H locs cells slots Q (F0 m pc ls (.int x :: .int (nI k) :: .ref a :: rest)) := by
  refine va_zast hexec hb hK hP hD hS q0 t0 ha ht (vp_in_nI hk hn) hdg (fun H1 locs1 h1 h2 h3 => ?_)
  rw [nI_clamp (by omega), hw] at h1 h2
  exact kk H1 locs1 h1 h2 h3
theorem sd_lald (hexec : p.tables.exec = Jvm.exec) (hb : c.code = cc) (hK : va_K D cl tys s) (hP : va_P D cl ws H) (q0 t0 : Nat) {cA : ClassId} {n : Nat} {f : Nat → Int64} (ha : ws[q0]? = some (a, .inl (cA, n, .inr (.inl f)))) (ht : tys[t0]? = some (cA, .long)) {k : Nat} (hk : k < n) (hn : n < 2 ^ 31) (hdg : decode cc pc = .ok (.laload, 1)) (kk : W p l e R s m args below meth c H locs cells slots Q (F0 m (pc + 1) ls (.long (f k) :: rest))) : W p l e R s m args below meth c H locs cells slots Q (F0 m pc ls (.int (nI k) :: .ref a :: rest)) := va_lald hexec hb hK hP q0 t0 ha ht (vp_in_nI hk hn) hdg (by rw [nI_clamp (by omega)]; exact kk)
theorem sd_last (hexec : p.tables.exec = Jvm.exec) (hb : c.code = cc) (hK : va_K D cl tys s) (hP : va_P D cl ws H) (hD : va_D A ws) (hS : va_S A H0 H locs) (q0 t0 : Nat) {cA : ClassId} {n : Nat} {f : Nat → Int64} (ha : ws[q0]? = some (a, .inl (cA, n, .inr (.inl f)))) (ht : tys[t0]? = some (cA, .long)) {k : Nat} {x : Int64} (hk : k < n) (hn : n < 2 ^ 31) {ws2 : va_W} (hw : ws.set q0 (a, .inl (cA, n, .inr (.inl (vp_updL f k x)))) = ws2) (hdg : decode cc pc = .ok (.lastore, 1))
    (kk : ∀ (H1 : Heap) (locs1 : List Loc), va_P D cl ws2 H1 → va_D A ws2 → va_S A H0 H1 locs1 → W p l e R s m args below meth c H1 locs1 cells slots Q (F0 m (pc + 1) ls rest)) : W p l e R s m args below meth c H locs cells slots Q (F0 m pc ls (.long x :: .int (nI k) :: .ref a :: rest)) := by
  refine va_last hexec hb hK hP hD hS q0 t0 ha ht (vp_in_nI hk hn) hdg (fun H1 locs1 h1 h2 h3 => ?_)
  rw [nI_clamp (by omega), hw] at h1 h2
  exact kk H1 locs1 h1 h2 h3
end
end
section
def RX0 : String := "SplitDesk$Curve"
def TX0 : u_T := fun k => match k with
  | _ => ("SplitDesk$Curve", "parts", "[J", true)
def tyX0 : Nat → FieldType := fun k => match k with
  | _ => .array .long
abbrev wsX00 : List Cond := u_ws RX0 TX0 1
theorem nmX0 : ∀ a, a < 1 → ∀ b, b < 1 → a ≠ b → (TX0 a).2.1 ≠ (TX0 b).2.1 := by decide +kernel
theorem tyX0_ok : ∀ k, k < 1 → parseFieldDescriptor (TX0 k).2.2.1 = some (tyX0 k) := by decide +kernel
abbrev cX0_init : ByteArray := prog_2_method_1_code
def yX0_init : MethodName := ⟨RX0, "<init>", "()V"⟩
abbrev cX0_draw : ByteArray := prog_2_method_2_code
def yX0_draw : MethodName := ⟨RX0, "draw", "(JIJ)V"⟩
abbrev cX0_valueAt : ByteArray := prog_2_method_3_code
def yX0_valueAt : MethodName := ⟨RX0, "valueAt", "(J)J"⟩
abbrev cX0_copyFrom : ByteArray := prog_2_method_4_code
def yX0_copyFrom : MethodName := ⟨RX0, "copyFrom", "(LSplitDesk$Curve;)V"⟩
def RX1 : String := "SplitDesk$Finder"
def TX1 : u_T := fun k => match k with
  | 0 => ("SplitDesk$Finder", "candidate", "LSplitDesk$Curve;", true)
  | 1 => ("SplitDesk$Finder", "rows", "[[J", true)
  | 2 => ("SplitDesk$Finder", "rowUsed", "[Z", true)
  | 3 => ("SplitDesk$Finder", "solution", "[J", true)
  | _ => ("SplitDesk$Finder", "rowOfUnknown", "[I", true)
def tyX1 : Nat → FieldType := fun k => match k with
  | 0 => .object "SplitDesk$Curve"
  | 1 => .array (.array .long)
  | 2 => .array .boolean
  | 3 => .array .long
  | _ => .array .int
abbrev wsX10 : List Cond := u_ws RX1 TX1 5
theorem nmX1 : ∀ a, a < 5 → ∀ b, b < 5 → a ≠ b → (TX1 a).2.1 ≠ (TX1 b).2.1 := by decide +kernel
theorem tyX1_ok : ∀ k, k < 5 → parseFieldDescriptor (TX1 k).2.2.1 = some (tyX1 k) := by decide +kernel
abbrev cX1_init : ByteArray := prog_3_method_1_code
def yX1_init : MethodName := ⟨RX1, "<init>", "()V"⟩
abbrev cX1_sharesNeeded : ByteArray := prog_3_method_2_code
def yX1_sharesNeeded : MethodName := ⟨RX1, "sharesNeeded", "(II)I"⟩
abbrev cX1_seek : ByteArray := prog_3_method_3_code
def yX1_seek : MethodName := ⟨RX1, "seek", "(LSplitDesk$Split;I)V"⟩
abbrev cX1_writeEquations : ByteArray := prog_3_method_4_code
def yX1_writeEquations : MethodName := ⟨RX1, "writeEquations", "(LSplitDesk$Split;II)V"⟩
abbrev cX1_writeEquation : ByteArray := prog_3_method_5_code
def yX1_writeEquation : MethodName := ⟨RX1, "writeEquation", "([JIJII)V"⟩
abbrev cX1_solveEquations : ByteArray := prog_3_method_6_code
def yX1_solveEquations : MethodName := ⟨RX1, "solveEquations", "(I)V"⟩
abbrev cX1_unusedRowWith : ByteArray := prog_3_method_7_code
def yX1_unusedRowWith : MethodName := ⟨RX1, "unusedRowWith", "(II)I"⟩
abbrev cX1_makeOne : ByteArray := prog_3_method_8_code
def yX1_makeOne : MethodName := ⟨RX1, "makeOne", "([JII)V"⟩
abbrev cX1_clearElsewhere : ByteArray := prog_3_method_9_code
def yX1_clearElsewhere : MethodName := ⟨RX1, "clearElsewhere", "(III)V"⟩
abbrev cX1_takeTimes : ByteArray := prog_3_method_10_code
def yX1_takeTimes : MethodName := ⟨RX1, "takeTimes", "([J[JII)V"⟩
abbrev cX1_divide : ByteArray := prog_3_method_11_code
def yX1_divide : MethodName := ⟨RX1, "divide", "(II)V"⟩
def RX2 : String := "SplitDesk$Numbers"
def TX2 : u_T := fun k => match k with
  | _ => ("", "", "", false)
def tyX2 : Nat → FieldType := fun k => match k with
  | _ => .int
abbrev wsX20 : List Cond := u_ws RX2 TX2 0
theorem nmX2 : ∀ a, a < 0 → ∀ b, b < 0 → a ≠ b → (TX2 a).2.1 ≠ (TX2 b).2.1 := by decide +kernel
theorem tyX2_ok : ∀ k, k < 0 → parseFieldDescriptor (TX2 k).2.2.1 = some (tyX2 k) := by decide +kernel
abbrev cX2_of : ByteArray := prog_4_method_2_code
def yX2_of : MethodName := ⟨RX2, "of", "(J)J"⟩
abbrev cX2_plus : ByteArray := prog_4_method_3_code
def yX2_plus : MethodName := ⟨RX2, "plus", "(JJ)J"⟩
abbrev cX2_minus : ByteArray := prog_4_method_4_code
def yX2_minus : MethodName := ⟨RX2, "minus", "(JJ)J"⟩
abbrev cX2_times : ByteArray := prog_4_method_5_code
def yX2_times : MethodName := ⟨RX2, "times", "(JJ)J"⟩
abbrev cX2_inverse : ByteArray := prog_4_method_6_code
def yX2_inverse : MethodName := ⟨RX2, "inverse", "(J)J"⟩
def RX3 : String := "SplitDesk$Split"
def TX3 : u_T := fun k => match k with
  | 0 => ("SplitDesk$Split", "values", "[J", true)
  | 1 => ("SplitDesk$Split", "there", "[Z", true)
  | 2 => ("SplitDesk$Split", "degree", "I", false)
  | _ => ("SplitDesk$Split", "places", "I", false)
def tyX3 : Nat → FieldType := fun k => match k with
  | 0 => .array .long
  | 1 => .array .boolean
  | 2 => .int
  | _ => .int
abbrev wsX30 : List Cond := u_ws RX3 TX3 4
theorem nmX3 : ∀ a, a < 4 → ∀ b, b < 4 → a ≠ b → (TX3 a).2.1 ≠ (TX3 b).2.1 := by decide +kernel
theorem tyX3_ok : ∀ k, k < 4 → parseFieldDescriptor (TX3 k).2.2.1 = some (tyX3 k) := by decide +kernel
abbrev cX3_init : ByteArray := prog_5_method_1_code
def yX3_init : MethodName := ⟨RX3, "<init>", "()V"⟩
abbrev cX3_shape : ByteArray := prog_5_method_2_code
def yX3_shape : MethodName := ⟨RX3, "shape", "(II)V"⟩
abbrev cX3_hasPlace : ByteArray := prog_5_method_3_code
def yX3_hasPlace : MethodName := ⟨RX3, "hasPlace", "(I)Z"⟩
abbrev cX3_hasShare : ByteArray := prog_5_method_4_code
def yX3_hasShare : MethodName := ⟨RX3, "hasShare", "(I)Z"⟩
abbrev cX3_keep : ByteArray := prog_5_method_5_code
def yX3_keep : MethodName := ⟨RX3, "keep", "(IJ)V"⟩
abbrev cX3_drop : ByteArray := prog_5_method_6_code
def yX3_drop : MethodName := ⟨RX3, "drop", "(I)V"⟩
abbrev cX3_fill : ByteArray := prog_5_method_7_code
def yX3_fill : MethodName := ⟨RX3, "fill", "(LSplitDesk$Curve;)V"⟩
abbrev cX3_countThere : ByteArray := prog_5_method_8_code
def yX3_countThere : MethodName := ⟨RX3, "countThere", "()I"⟩
abbrev cX3_isMissedBy : ByteArray := prog_5_method_9_code
def yX3_isMissedBy : MethodName := ⟨RX3, "isMissedBy", "(LSplitDesk$Curve;I)Z"⟩
abbrev cX3_countMissedBy : ByteArray := prog_5_method_10_code
def yX3_countMissedBy : MethodName := ⟨RX3, "countMissedBy", "(LSplitDesk$Curve;)I"⟩
def RX4 : String := "SplitDesk"
def TX4 : u_T := fun k => match k with
  | 0 => ("SplitDesk", "splits", "[LSplitDesk$Split;", true)
  | 1 => ("SplitDesk", "drawn", "LSplitDesk$Curve;", true)
  | 2 => ("SplitDesk", "finder", "LSplitDesk$Finder;", true)
  | 3 => ("SplitDesk", "found", "LSplitDesk$Curve;", true)
  | 4 => ("SplitDesk", "foundWrong", "[Z", true)
  | _ => ("SplitDesk", "foundFor", "I", false)
def tyX4 : Nat → FieldType := fun k => match k with
  | 0 => .array (.object "SplitDesk$Split")
  | 1 => .object "SplitDesk$Curve"
  | 2 => .object "SplitDesk$Finder"
  | 3 => .object "SplitDesk$Curve"
  | 4 => .array .boolean
  | _ => .int
abbrev wsX40 : List Cond := u_ws RX4 TX4 6
theorem nmX4 : ∀ a, a < 6 → ∀ b, b < 6 → a ≠ b → (TX4 a).2.1 ≠ (TX4 b).2.1 := by decide +kernel
theorem tyX4_ok : ∀ k, k < 6 → parseFieldDescriptor (TX4 k).2.2.1 = some (tyX4 k) := by decide +kernel
abbrev cX4_init : ByteArray := prog_1_method_1_code
def yX4_init : MethodName := ⟨RX4, "<init>", "()V"⟩
abbrev cX4_deal : ByteArray := prog_1_method_2_code
def yX4_deal : MethodName := ⟨RX4, "deal", "(IIIJJ)Z"⟩
abbrev cX4_put : ByteArray := prog_1_method_3_code
def yX4_put : MethodName := ⟨RX4, "put", "(IIJ)Z"⟩
abbrev cX4_lose : ByteArray := prog_1_method_4_code
def yX4_lose : MethodName := ⟨RX4, "lose", "(II)Z"⟩
abbrev cX4_join : ByteArray := prog_1_method_5_code
def yX4_join : MethodName := ⟨RX4, "join", "(IIII)Z"⟩
abbrev cX4_scale : ByteArray := prog_1_method_6_code
def yX4_scale : MethodName := ⟨RX4, "scale", "(IJJ)Z"⟩
abbrev cX4_renew : ByteArray := prog_1_method_7_code
def yX4_renew : MethodName := ⟨RX4, "renew", "(IJ)Z"⟩
abbrev cX4_find : ByteArray := prog_1_method_8_code
def yX4_find : MethodName := ⟨RX4, "find", "(II)I"⟩
abbrev cX4_at : ByteArray := prog_1_method_9_code
def yX4_at : MethodName := ⟨RX4, "at", "(J)J"⟩
abbrev cX4_part : ByteArray := prog_1_method_10_code
def yX4_part : MethodName := ⟨RX4, "part", "(I)J"⟩
abbrev cX4_wrong : ByteArray := prog_1_method_11_code
def yX4_wrong : MethodName := ⟨RX4, "wrong", "(I)Z"⟩
abbrev cX4_mend : ByteArray := prog_1_method_12_code
def yX4_mend : MethodName := ⟨RX4, "mend", "()Z"⟩
abbrev cX4_share : ByteArray := prog_1_method_13_code
def yX4_share : MethodName := ⟨RX4, "share", "(II)J"⟩
abbrev cX4_split : ByteArray := prog_1_method_14_code
def yX4_split : MethodName := ⟨RX4, "split", "(II)I"⟩
abbrev cX4_splitOrNull : ByteArray := prog_1_method_15_code
def yX4_splitOrNull : MethodName := ⟨RX4, "splitOrNull", "(I)LSplitDesk$Split;"⟩
abbrev cX4_joined : ByteArray := prog_1_method_16_code
def yX4_joined : MethodName := ⟨RX4, "joined", "(JJI)J"⟩
abbrev cX4_keepFound : ByteArray := prog_1_method_17_code
def yX4_keepFound : MethodName := ⟨RX4, "keepFound", "(ILSplitDesk$Split;)V"⟩
def RX5 : String := "SplitDeskModel"
def TX5 : u_T := fun k => match k with
  | 0 => ("SplitDeskModel", "thrown", "I", false)
  | 1 => ("SplitDeskModel", "degree", "[I", true)
  | 2 => ("SplitDeskModel", "size", "[I", true)
  | 3 => ("SplitDeskModel", "share", "[J", true)
  | 4 => ("SplitDeskModel", "there", "[Z", true)
  | 5 => ("SplitDeskModel", "inverse", "[J", true)
  | 6 => ("SplitDeskModel", "isFound", "Z", false)
  | 7 => ("SplitDeskModel", "foundSplit", "I", false)
  | 8 => ("SplitDeskModel", "found", "[J", true)
  | 9 => ("SplitDeskModel", "wrong", "[Z", true)
  | 10 => ("SplitDeskModel", "place", "[I", true)
  | 11 => ("SplitDeskModel", "many", "I", false)
  | 12 => ("SplitDeskModel", "chosen", "[I", true)
  | 13 => ("SplitDeskModel", "curve", "[J", true)
  | _ => ("SplitDeskModel", "row", "[J", true)
def tyX5 : Nat → FieldType := fun k => match k with
  | 0 => .int
  | 1 => .array .int
  | 2 => .array .int
  | 3 => .array .long
  | 4 => .array .boolean
  | 5 => .array .long
  | 6 => .boolean
  | 7 => .int
  | 8 => .array .long
  | 9 => .array .boolean
  | 10 => .array .int
  | 11 => .int
  | 12 => .array .int
  | 13 => .array .long
  | _ => .array .long
abbrev wsX50 : List Cond := u_ws RX5 TX5 15
theorem nmX5 : ∀ a, a < 15 → ∀ b, b < 15 → a ≠ b → (TX5 a).2.1 ≠ (TX5 b).2.1 := by decide +kernel
theorem tyX5_ok : ∀ k, k < 15 → parseFieldDescriptor (TX5 k).2.2.1 = some (tyX5 k) := by decide +kernel
abbrev cX5_init : ByteArray := prog_7_method_1_code
def yX5_init : MethodName := ⟨RX5, "<init>", "()V"⟩
abbrev cX5_thrown : ByteArray := prog_7_method_2_code
def yX5_thrown : MethodName := ⟨RX5, "thrown", "()I"⟩
abbrev cX5_raise : ByteArray := prog_7_method_3_code
def yX5_raise : MethodName := ⟨RX5, "raise", "(I)I"⟩
abbrev cX5_reduced : ByteArray := prog_7_method_4_code
def yX5_reduced : MethodName := ⟨RX5, "reduced", "(J)J"⟩
abbrev cX5_modulo : ByteArray := prog_7_method_5_code
def yX5_modulo : MethodName := ⟨RX5, "modulo", "(J)J"⟩
abbrev cX5_plus : ByteArray := prog_7_method_6_code
def yX5_plus : MethodName := ⟨RX5, "plus", "(JJ)J"⟩
abbrev cX5_minus : ByteArray := prog_7_method_7_code
def yX5_minus : MethodName := ⟨RX5, "minus", "(JJ)J"⟩
abbrev cX5_times : ByteArray := prog_7_method_8_code
def yX5_times : MethodName := ⟨RX5, "times", "(JJ)J"⟩
abbrev cX5_power : ByteArray := prog_7_method_9_code
def yX5_power : MethodName := ⟨RX5, "power", "(JJ)J"⟩
abbrev cX5_stepped : ByteArray := prog_7_method_10_code
def yX5_stepped : MethodName := ⟨RX5, "stepped", "(J)J"⟩
abbrev cX5_isSplit : ByteArray := prog_7_method_11_code
def yX5_isSplit : MethodName := ⟨RX5, "isSplit", "(I)Z"⟩
abbrev cX5_isPlace : ByteArray := prog_7_method_12_code
def yX5_isPlace : MethodName := ⟨RX5, "isPlace", "(II)Z"⟩
abbrev cX5_home : ByteArray := prog_7_method_13_code
def yX5_home : MethodName := ⟨RX5, "home", "(II)I"⟩
abbrev cX5_onCurve : ByteArray := prog_7_method_14_code
def yX5_onCurve : MethodName := ⟨RX5, "onCurve", "([JIJ)J"⟩
abbrev cX5_draw : ByteArray := prog_7_method_15_code
def yX5_draw : MethodName := ⟨RX5, "draw", "(JIJ)V"⟩
abbrev cX5_deal : ByteArray := prog_7_method_16_code
def yX5_deal : MethodName := ⟨RX5, "deal", "(IIIJJ)Z"⟩
abbrev cX5_put : ByteArray := prog_7_method_17_code
def yX5_put : MethodName := ⟨RX5, "put", "(IIJ)Z"⟩
abbrev cX5_lose : ByteArray := prog_7_method_18_code
def yX5_lose : MethodName := ⟨RX5, "lose", "(II)Z"⟩
abbrev cX5_join : ByteArray := prog_7_method_19_code
def yX5_join : MethodName := ⟨RX5, "join", "(IIII)Z"⟩
abbrev cX5_scale : ByteArray := prog_7_method_20_code
def yX5_scale : MethodName := ⟨RX5, "scale", "(IJJ)Z"⟩
abbrev cX5_renew : ByteArray := prog_7_method_21_code
def yX5_renew : MethodName := ⟨RX5, "renew", "(IJ)Z"⟩
abbrev cX5_over : ByteArray := prog_7_method_22_code
def yX5_over : MethodName := ⟨RX5, "over", "(JI)J"⟩
abbrev cX5_through : ByteArray := prog_7_method_23_code
def yX5_through : MethodName := ⟨RX5, "through", "(II)V"⟩
abbrev cX5_missed : ByteArray := prog_7_method_24_code
def yX5_missed : MethodName := ⟨RX5, "missed", "(II)I"⟩
abbrev cX5_isOne : ByteArray := prog_7_method_25_code
def yX5_isOne : MethodName := ⟨RX5, "isOne", "(III)Z"⟩
abbrev cX5_find : ByteArray := prog_7_method_26_code
def yX5_find : MethodName := ⟨RX5, "find", "(II)I"⟩
abbrev cX5_at : ByteArray := prog_7_method_27_code
def yX5_at : MethodName := ⟨RX5, "at", "(J)J"⟩
abbrev cX5_part : ByteArray := prog_7_method_28_code
def yX5_part : MethodName := ⟨RX5, "part", "(I)J"⟩
abbrev cX5_wrong : ByteArray := prog_7_method_29_code
def yX5_wrong : MethodName := ⟨RX5, "wrong", "(I)Z"⟩
abbrev cX5_mend : ByteArray := prog_7_method_30_code
def yX5_mend : MethodName := ⟨RX5, "mend", "()Z"⟩
abbrev cX5_share : ByteArray := prog_7_method_31_code
def yX5_share : MethodName := ⟨RX5, "share", "(II)J"⟩
abbrev cX5_split : ByteArray := prog_7_method_32_code
def yX5_split : MethodName := ⟨RX5, "split", "(II)I"⟩
def RL : String := "SplitDeskLaw"
abbrev cL_find : ByteArray := method_3_code
def yL_find : MethodName := ⟨RL, "find", "(LSplitDesk;II[J)I"⟩
abbrev cL_at : ByteArray := method_4_code
def yL_at : MethodName := ⟨RL, "at", "(LSplitDesk;J[J)I"⟩
abbrev cL_part : ByteArray := method_5_code
def yL_part : MethodName := ⟨RL, "part", "(LSplitDesk;I[J)I"⟩
abbrev cL_share : ByteArray := method_6_code
def yL_share : MethodName := ⟨RL, "share", "(LSplitDesk;II[J)I"⟩
abbrev cL_law : ByteArray := code
def yL_law : MethodName := ⟨RL, "law", "([I)Z"⟩
def RJ9 : String := "java/lang/Math"
def TJ9 : u_T := fun k => match k with
  | _ => ("", "", "", false)
def tyJ9 : Nat → FieldType := fun k => match k with
  | _ => .int
abbrev wsJ90 : List Cond := u_ws RJ9 TJ9 0
theorem nmJ9 : ∀ a, a < 0 → ∀ b, b < 0 → a ≠ b → (TJ9 a).2.1 ≠ (TJ9 b).2.1 := by decide +kernel
theorem tyJ9_ok : ∀ k, k < 0 → parseFieldDescriptor (TJ9 k).2.2.1 = some (tyJ9 k) := by decide +kernel
abbrev cJ9_floorMod : ByteArray := prog_11_method_52_code
def yJ9_floorMod : MethodName := ⟨RJ9, "floorMod", "(JJ)J"⟩
abbrev cJ9_max : ByteArray := prog_11_method_65_code
def yJ9_max : MethodName := ⟨RJ9, "max", "(II)I"⟩
abbrev cJ9_min : ByteArray := prog_11_method_69_code
def yJ9_min : MethodName := ⟨RJ9, "min", "(II)I"⟩
abbrev vwCl : List vw_C := [(RX0, TX0, 1), (RX1, TX1, 5), (RX2, TX2, 0), (RX3, TX3, 4), (RX4, TX4, 6), (RX5, TX5, 15)]
end
section
/-! the words: all the good ones of the tables, and each by its name -/
def bg : List Cond := lw_tbl.filter goodWord
theorem bg_good {w : Cond} (h : w ∈ bg) : w ∈ lw_tbl ∧ goodWord w = true := List.mem_filter.mp h
theorem bg_1 {w : Cond} (i : Nat) (h : tables_1_1[i]? = some w) (hg : goodWord w = true) : w ∈ bg := List.mem_filter.mpr ⟨List.mem_append_right _ (List.mem_append_left _ (List.mem_of_getElem? h)), hg⟩
theorem bg_2 {w : Cond} (i : Nat) (h : tables_1_2[i]? = some w) (hg : goodWord w = true) : w ∈ bg := List.mem_filter.mpr ⟨List.mem_append_right _ (List.mem_append_right _ (List.mem_append_left _ (List.mem_of_getElem? h))), hg⟩
theorem bg_3 {w : Cond} (i : Nat) (h : tables_1_3[i]? = some w) (hg : goodWord w = true) : w ∈ bg := List.mem_filter.mpr ⟨List.mem_append_right _ (List.mem_append_right _ (List.mem_append_right _ (List.mem_of_getElem? h))), hg⟩
theorem bg_p {w : Cond} (i : Nat) (h : (k2_sels lw_privs)[i]? = some w) (hg : goodWord w = true) : w ∈ bg := List.mem_filter.mpr ⟨List.mem_append_left _ (List.mem_of_getElem? h), hg⟩

theorem wn_L : Cond.initialized RL ∈ bg := bg_1 0 rfl rfl
theorem wn_X4 : Cond.initialized RX4 ∈ bg := bg_1 1 rfl rfl
theorem wn_X0 : Cond.initialized RX0 ∈ bg := bg_1 2 rfl rfl
theorem wn_X1 : Cond.initialized RX1 ∈ bg := bg_1 3 rfl rfl
theorem wn_X3 : Cond.initialized RX3 ∈ bg := bg_1 4 rfl rfl
theorem wn_X5 : Cond.initialized RX5 ∈ bg := bg_1 5 rfl rfl
theorem wn_X2 : Cond.initialized RX2 ∈ bg := bg_1 6 rfl rfl
theorem wn_J9 : Cond.initialized RJ9 ∈ bg := bg_1 7 rfl rfl
theorem wn_Throwable : Cond.initialized "java/lang/Throwable" ∈ bg := bg_1 8 rfl rfl
theorem wn_Exception : Cond.initialized "java/lang/Exception" ∈ bg := bg_1 9 rfl rfl
theorem wn_RuntimeException : Cond.initialized "java/lang/RuntimeException" ∈ bg := bg_1 10 rfl rfl
theorem wn_IllegalArgumentException : Cond.initialized "java/lang/IllegalArgumentException" ∈ bg := bg_1 11 rfl rfl
theorem wn_IllegalStateException : Cond.initialized "java/lang/IllegalStateException" ∈ bg := bg_1 12 rfl rfl
theorem wn_System : Cond.initialized "java/lang/System" ∈ bg := bg_1 13 rfl rfl
theorem wn_NoSuchElementException : Cond.initialized "java/util/NoSuchElementException" ∈ bg := bg_1 14 rfl rfl
theorem wc_L_8 : Cond.classLink RL 8 RX4 ∈ bg := bg_1 15 rfl rfl
theorem wa_X4 : Cond.instantiable RX4 6 ∈ bg := bg_1 16 rfl rfl
theorem wm_L_31 : Cond.methodLink RL 31 yX4_init ∈ bg := bg_1 17 rfl rfl
theorem wi_X4_init : Cond.instanceMethod yX4_init ∈ bg := bg_1 18 rfl rfl
theorem wd_X4_init : Cond.code yX4_init cX4_init 2 none ∈ bg := bg_1 19 rfl rfl
theorem wm_X4_1 : Cond.methodLink RX4 1 objectInit ∈ bg := bg_1 20 rfl rfl
theorem wi_obj : Cond.instanceMethod objectInit ∈ bg := bg_1 21 rfl rfl
theorem wc_X4_9 : Cond.classLink RX4 9 RX3 ∈ bg := bg_1 23 rfl rfl
theorem wc_X4_15 : Cond.classLink RX4 15 RX0 ∈ bg := bg_1 25 rfl rfl
theorem wa_X0 : Cond.instantiable RX0 1 ∈ bg := bg_1 26 rfl rfl
theorem wi_X0_init : Cond.instanceMethod yX0_init ∈ bg := bg_1 28 rfl rfl
theorem wd_X0_init : Cond.code yX0_init cX0_init 1 none ∈ bg := bg_1 29 rfl rfl
theorem wm_X0_3 : Cond.methodLink RX0 3 objectInit ∈ bg := bg_1 30 rfl rfl
theorem wf_X0_9 : Cond.fieldLink RX0 9 "SplitDesk$Curve" "parts" "[J" ∈ bg := bg_1 31 rfl rfl
theorem wf_X4_154 : Cond.fieldLink RX4 154 "SplitDesk$Curve" "parts" "[J" ∈ bg := bg_1 32 rfl rfl
theorem wf_X1_99 : Cond.fieldLink RX1 99 "SplitDesk$Curve" "parts" "[J" ∈ bg := bg_1 33 rfl rfl
theorem wk_long : Cond.arrayClass .long ∈ bg := bg_1 37 rfl rfl
theorem wc_X4_22 : Cond.classLink RX4 22 RX1 ∈ bg := bg_1 38 rfl rfl
theorem wa_X1 : Cond.instantiable RX1 5 ∈ bg := bg_1 39 rfl rfl
theorem wi_X1_init : Cond.instanceMethod yX1_init ∈ bg := bg_1 41 rfl rfl
theorem wd_X1_init : Cond.code yX1_init cX1_init 1 none ∈ bg := bg_1 42 rfl rfl
theorem wm_X1_3 : Cond.methodLink RX1 3 objectInit ∈ bg := bg_1 43 rfl rfl
theorem wc_X1_9 : Cond.classLink RX1 9 RX0 ∈ bg := bg_1 44 rfl rfl
theorem wc_X1_18 : Cond.classLink RX1 18 "[[J" ∈ bg := bg_1 46 rfl rfl
theorem wf_X1_12 : Cond.fieldLink RX1 12 "SplitDesk$Finder" "candidate" "LSplitDesk$Curve;" ∈ bg := bg_1 48 rfl rfl
theorem wf_X4_131 : Cond.fieldLink RX4 131 "SplitDesk$Finder" "candidate" "LSplitDesk$Curve;" ∈ bg := bg_1 49 rfl rfl
theorem wf_X1_20 : Cond.fieldLink RX1 20 "SplitDesk$Finder" "rows" "[[J" ∈ bg := bg_1 50 rfl rfl
theorem wf_X1_23 : Cond.fieldLink RX1 23 "SplitDesk$Finder" "rowUsed" "[Z" ∈ bg := bg_1 51 rfl rfl
theorem wf_X1_27 : Cond.fieldLink RX1 27 "SplitDesk$Finder" "solution" "[J" ∈ bg := bg_1 52 rfl rfl
theorem wf_X1_31 : Cond.fieldLink RX1 31 "SplitDesk$Finder" "rowOfUnknown" "[I" ∈ bg := bg_1 53 rfl rfl
theorem wk_boolean : Cond.arrayClass .boolean ∈ bg := bg_1 65 rfl rfl
theorem wk_int : Cond.arrayClass .int ∈ bg := bg_1 66 rfl rfl
theorem wa_X3 : Cond.instantiable RX3 4 ∈ bg := bg_1 67 rfl rfl
theorem wi_X3_init : Cond.instanceMethod yX3_init ∈ bg := bg_1 69 rfl rfl
theorem wd_X3_init : Cond.code yX3_init cX3_init 1 none ∈ bg := bg_1 70 rfl rfl
theorem wm_X3_3 : Cond.methodLink RX3 3 objectInit ∈ bg := bg_1 71 rfl rfl
theorem wf_X3_9 : Cond.fieldLink RX3 9 "SplitDesk$Split" "values" "[J" ∈ bg := bg_1 72 rfl rfl
theorem wf_X1_64 : Cond.fieldLink RX1 64 "SplitDesk$Split" "values" "[J" ∈ bg := bg_1 73 rfl rfl
theorem wf_X4_93 : Cond.fieldLink RX4 93 "SplitDesk$Split" "values" "[J" ∈ bg := bg_1 74 rfl rfl
theorem wf_X3_15 : Cond.fieldLink RX3 15 "SplitDesk$Split" "there" "[Z" ∈ bg := bg_1 75 rfl rfl
theorem wf_X3_19 : Cond.fieldLink RX3 19 "SplitDesk$Split" "degree" "I" ∈ bg := bg_1 76 rfl rfl
theorem wf_X1_35 : Cond.fieldLink RX1 35 "SplitDesk$Split" "degree" "I" ∈ bg := bg_1 77 rfl rfl
theorem wf_X4_78 : Cond.fieldLink RX4 78 "SplitDesk$Split" "degree" "I" ∈ bg := bg_1 78 rfl rfl
theorem wf_X3_23 : Cond.fieldLink RX3 23 "SplitDesk$Split" "places" "I" ∈ bg := bg_1 79 rfl rfl
theorem wf_X1_57 : Cond.fieldLink RX1 57 "SplitDesk$Split" "places" "I" ∈ bg := bg_1 80 rfl rfl
theorem wf_X4_87 : Cond.fieldLink RX4 87 "SplitDesk$Split" "places" "I" ∈ bg := bg_1 81 rfl rfl
theorem wf_X4_11 : Cond.fieldLink RX4 11 "SplitDesk" "splits" "[LSplitDesk$Split;" ∈ bg := bg_1 91 rfl rfl
theorem wf_X4_18 : Cond.fieldLink RX4 18 "SplitDesk" "drawn" "LSplitDesk$Curve;" ∈ bg := bg_1 92 rfl rfl
theorem wf_X4_25 : Cond.fieldLink RX4 25 "SplitDesk" "finder" "LSplitDesk$Finder;" ∈ bg := bg_1 93 rfl rfl
theorem wf_X4_29 : Cond.fieldLink RX4 29 "SplitDesk" "found" "LSplitDesk$Curve;" ∈ bg := bg_1 94 rfl rfl
theorem wf_X4_32 : Cond.fieldLink RX4 32 "SplitDesk" "foundWrong" "[Z" ∈ bg := bg_1 95 rfl rfl
theorem wf_X4_36 : Cond.fieldLink RX4 36 "SplitDesk" "foundFor" "I" ∈ bg := bg_1 96 rfl rfl
theorem wm_L_37 : Cond.methodLink RL 37 yX4_deal ∈ bg := bg_1 110 rfl rfl
theorem wi_X4_deal : Cond.instanceMethod yX4_deal ∈ bg := bg_1 111 rfl rfl
theorem ws_X4_deal : Cond.selects RX4 yX4_deal yX4_deal ∈ bg := bg_1 112 rfl rfl
theorem wd_X4_deal : Cond.code yX4_deal cX4_deal 9 (some .boolean) ∈ bg := bg_1 113 rfl rfl
theorem wm_X4_41 : Cond.methodLink RX4 41 yX4_splitOrNull ∈ bg := bg_1 114 rfl rfl
theorem wi_X4_splitOrNull : Cond.instanceMethod yX4_splitOrNull ∈ bg := bg_1 116 rfl rfl
theorem wd_X4_splitOrNull : Cond.code yX4_splitOrNull cX4_splitOrNull 2 (some (.object "SplitDesk$Split")) ∈ bg := bg_1 117 rfl rfl
theorem wm_X4_45 : Cond.methodLink RX4 45 yX2_of ∈ bg := bg_1 118 rfl rfl
theorem wi_X2_of : Cond.static yX2_of ∈ bg := bg_1 119 rfl rfl
theorem wd_X2_of : Cond.code yX2_of cX2_of 2 (some .long) ∈ bg := bg_1 120 rfl rfl
theorem wl_X2_11 : Cond.constantLong RX2 11 (2305843009213693951) ∈ bg := bg_1 121 rfl rfl
theorem wm_X2_13 : Cond.methodLink RX2 13 yJ9_floorMod ∈ bg := bg_1 122 rfl rfl
theorem wi_J9_floorMod : Cond.static yJ9_floorMod ∈ bg := bg_1 123 rfl rfl
theorem wd_J9_floorMod : Cond.code yJ9_floorMod cJ9_floorMod 6 (some .long) ∈ bg := bg_1 124 rfl rfl
theorem wm_X4_51 : Cond.methodLink RX4 51 yX0_draw ∈ bg := bg_1 125 rfl rfl
theorem wi_X0_draw : Cond.instanceMethod yX0_draw ∈ bg := bg_1 126 rfl rfl
theorem ws_X0_draw : Cond.selects RX0 yX0_draw yX0_draw ∈ bg := bg_1 127 rfl rfl
theorem wd_X0_draw : Cond.code yX0_draw cX0_draw 9 none ∈ bg := bg_1 128 rfl rfl
theorem wl_X0_15 : Cond.constantLong RX0 15 (6364136223846793005) ∈ bg := bg_1 129 rfl rfl
theorem wl_X0_17 : Cond.constantLong RX0 17 (1442695040888963407) ∈ bg := bg_1 130 rfl rfl
theorem wl_X0_19 : Cond.constantLong RX0 19 (2305843009213693951) ∈ bg := bg_1 131 rfl rfl
theorem wm_X4_55 : Cond.methodLink RX4 55 yX3_shape ∈ bg := bg_1 132 rfl rfl
theorem wi_X3_shape : Cond.instanceMethod yX3_shape ∈ bg := bg_1 133 rfl rfl
theorem ws_X3_shape : Cond.selects RX3 yX3_shape yX3_shape ∈ bg := bg_1 134 rfl rfl
theorem wd_X3_shape : Cond.code yX3_shape cX3_shape 3 none ∈ bg := bg_1 135 rfl rfl
theorem wm_X4_59 : Cond.methodLink RX4 59 yX3_fill ∈ bg := bg_1 136 rfl rfl
theorem wi_X3_fill : Cond.instanceMethod yX3_fill ∈ bg := bg_1 137 rfl rfl
theorem ws_X3_fill : Cond.selects RX3 yX3_fill yX3_fill ∈ bg := bg_1 138 rfl rfl
theorem wd_X3_fill : Cond.code yX3_fill cX3_fill 3 none ∈ bg := bg_1 139 rfl rfl
theorem wm_X3_30 : Cond.methodLink RX3 30 yX0_valueAt ∈ bg := bg_1 140 rfl rfl
theorem wi_X0_valueAt : Cond.instanceMethod yX0_valueAt ∈ bg := bg_1 141 rfl rfl
theorem ws_X0_valueAt : Cond.selects RX0 yX0_valueAt yX0_valueAt ∈ bg := bg_1 142 rfl rfl
theorem wd_X0_valueAt : Cond.code yX0_valueAt cX0_valueAt 6 (some .long) ∈ bg := bg_1 143 rfl rfl
theorem wm_X0_21 : Cond.methodLink RX0 21 yX2_times ∈ bg := bg_1 144 rfl rfl
theorem wi_X2_times : Cond.static yX2_times ∈ bg := bg_1 145 rfl rfl
theorem wd_X2_times : Cond.code yX2_times cX2_times 16 (some .long) ∈ bg := bg_1 146 rfl rfl
theorem wl_X2_19 : Cond.constantLong RX2 19 (2147483647) ∈ bg := bg_1 147 rfl rfl
theorem wl_X2_21 : Cond.constantLong RX2 21 (1073741823) ∈ bg := bg_1 148 rfl rfl
theorem wl_X2_23 : Cond.constantLong RX2 23 (2) ∈ bg := bg_1 149 rfl rfl
theorem wm_X0_27 : Cond.methodLink RX0 27 yX2_plus ∈ bg := bg_1 150 rfl rfl
theorem wi_X2_plus : Cond.static yX2_plus ∈ bg := bg_1 151 rfl rfl
theorem wd_X2_plus : Cond.code yX2_plus cX2_plus 6 (some .long) ∈ bg := bg_1 152 rfl rfl
theorem wm_X3_36 : Cond.methodLink RX3 36 yX3_keep ∈ bg := bg_1 153 rfl rfl
theorem wi_X3_keep : Cond.instanceMethod yX3_keep ∈ bg := bg_1 154 rfl rfl
theorem ws_X3_keep : Cond.selects RX3 yX3_keep yX3_keep ∈ bg := bg_1 155 rfl rfl
theorem wd_X3_keep : Cond.code yX3_keep cX3_keep 4 none ∈ bg := bg_1 156 rfl rfl
theorem wm_L_42 : Cond.methodLink RL 42 yX4_put ∈ bg := bg_1 157 rfl rfl
theorem wi_X4_put : Cond.instanceMethod yX4_put ∈ bg := bg_1 158 rfl rfl
theorem ws_X4_put : Cond.selects RX4 yX4_put yX4_put ∈ bg := bg_1 159 rfl rfl
theorem wd_X4_put : Cond.code yX4_put cX4_put 6 (some .boolean) ∈ bg := bg_1 160 rfl rfl
theorem wm_X4_63 : Cond.methodLink RX4 63 yX3_hasPlace ∈ bg := bg_1 161 rfl rfl
theorem wi_X3_hasPlace : Cond.instanceMethod yX3_hasPlace ∈ bg := bg_1 162 rfl rfl
theorem ws_X3_hasPlace : Cond.selects RX3 yX3_hasPlace yX3_hasPlace ∈ bg := bg_1 163 rfl rfl
theorem wd_X3_hasPlace : Cond.code yX3_hasPlace cX3_hasPlace 2 (some .boolean) ∈ bg := bg_1 164 rfl rfl
theorem wm_X4_67 : Cond.methodLink RX4 67 yX3_keep ∈ bg := bg_1 165 rfl rfl
theorem wm_L_47 : Cond.methodLink RL 47 yX4_lose ∈ bg := bg_1 166 rfl rfl
theorem wi_X4_lose : Cond.instanceMethod yX4_lose ∈ bg := bg_1 167 rfl rfl
theorem ws_X4_lose : Cond.selects RX4 yX4_lose yX4_lose ∈ bg := bg_1 168 rfl rfl
theorem wd_X4_lose : Cond.code yX4_lose cX4_lose 4 (some .boolean) ∈ bg := bg_1 169 rfl rfl
theorem wm_X4_71 : Cond.methodLink RX4 71 yX3_hasShare ∈ bg := bg_1 170 rfl rfl
theorem wi_X3_hasShare : Cond.instanceMethod yX3_hasShare ∈ bg := bg_1 171 rfl rfl
theorem ws_X3_hasShare : Cond.selects RX3 yX3_hasShare yX3_hasShare ∈ bg := bg_1 172 rfl rfl
theorem wd_X3_hasShare : Cond.code yX3_hasShare cX3_hasShare 2 (some .boolean) ∈ bg := bg_1 173 rfl rfl
theorem wm_X3_26 : Cond.methodLink RX3 26 yX3_hasPlace ∈ bg := bg_1 174 rfl rfl
theorem wm_X4_74 : Cond.methodLink RX4 74 yX3_drop ∈ bg := bg_1 175 rfl rfl
theorem wi_X3_drop : Cond.instanceMethod yX3_drop ∈ bg := bg_1 176 rfl rfl
theorem ws_X3_drop : Cond.selects RX3 yX3_drop yX3_drop ∈ bg := bg_1 177 rfl rfl
theorem wd_X3_drop : Cond.code yX3_drop cX3_drop 2 none ∈ bg := bg_1 178 rfl rfl
theorem wm_L_52 : Cond.methodLink RL 52 yX4_join ∈ bg := bg_1 179 rfl rfl
theorem wi_X4_join : Cond.instanceMethod yX4_join ∈ bg := bg_1 180 rfl rfl
theorem ws_X4_join : Cond.selects RX4 yX4_join yX4_join ∈ bg := bg_1 181 rfl rfl
theorem wd_X4_join : Cond.code yX4_join cX4_join 11 (some .boolean) ∈ bg := bg_1 182 rfl rfl
theorem wm_X4_81 : Cond.methodLink RX4 81 yJ9_max ∈ bg := bg_1 183 rfl rfl
theorem wi_J9_max : Cond.static yJ9_max ∈ bg := bg_1 184 rfl rfl
theorem wd_J9_max : Cond.code yJ9_max cJ9_max 2 (some .int) ∈ bg := bg_1 185 rfl rfl
theorem wm_X4_90 : Cond.methodLink RX4 90 yJ9_min ∈ bg := bg_1 186 rfl rfl
theorem wi_J9_min : Cond.static yJ9_min ∈ bg := bg_1 187 rfl rfl
theorem wd_J9_min : Cond.code yJ9_min cJ9_min 2 (some .int) ∈ bg := bg_1 188 rfl rfl
theorem wm_X4_97 : Cond.methodLink RX4 97 yX4_joined ∈ bg := bg_1 189 rfl rfl
theorem wi_X4_joined : Cond.static yX4_joined ∈ bg := bg_1 190 rfl rfl
theorem wd_X4_joined : Cond.code yX4_joined cX4_joined 5 (some .long) ∈ bg := bg_1 191 rfl rfl
theorem wm_X4_105 : Cond.methodLink RX4 105 yX2_plus ∈ bg := bg_1 192 rfl rfl
theorem wm_X4_159 : Cond.methodLink RX4 159 yX2_minus ∈ bg := bg_1 193 rfl rfl
theorem wi_X2_minus : Cond.static yX2_minus ∈ bg := bg_1 194 rfl rfl
theorem wd_X2_minus : Cond.code yX2_minus cX2_minus 4 (some .long) ∈ bg := bg_1 195 rfl rfl
theorem wm_X4_101 : Cond.methodLink RX4 101 yX2_times ∈ bg := bg_1 196 rfl rfl
theorem wm_L_57 : Cond.methodLink RL 57 yX4_scale ∈ bg := bg_1 197 rfl rfl
theorem wi_X4_scale : Cond.instanceMethod yX4_scale ∈ bg := bg_1 198 rfl rfl
theorem ws_X4_scale : Cond.selects RX4 yX4_scale yX4_scale ∈ bg := bg_1 199 rfl rfl
theorem wd_X4_scale : Cond.code yX4_scale cX4_scale 12 (some .boolean) ∈ bg := bg_1 200 rfl rfl
theorem wm_L_62 : Cond.methodLink RL 62 yX4_renew ∈ bg := bg_1 201 rfl rfl
theorem wi_X4_renew : Cond.instanceMethod yX4_renew ∈ bg := bg_1 202 rfl rfl
theorem ws_X4_renew : Cond.selects RX4 yX4_renew yX4_renew ∈ bg := bg_1 203 rfl rfl
theorem wd_X4_renew : Cond.code yX4_renew cX4_renew 6 (some .boolean) ∈ bg := bg_1 204 rfl rfl
theorem wm_X4_108 : Cond.methodLink RX4 108 yX0_valueAt ∈ bg := bg_1 205 rfl rfl
theorem wm_L_85 : Cond.methodLink RL 85 yX4_wrong ∈ bg := bg_1 206 rfl rfl
theorem wi_X4_wrong : Cond.instanceMethod yX4_wrong ∈ bg := bg_1 207 rfl rfl
theorem ws_X4_wrong : Cond.selects RX4 yX4_wrong yX4_wrong ∈ bg := bg_1 208 rfl rfl
theorem wd_X4_wrong : Cond.code yX4_wrong cX4_wrong 2 (some .boolean) ∈ bg := bg_1 209 rfl rfl
theorem wm_L_90 : Cond.methodLink RL 90 yX4_mend ∈ bg := bg_1 210 rfl rfl
theorem wi_X4_mend : Cond.instanceMethod yX4_mend ∈ bg := bg_1 211 rfl rfl
theorem ws_X4_mend : Cond.selects RX4 yX4_mend yX4_mend ∈ bg := bg_1 212 rfl rfl
theorem wd_X4_mend : Cond.code yX4_mend cX4_mend 2 (some .boolean) ∈ bg := bg_1 213 rfl rfl
theorem wm_L_98 : Cond.methodLink RL 98 yX4_split ∈ bg := bg_1 214 rfl rfl
theorem wi_X4_split : Cond.instanceMethod yX4_split ∈ bg := bg_1 215 rfl rfl
theorem ws_X4_split : Cond.selects RX4 yX4_split yX4_split ∈ bg := bg_1 216 rfl rfl
theorem wd_X4_split : Cond.code yX4_split cX4_split 4 (some .int) ∈ bg := bg_1 217 rfl rfl
theorem wm_X4_118 : Cond.methodLink RX4 118 yX3_countThere ∈ bg := bg_1 218 rfl rfl
theorem wi_X3_countThere : Cond.instanceMethod yX3_countThere ∈ bg := bg_1 219 rfl rfl
theorem ws_X3_countThere : Cond.selects RX3 yX3_countThere yX3_countThere ∈ bg := bg_1 220 rfl rfl
theorem wd_X3_countThere : Cond.code yX3_countThere cX3_countThere 3 (some .int) ∈ bg := bg_1 221 rfl rfl
theorem wm_L_67 : Cond.methodLink RL 67 yL_find ∈ bg := bg_1 222 rfl rfl
theorem wi_L_find : Cond.static yL_find ∈ bg := bg_1 223 rfl rfl
theorem wd_L_find : Cond.codeWith yL_find cL_find 5 (some .int) [(0, 10, 13, 13), (0, 10, 17, 15)] ∈ bg := bg_1 224 rfl rfl
theorem wc_L_13 : Cond.classLink RL 13 "java/lang/IllegalArgumentException" ∈ bg := bg_1 225 rfl rfl
theorem wc_L_15 : Cond.classLink RL 15 "java/lang/IllegalStateException" ∈ bg := bg_1 226 rfl rfl
theorem wm_L_7 : Cond.methodLink RL 7 yX4_find ∈ bg := bg_1 227 rfl rfl
theorem wi_X4_find : Cond.instanceMethod yX4_find ∈ bg := bg_1 228 rfl rfl
theorem ws_X4_find : Cond.selects RX4 yX4_find yX4_find ∈ bg := bg_1 229 rfl rfl
theorem wd_X4_find : Cond.code yX4_find cX4_find 5 (some .int) ∈ bg := bg_1 230 rfl rfl
theorem wc_X4_111 : Cond.classLink RX4 111 "java/lang/IllegalArgumentException" ∈ bg := bg_1 231 rfl rfl
theorem wk_byte : Cond.arrayClass .byte ∈ bg := bg_2 58 rfl rfl
theorem wm_X4_122 : Cond.methodLink RX4 122 yX1_sharesNeeded ∈ bg := bg_2 59 rfl rfl
theorem wi_X1_sharesNeeded : Cond.static yX1_sharesNeeded ∈ bg := bg_2 60 rfl rfl
theorem wd_X1_sharesNeeded : Cond.code yX1_sharesNeeded cX1_sharesNeeded 2 (some .int) ∈ bg := bg_2 61 rfl rfl
theorem wm_X4_127 : Cond.methodLink RX4 127 yX1_seek ∈ bg := bg_2 63 rfl rfl
theorem wi_X1_seek : Cond.instanceMethod yX1_seek ∈ bg := bg_2 64 rfl rfl
theorem ws_X1_seek : Cond.selects RX1 yX1_seek yX1_seek ∈ bg := bg_2 65 rfl rfl
theorem wd_X1_seek : Cond.code yX1_seek cX1_seek 4 none ∈ bg := bg_2 66 rfl rfl
theorem wm_X1_41 : Cond.methodLink RX1 41 yX1_sharesNeeded ∈ bg := bg_2 67 rfl rfl
theorem wm_X1_45 : Cond.methodLink RX1 45 yX1_writeEquations ∈ bg := bg_2 68 rfl rfl
theorem wi_X1_writeEquations : Cond.instanceMethod yX1_writeEquations ∈ bg := bg_2 70 rfl rfl
theorem wd_X1_writeEquations : Cond.code yX1_writeEquations cX1_writeEquations 6 none ∈ bg := bg_2 71 rfl rfl
theorem wm_X1_60 : Cond.methodLink RX1 60 yX3_hasShare ∈ bg := bg_2 72 rfl rfl
theorem wm_X1_67 : Cond.methodLink RX1 67 yX1_writeEquation ∈ bg := bg_2 73 rfl rfl
theorem wi_X1_writeEquation : Cond.static yX1_writeEquation ∈ bg := bg_2 74 rfl rfl
theorem wd_X1_writeEquation : Cond.code yX1_writeEquation cX1_writeEquation 9 none ∈ bg := bg_2 75 rfl rfl
theorem wm_X1_71 : Cond.methodLink RX1 71 yX2_times ∈ bg := bg_2 76 rfl rfl
theorem wm_X1_77 : Cond.methodLink RX1 77 yX2_minus ∈ bg := bg_2 77 rfl rfl
theorem wm_X1_49 : Cond.methodLink RX1 49 yX1_solveEquations ∈ bg := bg_2 78 rfl rfl
theorem wi_X1_solveEquations : Cond.instanceMethod yX1_solveEquations ∈ bg := bg_2 80 rfl rfl
theorem wd_X1_solveEquations : Cond.code yX1_solveEquations cX1_solveEquations 4 none ∈ bg := bg_2 81 rfl rfl
theorem wm_X1_80 : Cond.methodLink RX1 80 yX1_unusedRowWith ∈ bg := bg_2 82 rfl rfl
theorem wi_X1_unusedRowWith : Cond.instanceMethod yX1_unusedRowWith ∈ bg := bg_2 84 rfl rfl
theorem wd_X1_unusedRowWith : Cond.code yX1_unusedRowWith cX1_unusedRowWith 4 (some .int) ∈ bg := bg_2 85 rfl rfl
theorem wm_X1_83 : Cond.methodLink RX1 83 yX1_makeOne ∈ bg := bg_2 86 rfl rfl
theorem wi_X1_makeOne : Cond.static yX1_makeOne ∈ bg := bg_2 87 rfl rfl
theorem wd_X1_makeOne : Cond.code yX1_makeOne cX1_makeOne 6 none ∈ bg := bg_2 88 rfl rfl
theorem wm_X1_91 : Cond.methodLink RX1 91 yX2_inverse ∈ bg := bg_2 89 rfl rfl
theorem wi_X2_inverse : Cond.static yX2_inverse ∈ bg := bg_2 90 rfl rfl
theorem wd_X2_inverse : Cond.code yX2_inverse cX2_inverse 17 (some .long) ∈ bg := bg_2 91 rfl rfl
theorem wm_X2_25 : Cond.methodLink RX2 25 yX2_of ∈ bg := bg_2 92 rfl rfl
theorem wm_X1_87 : Cond.methodLink RX1 87 yX1_clearElsewhere ∈ bg := bg_2 93 rfl rfl
theorem wi_X1_clearElsewhere : Cond.instanceMethod yX1_clearElsewhere ∈ bg := bg_2 95 rfl rfl
theorem wd_X1_clearElsewhere : Cond.code yX1_clearElsewhere cX1_clearElsewhere 5 none ∈ bg := bg_2 96 rfl rfl
theorem wm_X1_95 : Cond.methodLink RX1 95 yX1_takeTimes ∈ bg := bg_2 97 rfl rfl
theorem wi_X1_takeTimes : Cond.static yX1_takeTimes ∈ bg := bg_2 98 rfl rfl
theorem wd_X1_takeTimes : Cond.code yX1_takeTimes cX1_takeTimes 7 none ∈ bg := bg_2 99 rfl rfl
theorem wm_X1_53 : Cond.methodLink RX1 53 yX1_divide ∈ bg := bg_2 100 rfl rfl
theorem wi_X1_divide : Cond.instanceMethod yX1_divide ∈ bg := bg_2 102 rfl rfl
theorem wd_X1_divide : Cond.code yX1_divide cX1_divide 8 none ∈ bg := bg_2 103 rfl rfl
theorem wm_X4_134 : Cond.methodLink RX4 134 yX3_countMissedBy ∈ bg := bg_2 104 rfl rfl
theorem wi_X3_countMissedBy : Cond.instanceMethod yX3_countMissedBy ∈ bg := bg_2 105 rfl rfl
theorem ws_X3_countMissedBy : Cond.selects RX3 yX3_countMissedBy yX3_countMissedBy ∈ bg := bg_2 106 rfl rfl
theorem wd_X3_countMissedBy : Cond.code yX3_countMissedBy cX3_countMissedBy 4 (some .int) ∈ bg := bg_2 107 rfl rfl
theorem wm_X3_43 : Cond.methodLink RX3 43 yX3_isMissedBy ∈ bg := bg_2 108 rfl rfl
theorem wi_X3_isMissedBy : Cond.instanceMethod yX3_isMissedBy ∈ bg := bg_2 109 rfl rfl
theorem ws_X3_isMissedBy : Cond.selects RX3 yX3_isMissedBy yX3_isMissedBy ∈ bg := bg_2 110 rfl rfl
theorem wd_X3_isMissedBy : Cond.code yX3_isMissedBy cX3_isMissedBy 3 (some .boolean) ∈ bg := bg_2 111 rfl rfl
theorem wm_X3_40 : Cond.methodLink RX3 40 yX3_hasShare ∈ bg := bg_2 112 rfl rfl
theorem wc_X4_138 : Cond.classLink RX4 138 "java/lang/IllegalStateException" ∈ bg := bg_2 113 rfl rfl
theorem wm_X4_143 : Cond.methodLink RX4 143 yX4_keepFound ∈ bg := bg_2 129 rfl rfl
theorem wi_X4_keepFound : Cond.instanceMethod yX4_keepFound ∈ bg := bg_2 131 rfl rfl
theorem wd_X4_keepFound : Cond.code yX4_keepFound cX4_keepFound 4 none ∈ bg := bg_2 132 rfl rfl
theorem wm_X4_162 : Cond.methodLink RX4 162 yX0_copyFrom ∈ bg := bg_2 133 rfl rfl
theorem wi_X0_copyFrom : Cond.instanceMethod yX0_copyFrom ∈ bg := bg_2 134 rfl rfl
theorem ws_X0_copyFrom : Cond.selects RX0 yX0_copyFrom yX0_copyFrom ∈ bg := bg_2 135 rfl rfl
theorem wd_X0_copyFrom : Cond.code yX0_copyFrom cX0_copyFrom 2 none ∈ bg := bg_2 136 rfl rfl
theorem wm_X4_165 : Cond.methodLink RX4 165 yX3_isMissedBy ∈ bg := bg_2 140 rfl rfl
theorem wm_L_77 : Cond.methodLink RL 77 yL_at ∈ bg := bg_2 141 rfl rfl
theorem wi_L_at : Cond.static yL_at ∈ bg := bg_2 142 rfl rfl
theorem wd_L_at : Cond.codeWith yL_at cL_at 5 (some .int) [(0, 8, 11, 21)] ∈ bg := bg_2 143 rfl rfl
theorem wc_L_21 : Cond.classLink RL 21 "java/util/NoSuchElementException" ∈ bg := bg_2 144 rfl rfl
theorem wm_L_17 : Cond.methodLink RL 17 yX4_at ∈ bg := bg_2 145 rfl rfl
theorem wi_X4_at : Cond.instanceMethod yX4_at ∈ bg := bg_2 146 rfl rfl
theorem ws_X4_at : Cond.selects RX4 yX4_at yX4_at ∈ bg := bg_2 147 rfl rfl
theorem wd_X4_at : Cond.code yX4_at cX4_at 3 (some .long) ∈ bg := bg_2 148 rfl rfl
theorem wc_X4_147 : Cond.classLink RX4 147 "java/util/NoSuchElementException" ∈ bg := bg_2 149 rfl rfl
theorem wm_L_81 : Cond.methodLink RL 81 yL_part ∈ bg := bg_2 165 rfl rfl
theorem wi_L_part : Cond.static yL_part ∈ bg := bg_2 166 rfl rfl
theorem wd_L_part : Cond.codeWith yL_part cL_part 4 (some .int) [(0, 8, 11, 21)] ∈ bg := bg_2 167 rfl rfl
theorem wm_L_23 : Cond.methodLink RL 23 yX4_part ∈ bg := bg_2 168 rfl rfl
theorem wi_X4_part : Cond.instanceMethod yX4_part ∈ bg := bg_2 169 rfl rfl
theorem ws_X4_part : Cond.selects RX4 yX4_part yX4_part ∈ bg := bg_2 170 rfl rfl
theorem wd_X4_part : Cond.code yX4_part cX4_part 2 (some .long) ∈ bg := bg_2 171 rfl rfl
theorem wm_L_95 : Cond.methodLink RL 95 yL_share ∈ bg := bg_2 173 rfl rfl
theorem wi_L_share : Cond.static yL_share ∈ bg := bg_2 174 rfl rfl
theorem wd_L_share : Cond.codeWith yL_share cL_share 5 (some .int) [(0, 9, 12, 21)] ∈ bg := bg_2 175 rfl rfl
theorem wm_L_27 : Cond.methodLink RL 27 yX4_share ∈ bg := bg_2 176 rfl rfl
theorem wi_X4_share : Cond.instanceMethod yX4_share ∈ bg := bg_2 177 rfl rfl
theorem ws_X4_share : Cond.selects RX4 yX4_share yX4_share ∈ bg := bg_2 178 rfl rfl
theorem wd_X4_share : Cond.code yX4_share cX4_share 4 (some .long) ∈ bg := bg_2 179 rfl rfl
theorem wc_L_32 : Cond.classLink RL 32 RX5 ∈ bg := bg_2 181 rfl rfl
theorem wa_X5 : Cond.instantiable RX5 15 ∈ bg := bg_2 182 rfl rfl
theorem wm_L_34 : Cond.methodLink RL 34 yX5_init ∈ bg := bg_2 183 rfl rfl
theorem wi_X5_init : Cond.instanceMethod yX5_init ∈ bg := bg_2 184 rfl rfl
theorem wd_X5_init : Cond.code yX5_init cX5_init 2 none ∈ bg := bg_2 185 rfl rfl
theorem wm_X5_1 : Cond.methodLink RX5 1 objectInit ∈ bg := bg_2 186 rfl rfl
theorem wl_X5_45 : Cond.constantLong RX5 45 (2305843009213693949) ∈ bg := bg_2 187 rfl rfl
theorem wm_X5_47 : Cond.methodLink RX5 47 yX5_power ∈ bg := bg_2 188 rfl rfl
theorem wi_X5_power : Cond.static yX5_power ∈ bg := bg_2 189 rfl rfl
theorem wd_X5_power : Cond.code yX5_power cX5_power 10 (some .long) ∈ bg := bg_2 190 rfl rfl
theorem wm_X5_70 : Cond.methodLink RX5 70 yX5_times ∈ bg := bg_2 191 rfl rfl
theorem wi_X5_times : Cond.static yX5_times ∈ bg := bg_2 192 rfl rfl
theorem wd_X5_times : Cond.code yX5_times cX5_times 16 (some .long) ∈ bg := bg_2 193 rfl rfl
theorem wl_X5_61 : Cond.constantLong RX5 61 (2147483647) ∈ bg := bg_2 194 rfl rfl
theorem wl_X5_63 : Cond.constantLong RX5 63 (2) ∈ bg := bg_2 195 rfl rfl
theorem wm_X5_57 : Cond.methodLink RX5 57 yX5_reduced ∈ bg := bg_2 196 rfl rfl
theorem wi_X5_reduced : Cond.static yX5_reduced ∈ bg := bg_2 197 rfl rfl
theorem wd_X5_reduced : Cond.code yX5_reduced cX5_reduced 4 (some .long) ∈ bg := bg_2 198 rfl rfl
theorem wl_X5_55 : Cond.constantLong RX5 55 (2305843009213693951) ∈ bg := bg_2 199 rfl rfl
theorem wm_X5_65 : Cond.methodLink RX5 65 yX5_plus ∈ bg := bg_2 200 rfl rfl
theorem wi_X5_plus : Cond.static yX5_plus ∈ bg := bg_2 201 rfl rfl
theorem wd_X5_plus : Cond.code yX5_plus cX5_plus 4 (some .long) ∈ bg := bg_2 202 rfl rfl
theorem wl_X5_68 : Cond.constantLong RX5 68 (1073741823) ∈ bg := bg_2 203 rfl rfl
theorem wf_X5_51 : Cond.fieldLink RX5 51 "SplitDeskModel" "thrown" "I" ∈ bg := bg_2 204 rfl rfl
theorem wf_X5_7 : Cond.fieldLink RX5 7 "SplitDeskModel" "degree" "[I" ∈ bg := bg_2 205 rfl rfl
theorem wf_X5_13 : Cond.fieldLink RX5 13 "SplitDeskModel" "size" "[I" ∈ bg := bg_2 206 rfl rfl
theorem wf_X5_16 : Cond.fieldLink RX5 16 "SplitDeskModel" "share" "[J" ∈ bg := bg_2 207 rfl rfl
theorem wf_X5_20 : Cond.fieldLink RX5 20 "SplitDeskModel" "there" "[Z" ∈ bg := bg_2 208 rfl rfl
theorem wf_X5_24 : Cond.fieldLink RX5 24 "SplitDeskModel" "inverse" "[J" ∈ bg := bg_2 209 rfl rfl
theorem wf_X5_128 : Cond.fieldLink RX5 128 "SplitDeskModel" "isFound" "Z" ∈ bg := bg_2 210 rfl rfl
theorem wf_X5_132 : Cond.fieldLink RX5 132 "SplitDeskModel" "foundSplit" "I" ∈ bg := bg_2 211 rfl rfl
theorem wf_X5_27 : Cond.fieldLink RX5 27 "SplitDeskModel" "found" "[J" ∈ bg := bg_2 212 rfl rfl
theorem wf_X5_30 : Cond.fieldLink RX5 30 "SplitDeskModel" "wrong" "[Z" ∈ bg := bg_2 213 rfl rfl
theorem wf_X5_33 : Cond.fieldLink RX5 33 "SplitDeskModel" "place" "[I" ∈ bg := bg_2 214 rfl rfl
theorem wf_X5_110 : Cond.fieldLink RX5 110 "SplitDeskModel" "many" "I" ∈ bg := bg_2 215 rfl rfl
theorem wf_X5_36 : Cond.fieldLink RX5 36 "SplitDeskModel" "chosen" "[I" ∈ bg := bg_2 216 rfl rfl
theorem wf_X5_39 : Cond.fieldLink RX5 39 "SplitDeskModel" "curve" "[J" ∈ bg := bg_2 217 rfl rfl
theorem wf_X5_42 : Cond.fieldLink RX5 42 "SplitDeskModel" "row" "[J" ∈ bg := bg_2 218 rfl rfl
theorem wm_L_73 : Cond.methodLink RL 73 yX5_thrown ∈ bg := bg_3 10 rfl rfl
theorem wi_X5_thrown : Cond.instanceMethod yX5_thrown ∈ bg := bg_3 11 rfl rfl
theorem ws_X5_thrown : Cond.selects RX5 yX5_thrown yX5_thrown ∈ bg := bg_3 12 rfl rfl
theorem wd_X5_thrown : Cond.code yX5_thrown cX5_thrown 1 (some .int) ∈ bg := bg_3 13 rfl rfl
theorem wm_L_41 : Cond.methodLink RL 41 yX5_deal ∈ bg := bg_3 14 rfl rfl
theorem wi_X5_deal : Cond.instanceMethod yX5_deal ∈ bg := bg_3 15 rfl rfl
theorem ws_X5_deal : Cond.selects RX5 yX5_deal yX5_deal ∈ bg := bg_3 16 rfl rfl
theorem wd_X5_deal : Cond.code yX5_deal cX5_deal 9 (some .boolean) ∈ bg := bg_3 17 rfl rfl
theorem wm_X5_77 : Cond.methodLink RX5 77 yX5_isSplit ∈ bg := bg_3 18 rfl rfl
theorem wi_X5_isSplit : Cond.static yX5_isSplit ∈ bg := bg_3 19 rfl rfl
theorem wd_X5_isSplit : Cond.code yX5_isSplit cX5_isSplit 1 (some .boolean) ∈ bg := bg_3 20 rfl rfl
theorem wm_X5_84 : Cond.methodLink RX5 84 yX5_modulo ∈ bg := bg_3 21 rfl rfl
theorem wi_X5_modulo : Cond.static yX5_modulo ∈ bg := bg_3 22 rfl rfl
theorem wd_X5_modulo : Cond.code yX5_modulo cX5_modulo 4 (some .long) ∈ bg := bg_3 23 rfl rfl
theorem wm_X5_87 : Cond.methodLink RX5 87 yX5_draw ∈ bg := bg_3 24 rfl rfl
theorem wi_X5_draw : Cond.instanceMethod yX5_draw ∈ bg := bg_3 26 rfl rfl
theorem wd_X5_draw : Cond.code yX5_draw cX5_draw 9 none ∈ bg := bg_3 27 rfl rfl
theorem wm_X5_81 : Cond.methodLink RX5 81 yX5_stepped ∈ bg := bg_3 28 rfl rfl
theorem wi_X5_stepped : Cond.static yX5_stepped ∈ bg := bg_3 29 rfl rfl
theorem wd_X5_stepped : Cond.code yX5_stepped cX5_stepped 2 (some .long) ∈ bg := bg_3 30 rfl rfl
theorem wl_X5_73 : Cond.constantLong RX5 73 (6364136223846793005) ∈ bg := bg_3 31 rfl rfl
theorem wl_X5_75 : Cond.constantLong RX5 75 (1442695040888963407) ∈ bg := bg_3 32 rfl rfl
theorem wm_X5_91 : Cond.methodLink RX5 91 yX5_home ∈ bg := bg_3 33 rfl rfl
theorem wi_X5_home : Cond.static yX5_home ∈ bg := bg_3 34 rfl rfl
theorem wd_X5_home : Cond.code yX5_home cX5_home 2 (some .int) ∈ bg := bg_3 35 rfl rfl
theorem wm_X5_95 : Cond.methodLink RX5 95 yX5_onCurve ∈ bg := bg_3 36 rfl rfl
theorem wi_X5_onCurve : Cond.instanceMethod yX5_onCurve ∈ bg := bg_3 38 rfl rfl
theorem wd_X5_onCurve : Cond.code yX5_onCurve cX5_onCurve 8 (some .long) ∈ bg := bg_3 39 rfl rfl
theorem wm_L_46 : Cond.methodLink RL 46 yX5_put ∈ bg := bg_3 40 rfl rfl
theorem wi_X5_put : Cond.instanceMethod yX5_put ∈ bg := bg_3 41 rfl rfl
theorem ws_X5_put : Cond.selects RX5 yX5_put yX5_put ∈ bg := bg_3 42 rfl rfl
theorem wd_X5_put : Cond.code yX5_put cX5_put 5 (some .boolean) ∈ bg := bg_3 43 rfl rfl
theorem wm_X5_99 : Cond.methodLink RX5 99 yX5_isPlace ∈ bg := bg_3 44 rfl rfl
theorem wi_X5_isPlace : Cond.instanceMethod yX5_isPlace ∈ bg := bg_3 46 rfl rfl
theorem wd_X5_isPlace : Cond.code yX5_isPlace cX5_isPlace 3 (some .boolean) ∈ bg := bg_3 47 rfl rfl
theorem wm_L_51 : Cond.methodLink RL 51 yX5_lose ∈ bg := bg_3 48 rfl rfl
theorem wi_X5_lose : Cond.instanceMethod yX5_lose ∈ bg := bg_3 49 rfl rfl
theorem ws_X5_lose : Cond.selects RX5 yX5_lose yX5_lose ∈ bg := bg_3 50 rfl rfl
theorem wd_X5_lose : Cond.code yX5_lose cX5_lose 3 (some .boolean) ∈ bg := bg_3 51 rfl rfl
theorem wm_L_56 : Cond.methodLink RL 56 yX5_join ∈ bg := bg_3 52 rfl rfl
theorem wi_X5_join : Cond.instanceMethod yX5_join ∈ bg := bg_3 53 rfl rfl
theorem ws_X5_join : Cond.selects RX5 yX5_join yX5_join ∈ bg := bg_3 54 rfl rfl
theorem wd_X5_join : Cond.code yX5_join cX5_join 12 (some .boolean) ∈ bg := bg_3 55 rfl rfl
theorem wm_X5_103 : Cond.methodLink RX5 103 yX5_minus ∈ bg := bg_3 56 rfl rfl
theorem wi_X5_minus : Cond.static yX5_minus ∈ bg := bg_3 57 rfl rfl
theorem wd_X5_minus : Cond.code yX5_minus cX5_minus 4 (some .long) ∈ bg := bg_3 58 rfl rfl
theorem wm_L_61 : Cond.methodLink RL 61 yX5_scale ∈ bg := bg_3 59 rfl rfl
theorem wi_X5_scale : Cond.instanceMethod yX5_scale ∈ bg := bg_3 60 rfl rfl
theorem ws_X5_scale : Cond.selects RX5 yX5_scale yX5_scale ∈ bg := bg_3 61 rfl rfl
theorem wd_X5_scale : Cond.code yX5_scale cX5_scale 7 (some .boolean) ∈ bg := bg_3 62 rfl rfl
theorem wm_L_66 : Cond.methodLink RL 66 yX5_renew ∈ bg := bg_3 63 rfl rfl
theorem wi_X5_renew : Cond.instanceMethod yX5_renew ∈ bg := bg_3 64 rfl rfl
theorem ws_X5_renew : Cond.selects RX5 yX5_renew yX5_renew ∈ bg := bg_3 65 rfl rfl
theorem wd_X5_renew : Cond.code yX5_renew cX5_renew 5 (some .boolean) ∈ bg := bg_3 66 rfl rfl
theorem wm_L_72 : Cond.methodLink RL 72 yX5_find ∈ bg := bg_3 67 rfl rfl
theorem wi_X5_find : Cond.instanceMethod yX5_find ∈ bg := bg_3 68 rfl rfl
theorem ws_X5_find : Cond.selects RX5 yX5_find yX5_find ∈ bg := bg_3 69 rfl rfl
theorem wd_X5_find : Cond.code yX5_find cX5_find 6 (some .int) ∈ bg := bg_3 70 rfl rfl
theorem wm_X5_120 : Cond.methodLink RX5 120 yX5_raise ∈ bg := bg_3 71 rfl rfl
theorem wi_X5_raise : Cond.instanceMethod yX5_raise ∈ bg := bg_3 73 rfl rfl
theorem wd_X5_raise : Cond.code yX5_raise cX5_raise 2 (some .int) ∈ bg := bg_3 74 rfl rfl
theorem wm_X5_124 : Cond.methodLink RX5 124 yX5_isOne ∈ bg := bg_3 75 rfl rfl
theorem wi_X5_isOne : Cond.instanceMethod yX5_isOne ∈ bg := bg_3 77 rfl rfl
theorem wd_X5_isOne : Cond.code yX5_isOne cX5_isOne 7 (some .boolean) ∈ bg := bg_3 78 rfl rfl
theorem wm_X5_113 : Cond.methodLink RX5 113 yX5_through ∈ bg := bg_3 79 rfl rfl
theorem wi_X5_through : Cond.instanceMethod yX5_through ∈ bg := bg_3 81 rfl rfl
theorem wd_X5_through : Cond.code yX5_through cX5_through 5 none ∈ bg := bg_3 82 rfl rfl
theorem wm_X5_106 : Cond.methodLink RX5 106 yX5_over ∈ bg := bg_3 83 rfl rfl
theorem wi_X5_over : Cond.instanceMethod yX5_over ∈ bg := bg_3 85 rfl rfl
theorem wd_X5_over : Cond.code yX5_over cX5_over 4 (some .long) ∈ bg := bg_3 86 rfl rfl
theorem wm_X5_117 : Cond.methodLink RX5 117 yX5_missed ∈ bg := bg_3 87 rfl rfl
theorem wi_X5_missed : Cond.instanceMethod yX5_missed ∈ bg := bg_3 89 rfl rfl
theorem wd_X5_missed : Cond.code yX5_missed cX5_missed 5 (some .int) ∈ bg := bg_3 90 rfl rfl
theorem wm_L_80 : Cond.methodLink RL 80 yX5_at ∈ bg := bg_3 91 rfl rfl
theorem wi_X5_at : Cond.instanceMethod yX5_at ∈ bg := bg_3 92 rfl rfl
theorem ws_X5_at : Cond.selects RX5 yX5_at yX5_at ∈ bg := bg_3 93 rfl rfl
theorem wd_X5_at : Cond.code yX5_at cX5_at 3 (some .long) ∈ bg := bg_3 94 rfl rfl
theorem wm_L_84 : Cond.methodLink RL 84 yX5_part ∈ bg := bg_3 95 rfl rfl
theorem wi_X5_part : Cond.instanceMethod yX5_part ∈ bg := bg_3 96 rfl rfl
theorem ws_X5_part : Cond.selects RX5 yX5_part yX5_part ∈ bg := bg_3 97 rfl rfl
theorem wd_X5_part : Cond.code yX5_part cX5_part 2 (some .long) ∈ bg := bg_3 98 rfl rfl
theorem wm_L_89 : Cond.methodLink RL 89 yX5_wrong ∈ bg := bg_3 99 rfl rfl
theorem wi_X5_wrong : Cond.instanceMethod yX5_wrong ∈ bg := bg_3 100 rfl rfl
theorem ws_X5_wrong : Cond.selects RX5 yX5_wrong yX5_wrong ∈ bg := bg_3 101 rfl rfl
theorem wd_X5_wrong : Cond.code yX5_wrong cX5_wrong 2 (some .boolean) ∈ bg := bg_3 102 rfl rfl
theorem wm_L_94 : Cond.methodLink RL 94 yX5_mend ∈ bg := bg_3 103 rfl rfl
theorem wi_X5_mend : Cond.instanceMethod yX5_mend ∈ bg := bg_3 104 rfl rfl
theorem ws_X5_mend : Cond.selects RX5 yX5_mend yX5_mend ∈ bg := bg_3 105 rfl rfl
theorem wd_X5_mend : Cond.code yX5_mend cX5_mend 2 (some .boolean) ∈ bg := bg_3 106 rfl rfl
theorem wm_L_97 : Cond.methodLink RL 97 yX5_share ∈ bg := bg_3 107 rfl rfl
theorem wi_X5_share : Cond.instanceMethod yX5_share ∈ bg := bg_3 108 rfl rfl
theorem ws_X5_share : Cond.selects RX5 yX5_share yX5_share ∈ bg := bg_3 109 rfl rfl
theorem wd_X5_share : Cond.code yX5_share cX5_share 3 (some .long) ∈ bg := bg_3 110 rfl rfl
theorem wm_L_101 : Cond.methodLink RL 101 yX5_split ∈ bg := bg_3 111 rfl rfl
theorem wi_X5_split : Cond.instanceMethod yX5_split ∈ bg := bg_3 112 rfl rfl
theorem ws_X5_split : Cond.selects RX5 yX5_split yX5_split ∈ bg := bg_3 113 rfl rfl
theorem wd_X5_split : Cond.code yX5_split cX5_split 5 (some .int) ∈ bg := bg_3 114 rfl rfl
theorem wl_L_35 : Cond.constantLong RL 35 (4294967295) ∈ bg := bg_3 115 rfl rfl
theorem ws_X4_splitOrNull : Cond.selects RX4 yX4_splitOrNull yX4_splitOrNull ∈ bg := bg_p 0 rfl rfl
theorem ws_X1_writeEquations : Cond.selects RX1 yX1_writeEquations yX1_writeEquations ∈ bg := bg_p 2 rfl rfl
theorem ws_X1_solveEquations : Cond.selects RX1 yX1_solveEquations yX1_solveEquations ∈ bg := bg_p 3 rfl rfl
theorem ws_X1_unusedRowWith : Cond.selects RX1 yX1_unusedRowWith yX1_unusedRowWith ∈ bg := bg_p 4 rfl rfl
theorem ws_X1_clearElsewhere : Cond.selects RX1 yX1_clearElsewhere yX1_clearElsewhere ∈ bg := bg_p 5 rfl rfl
theorem ws_X1_divide : Cond.selects RX1 yX1_divide yX1_divide ∈ bg := bg_p 6 rfl rfl
theorem ws_X4_keepFound : Cond.selects RX4 yX4_keepFound yX4_keepFound ∈ bg := bg_p 7 rfl rfl
theorem ws_X5_draw : Cond.selects RX5 yX5_draw yX5_draw ∈ bg := bg_p 8 rfl rfl
theorem ws_X5_onCurve : Cond.selects RX5 yX5_onCurve yX5_onCurve ∈ bg := bg_p 9 rfl rfl
theorem ws_X5_isPlace : Cond.selects RX5 yX5_isPlace yX5_isPlace ∈ bg := bg_p 10 rfl rfl
theorem ws_X5_raise : Cond.selects RX5 yX5_raise yX5_raise ∈ bg := bg_p 11 rfl rfl
theorem ws_X5_isOne : Cond.selects RX5 yX5_isOne yX5_isOne ∈ bg := bg_p 12 rfl rfl
theorem ws_X5_through : Cond.selects RX5 yX5_through yX5_through ∈ bg := bg_p 13 rfl rfl
theorem ws_X5_over : Cond.selects RX5 yX5_over yX5_over ∈ bg := bg_p 14 rfl rfl
theorem ws_X5_missed : Cond.selects RX5 yX5_missed yX5_missed ∈ bg := bg_p 15 rfl rfl
theorem inX0 : ∀ w ∈ wsX00, w ∈ bg := by
  show ∀ w ∈ [Cond.laysFinal "SplitDesk$Curve" "SplitDesk$Curve" "parts" "[J"], w ∈ bg
  exact List.forall_mem_cons.mpr ⟨bg_1 34 rfl rfl, fun _ h => absurd h List.not_mem_nil⟩
theorem inX1 : ∀ w ∈ wsX10, w ∈ bg := by
  show ∀ w ∈ [Cond.laysFinal "SplitDesk$Finder" "SplitDesk$Finder" "candidate" "LSplitDesk$Curve;", Cond.laysFinal "SplitDesk$Finder" "SplitDesk$Finder" "rows" "[[J", Cond.laysFinal "SplitDesk$Finder" "SplitDesk$Finder" "rowUsed" "[Z", Cond.laysFinal "SplitDesk$Finder" "SplitDesk$Finder" "solution" "[J", Cond.laysFinal "SplitDesk$Finder" "SplitDesk$Finder" "rowOfUnknown" "[I"], w ∈ bg
  exact List.forall_mem_cons.mpr ⟨bg_1 54 rfl rfl, List.forall_mem_cons.mpr ⟨bg_1 56 rfl rfl, List.forall_mem_cons.mpr ⟨bg_1 58 rfl rfl, List.forall_mem_cons.mpr ⟨bg_1 60 rfl rfl, List.forall_mem_cons.mpr ⟨bg_1 62 rfl rfl, fun _ h => absurd h List.not_mem_nil⟩⟩⟩⟩⟩
theorem inX3 : ∀ w ∈ wsX30, w ∈ bg := by
  show ∀ w ∈ [Cond.laysFinal "SplitDesk$Split" "SplitDesk$Split" "values" "[J", Cond.laysFinal "SplitDesk$Split" "SplitDesk$Split" "there" "[Z", Cond.lays "SplitDesk$Split" "SplitDesk$Split" "degree" "I", Cond.lays "SplitDesk$Split" "SplitDesk$Split" "places" "I"], w ∈ bg
  exact List.forall_mem_cons.mpr ⟨bg_1 82 rfl rfl, List.forall_mem_cons.mpr ⟨bg_1 84 rfl rfl, List.forall_mem_cons.mpr ⟨bg_1 86 rfl rfl, List.forall_mem_cons.mpr ⟨bg_1 88 rfl rfl, fun _ h => absurd h List.not_mem_nil⟩⟩⟩⟩
theorem inX4 : ∀ w ∈ wsX40, w ∈ bg := by
  show ∀ w ∈ [Cond.laysFinal "SplitDesk" "SplitDesk" "splits" "[LSplitDesk$Split;", Cond.laysFinal "SplitDesk" "SplitDesk" "drawn" "LSplitDesk$Curve;", Cond.laysFinal "SplitDesk" "SplitDesk" "finder" "LSplitDesk$Finder;", Cond.laysFinal "SplitDesk" "SplitDesk" "found" "LSplitDesk$Curve;", Cond.laysFinal "SplitDesk" "SplitDesk" "foundWrong" "[Z", Cond.lays "SplitDesk" "SplitDesk" "foundFor" "I"], w ∈ bg
  exact List.forall_mem_cons.mpr ⟨bg_1 97 rfl rfl, List.forall_mem_cons.mpr ⟨bg_1 99 rfl rfl, List.forall_mem_cons.mpr ⟨bg_1 101 rfl rfl, List.forall_mem_cons.mpr ⟨bg_1 103 rfl rfl, List.forall_mem_cons.mpr ⟨bg_1 105 rfl rfl, List.forall_mem_cons.mpr ⟨bg_1 107 rfl rfl, fun _ h => absurd h List.not_mem_nil⟩⟩⟩⟩⟩⟩
theorem inX5 : ∀ w ∈ wsX50, w ∈ bg := by
  show ∀ w ∈ [Cond.lays "SplitDeskModel" "SplitDeskModel" "thrown" "I", Cond.laysFinal "SplitDeskModel" "SplitDeskModel" "degree" "[I", Cond.laysFinal "SplitDeskModel" "SplitDeskModel" "size" "[I", Cond.laysFinal "SplitDeskModel" "SplitDeskModel" "share" "[J", Cond.laysFinal "SplitDeskModel" "SplitDeskModel" "there" "[Z", Cond.laysFinal "SplitDeskModel" "SplitDeskModel" "inverse" "[J", Cond.lays "SplitDeskModel" "SplitDeskModel" "isFound" "Z", Cond.lays "SplitDeskModel" "SplitDeskModel" "foundSplit" "I", Cond.laysFinal "SplitDeskModel" "SplitDeskModel" "found" "[J", Cond.laysFinal "SplitDeskModel" "SplitDeskModel" "wrong" "[Z", Cond.laysFinal "SplitDeskModel" "SplitDeskModel" "place" "[I", Cond.lays "SplitDeskModel" "SplitDeskModel" "many" "I", Cond.laysFinal "SplitDeskModel" "SplitDeskModel" "chosen" "[I", Cond.laysFinal "SplitDeskModel" "SplitDeskModel" "curve" "[J", Cond.laysFinal "SplitDeskModel" "SplitDeskModel" "row" "[J"], w ∈ bg
  exact List.forall_mem_cons.mpr ⟨bg_2 219 rfl rfl, List.forall_mem_cons.mpr ⟨bg_2 221 rfl rfl, List.forall_mem_cons.mpr ⟨bg_2 223 rfl rfl, List.forall_mem_cons.mpr ⟨bg_2 225 rfl rfl, List.forall_mem_cons.mpr ⟨bg_2 227 rfl rfl, List.forall_mem_cons.mpr ⟨bg_2 229 rfl rfl, List.forall_mem_cons.mpr ⟨bg_2 231 rfl rfl, List.forall_mem_cons.mpr ⟨bg_2 233 rfl rfl, List.forall_mem_cons.mpr ⟨bg_2 235 rfl rfl, List.forall_mem_cons.mpr ⟨bg_2 237 rfl rfl, List.forall_mem_cons.mpr ⟨bg_2 239 rfl rfl, List.forall_mem_cons.mpr ⟨bg_3 1 rfl rfl, List.forall_mem_cons.mpr ⟨bg_3 3 rfl rfl, List.forall_mem_cons.mpr ⟨bg_3 5 rfl rfl, List.forall_mem_cons.mpr ⟨bg_3 7 rfl rfl, fun _ h => absurd h List.not_mem_nil⟩⟩⟩⟩⟩⟩⟩⟩⟩⟩⟩⟩⟩⟩⟩
end
section
theorem dX0_init_0 : decode cX0_init 0 = .ok (.aload_n 0, 1) := by decide +kernel
theorem dX0_init_1 : decode cX0_init 1 = .ok (.invokespecial 3, 3) := by decide +kernel
theorem dX0_init_4 : decode cX0_init 4 = .ok (.aload_n 0, 1) := by decide +kernel
theorem dX0_init_5 : decode cX0_init 5 = .ok (.bipush 9, 2) := by decide +kernel
theorem dX0_init_7 : decode cX0_init 7 = .ok (.newarray .long, 2) := by decide +kernel
theorem dX0_init_9 : decode cX0_init 9 = .ok (.putfield 9, 3) := by decide +kernel
theorem dX0_init_12 : decode cX0_init 12 = .ok (.return_, 1) := by decide +kernel
theorem dX0_draw_0 : decode cX0_draw 0 = .ok (.lload 4, 2) := by decide +kernel
theorem dX0_draw_2 : decode cX0_draw 2 = .ok (.lstore 6, 2) := by decide +kernel
theorem dX0_draw_4 : decode cX0_draw 4 = .ok (.aload_n 0, 1) := by decide +kernel
theorem dX0_draw_5 : decode cX0_draw 5 = .ok (.getfield 9, 3) := by decide +kernel
theorem dX0_draw_8 : decode cX0_draw 8 = .ok (.iconst 0, 1) := by decide +kernel
theorem dX0_draw_9 : decode cX0_draw 9 = .ok (.lload_n 1, 1) := by decide +kernel
theorem dX0_draw_10 : decode cX0_draw 10 = .ok (.lastore, 1) := by decide +kernel
theorem dX0_draw_11 : decode cX0_draw 11 = .ok (.iconst 1, 1) := by decide +kernel
theorem dX0_draw_12 : decode cX0_draw 12 = .ok (.istore 8, 2) := by decide +kernel
theorem dX0_draw_14 : decode cX0_draw 14 = .ok (.iload 8, 2) := by decide +kernel
theorem dX0_draw_16 : decode cX0_draw 16 = .ok (.bipush 8, 2) := by decide +kernel
theorem dX0_draw_18 : decode cX0_draw 18 = .ok (.if_icmp .gt 46, 3) := by decide +kernel
theorem dX0_draw_21 : decode cX0_draw 21 = .ok (.lload 6, 2) := by decide +kernel
theorem dX0_draw_23 : decode cX0_draw 23 = .ok (.ldc2_w 15, 3) := by decide +kernel
theorem dX0_draw_26 : decode cX0_draw 26 = .ok (.lmul, 1) := by decide +kernel
theorem dX0_draw_27 : decode cX0_draw 27 = .ok (.ldc2_w 17, 3) := by decide +kernel
theorem dX0_draw_30 : decode cX0_draw 30 = .ok (.ladd, 1) := by decide +kernel
theorem dX0_draw_31 : decode cX0_draw 31 = .ok (.lstore 6, 2) := by decide +kernel
theorem dX0_draw_33 : decode cX0_draw 33 = .ok (.aload_n 0, 1) := by decide +kernel
theorem dX0_draw_34 : decode cX0_draw 34 = .ok (.getfield 9, 3) := by decide +kernel
theorem dX0_draw_37 : decode cX0_draw 37 = .ok (.iload 8, 2) := by decide +kernel
theorem dX0_draw_39 : decode cX0_draw 39 = .ok (.iload 8, 2) := by decide +kernel
theorem dX0_draw_41 : decode cX0_draw 41 = .ok (.iload_n 3, 1) := by decide +kernel
theorem dX0_draw_42 : decode cX0_draw 42 = .ok (.if_icmp .gt 14, 3) := by decide +kernel
theorem dX0_draw_45 : decode cX0_draw 45 = .ok (.lload 6, 2) := by decide +kernel
theorem dX0_draw_47 : decode cX0_draw 47 = .ok (.iconst 3, 1) := by decide +kernel
theorem dX0_draw_48 : decode cX0_draw 48 = .ok (.lushr, 1) := by decide +kernel
theorem dX0_draw_49 : decode cX0_draw 49 = .ok (.ldc2_w 19, 3) := by decide +kernel
theorem dX0_draw_52 : decode cX0_draw 52 = .ok (.lrem, 1) := by decide +kernel
theorem dX0_draw_53 : decode cX0_draw 53 = .ok (.goto 4, 3) := by decide +kernel
theorem dX0_draw_56 : decode cX0_draw 56 = .ok (.lconst 0, 1) := by decide +kernel
theorem dX0_draw_57 : decode cX0_draw 57 = .ok (.lastore, 1) := by decide +kernel
theorem dX0_draw_58 : decode cX0_draw 58 = .ok (.iinc 8 1, 3) := by decide +kernel
theorem dX0_draw_61 : decode cX0_draw 61 = .ok (.goto (-47), 3) := by decide +kernel
theorem dX0_draw_64 : decode cX0_draw 64 = .ok (.return_, 1) := by decide +kernel
theorem dX0_valueAt_0 : decode cX0_valueAt 0 = .ok (.lconst 0, 1) := by decide +kernel
theorem dX0_valueAt_1 : decode cX0_valueAt 1 = .ok (.lstore_n 3, 1) := by decide +kernel
theorem dX0_valueAt_2 : decode cX0_valueAt 2 = .ok (.bipush 8, 2) := by decide +kernel
theorem dX0_valueAt_4 : decode cX0_valueAt 4 = .ok (.istore 5, 2) := by decide +kernel
theorem dX0_valueAt_6 : decode cX0_valueAt 6 = .ok (.iload 5, 2) := by decide +kernel
theorem dX0_valueAt_8 : decode cX0_valueAt 8 = .ok (.ifCond .lt 25, 3) := by decide +kernel
theorem dX0_valueAt_11 : decode cX0_valueAt 11 = .ok (.lload_n 3, 1) := by decide +kernel
theorem dX0_valueAt_12 : decode cX0_valueAt 12 = .ok (.lload_n 1, 1) := by decide +kernel
theorem dX0_valueAt_13 : decode cX0_valueAt 13 = .ok (.invokestatic 21, 3) := by decide +kernel
theorem dX0_valueAt_16 : decode cX0_valueAt 16 = .ok (.aload_n 0, 1) := by decide +kernel
theorem dX0_valueAt_17 : decode cX0_valueAt 17 = .ok (.getfield 9, 3) := by decide +kernel
theorem dX0_valueAt_20 : decode cX0_valueAt 20 = .ok (.iload 5, 2) := by decide +kernel
theorem dX0_valueAt_22 : decode cX0_valueAt 22 = .ok (.laload, 1) := by decide +kernel
theorem dX0_valueAt_23 : decode cX0_valueAt 23 = .ok (.invokestatic 27, 3) := by decide +kernel
theorem dX0_valueAt_26 : decode cX0_valueAt 26 = .ok (.lstore_n 3, 1) := by decide +kernel
theorem dX0_valueAt_27 : decode cX0_valueAt 27 = .ok (.iinc 5 (-1), 3) := by decide +kernel
theorem dX0_valueAt_30 : decode cX0_valueAt 30 = .ok (.goto (-24), 3) := by decide +kernel
theorem dX0_valueAt_33 : decode cX0_valueAt 33 = .ok (.lload_n 3, 1) := by decide +kernel
theorem dX0_valueAt_34 : decode cX0_valueAt 34 = .ok (.lreturn, 1) := by decide +kernel
theorem dX0_copyFrom_0 : decode cX0_copyFrom 0 = .ok (.aload_n 1, 1) := by decide +kernel
theorem dX0_copyFrom_1 : decode cX0_copyFrom 1 = .ok (.getfield 9, 3) := by decide +kernel
theorem dX0_copyFrom_4 : decode cX0_copyFrom 4 = .ok (.iconst 0, 1) := by decide +kernel
theorem dX0_copyFrom_5 : decode cX0_copyFrom 5 = .ok (.aload_n 0, 1) := by decide +kernel
theorem dX0_copyFrom_6 : decode cX0_copyFrom 6 = .ok (.getfield 9, 3) := by decide +kernel
theorem dX0_copyFrom_9 : decode cX0_copyFrom 9 = .ok (.iconst 0, 1) := by decide +kernel
theorem dX0_copyFrom_10 : decode cX0_copyFrom 10 = .ok (.aload_n 0, 1) := by decide +kernel
theorem dX0_copyFrom_11 : decode cX0_copyFrom 11 = .ok (.getfield 9, 3) := by decide +kernel
theorem dX0_copyFrom_14 : decode cX0_copyFrom 14 = .ok (.arraylength, 1) := by decide +kernel
theorem dX0_copyFrom_15 : decode cX0_copyFrom 15 = .ok (.invokestatic 30, 3) := by decide +kernel
theorem dX0_copyFrom_18 : decode cX0_copyFrom 18 = .ok (.return_, 1) := by decide +kernel
theorem dX1_init_0 : decode cX1_init 0 = .ok (.aload_n 0, 1) := by decide +kernel
theorem dX1_init_1 : decode cX1_init 1 = .ok (.invokespecial 3, 3) := by decide +kernel
theorem dX1_init_4 : decode cX1_init 4 = .ok (.aload_n 0, 1) := by decide +kernel
theorem dX1_init_5 : decode cX1_init 5 = .ok (.new 9, 3) := by decide +kernel
theorem dX1_init_8 : decode cX1_init 8 = .ok (.dup, 1) := by decide +kernel
theorem dX1_init_9 : decode cX1_init 9 = .ok (.invokespecial 11, 3) := by decide +kernel
theorem dX1_init_12 : decode cX1_init 12 = .ok (.putfield 12, 3) := by decide +kernel
theorem dX1_init_15 : decode cX1_init 15 = .ok (.aload_n 0, 1) := by decide +kernel
theorem dX1_init_16 : decode cX1_init 16 = .ok (.bipush 16, 2) := by decide +kernel
theorem dX1_init_18 : decode cX1_init 18 = .ok (.bipush 17, 2) := by decide +kernel
theorem dX1_init_20 : decode cX1_init 20 = .ok (.multianewarray 18 2, 4) := by decide +kernel
theorem dX1_init_24 : decode cX1_init 24 = .ok (.putfield 20, 3) := by decide +kernel
theorem dX1_init_27 : decode cX1_init 27 = .ok (.aload_n 0, 1) := by decide +kernel
theorem dX1_init_28 : decode cX1_init 28 = .ok (.bipush 16, 2) := by decide +kernel
theorem dX1_init_30 : decode cX1_init 30 = .ok (.newarray .boolean, 2) := by decide +kernel
theorem dX1_init_32 : decode cX1_init 32 = .ok (.putfield 23, 3) := by decide +kernel
theorem dX1_init_35 : decode cX1_init 35 = .ok (.aload_n 0, 1) := by decide +kernel
theorem dX1_init_36 : decode cX1_init 36 = .ok (.bipush 16, 2) := by decide +kernel
theorem dX1_init_38 : decode cX1_init 38 = .ok (.newarray .long, 2) := by decide +kernel
theorem dX1_init_40 : decode cX1_init 40 = .ok (.putfield 27, 3) := by decide +kernel
theorem dX1_init_43 : decode cX1_init 43 = .ok (.aload_n 0, 1) := by decide +kernel
theorem dX1_init_44 : decode cX1_init 44 = .ok (.bipush 16, 2) := by decide +kernel
theorem dX1_init_46 : decode cX1_init 46 = .ok (.newarray .int, 2) := by decide +kernel
theorem dX1_init_48 : decode cX1_init 48 = .ok (.putfield 31, 3) := by decide +kernel
theorem dX1_init_51 : decode cX1_init 51 = .ok (.return_, 1) := by decide +kernel
theorem dX1_sharesNeeded_0 : decode cX1_sharesNeeded 0 = .ok (.iload_n 0, 1) := by decide +kernel
theorem dX1_sharesNeeded_1 : decode cX1_sharesNeeded 1 = .ok (.iconst 1, 1) := by decide +kernel
theorem dX1_sharesNeeded_2 : decode cX1_sharesNeeded 2 = .ok (.iadd, 1) := by decide +kernel
theorem dX1_sharesNeeded_3 : decode cX1_sharesNeeded 3 = .ok (.iconst 2, 1) := by decide +kernel
theorem dX1_sharesNeeded_4 : decode cX1_sharesNeeded 4 = .ok (.iload_n 1, 1) := by decide +kernel
theorem dX1_sharesNeeded_5 : decode cX1_sharesNeeded 5 = .ok (.imul, 1) := by decide +kernel
theorem dX1_sharesNeeded_6 : decode cX1_sharesNeeded 6 = .ok (.iadd, 1) := by decide +kernel
theorem dX1_sharesNeeded_7 : decode cX1_sharesNeeded 7 = .ok (.ireturn, 1) := by decide +kernel
theorem dX1_seek_0 : decode cX1_seek 0 = .ok (.aload_n 1, 1) := by decide +kernel
theorem dX1_seek_1 : decode cX1_seek 1 = .ok (.getfield 35, 3) := by decide +kernel
theorem dX1_seek_4 : decode cX1_seek 4 = .ok (.iload_n 2, 1) := by decide +kernel
theorem dX1_seek_5 : decode cX1_seek 5 = .ok (.invokestatic 41, 3) := by decide +kernel
theorem dX1_seek_8 : decode cX1_seek 8 = .ok (.istore_n 3, 1) := by decide +kernel
theorem dX1_seek_9 : decode cX1_seek 9 = .ok (.aload_n 0, 1) := by decide +kernel
theorem dX1_seek_10 : decode cX1_seek 10 = .ok (.aload_n 1, 1) := by decide +kernel
theorem dX1_seek_11 : decode cX1_seek 11 = .ok (.iload_n 2, 1) := by decide +kernel
theorem dX1_seek_12 : decode cX1_seek 12 = .ok (.iload_n 3, 1) := by decide +kernel
theorem dX1_seek_13 : decode cX1_seek 13 = .ok (.invokevirtual 45, 3) := by decide +kernel
theorem dX1_seek_16 : decode cX1_seek 16 = .ok (.aload_n 0, 1) := by decide +kernel
theorem dX1_seek_17 : decode cX1_seek 17 = .ok (.iload_n 3, 1) := by decide +kernel
theorem dX1_seek_18 : decode cX1_seek 18 = .ok (.invokevirtual 49, 3) := by decide +kernel
theorem dX1_seek_21 : decode cX1_seek 21 = .ok (.aload_n 0, 1) := by decide +kernel
theorem dX1_seek_22 : decode cX1_seek 22 = .ok (.aload_n 1, 1) := by decide +kernel
theorem dX1_seek_23 : decode cX1_seek 23 = .ok (.getfield 35, 3) := by decide +kernel
theorem dX1_seek_26 : decode cX1_seek 26 = .ok (.iload_n 2, 1) := by decide +kernel
theorem dX1_seek_27 : decode cX1_seek 27 = .ok (.invokevirtual 53, 3) := by decide +kernel
theorem dX1_seek_30 : decode cX1_seek 30 = .ok (.return_, 1) := by decide +kernel
theorem dX1_writeEquations_0 : decode cX1_writeEquations 0 = .ok (.iconst 0, 1) := by decide +kernel
theorem dX1_writeEquations_1 : decode cX1_writeEquations 1 = .ok (.istore 4, 2) := by decide +kernel
theorem dX1_writeEquations_3 : decode cX1_writeEquations 3 = .ok (.iconst 1, 1) := by decide +kernel
theorem dX1_writeEquations_4 : decode cX1_writeEquations 4 = .ok (.istore 5, 2) := by decide +kernel
theorem dX1_writeEquations_6 : decode cX1_writeEquations 6 = .ok (.iload 5, 2) := by decide +kernel
theorem dX1_writeEquations_8 : decode cX1_writeEquations 8 = .ok (.aload_n 1, 1) := by decide +kernel
theorem dX1_writeEquations_9 : decode cX1_writeEquations 9 = .ok (.getfield 57, 3) := by decide +kernel
theorem dX1_writeEquations_12 : decode cX1_writeEquations 12 = .ok (.if_icmp .gt 53, 3) := by decide +kernel
theorem dX1_writeEquations_15 : decode cX1_writeEquations 15 = .ok (.iload 4, 2) := by decide +kernel
theorem dX1_writeEquations_17 : decode cX1_writeEquations 17 = .ok (.iload_n 3, 1) := by decide +kernel
theorem dX1_writeEquations_18 : decode cX1_writeEquations 18 = .ok (.if_icmp .ge 47, 3) := by decide +kernel
theorem dX1_writeEquations_21 : decode cX1_writeEquations 21 = .ok (.aload_n 1, 1) := by decide +kernel
theorem dX1_writeEquations_22 : decode cX1_writeEquations 22 = .ok (.iload 5, 2) := by decide +kernel
theorem dX1_writeEquations_24 : decode cX1_writeEquations 24 = .ok (.invokevirtual 60, 3) := by decide +kernel
theorem dX1_writeEquations_27 : decode cX1_writeEquations 27 = .ok (.ifCond .eq 32, 3) := by decide +kernel
theorem dX1_writeEquations_30 : decode cX1_writeEquations 30 = .ok (.aload_n 0, 1) := by decide +kernel
theorem dX1_writeEquations_31 : decode cX1_writeEquations 31 = .ok (.getfield 20, 3) := by decide +kernel
theorem dX1_writeEquations_34 : decode cX1_writeEquations 34 = .ok (.iload 4, 2) := by decide +kernel
theorem dX1_writeEquations_36 : decode cX1_writeEquations 36 = .ok (.aaload, 1) := by decide +kernel
theorem dX1_writeEquations_37 : decode cX1_writeEquations 37 = .ok (.iload 5, 2) := by decide +kernel
theorem dX1_writeEquations_39 : decode cX1_writeEquations 39 = .ok (.aload_n 1, 1) := by decide +kernel
theorem dX1_writeEquations_40 : decode cX1_writeEquations 40 = .ok (.getfield 64, 3) := by decide +kernel
theorem dX1_writeEquations_43 : decode cX1_writeEquations 43 = .ok (.iload 5, 2) := by decide +kernel
theorem dX1_writeEquations_45 : decode cX1_writeEquations 45 = .ok (.laload, 1) := by decide +kernel
theorem dX1_writeEquations_46 : decode cX1_writeEquations 46 = .ok (.aload_n 1, 1) := by decide +kernel
theorem dX1_writeEquations_47 : decode cX1_writeEquations 47 = .ok (.getfield 35, 3) := by decide +kernel
theorem dX1_writeEquations_50 : decode cX1_writeEquations 50 = .ok (.iload_n 2, 1) := by decide +kernel
theorem dX1_writeEquations_51 : decode cX1_writeEquations 51 = .ok (.iadd, 1) := by decide +kernel
theorem dX1_writeEquations_52 : decode cX1_writeEquations 52 = .ok (.iload_n 2, 1) := by decide +kernel
theorem dX1_writeEquations_53 : decode cX1_writeEquations 53 = .ok (.invokestatic 67, 3) := by decide +kernel
theorem dX1_writeEquations_56 : decode cX1_writeEquations 56 = .ok (.iinc 4 1, 3) := by decide +kernel
theorem dX1_writeEquations_59 : decode cX1_writeEquations 59 = .ok (.iinc 5 1, 3) := by decide +kernel
theorem dX1_writeEquations_62 : decode cX1_writeEquations 62 = .ok (.goto (-56), 3) := by decide +kernel
theorem dX1_writeEquations_65 : decode cX1_writeEquations 65 = .ok (.return_, 1) := by decide +kernel
theorem dX1_writeEquation_0 : decode cX1_writeEquation 0 = .ok (.lconst 1, 1) := by decide +kernel
theorem dX1_writeEquation_1 : decode cX1_writeEquation 1 = .ok (.lstore 6, 2) := by decide +kernel
theorem dX1_writeEquation_3 : decode cX1_writeEquation 3 = .ok (.iconst 0, 1) := by decide +kernel
theorem dX1_writeEquation_4 : decode cX1_writeEquation 4 = .ok (.istore 8, 2) := by decide +kernel
theorem dX1_writeEquation_6 : decode cX1_writeEquation 6 = .ok (.iload 8, 2) := by decide +kernel
theorem dX1_writeEquation_8 : decode cX1_writeEquation 8 = .ok (.iload 4, 2) := by decide +kernel
theorem dX1_writeEquation_10 : decode cX1_writeEquation 10 = .ok (.if_icmp .gt 75, 3) := by decide +kernel
theorem dX1_writeEquation_13 : decode cX1_writeEquation 13 = .ok (.aload_n 0, 1) := by decide +kernel
theorem dX1_writeEquation_14 : decode cX1_writeEquation 14 = .ok (.iload 8, 2) := by decide +kernel
theorem dX1_writeEquation_16 : decode cX1_writeEquation 16 = .ok (.lload 6, 2) := by decide +kernel
theorem dX1_writeEquation_18 : decode cX1_writeEquation 18 = .ok (.lastore, 1) := by decide +kernel
theorem dX1_writeEquation_19 : decode cX1_writeEquation 19 = .ok (.iload 8, 2) := by decide +kernel
theorem dX1_writeEquation_21 : decode cX1_writeEquation 21 = .ok (.iload 5, 2) := by decide +kernel
theorem dX1_writeEquation_23 : decode cX1_writeEquation 23 = .ok (.if_icmp .ge 25, 3) := by decide +kernel
theorem dX1_writeEquation_26 : decode cX1_writeEquation 26 = .ok (.aload_n 0, 1) := by decide +kernel
theorem dX1_writeEquation_27 : decode cX1_writeEquation 27 = .ok (.iload 4, 2) := by decide +kernel
theorem dX1_writeEquation_29 : decode cX1_writeEquation 29 = .ok (.iconst 1, 1) := by decide +kernel
theorem dX1_writeEquation_30 : decode cX1_writeEquation 30 = .ok (.iadd, 1) := by decide +kernel
theorem dX1_writeEquation_31 : decode cX1_writeEquation 31 = .ok (.iload 8, 2) := by decide +kernel
theorem dX1_writeEquation_33 : decode cX1_writeEquation 33 = .ok (.iadd, 1) := by decide +kernel
theorem dX1_writeEquation_34 : decode cX1_writeEquation 34 = .ok (.lconst 0, 1) := by decide +kernel
theorem dX1_writeEquation_35 : decode cX1_writeEquation 35 = .ok (.lload_n 2, 1) := by decide +kernel
theorem dX1_writeEquation_36 : decode cX1_writeEquation 36 = .ok (.lload 6, 2) := by decide +kernel
theorem dX1_writeEquation_38 : decode cX1_writeEquation 38 = .ok (.invokestatic 71, 3) := by decide +kernel
theorem dX1_writeEquation_41 : decode cX1_writeEquation 41 = .ok (.invokestatic 77, 3) := by decide +kernel
theorem dX1_writeEquation_44 : decode cX1_writeEquation 44 = .ok (.lastore, 1) := by decide +kernel
theorem dX1_writeEquation_45 : decode cX1_writeEquation 45 = .ok (.goto 25, 3) := by decide +kernel
theorem dX1_writeEquation_48 : decode cX1_writeEquation 48 = .ok (.iload 8, 2) := by decide +kernel
theorem dX1_writeEquation_50 : decode cX1_writeEquation 50 = .ok (.iload 5, 2) := by decide +kernel
theorem dX1_writeEquation_52 : decode cX1_writeEquation 52 = .ok (.if_icmp .ne 18, 3) := by decide +kernel
theorem dX1_writeEquation_55 : decode cX1_writeEquation 55 = .ok (.aload_n 0, 1) := by decide +kernel
theorem dX1_writeEquation_56 : decode cX1_writeEquation 56 = .ok (.iload 4, 2) := by decide +kernel
theorem dX1_writeEquation_58 : decode cX1_writeEquation 58 = .ok (.iconst 1, 1) := by decide +kernel
theorem dX1_writeEquation_59 : decode cX1_writeEquation 59 = .ok (.iadd, 1) := by decide +kernel
theorem dX1_writeEquation_60 : decode cX1_writeEquation 60 = .ok (.iload 5, 2) := by decide +kernel
theorem dX1_writeEquation_62 : decode cX1_writeEquation 62 = .ok (.iadd, 1) := by decide +kernel
theorem dX1_writeEquation_63 : decode cX1_writeEquation 63 = .ok (.lload_n 2, 1) := by decide +kernel
theorem dX1_writeEquation_64 : decode cX1_writeEquation 64 = .ok (.lload 6, 2) := by decide +kernel
theorem dX1_writeEquation_66 : decode cX1_writeEquation 66 = .ok (.invokestatic 71, 3) := by decide +kernel
theorem dX1_writeEquation_69 : decode cX1_writeEquation 69 = .ok (.lastore, 1) := by decide +kernel
theorem dX1_writeEquation_70 : decode cX1_writeEquation 70 = .ok (.lload 6, 2) := by decide +kernel
theorem dX1_writeEquation_72 : decode cX1_writeEquation 72 = .ok (.iload_n 1, 1) := by decide +kernel
theorem dX1_writeEquation_73 : decode cX1_writeEquation 73 = .ok (.i2l, 1) := by decide +kernel
theorem dX1_writeEquation_74 : decode cX1_writeEquation 74 = .ok (.invokestatic 71, 3) := by decide +kernel
theorem dX1_writeEquation_77 : decode cX1_writeEquation 77 = .ok (.lstore 6, 2) := by decide +kernel
theorem dX1_writeEquation_79 : decode cX1_writeEquation 79 = .ok (.iinc 8 1, 3) := by decide +kernel
theorem dX1_writeEquation_82 : decode cX1_writeEquation 82 = .ok (.goto (-76), 3) := by decide +kernel
theorem dX1_writeEquation_85 : decode cX1_writeEquation 85 = .ok (.return_, 1) := by decide +kernel
theorem dX1_solveEquations_0 : decode cX1_solveEquations 0 = .ok (.iconst 0, 1) := by decide +kernel
theorem dX1_solveEquations_1 : decode cX1_solveEquations 1 = .ok (.istore_n 2, 1) := by decide +kernel
theorem dX1_solveEquations_2 : decode cX1_solveEquations 2 = .ok (.iload_n 2, 1) := by decide +kernel
theorem dX1_solveEquations_3 : decode cX1_solveEquations 3 = .ok (.iload_n 1, 1) := by decide +kernel
theorem dX1_solveEquations_4 : decode cX1_solveEquations 4 = .ok (.if_icmp .ge 16, 3) := by decide +kernel
theorem dX1_solveEquations_7 : decode cX1_solveEquations 7 = .ok (.aload_n 0, 1) := by decide +kernel
theorem dX1_solveEquations_8 : decode cX1_solveEquations 8 = .ok (.getfield 23, 3) := by decide +kernel
theorem dX1_solveEquations_11 : decode cX1_solveEquations 11 = .ok (.iload_n 2, 1) := by decide +kernel
theorem dX1_solveEquations_12 : decode cX1_solveEquations 12 = .ok (.iconst 0, 1) := by decide +kernel
theorem dX1_solveEquations_13 : decode cX1_solveEquations 13 = .ok (.bastore, 1) := by decide +kernel
theorem dX1_solveEquations_14 : decode cX1_solveEquations 14 = .ok (.iinc 2 1, 3) := by decide +kernel
theorem dX1_solveEquations_17 : decode cX1_solveEquations 17 = .ok (.goto (-15), 3) := by decide +kernel
theorem dX1_solveEquations_20 : decode cX1_solveEquations 20 = .ok (.iconst 0, 1) := by decide +kernel
theorem dX1_solveEquations_21 : decode cX1_solveEquations 21 = .ok (.istore_n 2, 1) := by decide +kernel
theorem dX1_solveEquations_22 : decode cX1_solveEquations 22 = .ok (.iload_n 2, 1) := by decide +kernel
theorem dX1_solveEquations_23 : decode cX1_solveEquations 23 = .ok (.iload_n 1, 1) := by decide +kernel
theorem dX1_solveEquations_24 : decode cX1_solveEquations 24 = .ok (.if_icmp .ge 53, 3) := by decide +kernel
theorem dX1_solveEquations_27 : decode cX1_solveEquations 27 = .ok (.aload_n 0, 1) := by decide +kernel
theorem dX1_solveEquations_28 : decode cX1_solveEquations 28 = .ok (.iload_n 2, 1) := by decide +kernel
theorem dX1_solveEquations_29 : decode cX1_solveEquations 29 = .ok (.iload_n 1, 1) := by decide +kernel
theorem dX1_solveEquations_30 : decode cX1_solveEquations 30 = .ok (.invokevirtual 80, 3) := by decide +kernel
theorem dX1_solveEquations_33 : decode cX1_solveEquations 33 = .ok (.istore_n 3, 1) := by decide +kernel
theorem dX1_solveEquations_34 : decode cX1_solveEquations 34 = .ok (.aload_n 0, 1) := by decide +kernel
theorem dX1_solveEquations_35 : decode cX1_solveEquations 35 = .ok (.getfield 31, 3) := by decide +kernel
theorem dX1_solveEquations_38 : decode cX1_solveEquations 38 = .ok (.iload_n 2, 1) := by decide +kernel
theorem dX1_solveEquations_39 : decode cX1_solveEquations 39 = .ok (.iload_n 3, 1) := by decide +kernel
theorem dX1_solveEquations_40 : decode cX1_solveEquations 40 = .ok (.iastore, 1) := by decide +kernel
theorem dX1_solveEquations_41 : decode cX1_solveEquations 41 = .ok (.iload_n 3, 1) := by decide +kernel
theorem dX1_solveEquations_42 : decode cX1_solveEquations 42 = .ok (.iconst (-1), 1) := by decide +kernel
theorem dX1_solveEquations_43 : decode cX1_solveEquations 43 = .ok (.if_icmp .eq 28, 3) := by decide +kernel
theorem dX1_solveEquations_46 : decode cX1_solveEquations 46 = .ok (.aload_n 0, 1) := by decide +kernel
theorem dX1_solveEquations_47 : decode cX1_solveEquations 47 = .ok (.getfield 23, 3) := by decide +kernel
theorem dX1_solveEquations_50 : decode cX1_solveEquations 50 = .ok (.iload_n 3, 1) := by decide +kernel
theorem dX1_solveEquations_51 : decode cX1_solveEquations 51 = .ok (.iconst 1, 1) := by decide +kernel
theorem dX1_solveEquations_52 : decode cX1_solveEquations 52 = .ok (.bastore, 1) := by decide +kernel
theorem dX1_solveEquations_53 : decode cX1_solveEquations 53 = .ok (.aload_n 0, 1) := by decide +kernel
theorem dX1_solveEquations_54 : decode cX1_solveEquations 54 = .ok (.getfield 20, 3) := by decide +kernel
theorem dX1_solveEquations_57 : decode cX1_solveEquations 57 = .ok (.iload_n 3, 1) := by decide +kernel
theorem dX1_solveEquations_58 : decode cX1_solveEquations 58 = .ok (.aaload, 1) := by decide +kernel
theorem dX1_solveEquations_59 : decode cX1_solveEquations 59 = .ok (.iload_n 2, 1) := by decide +kernel
theorem dX1_solveEquations_60 : decode cX1_solveEquations 60 = .ok (.iload_n 1, 1) := by decide +kernel
theorem dX1_solveEquations_61 : decode cX1_solveEquations 61 = .ok (.invokestatic 83, 3) := by decide +kernel
theorem dX1_solveEquations_64 : decode cX1_solveEquations 64 = .ok (.aload_n 0, 1) := by decide +kernel
theorem dX1_solveEquations_65 : decode cX1_solveEquations 65 = .ok (.iload_n 3, 1) := by decide +kernel
theorem dX1_solveEquations_66 : decode cX1_solveEquations 66 = .ok (.iload_n 2, 1) := by decide +kernel
theorem dX1_solveEquations_67 : decode cX1_solveEquations 67 = .ok (.iload_n 1, 1) := by decide +kernel
theorem dX1_solveEquations_68 : decode cX1_solveEquations 68 = .ok (.invokevirtual 87, 3) := by decide +kernel
theorem dX1_solveEquations_71 : decode cX1_solveEquations 71 = .ok (.iinc 2 1, 3) := by decide +kernel
theorem dX1_solveEquations_74 : decode cX1_solveEquations 74 = .ok (.goto (-52), 3) := by decide +kernel
theorem dX1_solveEquations_77 : decode cX1_solveEquations 77 = .ok (.iconst 0, 1) := by decide +kernel
theorem dX1_solveEquations_78 : decode cX1_solveEquations 78 = .ok (.istore_n 2, 1) := by decide +kernel
theorem dX1_solveEquations_79 : decode cX1_solveEquations 79 = .ok (.iload_n 2, 1) := by decide +kernel
theorem dX1_solveEquations_80 : decode cX1_solveEquations 80 = .ok (.iload_n 1, 1) := by decide +kernel
theorem dX1_solveEquations_81 : decode cX1_solveEquations 81 = .ok (.if_icmp .ge 39, 3) := by decide +kernel
theorem dX1_solveEquations_84 : decode cX1_solveEquations 84 = .ok (.aload_n 0, 1) := by decide +kernel
theorem dX1_solveEquations_85 : decode cX1_solveEquations 85 = .ok (.getfield 31, 3) := by decide +kernel
theorem dX1_solveEquations_88 : decode cX1_solveEquations 88 = .ok (.iload_n 2, 1) := by decide +kernel
theorem dX1_solveEquations_89 : decode cX1_solveEquations 89 = .ok (.iaload, 1) := by decide +kernel
theorem dX1_solveEquations_90 : decode cX1_solveEquations 90 = .ok (.istore_n 3, 1) := by decide +kernel
theorem dX1_solveEquations_91 : decode cX1_solveEquations 91 = .ok (.aload_n 0, 1) := by decide +kernel
theorem dX1_solveEquations_92 : decode cX1_solveEquations 92 = .ok (.getfield 27, 3) := by decide +kernel
theorem dX1_solveEquations_95 : decode cX1_solveEquations 95 = .ok (.iload_n 2, 1) := by decide +kernel
theorem dX1_solveEquations_96 : decode cX1_solveEquations 96 = .ok (.iload_n 3, 1) := by decide +kernel
theorem dX1_solveEquations_97 : decode cX1_solveEquations 97 = .ok (.iconst (-1), 1) := by decide +kernel
theorem dX1_solveEquations_98 : decode cX1_solveEquations 98 = .ok (.if_icmp .ne 7, 3) := by decide +kernel
theorem dX1_solveEquations_101 : decode cX1_solveEquations 101 = .ok (.lconst 0, 1) := by decide +kernel
theorem dX1_solveEquations_102 : decode cX1_solveEquations 102 = .ok (.goto 11, 3) := by decide +kernel
theorem dX1_solveEquations_105 : decode cX1_solveEquations 105 = .ok (.aload_n 0, 1) := by decide +kernel
theorem dX1_solveEquations_106 : decode cX1_solveEquations 106 = .ok (.getfield 20, 3) := by decide +kernel
theorem dX1_solveEquations_109 : decode cX1_solveEquations 109 = .ok (.iload_n 3, 1) := by decide +kernel
theorem dX1_solveEquations_110 : decode cX1_solveEquations 110 = .ok (.aaload, 1) := by decide +kernel
theorem dX1_solveEquations_111 : decode cX1_solveEquations 111 = .ok (.iload_n 1, 1) := by decide +kernel
theorem dX1_solveEquations_112 : decode cX1_solveEquations 112 = .ok (.laload, 1) := by decide +kernel
theorem dX1_solveEquations_113 : decode cX1_solveEquations 113 = .ok (.lastore, 1) := by decide +kernel
theorem dX1_solveEquations_114 : decode cX1_solveEquations 114 = .ok (.iinc 2 1, 3) := by decide +kernel
theorem dX1_solveEquations_117 : decode cX1_solveEquations 117 = .ok (.goto (-38), 3) := by decide +kernel
theorem dX1_solveEquations_120 : decode cX1_solveEquations 120 = .ok (.return_, 1) := by decide +kernel
theorem dX1_unusedRowWith_0 : decode cX1_unusedRowWith 0 = .ok (.iconst 0, 1) := by decide +kernel
theorem dX1_unusedRowWith_1 : decode cX1_unusedRowWith 1 = .ok (.istore_n 3, 1) := by decide +kernel
theorem dX1_unusedRowWith_2 : decode cX1_unusedRowWith 2 = .ok (.iload_n 3, 1) := by decide +kernel
theorem dX1_unusedRowWith_3 : decode cX1_unusedRowWith 3 = .ok (.iload_n 2, 1) := by decide +kernel
theorem dX1_unusedRowWith_4 : decode cX1_unusedRowWith 4 = .ok (.if_icmp .ge 33, 3) := by decide +kernel
theorem dX1_unusedRowWith_7 : decode cX1_unusedRowWith 7 = .ok (.aload_n 0, 1) := by decide +kernel
theorem dX1_unusedRowWith_8 : decode cX1_unusedRowWith 8 = .ok (.getfield 23, 3) := by decide +kernel
theorem dX1_unusedRowWith_11 : decode cX1_unusedRowWith 11 = .ok (.iload_n 3, 1) := by decide +kernel
theorem dX1_unusedRowWith_12 : decode cX1_unusedRowWith 12 = .ok (.baload, 1) := by decide +kernel
theorem dX1_unusedRowWith_13 : decode cX1_unusedRowWith 13 = .ok (.ifCond .ne 18, 3) := by decide +kernel
theorem dX1_unusedRowWith_16 : decode cX1_unusedRowWith 16 = .ok (.aload_n 0, 1) := by decide +kernel
theorem dX1_unusedRowWith_17 : decode cX1_unusedRowWith 17 = .ok (.getfield 20, 3) := by decide +kernel
theorem dX1_unusedRowWith_20 : decode cX1_unusedRowWith 20 = .ok (.iload_n 3, 1) := by decide +kernel
theorem dX1_unusedRowWith_21 : decode cX1_unusedRowWith 21 = .ok (.aaload, 1) := by decide +kernel
theorem dX1_unusedRowWith_22 : decode cX1_unusedRowWith 22 = .ok (.iload_n 1, 1) := by decide +kernel
theorem dX1_unusedRowWith_23 : decode cX1_unusedRowWith 23 = .ok (.laload, 1) := by decide +kernel
theorem dX1_unusedRowWith_24 : decode cX1_unusedRowWith 24 = .ok (.lconst 0, 1) := by decide +kernel
theorem dX1_unusedRowWith_25 : decode cX1_unusedRowWith 25 = .ok (.lcmp, 1) := by decide +kernel
theorem dX1_unusedRowWith_26 : decode cX1_unusedRowWith 26 = .ok (.ifCond .eq 5, 3) := by decide +kernel
theorem dX1_unusedRowWith_29 : decode cX1_unusedRowWith 29 = .ok (.iload_n 3, 1) := by decide +kernel
theorem dX1_unusedRowWith_30 : decode cX1_unusedRowWith 30 = .ok (.ireturn, 1) := by decide +kernel
theorem dX1_unusedRowWith_31 : decode cX1_unusedRowWith 31 = .ok (.iinc 3 1, 3) := by decide +kernel
theorem dX1_unusedRowWith_34 : decode cX1_unusedRowWith 34 = .ok (.goto (-32), 3) := by decide +kernel
theorem dX1_unusedRowWith_37 : decode cX1_unusedRowWith 37 = .ok (.iconst (-1), 1) := by decide +kernel
theorem dX1_unusedRowWith_38 : decode cX1_unusedRowWith 38 = .ok (.ireturn, 1) := by decide +kernel
theorem dX1_makeOne_0 : decode cX1_makeOne 0 = .ok (.aload_n 0, 1) := by decide +kernel
theorem dX1_makeOne_1 : decode cX1_makeOne 1 = .ok (.iload_n 1, 1) := by decide +kernel
theorem dX1_makeOne_2 : decode cX1_makeOne 2 = .ok (.laload, 1) := by decide +kernel
theorem dX1_makeOne_3 : decode cX1_makeOne 3 = .ok (.invokestatic 91, 3) := by decide +kernel
theorem dX1_makeOne_6 : decode cX1_makeOne 6 = .ok (.lstore_n 3, 1) := by decide +kernel
theorem dX1_makeOne_7 : decode cX1_makeOne 7 = .ok (.iload_n 1, 1) := by decide +kernel
theorem dX1_makeOne_8 : decode cX1_makeOne 8 = .ok (.istore 5, 2) := by decide +kernel
theorem dX1_makeOne_10 : decode cX1_makeOne 10 = .ok (.iload 5, 2) := by decide +kernel
theorem dX1_makeOne_12 : decode cX1_makeOne 12 = .ok (.iload_n 2, 1) := by decide +kernel
theorem dX1_makeOne_13 : decode cX1_makeOne 13 = .ok (.if_icmp .gt 21, 3) := by decide +kernel
theorem dX1_makeOne_16 : decode cX1_makeOne 16 = .ok (.aload_n 0, 1) := by decide +kernel
theorem dX1_makeOne_17 : decode cX1_makeOne 17 = .ok (.iload 5, 2) := by decide +kernel
theorem dX1_makeOne_19 : decode cX1_makeOne 19 = .ok (.aload_n 0, 1) := by decide +kernel
theorem dX1_makeOne_20 : decode cX1_makeOne 20 = .ok (.iload 5, 2) := by decide +kernel
theorem dX1_makeOne_22 : decode cX1_makeOne 22 = .ok (.laload, 1) := by decide +kernel
theorem dX1_makeOne_23 : decode cX1_makeOne 23 = .ok (.lload_n 3, 1) := by decide +kernel
theorem dX1_makeOne_24 : decode cX1_makeOne 24 = .ok (.invokestatic 71, 3) := by decide +kernel
theorem dX1_makeOne_27 : decode cX1_makeOne 27 = .ok (.lastore, 1) := by decide +kernel
theorem dX1_makeOne_28 : decode cX1_makeOne 28 = .ok (.iinc 5 1, 3) := by decide +kernel
theorem dX1_makeOne_31 : decode cX1_makeOne 31 = .ok (.goto (-21), 3) := by decide +kernel
theorem dX1_makeOne_34 : decode cX1_makeOne 34 = .ok (.return_, 1) := by decide +kernel
theorem dX1_clearElsewhere_0 : decode cX1_clearElsewhere 0 = .ok (.iconst 0, 1) := by decide +kernel
theorem dX1_clearElsewhere_1 : decode cX1_clearElsewhere 1 = .ok (.istore 4, 2) := by decide +kernel
theorem dX1_clearElsewhere_3 : decode cX1_clearElsewhere 3 = .ok (.iload 4, 2) := by decide +kernel
theorem dX1_clearElsewhere_5 : decode cX1_clearElsewhere 5 = .ok (.iload_n 3, 1) := by decide +kernel
theorem dX1_clearElsewhere_6 : decode cX1_clearElsewhere 6 = .ok (.if_icmp .ge 47, 3) := by decide +kernel
theorem dX1_clearElsewhere_9 : decode cX1_clearElsewhere 9 = .ok (.iload 4, 2) := by decide +kernel
theorem dX1_clearElsewhere_11 : decode cX1_clearElsewhere 11 = .ok (.iload_n 1, 1) := by decide +kernel
theorem dX1_clearElsewhere_12 : decode cX1_clearElsewhere 12 = .ok (.if_icmp .eq 35, 3) := by decide +kernel
theorem dX1_clearElsewhere_15 : decode cX1_clearElsewhere 15 = .ok (.aload_n 0, 1) := by decide +kernel
theorem dX1_clearElsewhere_16 : decode cX1_clearElsewhere 16 = .ok (.getfield 20, 3) := by decide +kernel
theorem dX1_clearElsewhere_19 : decode cX1_clearElsewhere 19 = .ok (.iload 4, 2) := by decide +kernel
theorem dX1_clearElsewhere_21 : decode cX1_clearElsewhere 21 = .ok (.aaload, 1) := by decide +kernel
theorem dX1_clearElsewhere_22 : decode cX1_clearElsewhere 22 = .ok (.iload_n 2, 1) := by decide +kernel
theorem dX1_clearElsewhere_23 : decode cX1_clearElsewhere 23 = .ok (.laload, 1) := by decide +kernel
theorem dX1_clearElsewhere_24 : decode cX1_clearElsewhere 24 = .ok (.lconst 0, 1) := by decide +kernel
theorem dX1_clearElsewhere_25 : decode cX1_clearElsewhere 25 = .ok (.lcmp, 1) := by decide +kernel
theorem dX1_clearElsewhere_26 : decode cX1_clearElsewhere 26 = .ok (.ifCond .eq 21, 3) := by decide +kernel
theorem dX1_clearElsewhere_29 : decode cX1_clearElsewhere 29 = .ok (.aload_n 0, 1) := by decide +kernel
theorem dX1_clearElsewhere_30 : decode cX1_clearElsewhere 30 = .ok (.getfield 20, 3) := by decide +kernel
theorem dX1_clearElsewhere_33 : decode cX1_clearElsewhere 33 = .ok (.iload 4, 2) := by decide +kernel
theorem dX1_clearElsewhere_35 : decode cX1_clearElsewhere 35 = .ok (.aaload, 1) := by decide +kernel
theorem dX1_clearElsewhere_36 : decode cX1_clearElsewhere 36 = .ok (.aload_n 0, 1) := by decide +kernel
theorem dX1_clearElsewhere_37 : decode cX1_clearElsewhere 37 = .ok (.getfield 20, 3) := by decide +kernel
theorem dX1_clearElsewhere_40 : decode cX1_clearElsewhere 40 = .ok (.iload_n 1, 1) := by decide +kernel
theorem dX1_clearElsewhere_41 : decode cX1_clearElsewhere 41 = .ok (.aaload, 1) := by decide +kernel
theorem dX1_clearElsewhere_42 : decode cX1_clearElsewhere 42 = .ok (.iload_n 2, 1) := by decide +kernel
theorem dX1_clearElsewhere_43 : decode cX1_clearElsewhere 43 = .ok (.iload_n 3, 1) := by decide +kernel
theorem dX1_clearElsewhere_44 : decode cX1_clearElsewhere 44 = .ok (.invokestatic 95, 3) := by decide +kernel
theorem dX1_clearElsewhere_47 : decode cX1_clearElsewhere 47 = .ok (.iinc 4 1, 3) := by decide +kernel
theorem dX1_clearElsewhere_50 : decode cX1_clearElsewhere 50 = .ok (.goto (-47), 3) := by decide +kernel
theorem dX1_clearElsewhere_53 : decode cX1_clearElsewhere 53 = .ok (.return_, 1) := by decide +kernel
theorem dX1_takeTimes_0 : decode cX1_takeTimes 0 = .ok (.aload_n 0, 1) := by decide +kernel
theorem dX1_takeTimes_1 : decode cX1_takeTimes 1 = .ok (.iload_n 2, 1) := by decide +kernel
theorem dX1_takeTimes_2 : decode cX1_takeTimes 2 = .ok (.laload, 1) := by decide +kernel
theorem dX1_takeTimes_3 : decode cX1_takeTimes 3 = .ok (.lstore 4, 2) := by decide +kernel
theorem dX1_takeTimes_5 : decode cX1_takeTimes 5 = .ok (.iload_n 2, 1) := by decide +kernel
theorem dX1_takeTimes_6 : decode cX1_takeTimes 6 = .ok (.istore 6, 2) := by decide +kernel
theorem dX1_takeTimes_8 : decode cX1_takeTimes 8 = .ok (.iload 6, 2) := by decide +kernel
theorem dX1_takeTimes_10 : decode cX1_takeTimes 10 = .ok (.iload_n 3, 1) := by decide +kernel
theorem dX1_takeTimes_11 : decode cX1_takeTimes 11 = .ok (.if_icmp .gt 29, 3) := by decide +kernel
theorem dX1_takeTimes_14 : decode cX1_takeTimes 14 = .ok (.aload_n 0, 1) := by decide +kernel
theorem dX1_takeTimes_15 : decode cX1_takeTimes 15 = .ok (.iload 6, 2) := by decide +kernel
theorem dX1_takeTimes_17 : decode cX1_takeTimes 17 = .ok (.aload_n 0, 1) := by decide +kernel
theorem dX1_takeTimes_18 : decode cX1_takeTimes 18 = .ok (.iload 6, 2) := by decide +kernel
theorem dX1_takeTimes_20 : decode cX1_takeTimes 20 = .ok (.laload, 1) := by decide +kernel
theorem dX1_takeTimes_21 : decode cX1_takeTimes 21 = .ok (.lload 4, 2) := by decide +kernel
theorem dX1_takeTimes_23 : decode cX1_takeTimes 23 = .ok (.aload_n 1, 1) := by decide +kernel
theorem dX1_takeTimes_24 : decode cX1_takeTimes 24 = .ok (.iload 6, 2) := by decide +kernel
theorem dX1_takeTimes_26 : decode cX1_takeTimes 26 = .ok (.laload, 1) := by decide +kernel
theorem dX1_takeTimes_27 : decode cX1_takeTimes 27 = .ok (.invokestatic 71, 3) := by decide +kernel
theorem dX1_takeTimes_30 : decode cX1_takeTimes 30 = .ok (.invokestatic 77, 3) := by decide +kernel
theorem dX1_takeTimes_33 : decode cX1_takeTimes 33 = .ok (.lastore, 1) := by decide +kernel
theorem dX1_takeTimes_34 : decode cX1_takeTimes 34 = .ok (.iinc 6 1, 3) := by decide +kernel
theorem dX1_takeTimes_37 : decode cX1_takeTimes 37 = .ok (.goto (-29), 3) := by decide +kernel
theorem dX1_takeTimes_40 : decode cX1_takeTimes 40 = .ok (.return_, 1) := by decide +kernel
theorem dX1_divide_0 : decode cX1_divide 0 = .ok (.iload_n 1, 1) := by decide +kernel
theorem dX1_divide_1 : decode cX1_divide 1 = .ok (.iload_n 2, 1) := by decide +kernel
theorem dX1_divide_2 : decode cX1_divide 2 = .ok (.iadd, 1) := by decide +kernel
theorem dX1_divide_3 : decode cX1_divide 3 = .ok (.iconst 1, 1) := by decide +kernel
theorem dX1_divide_4 : decode cX1_divide 4 = .ok (.iadd, 1) := by decide +kernel
theorem dX1_divide_5 : decode cX1_divide 5 = .ok (.istore_n 3, 1) := by decide +kernel
theorem dX1_divide_6 : decode cX1_divide 6 = .ok (.bipush 8, 2) := by decide +kernel
theorem dX1_divide_8 : decode cX1_divide 8 = .ok (.istore 4, 2) := by decide +kernel
theorem dX1_divide_10 : decode cX1_divide 10 = .ok (.iload 4, 2) := by decide +kernel
theorem dX1_divide_12 : decode cX1_divide 12 = .ok (.iload_n 1, 1) := by decide +kernel
theorem dX1_divide_13 : decode cX1_divide 13 = .ok (.if_icmp .le 20, 3) := by decide +kernel
theorem dX1_divide_16 : decode cX1_divide 16 = .ok (.aload_n 0, 1) := by decide +kernel
theorem dX1_divide_17 : decode cX1_divide 17 = .ok (.getfield 12, 3) := by decide +kernel
theorem dX1_divide_20 : decode cX1_divide 20 = .ok (.getfield 99, 3) := by decide +kernel
theorem dX1_divide_23 : decode cX1_divide 23 = .ok (.iload 4, 2) := by decide +kernel
theorem dX1_divide_25 : decode cX1_divide 25 = .ok (.lconst 0, 1) := by decide +kernel
theorem dX1_divide_26 : decode cX1_divide 26 = .ok (.lastore, 1) := by decide +kernel
theorem dX1_divide_27 : decode cX1_divide 27 = .ok (.iinc 4 (-1), 3) := by decide +kernel
theorem dX1_divide_30 : decode cX1_divide 30 = .ok (.goto (-20), 3) := by decide +kernel
theorem dX1_divide_33 : decode cX1_divide 33 = .ok (.iload_n 1, 1) := by decide +kernel
theorem dX1_divide_34 : decode cX1_divide 34 = .ok (.istore 4, 2) := by decide +kernel
theorem dX1_divide_36 : decode cX1_divide 36 = .ok (.iload 4, 2) := by decide +kernel
theorem dX1_divide_38 : decode cX1_divide 38 = .ok (.ifCond .lt 84, 3) := by decide +kernel
theorem dX1_divide_41 : decode cX1_divide 41 = .ok (.aload_n 0, 1) := by decide +kernel
theorem dX1_divide_42 : decode cX1_divide 42 = .ok (.getfield 27, 3) := by decide +kernel
theorem dX1_divide_45 : decode cX1_divide 45 = .ok (.iload 4, 2) := by decide +kernel
theorem dX1_divide_47 : decode cX1_divide 47 = .ok (.iload_n 2, 1) := by decide +kernel
theorem dX1_divide_48 : decode cX1_divide 48 = .ok (.iadd, 1) := by decide +kernel
theorem dX1_divide_49 : decode cX1_divide 49 = .ok (.laload, 1) := by decide +kernel
theorem dX1_divide_50 : decode cX1_divide 50 = .ok (.lstore 5, 2) := by decide +kernel
theorem dX1_divide_52 : decode cX1_divide 52 = .ok (.aload_n 0, 1) := by decide +kernel
theorem dX1_divide_53 : decode cX1_divide 53 = .ok (.getfield 12, 3) := by decide +kernel
theorem dX1_divide_56 : decode cX1_divide 56 = .ok (.getfield 99, 3) := by decide +kernel
theorem dX1_divide_59 : decode cX1_divide 59 = .ok (.iload 4, 2) := by decide +kernel
theorem dX1_divide_61 : decode cX1_divide 61 = .ok (.lload 5, 2) := by decide +kernel
theorem dX1_divide_63 : decode cX1_divide 63 = .ok (.lastore, 1) := by decide +kernel
theorem dX1_divide_64 : decode cX1_divide 64 = .ok (.iconst 0, 1) := by decide +kernel
theorem dX1_divide_65 : decode cX1_divide 65 = .ok (.istore 7, 2) := by decide +kernel
theorem dX1_divide_67 : decode cX1_divide 67 = .ok (.iload 7, 2) := by decide +kernel
theorem dX1_divide_69 : decode cX1_divide 69 = .ok (.iload_n 2, 1) := by decide +kernel
theorem dX1_divide_70 : decode cX1_divide 70 = .ok (.if_icmp .ge 46, 3) := by decide +kernel
theorem dX1_divide_73 : decode cX1_divide 73 = .ok (.aload_n 0, 1) := by decide +kernel
theorem dX1_divide_74 : decode cX1_divide 74 = .ok (.getfield 27, 3) := by decide +kernel
theorem dX1_divide_77 : decode cX1_divide 77 = .ok (.iload 4, 2) := by decide +kernel
theorem dX1_divide_79 : decode cX1_divide 79 = .ok (.iload 7, 2) := by decide +kernel
theorem dX1_divide_81 : decode cX1_divide 81 = .ok (.iadd, 1) := by decide +kernel
theorem dX1_divide_82 : decode cX1_divide 82 = .ok (.aload_n 0, 1) := by decide +kernel
theorem dX1_divide_83 : decode cX1_divide 83 = .ok (.getfield 27, 3) := by decide +kernel
theorem dX1_divide_86 : decode cX1_divide 86 = .ok (.iload 4, 2) := by decide +kernel
theorem dX1_divide_88 : decode cX1_divide 88 = .ok (.iload 7, 2) := by decide +kernel
theorem dX1_divide_90 : decode cX1_divide 90 = .ok (.iadd, 1) := by decide +kernel
theorem dX1_divide_91 : decode cX1_divide 91 = .ok (.laload, 1) := by decide +kernel
theorem dX1_divide_92 : decode cX1_divide 92 = .ok (.lload 5, 2) := by decide +kernel
theorem dX1_divide_94 : decode cX1_divide 94 = .ok (.aload_n 0, 1) := by decide +kernel
theorem dX1_divide_95 : decode cX1_divide 95 = .ok (.getfield 27, 3) := by decide +kernel
theorem dX1_divide_98 : decode cX1_divide 98 = .ok (.iload_n 3, 1) := by decide +kernel
theorem dX1_divide_99 : decode cX1_divide 99 = .ok (.iload 7, 2) := by decide +kernel
theorem dX1_divide_101 : decode cX1_divide 101 = .ok (.iadd, 1) := by decide +kernel
theorem dX1_divide_102 : decode cX1_divide 102 = .ok (.laload, 1) := by decide +kernel
theorem dX1_divide_103 : decode cX1_divide 103 = .ok (.invokestatic 71, 3) := by decide +kernel
theorem dX1_divide_106 : decode cX1_divide 106 = .ok (.invokestatic 77, 3) := by decide +kernel
theorem dX1_divide_109 : decode cX1_divide 109 = .ok (.lastore, 1) := by decide +kernel
theorem dX1_divide_110 : decode cX1_divide 110 = .ok (.iinc 7 1, 3) := by decide +kernel
theorem dX1_divide_113 : decode cX1_divide 113 = .ok (.goto (-46), 3) := by decide +kernel
theorem dX1_divide_116 : decode cX1_divide 116 = .ok (.iinc 4 (-1), 3) := by decide +kernel
theorem dX1_divide_119 : decode cX1_divide 119 = .ok (.goto (-83), 3) := by decide +kernel
theorem dX1_divide_122 : decode cX1_divide 122 = .ok (.return_, 1) := by decide +kernel
theorem dX2_of_0 : decode cX2_of 0 = .ok (.lload_n 0, 1) := by decide +kernel
theorem dX2_of_1 : decode cX2_of 1 = .ok (.ldc2_w 11, 3) := by decide +kernel
theorem dX2_of_4 : decode cX2_of 4 = .ok (.invokestatic 13, 3) := by decide +kernel
theorem dX2_of_7 : decode cX2_of 7 = .ok (.lreturn, 1) := by decide +kernel
theorem dX2_plus_0 : decode cX2_plus 0 = .ok (.lload_n 0, 1) := by decide +kernel
theorem dX2_plus_1 : decode cX2_plus 1 = .ok (.lload_n 2, 1) := by decide +kernel
theorem dX2_plus_2 : decode cX2_plus 2 = .ok (.ladd, 1) := by decide +kernel
theorem dX2_plus_3 : decode cX2_plus 3 = .ok (.lstore 4, 2) := by decide +kernel
theorem dX2_plus_5 : decode cX2_plus 5 = .ok (.lload 4, 2) := by decide +kernel
theorem dX2_plus_7 : decode cX2_plus 7 = .ok (.ldc2_w 11, 3) := by decide +kernel
theorem dX2_plus_10 : decode cX2_plus 10 = .ok (.lcmp, 1) := by decide +kernel
theorem dX2_plus_11 : decode cX2_plus 11 = .ok (.ifCond .lt 12, 3) := by decide +kernel
theorem dX2_plus_14 : decode cX2_plus 14 = .ok (.lload 4, 2) := by decide +kernel
theorem dX2_plus_16 : decode cX2_plus 16 = .ok (.ldc2_w 11, 3) := by decide +kernel
theorem dX2_plus_19 : decode cX2_plus 19 = .ok (.lsub, 1) := by decide +kernel
theorem dX2_plus_20 : decode cX2_plus 20 = .ok (.goto 5, 3) := by decide +kernel
theorem dX2_plus_23 : decode cX2_plus 23 = .ok (.lload 4, 2) := by decide +kernel
theorem dX2_plus_25 : decode cX2_plus 25 = .ok (.lreturn, 1) := by decide +kernel
theorem dX2_minus_0 : decode cX2_minus 0 = .ok (.lload_n 0, 1) := by decide +kernel
theorem dX2_minus_1 : decode cX2_minus 1 = .ok (.lload_n 2, 1) := by decide +kernel
theorem dX2_minus_2 : decode cX2_minus 2 = .ok (.lcmp, 1) := by decide +kernel
theorem dX2_minus_3 : decode cX2_minus 3 = .ok (.ifCond .lt 9, 3) := by decide +kernel
theorem dX2_minus_6 : decode cX2_minus 6 = .ok (.lload_n 0, 1) := by decide +kernel
theorem dX2_minus_7 : decode cX2_minus 7 = .ok (.lload_n 2, 1) := by decide +kernel
theorem dX2_minus_8 : decode cX2_minus 8 = .ok (.lsub, 1) := by decide +kernel
theorem dX2_minus_9 : decode cX2_minus 9 = .ok (.goto 10, 3) := by decide +kernel
theorem dX2_minus_12 : decode cX2_minus 12 = .ok (.lload_n 0, 1) := by decide +kernel
theorem dX2_minus_13 : decode cX2_minus 13 = .ok (.lload_n 2, 1) := by decide +kernel
theorem dX2_minus_14 : decode cX2_minus 14 = .ok (.lsub, 1) := by decide +kernel
theorem dX2_minus_15 : decode cX2_minus 15 = .ok (.ldc2_w 11, 3) := by decide +kernel
theorem dX2_minus_18 : decode cX2_minus 18 = .ok (.ladd, 1) := by decide +kernel
theorem dX2_minus_19 : decode cX2_minus 19 = .ok (.lreturn, 1) := by decide +kernel
theorem dX2_times_0 : decode cX2_times 0 = .ok (.lload_n 0, 1) := by decide +kernel
theorem dX2_times_1 : decode cX2_times 1 = .ok (.bipush 31, 2) := by decide +kernel
theorem dX2_times_3 : decode cX2_times 3 = .ok (.lushr, 1) := by decide +kernel
theorem dX2_times_4 : decode cX2_times 4 = .ok (.lstore 4, 2) := by decide +kernel
theorem dX2_times_6 : decode cX2_times 6 = .ok (.lload_n 0, 1) := by decide +kernel
theorem dX2_times_7 : decode cX2_times 7 = .ok (.ldc2_w 19, 3) := by decide +kernel
theorem dX2_times_10 : decode cX2_times 10 = .ok (.land, 1) := by decide +kernel
theorem dX2_times_11 : decode cX2_times 11 = .ok (.lstore 6, 2) := by decide +kernel
theorem dX2_times_13 : decode cX2_times 13 = .ok (.lload_n 2, 1) := by decide +kernel
theorem dX2_times_14 : decode cX2_times 14 = .ok (.bipush 31, 2) := by decide +kernel
theorem dX2_times_16 : decode cX2_times 16 = .ok (.lushr, 1) := by decide +kernel
theorem dX2_times_17 : decode cX2_times 17 = .ok (.lstore 8, 2) := by decide +kernel
theorem dX2_times_19 : decode cX2_times 19 = .ok (.lload_n 2, 1) := by decide +kernel
theorem dX2_times_20 : decode cX2_times 20 = .ok (.ldc2_w 19, 3) := by decide +kernel
theorem dX2_times_23 : decode cX2_times 23 = .ok (.land, 1) := by decide +kernel
theorem dX2_times_24 : decode cX2_times 24 = .ok (.lstore 10, 2) := by decide +kernel
theorem dX2_times_26 : decode cX2_times 26 = .ok (.lload 4, 2) := by decide +kernel
theorem dX2_times_28 : decode cX2_times 28 = .ok (.lload 10, 2) := by decide +kernel
theorem dX2_times_30 : decode cX2_times 30 = .ok (.lmul, 1) := by decide +kernel
theorem dX2_times_31 : decode cX2_times 31 = .ok (.lload 6, 2) := by decide +kernel
theorem dX2_times_33 : decode cX2_times 33 = .ok (.lload 8, 2) := by decide +kernel
theorem dX2_times_35 : decode cX2_times 35 = .ok (.lmul, 1) := by decide +kernel
theorem dX2_times_36 : decode cX2_times 36 = .ok (.ladd, 1) := by decide +kernel
theorem dX2_times_37 : decode cX2_times 37 = .ok (.lstore 12, 2) := by decide +kernel
theorem dX2_times_39 : decode cX2_times 39 = .ok (.lload 12, 2) := by decide +kernel
theorem dX2_times_41 : decode cX2_times 41 = .ok (.bipush 30, 2) := by decide +kernel
theorem dX2_times_43 : decode cX2_times 43 = .ok (.lushr, 1) := by decide +kernel
theorem dX2_times_44 : decode cX2_times 44 = .ok (.lload 12, 2) := by decide +kernel
theorem dX2_times_46 : decode cX2_times 46 = .ok (.ldc2_w 21, 3) := by decide +kernel
theorem dX2_times_49 : decode cX2_times 49 = .ok (.land, 1) := by decide +kernel
theorem dX2_times_50 : decode cX2_times 50 = .ok (.bipush 31, 2) := by decide +kernel
theorem dX2_times_52 : decode cX2_times 52 = .ok (.lshl, 1) := by decide +kernel
theorem dX2_times_53 : decode cX2_times 53 = .ok (.ladd, 1) := by decide +kernel
theorem dX2_times_54 : decode cX2_times 54 = .ok (.lstore 14, 2) := by decide +kernel
theorem dX2_times_56 : decode cX2_times 56 = .ok (.ldc2_w 23, 3) := by decide +kernel
theorem dX2_times_59 : decode cX2_times 59 = .ok (.lload 4, 2) := by decide +kernel
theorem dX2_times_61 : decode cX2_times 61 = .ok (.lmul, 1) := by decide +kernel
theorem dX2_times_62 : decode cX2_times 62 = .ok (.lload 8, 2) := by decide +kernel
theorem dX2_times_64 : decode cX2_times 64 = .ok (.lmul, 1) := by decide +kernel
theorem dX2_times_65 : decode cX2_times 65 = .ok (.lload 14, 2) := by decide +kernel
theorem dX2_times_67 : decode cX2_times 67 = .ok (.ladd, 1) := by decide +kernel
theorem dX2_times_68 : decode cX2_times 68 = .ok (.lload 6, 2) := by decide +kernel
theorem dX2_times_70 : decode cX2_times 70 = .ok (.lload 10, 2) := by decide +kernel
theorem dX2_times_72 : decode cX2_times 72 = .ok (.lmul, 1) := by decide +kernel
theorem dX2_times_73 : decode cX2_times 73 = .ok (.ladd, 1) := by decide +kernel
theorem dX2_times_74 : decode cX2_times 74 = .ok (.ldc2_w 11, 3) := by decide +kernel
theorem dX2_times_77 : decode cX2_times 77 = .ok (.lrem, 1) := by decide +kernel
theorem dX2_times_78 : decode cX2_times 78 = .ok (.lreturn, 1) := by decide +kernel
theorem dX2_inverse_0 : decode cX2_inverse 0 = .ok (.ldc2_w 11, 3) := by decide +kernel
theorem dX2_inverse_3 : decode cX2_inverse 3 = .ok (.lstore_n 2, 1) := by decide +kernel
theorem dX2_inverse_4 : decode cX2_inverse 4 = .ok (.lconst 0, 1) := by decide +kernel
theorem dX2_inverse_5 : decode cX2_inverse 5 = .ok (.lstore 4, 2) := by decide +kernel
theorem dX2_inverse_7 : decode cX2_inverse 7 = .ok (.lload_n 0, 1) := by decide +kernel
theorem dX2_inverse_8 : decode cX2_inverse 8 = .ok (.lstore 6, 2) := by decide +kernel
theorem dX2_inverse_10 : decode cX2_inverse 10 = .ok (.lconst 1, 1) := by decide +kernel
theorem dX2_inverse_11 : decode cX2_inverse 11 = .ok (.lstore 8, 2) := by decide +kernel
theorem dX2_inverse_13 : decode cX2_inverse 13 = .ok (.iconst 0, 1) := by decide +kernel
theorem dX2_inverse_14 : decode cX2_inverse 14 = .ok (.istore 10, 2) := by decide +kernel
theorem dX2_inverse_16 : decode cX2_inverse 16 = .ok (.iload 10, 2) := by decide +kernel
theorem dX2_inverse_18 : decode cX2_inverse 18 = .ok (.bipush 100, 2) := by decide +kernel
theorem dX2_inverse_20 : decode cX2_inverse 20 = .ok (.if_icmp .ge 56, 3) := by decide +kernel
theorem dX2_inverse_23 : decode cX2_inverse 23 = .ok (.lload 6, 2) := by decide +kernel
theorem dX2_inverse_25 : decode cX2_inverse 25 = .ok (.lconst 0, 1) := by decide +kernel
theorem dX2_inverse_26 : decode cX2_inverse 26 = .ok (.lcmp, 1) := by decide +kernel
theorem dX2_inverse_27 : decode cX2_inverse 27 = .ok (.ifCond .eq 49, 3) := by decide +kernel
theorem dX2_inverse_30 : decode cX2_inverse 30 = .ok (.lload_n 2, 1) := by decide +kernel
theorem dX2_inverse_31 : decode cX2_inverse 31 = .ok (.lload 6, 2) := by decide +kernel
theorem dX2_inverse_33 : decode cX2_inverse 33 = .ok (.ldiv, 1) := by decide +kernel
theorem dX2_inverse_34 : decode cX2_inverse 34 = .ok (.lstore 11, 2) := by decide +kernel
theorem dX2_inverse_36 : decode cX2_inverse 36 = .ok (.lload_n 2, 1) := by decide +kernel
theorem dX2_inverse_37 : decode cX2_inverse 37 = .ok (.lload 11, 2) := by decide +kernel
theorem dX2_inverse_39 : decode cX2_inverse 39 = .ok (.lload 6, 2) := by decide +kernel
theorem dX2_inverse_41 : decode cX2_inverse 41 = .ok (.lmul, 1) := by decide +kernel
theorem dX2_inverse_42 : decode cX2_inverse 42 = .ok (.lsub, 1) := by decide +kernel
theorem dX2_inverse_43 : decode cX2_inverse 43 = .ok (.lstore 13, 2) := by decide +kernel
theorem dX2_inverse_45 : decode cX2_inverse 45 = .ok (.lload 4, 2) := by decide +kernel
theorem dX2_inverse_47 : decode cX2_inverse 47 = .ok (.lload 11, 2) := by decide +kernel
theorem dX2_inverse_49 : decode cX2_inverse 49 = .ok (.lload 8, 2) := by decide +kernel
theorem dX2_inverse_51 : decode cX2_inverse 51 = .ok (.lmul, 1) := by decide +kernel
theorem dX2_inverse_52 : decode cX2_inverse 52 = .ok (.lsub, 1) := by decide +kernel
theorem dX2_inverse_53 : decode cX2_inverse 53 = .ok (.lstore 15, 2) := by decide +kernel
theorem dX2_inverse_55 : decode cX2_inverse 55 = .ok (.lload 6, 2) := by decide +kernel
theorem dX2_inverse_57 : decode cX2_inverse 57 = .ok (.lstore_n 2, 1) := by decide +kernel
theorem dX2_inverse_58 : decode cX2_inverse 58 = .ok (.lload 8, 2) := by decide +kernel
theorem dX2_inverse_60 : decode cX2_inverse 60 = .ok (.lstore 4, 2) := by decide +kernel
theorem dX2_inverse_62 : decode cX2_inverse 62 = .ok (.lload 13, 2) := by decide +kernel
theorem dX2_inverse_64 : decode cX2_inverse 64 = .ok (.lstore 6, 2) := by decide +kernel
theorem dX2_inverse_66 : decode cX2_inverse 66 = .ok (.lload 15, 2) := by decide +kernel
theorem dX2_inverse_68 : decode cX2_inverse 68 = .ok (.lstore 8, 2) := by decide +kernel
theorem dX2_inverse_70 : decode cX2_inverse 70 = .ok (.iinc 10 1, 3) := by decide +kernel
theorem dX2_inverse_73 : decode cX2_inverse 73 = .ok (.goto (-57), 3) := by decide +kernel
theorem dX2_inverse_76 : decode cX2_inverse 76 = .ok (.lload 4, 2) := by decide +kernel
theorem dX2_inverse_78 : decode cX2_inverse 78 = .ok (.invokestatic 25, 3) := by decide +kernel
theorem dX2_inverse_81 : decode cX2_inverse 81 = .ok (.lreturn, 1) := by decide +kernel
theorem dX3_init_0 : decode cX3_init 0 = .ok (.aload_n 0, 1) := by decide +kernel
theorem dX3_init_1 : decode cX3_init 1 = .ok (.invokespecial 3, 3) := by decide +kernel
theorem dX3_init_4 : decode cX3_init 4 = .ok (.aload_n 0, 1) := by decide +kernel
theorem dX3_init_5 : decode cX3_init 5 = .ok (.bipush 17, 2) := by decide +kernel
theorem dX3_init_7 : decode cX3_init 7 = .ok (.newarray .long, 2) := by decide +kernel
theorem dX3_init_9 : decode cX3_init 9 = .ok (.putfield 9, 3) := by decide +kernel
theorem dX3_init_12 : decode cX3_init 12 = .ok (.aload_n 0, 1) := by decide +kernel
theorem dX3_init_13 : decode cX3_init 13 = .ok (.bipush 17, 2) := by decide +kernel
theorem dX3_init_15 : decode cX3_init 15 = .ok (.newarray .boolean, 2) := by decide +kernel
theorem dX3_init_17 : decode cX3_init 17 = .ok (.putfield 15, 3) := by decide +kernel
theorem dX3_init_20 : decode cX3_init 20 = .ok (.aload_n 0, 1) := by decide +kernel
theorem dX3_init_21 : decode cX3_init 21 = .ok (.iconst 0, 1) := by decide +kernel
theorem dX3_init_22 : decode cX3_init 22 = .ok (.putfield 19, 3) := by decide +kernel
theorem dX3_init_25 : decode cX3_init 25 = .ok (.aload_n 0, 1) := by decide +kernel
theorem dX3_init_26 : decode cX3_init 26 = .ok (.iconst 0, 1) := by decide +kernel
theorem dX3_init_27 : decode cX3_init 27 = .ok (.putfield 23, 3) := by decide +kernel
theorem dX3_init_30 : decode cX3_init 30 = .ok (.return_, 1) := by decide +kernel
theorem dX3_shape_0 : decode cX3_shape 0 = .ok (.aload_n 0, 1) := by decide +kernel
theorem dX3_shape_1 : decode cX3_shape 1 = .ok (.iload_n 1, 1) := by decide +kernel
theorem dX3_shape_2 : decode cX3_shape 2 = .ok (.putfield 19, 3) := by decide +kernel
theorem dX3_shape_5 : decode cX3_shape 5 = .ok (.aload_n 0, 1) := by decide +kernel
theorem dX3_shape_6 : decode cX3_shape 6 = .ok (.iload_n 2, 1) := by decide +kernel
theorem dX3_shape_7 : decode cX3_shape 7 = .ok (.putfield 23, 3) := by decide +kernel
theorem dX3_shape_10 : decode cX3_shape 10 = .ok (.return_, 1) := by decide +kernel
theorem dX3_hasPlace_0 : decode cX3_hasPlace 0 = .ok (.iload_n 1, 1) := by decide +kernel
theorem dX3_hasPlace_1 : decode cX3_hasPlace 1 = .ok (.iconst 1, 1) := by decide +kernel
theorem dX3_hasPlace_2 : decode cX3_hasPlace 2 = .ok (.if_icmp .lt 15, 3) := by decide +kernel
theorem dX3_hasPlace_5 : decode cX3_hasPlace 5 = .ok (.iload_n 1, 1) := by decide +kernel
theorem dX3_hasPlace_6 : decode cX3_hasPlace 6 = .ok (.aload_n 0, 1) := by decide +kernel
theorem dX3_hasPlace_7 : decode cX3_hasPlace 7 = .ok (.getfield 23, 3) := by decide +kernel
theorem dX3_hasPlace_10 : decode cX3_hasPlace 10 = .ok (.if_icmp .gt 7, 3) := by decide +kernel
theorem dX3_hasPlace_13 : decode cX3_hasPlace 13 = .ok (.iconst 1, 1) := by decide +kernel
theorem dX3_hasPlace_14 : decode cX3_hasPlace 14 = .ok (.goto 4, 3) := by decide +kernel
theorem dX3_hasPlace_17 : decode cX3_hasPlace 17 = .ok (.iconst 0, 1) := by decide +kernel
theorem dX3_hasPlace_18 : decode cX3_hasPlace 18 = .ok (.ireturn, 1) := by decide +kernel
theorem dX3_hasShare_0 : decode cX3_hasShare 0 = .ok (.aload_n 0, 1) := by decide +kernel
theorem dX3_hasShare_1 : decode cX3_hasShare 1 = .ok (.iload_n 1, 1) := by decide +kernel
theorem dX3_hasShare_2 : decode cX3_hasShare 2 = .ok (.invokevirtual 26, 3) := by decide +kernel
theorem dX3_hasShare_5 : decode cX3_hasShare 5 = .ok (.ifCond .eq 16, 3) := by decide +kernel
theorem dX3_hasShare_8 : decode cX3_hasShare 8 = .ok (.aload_n 0, 1) := by decide +kernel
theorem dX3_hasShare_9 : decode cX3_hasShare 9 = .ok (.getfield 15, 3) := by decide +kernel
theorem dX3_hasShare_12 : decode cX3_hasShare 12 = .ok (.iload_n 1, 1) := by decide +kernel
theorem dX3_hasShare_13 : decode cX3_hasShare 13 = .ok (.baload, 1) := by decide +kernel
theorem dX3_hasShare_14 : decode cX3_hasShare 14 = .ok (.ifCond .eq 7, 3) := by decide +kernel
theorem dX3_hasShare_17 : decode cX3_hasShare 17 = .ok (.iconst 1, 1) := by decide +kernel
theorem dX3_hasShare_18 : decode cX3_hasShare 18 = .ok (.goto 4, 3) := by decide +kernel
theorem dX3_hasShare_21 : decode cX3_hasShare 21 = .ok (.iconst 0, 1) := by decide +kernel
theorem dX3_hasShare_22 : decode cX3_hasShare 22 = .ok (.ireturn, 1) := by decide +kernel
theorem dX3_keep_0 : decode cX3_keep 0 = .ok (.aload_n 0, 1) := by decide +kernel
theorem dX3_keep_1 : decode cX3_keep 1 = .ok (.getfield 9, 3) := by decide +kernel
theorem dX3_keep_4 : decode cX3_keep 4 = .ok (.iload_n 1, 1) := by decide +kernel
theorem dX3_keep_5 : decode cX3_keep 5 = .ok (.lload_n 2, 1) := by decide +kernel
theorem dX3_keep_6 : decode cX3_keep 6 = .ok (.lastore, 1) := by decide +kernel
theorem dX3_keep_7 : decode cX3_keep 7 = .ok (.aload_n 0, 1) := by decide +kernel
theorem dX3_keep_8 : decode cX3_keep 8 = .ok (.getfield 15, 3) := by decide +kernel
theorem dX3_keep_11 : decode cX3_keep 11 = .ok (.iload_n 1, 1) := by decide +kernel
theorem dX3_keep_12 : decode cX3_keep 12 = .ok (.iconst 1, 1) := by decide +kernel
theorem dX3_keep_13 : decode cX3_keep 13 = .ok (.bastore, 1) := by decide +kernel
theorem dX3_keep_14 : decode cX3_keep 14 = .ok (.return_, 1) := by decide +kernel
theorem dX3_drop_0 : decode cX3_drop 0 = .ok (.aload_n 0, 1) := by decide +kernel
theorem dX3_drop_1 : decode cX3_drop 1 = .ok (.getfield 15, 3) := by decide +kernel
theorem dX3_drop_4 : decode cX3_drop 4 = .ok (.iload_n 1, 1) := by decide +kernel
theorem dX3_drop_5 : decode cX3_drop 5 = .ok (.iconst 0, 1) := by decide +kernel
theorem dX3_drop_6 : decode cX3_drop 6 = .ok (.bastore, 1) := by decide +kernel
theorem dX3_drop_7 : decode cX3_drop 7 = .ok (.return_, 1) := by decide +kernel
theorem dX3_fill_0 : decode cX3_fill 0 = .ok (.iconst 1, 1) := by decide +kernel
theorem dX3_fill_1 : decode cX3_fill 1 = .ok (.istore_n 2, 1) := by decide +kernel
theorem dX3_fill_2 : decode cX3_fill 2 = .ok (.iload_n 2, 1) := by decide +kernel
theorem dX3_fill_3 : decode cX3_fill 3 = .ok (.aload_n 0, 1) := by decide +kernel
theorem dX3_fill_4 : decode cX3_fill 4 = .ok (.getfield 23, 3) := by decide +kernel
theorem dX3_fill_7 : decode cX3_fill 7 = .ok (.if_icmp .gt 20, 3) := by decide +kernel
theorem dX3_fill_10 : decode cX3_fill 10 = .ok (.aload_n 0, 1) := by decide +kernel
theorem dX3_fill_11 : decode cX3_fill 11 = .ok (.iload_n 2, 1) := by decide +kernel
theorem dX3_fill_12 : decode cX3_fill 12 = .ok (.aload_n 1, 1) := by decide +kernel
theorem dX3_fill_13 : decode cX3_fill 13 = .ok (.iload_n 2, 1) := by decide +kernel
theorem dX3_fill_14 : decode cX3_fill 14 = .ok (.i2l, 1) := by decide +kernel
theorem dX3_fill_15 : decode cX3_fill 15 = .ok (.invokevirtual 30, 3) := by decide +kernel
theorem dX3_fill_18 : decode cX3_fill 18 = .ok (.invokevirtual 36, 3) := by decide +kernel
theorem dX3_fill_21 : decode cX3_fill 21 = .ok (.iinc 2 1, 3) := by decide +kernel
theorem dX3_fill_24 : decode cX3_fill 24 = .ok (.goto (-22), 3) := by decide +kernel
theorem dX3_fill_27 : decode cX3_fill 27 = .ok (.return_, 1) := by decide +kernel
theorem dX3_countThere_0 : decode cX3_countThere 0 = .ok (.iconst 0, 1) := by decide +kernel
theorem dX3_countThere_1 : decode cX3_countThere 1 = .ok (.istore_n 1, 1) := by decide +kernel
theorem dX3_countThere_2 : decode cX3_countThere 2 = .ok (.iconst 1, 1) := by decide +kernel
theorem dX3_countThere_3 : decode cX3_countThere 3 = .ok (.istore_n 2, 1) := by decide +kernel
theorem dX3_countThere_4 : decode cX3_countThere 4 = .ok (.iload_n 2, 1) := by decide +kernel
theorem dX3_countThere_5 : decode cX3_countThere 5 = .ok (.aload_n 0, 1) := by decide +kernel
theorem dX3_countThere_6 : decode cX3_countThere 6 = .ok (.getfield 23, 3) := by decide +kernel
theorem dX3_countThere_9 : decode cX3_countThere 9 = .ok (.if_icmp .gt 21, 3) := by decide +kernel
theorem dX3_countThere_12 : decode cX3_countThere 12 = .ok (.aload_n 0, 1) := by decide +kernel
theorem dX3_countThere_13 : decode cX3_countThere 13 = .ok (.getfield 15, 3) := by decide +kernel
theorem dX3_countThere_16 : decode cX3_countThere 16 = .ok (.iload_n 2, 1) := by decide +kernel
theorem dX3_countThere_17 : decode cX3_countThere 17 = .ok (.baload, 1) := by decide +kernel
theorem dX3_countThere_18 : decode cX3_countThere 18 = .ok (.ifCond .eq 6, 3) := by decide +kernel
theorem dX3_countThere_21 : decode cX3_countThere 21 = .ok (.iinc 1 1, 3) := by decide +kernel
theorem dX3_countThere_24 : decode cX3_countThere 24 = .ok (.iinc 2 1, 3) := by decide +kernel
theorem dX3_countThere_27 : decode cX3_countThere 27 = .ok (.goto (-23), 3) := by decide +kernel
theorem dX3_countThere_30 : decode cX3_countThere 30 = .ok (.iload_n 1, 1) := by decide +kernel
theorem dX3_countThere_31 : decode cX3_countThere 31 = .ok (.ireturn, 1) := by decide +kernel
theorem dX3_isMissedBy_0 : decode cX3_isMissedBy 0 = .ok (.aload_n 0, 1) := by decide +kernel
theorem dX3_isMissedBy_1 : decode cX3_isMissedBy 1 = .ok (.iload_n 2, 1) := by decide +kernel
theorem dX3_isMissedBy_2 : decode cX3_isMissedBy 2 = .ok (.invokevirtual 40, 3) := by decide +kernel
theorem dX3_isMissedBy_5 : decode cX3_isMissedBy 5 = .ok (.ifCond .eq 23, 3) := by decide +kernel
theorem dX3_isMissedBy_8 : decode cX3_isMissedBy 8 = .ok (.aload_n 0, 1) := by decide +kernel
theorem dX3_isMissedBy_9 : decode cX3_isMissedBy 9 = .ok (.getfield 9, 3) := by decide +kernel
theorem dX3_isMissedBy_12 : decode cX3_isMissedBy 12 = .ok (.iload_n 2, 1) := by decide +kernel
theorem dX3_isMissedBy_13 : decode cX3_isMissedBy 13 = .ok (.laload, 1) := by decide +kernel
theorem dX3_isMissedBy_14 : decode cX3_isMissedBy 14 = .ok (.aload_n 1, 1) := by decide +kernel
theorem dX3_isMissedBy_15 : decode cX3_isMissedBy 15 = .ok (.iload_n 2, 1) := by decide +kernel
theorem dX3_isMissedBy_16 : decode cX3_isMissedBy 16 = .ok (.i2l, 1) := by decide +kernel
theorem dX3_isMissedBy_17 : decode cX3_isMissedBy 17 = .ok (.invokevirtual 30, 3) := by decide +kernel
theorem dX3_isMissedBy_20 : decode cX3_isMissedBy 20 = .ok (.lcmp, 1) := by decide +kernel
theorem dX3_isMissedBy_21 : decode cX3_isMissedBy 21 = .ok (.ifCond .eq 7, 3) := by decide +kernel
theorem dX3_isMissedBy_24 : decode cX3_isMissedBy 24 = .ok (.iconst 1, 1) := by decide +kernel
theorem dX3_isMissedBy_25 : decode cX3_isMissedBy 25 = .ok (.goto 4, 3) := by decide +kernel
theorem dX3_isMissedBy_28 : decode cX3_isMissedBy 28 = .ok (.iconst 0, 1) := by decide +kernel
theorem dX3_isMissedBy_29 : decode cX3_isMissedBy 29 = .ok (.ireturn, 1) := by decide +kernel
theorem dX3_countMissedBy_0 : decode cX3_countMissedBy 0 = .ok (.iconst 0, 1) := by decide +kernel
theorem dX3_countMissedBy_1 : decode cX3_countMissedBy 1 = .ok (.istore_n 2, 1) := by decide +kernel
theorem dX3_countMissedBy_2 : decode cX3_countMissedBy 2 = .ok (.iconst 1, 1) := by decide +kernel
theorem dX3_countMissedBy_3 : decode cX3_countMissedBy 3 = .ok (.istore_n 3, 1) := by decide +kernel
theorem dX3_countMissedBy_4 : decode cX3_countMissedBy 4 = .ok (.iload_n 3, 1) := by decide +kernel
theorem dX3_countMissedBy_5 : decode cX3_countMissedBy 5 = .ok (.aload_n 0, 1) := by decide +kernel
theorem dX3_countMissedBy_6 : decode cX3_countMissedBy 6 = .ok (.getfield 23, 3) := by decide +kernel
theorem dX3_countMissedBy_9 : decode cX3_countMissedBy 9 = .ok (.if_icmp .gt 21, 3) := by decide +kernel
theorem dX3_countMissedBy_12 : decode cX3_countMissedBy 12 = .ok (.aload_n 0, 1) := by decide +kernel
theorem dX3_countMissedBy_13 : decode cX3_countMissedBy 13 = .ok (.aload_n 1, 1) := by decide +kernel
theorem dX3_countMissedBy_14 : decode cX3_countMissedBy 14 = .ok (.iload_n 3, 1) := by decide +kernel
theorem dX3_countMissedBy_15 : decode cX3_countMissedBy 15 = .ok (.invokevirtual 43, 3) := by decide +kernel
theorem dX3_countMissedBy_18 : decode cX3_countMissedBy 18 = .ok (.ifCond .eq 6, 3) := by decide +kernel
theorem dX3_countMissedBy_21 : decode cX3_countMissedBy 21 = .ok (.iinc 2 1, 3) := by decide +kernel
theorem dX3_countMissedBy_24 : decode cX3_countMissedBy 24 = .ok (.iinc 3 1, 3) := by decide +kernel
theorem dX3_countMissedBy_27 : decode cX3_countMissedBy 27 = .ok (.goto (-23), 3) := by decide +kernel
theorem dX3_countMissedBy_30 : decode cX3_countMissedBy 30 = .ok (.iload_n 2, 1) := by decide +kernel
theorem dX3_countMissedBy_31 : decode cX3_countMissedBy 31 = .ok (.ireturn, 1) := by decide +kernel
theorem dX4_init_0 : decode cX4_init 0 = .ok (.aload_n 0, 1) := by decide +kernel
theorem dX4_init_1 : decode cX4_init 1 = .ok (.invokespecial 1, 3) := by decide +kernel
theorem dX4_init_4 : decode cX4_init 4 = .ok (.aload_n 0, 1) := by decide +kernel
theorem dX4_init_5 : decode cX4_init 5 = .ok (.bipush 8, 2) := by decide +kernel
theorem dX4_init_7 : decode cX4_init 7 = .ok (.anewarray 9, 3) := by decide +kernel
theorem dX4_init_10 : decode cX4_init 10 = .ok (.putfield 11, 3) := by decide +kernel
theorem dX4_init_13 : decode cX4_init 13 = .ok (.aload_n 0, 1) := by decide +kernel
theorem dX4_init_14 : decode cX4_init 14 = .ok (.new 15, 3) := by decide +kernel
theorem dX4_init_17 : decode cX4_init 17 = .ok (.dup, 1) := by decide +kernel
theorem dX4_init_18 : decode cX4_init 18 = .ok (.invokespecial 17, 3) := by decide +kernel
theorem dX4_init_21 : decode cX4_init 21 = .ok (.putfield 18, 3) := by decide +kernel
theorem dX4_init_24 : decode cX4_init 24 = .ok (.aload_n 0, 1) := by decide +kernel
theorem dX4_init_25 : decode cX4_init 25 = .ok (.new 22, 3) := by decide +kernel
theorem dX4_init_28 : decode cX4_init 28 = .ok (.dup, 1) := by decide +kernel
theorem dX4_init_29 : decode cX4_init 29 = .ok (.invokespecial 24, 3) := by decide +kernel
theorem dX4_init_32 : decode cX4_init 32 = .ok (.putfield 25, 3) := by decide +kernel
theorem dX4_init_35 : decode cX4_init 35 = .ok (.aload_n 0, 1) := by decide +kernel
theorem dX4_init_36 : decode cX4_init 36 = .ok (.new 15, 3) := by decide +kernel
theorem dX4_init_39 : decode cX4_init 39 = .ok (.dup, 1) := by decide +kernel
theorem dX4_init_40 : decode cX4_init 40 = .ok (.invokespecial 17, 3) := by decide +kernel
theorem dX4_init_43 : decode cX4_init 43 = .ok (.putfield 29, 3) := by decide +kernel
theorem dX4_init_46 : decode cX4_init 46 = .ok (.aload_n 0, 1) := by decide +kernel
theorem dX4_init_47 : decode cX4_init 47 = .ok (.bipush 17, 2) := by decide +kernel
theorem dX4_init_49 : decode cX4_init 49 = .ok (.newarray .boolean, 2) := by decide +kernel
theorem dX4_init_51 : decode cX4_init 51 = .ok (.putfield 32, 3) := by decide +kernel
theorem dX4_init_54 : decode cX4_init 54 = .ok (.aload_n 0, 1) := by decide +kernel
theorem dX4_init_55 : decode cX4_init 55 = .ok (.iconst (-1), 1) := by decide +kernel
theorem dX4_init_56 : decode cX4_init 56 = .ok (.putfield 36, 3) := by decide +kernel
theorem dX4_init_59 : decode cX4_init 59 = .ok (.iconst 0, 1) := by decide +kernel
theorem dX4_init_60 : decode cX4_init 60 = .ok (.istore_n 1, 1) := by decide +kernel
theorem dX4_init_61 : decode cX4_init 61 = .ok (.iload_n 1, 1) := by decide +kernel
theorem dX4_init_62 : decode cX4_init 62 = .ok (.bipush 8, 2) := by decide +kernel
theorem dX4_init_64 : decode cX4_init 64 = .ok (.if_icmp .ge 22, 3) := by decide +kernel
theorem dX4_init_67 : decode cX4_init 67 = .ok (.aload_n 0, 1) := by decide +kernel
theorem dX4_init_68 : decode cX4_init 68 = .ok (.getfield 11, 3) := by decide +kernel
theorem dX4_init_71 : decode cX4_init 71 = .ok (.iload_n 1, 1) := by decide +kernel
theorem dX4_init_72 : decode cX4_init 72 = .ok (.new 9, 3) := by decide +kernel
theorem dX4_init_75 : decode cX4_init 75 = .ok (.dup, 1) := by decide +kernel
theorem dX4_init_76 : decode cX4_init 76 = .ok (.invokespecial 40, 3) := by decide +kernel
theorem dX4_init_79 : decode cX4_init 79 = .ok (.aastore, 1) := by decide +kernel
theorem dX4_init_80 : decode cX4_init 80 = .ok (.iinc 1 1, 3) := by decide +kernel
theorem dX4_init_83 : decode cX4_init 83 = .ok (.goto (-22), 3) := by decide +kernel
theorem dX4_init_86 : decode cX4_init 86 = .ok (.return_, 1) := by decide +kernel
theorem dX4_deal_0 : decode cX4_deal 0 = .ok (.aload_n 0, 1) := by decide +kernel
theorem dX4_deal_1 : decode cX4_deal 1 = .ok (.iload_n 1, 1) := by decide +kernel
theorem dX4_deal_2 : decode cX4_deal 2 = .ok (.invokevirtual 41, 3) := by decide +kernel
theorem dX4_deal_5 : decode cX4_deal 5 = .ok (.astore 8, 2) := by decide +kernel
theorem dX4_deal_7 : decode cX4_deal 7 = .ok (.aload 8, 2) := by decide +kernel
theorem dX4_deal_9 : decode cX4_deal 9 = .ok (.ifnull 26, 3) := by decide +kernel
theorem dX4_deal_12 : decode cX4_deal 12 = .ok (.iload_n 2, 1) := by decide +kernel
theorem dX4_deal_13 : decode cX4_deal 13 = .ok (.ifCond .lt 22, 3) := by decide +kernel
theorem dX4_deal_16 : decode cX4_deal 16 = .ok (.iload_n 2, 1) := by decide +kernel
theorem dX4_deal_17 : decode cX4_deal 17 = .ok (.bipush 8, 2) := by decide +kernel
theorem dX4_deal_19 : decode cX4_deal 19 = .ok (.if_icmp .gt 16, 3) := by decide +kernel
theorem dX4_deal_22 : decode cX4_deal 22 = .ok (.iload_n 3, 1) := by decide +kernel
theorem dX4_deal_23 : decode cX4_deal 23 = .ok (.iload_n 2, 1) := by decide +kernel
theorem dX4_deal_24 : decode cX4_deal 24 = .ok (.iconst 1, 1) := by decide +kernel
theorem dX4_deal_25 : decode cX4_deal 25 = .ok (.iadd, 1) := by decide +kernel
theorem dX4_deal_26 : decode cX4_deal 26 = .ok (.if_icmp .lt 9, 3) := by decide +kernel
theorem dX4_deal_29 : decode cX4_deal 29 = .ok (.iload_n 3, 1) := by decide +kernel
theorem dX4_deal_30 : decode cX4_deal 30 = .ok (.bipush 16, 2) := by decide +kernel
theorem dX4_deal_32 : decode cX4_deal 32 = .ok (.if_icmp .le 5, 3) := by decide +kernel
theorem dX4_deal_35 : decode cX4_deal 35 = .ok (.iconst 0, 1) := by decide +kernel
theorem dX4_deal_36 : decode cX4_deal 36 = .ok (.ireturn, 1) := by decide +kernel
theorem dX4_deal_37 : decode cX4_deal 37 = .ok (.aload_n 0, 1) := by decide +kernel
theorem dX4_deal_38 : decode cX4_deal 38 = .ok (.getfield 18, 3) := by decide +kernel
theorem dX4_deal_41 : decode cX4_deal 41 = .ok (.lload 4, 2) := by decide +kernel
theorem dX4_deal_43 : decode cX4_deal 43 = .ok (.invokestatic 45, 3) := by decide +kernel
theorem dX4_deal_46 : decode cX4_deal 46 = .ok (.iload_n 2, 1) := by decide +kernel
theorem dX4_deal_47 : decode cX4_deal 47 = .ok (.lload 6, 2) := by decide +kernel
theorem dX4_deal_49 : decode cX4_deal 49 = .ok (.invokevirtual 51, 3) := by decide +kernel
theorem dX4_deal_52 : decode cX4_deal 52 = .ok (.aload 8, 2) := by decide +kernel
theorem dX4_deal_54 : decode cX4_deal 54 = .ok (.iload_n 2, 1) := by decide +kernel
theorem dX4_deal_55 : decode cX4_deal 55 = .ok (.iload_n 3, 1) := by decide +kernel
theorem dX4_deal_56 : decode cX4_deal 56 = .ok (.invokevirtual 55, 3) := by decide +kernel
theorem dX4_deal_59 : decode cX4_deal 59 = .ok (.aload 8, 2) := by decide +kernel
theorem dX4_deal_61 : decode cX4_deal 61 = .ok (.aload_n 0, 1) := by decide +kernel
theorem dX4_deal_62 : decode cX4_deal 62 = .ok (.getfield 18, 3) := by decide +kernel
theorem dX4_deal_65 : decode cX4_deal 65 = .ok (.invokevirtual 59, 3) := by decide +kernel
theorem dX4_deal_68 : decode cX4_deal 68 = .ok (.iconst 1, 1) := by decide +kernel
theorem dX4_deal_69 : decode cX4_deal 69 = .ok (.ireturn, 1) := by decide +kernel
theorem dX4_put_0 : decode cX4_put 0 = .ok (.aload_n 0, 1) := by decide +kernel
theorem dX4_put_1 : decode cX4_put 1 = .ok (.iload_n 1, 1) := by decide +kernel
theorem dX4_put_2 : decode cX4_put 2 = .ok (.invokevirtual 41, 3) := by decide +kernel
theorem dX4_put_5 : decode cX4_put 5 = .ok (.astore 5, 2) := by decide +kernel
theorem dX4_put_7 : decode cX4_put 7 = .ok (.aload 5, 2) := by decide +kernel
theorem dX4_put_9 : decode cX4_put 9 = .ok (.ifnull 12, 3) := by decide +kernel
theorem dX4_put_12 : decode cX4_put 12 = .ok (.aload 5, 2) := by decide +kernel
theorem dX4_put_14 : decode cX4_put 14 = .ok (.iload_n 2, 1) := by decide +kernel
theorem dX4_put_15 : decode cX4_put 15 = .ok (.invokevirtual 63, 3) := by decide +kernel
theorem dX4_put_18 : decode cX4_put 18 = .ok (.ifCond .ne 5, 3) := by decide +kernel
theorem dX4_put_21 : decode cX4_put 21 = .ok (.iconst 0, 1) := by decide +kernel
theorem dX4_put_22 : decode cX4_put 22 = .ok (.ireturn, 1) := by decide +kernel
theorem dX4_put_23 : decode cX4_put 23 = .ok (.aload 5, 2) := by decide +kernel
theorem dX4_put_25 : decode cX4_put 25 = .ok (.iload_n 2, 1) := by decide +kernel
theorem dX4_put_26 : decode cX4_put 26 = .ok (.lload_n 3, 1) := by decide +kernel
theorem dX4_put_27 : decode cX4_put 27 = .ok (.invokestatic 45, 3) := by decide +kernel
theorem dX4_put_30 : decode cX4_put 30 = .ok (.invokevirtual 67, 3) := by decide +kernel
theorem dX4_put_33 : decode cX4_put 33 = .ok (.iconst 1, 1) := by decide +kernel
theorem dX4_put_34 : decode cX4_put 34 = .ok (.ireturn, 1) := by decide +kernel
theorem dX4_lose_0 : decode cX4_lose 0 = .ok (.aload_n 0, 1) := by decide +kernel
theorem dX4_lose_1 : decode cX4_lose 1 = .ok (.iload_n 1, 1) := by decide +kernel
theorem dX4_lose_2 : decode cX4_lose 2 = .ok (.invokevirtual 41, 3) := by decide +kernel
theorem dX4_lose_5 : decode cX4_lose 5 = .ok (.astore_n 3, 1) := by decide +kernel
theorem dX4_lose_6 : decode cX4_lose 6 = .ok (.aload_n 3, 1) := by decide +kernel
theorem dX4_lose_7 : decode cX4_lose 7 = .ok (.ifnull 11, 3) := by decide +kernel
theorem dX4_lose_10 : decode cX4_lose 10 = .ok (.aload_n 3, 1) := by decide +kernel
theorem dX4_lose_11 : decode cX4_lose 11 = .ok (.iload_n 2, 1) := by decide +kernel
theorem dX4_lose_12 : decode cX4_lose 12 = .ok (.invokevirtual 71, 3) := by decide +kernel
theorem dX4_lose_15 : decode cX4_lose 15 = .ok (.ifCond .ne 5, 3) := by decide +kernel
theorem dX4_lose_18 : decode cX4_lose 18 = .ok (.iconst 0, 1) := by decide +kernel
theorem dX4_lose_19 : decode cX4_lose 19 = .ok (.ireturn, 1) := by decide +kernel
theorem dX4_lose_20 : decode cX4_lose 20 = .ok (.aload_n 3, 1) := by decide +kernel
theorem dX4_lose_21 : decode cX4_lose 21 = .ok (.iload_n 2, 1) := by decide +kernel
theorem dX4_lose_22 : decode cX4_lose 22 = .ok (.invokevirtual 74, 3) := by decide +kernel
theorem dX4_lose_25 : decode cX4_lose 25 = .ok (.iconst 1, 1) := by decide +kernel
theorem dX4_lose_26 : decode cX4_lose 26 = .ok (.ireturn, 1) := by decide +kernel
theorem dX4_join_0 : decode cX4_join 0 = .ok (.aload_n 0, 1) := by decide +kernel
theorem dX4_join_1 : decode cX4_join 1 = .ok (.iload_n 1, 1) := by decide +kernel
theorem dX4_join_2 : decode cX4_join 2 = .ok (.invokevirtual 41, 3) := by decide +kernel
theorem dX4_join_5 : decode cX4_join 5 = .ok (.astore 5, 2) := by decide +kernel
theorem dX4_join_7 : decode cX4_join 7 = .ok (.aload_n 0, 1) := by decide +kernel
theorem dX4_join_8 : decode cX4_join 8 = .ok (.iload_n 2, 1) := by decide +kernel
theorem dX4_join_9 : decode cX4_join 9 = .ok (.invokevirtual 41, 3) := by decide +kernel
theorem dX4_join_12 : decode cX4_join 12 = .ok (.astore 6, 2) := by decide +kernel
theorem dX4_join_14 : decode cX4_join 14 = .ok (.aload_n 0, 1) := by decide +kernel
theorem dX4_join_15 : decode cX4_join 15 = .ok (.iload_n 3, 1) := by decide +kernel
theorem dX4_join_16 : decode cX4_join 16 = .ok (.invokevirtual 41, 3) := by decide +kernel
theorem dX4_join_19 : decode cX4_join 19 = .ok (.astore 7, 2) := by decide +kernel
theorem dX4_join_21 : decode cX4_join 21 = .ok (.aload 5, 2) := by decide +kernel
theorem dX4_join_23 : decode cX4_join 23 = .ok (.ifnull 24, 3) := by decide +kernel
theorem dX4_join_26 : decode cX4_join 26 = .ok (.aload 6, 2) := by decide +kernel
theorem dX4_join_28 : decode cX4_join 28 = .ok (.ifnull 19, 3) := by decide +kernel
theorem dX4_join_31 : decode cX4_join 31 = .ok (.aload 7, 2) := by decide +kernel
theorem dX4_join_33 : decode cX4_join 33 = .ok (.ifnull 14, 3) := by decide +kernel
theorem dX4_join_36 : decode cX4_join 36 = .ok (.iload 4, 2) := by decide +kernel
theorem dX4_join_38 : decode cX4_join 38 = .ok (.ifCond .lt 9, 3) := by decide +kernel
theorem dX4_join_41 : decode cX4_join 41 = .ok (.iload 4, 2) := by decide +kernel
theorem dX4_join_43 : decode cX4_join 43 = .ok (.iconst 2, 1) := by decide +kernel
theorem dX4_join_44 : decode cX4_join 44 = .ok (.if_icmp .le 5, 3) := by decide +kernel
theorem dX4_join_47 : decode cX4_join 47 = .ok (.iconst 0, 1) := by decide +kernel
theorem dX4_join_48 : decode cX4_join 48 = .ok (.ireturn, 1) := by decide +kernel
theorem dX4_join_49 : decode cX4_join 49 = .ok (.iload 4, 2) := by decide +kernel
theorem dX4_join_51 : decode cX4_join 51 = .ok (.iconst 2, 1) := by decide +kernel
theorem dX4_join_52 : decode cX4_join 52 = .ok (.if_icmp .ne 17, 3) := by decide +kernel
theorem dX4_join_55 : decode cX4_join 55 = .ok (.aload 6, 2) := by decide +kernel
theorem dX4_join_57 : decode cX4_join 57 = .ok (.getfield 78, 3) := by decide +kernel
theorem dX4_join_60 : decode cX4_join 60 = .ok (.aload 7, 2) := by decide +kernel
theorem dX4_join_62 : decode cX4_join 62 = .ok (.getfield 78, 3) := by decide +kernel
theorem dX4_join_65 : decode cX4_join 65 = .ok (.iadd, 1) := by decide +kernel
theorem dX4_join_66 : decode cX4_join 66 = .ok (.goto 16, 3) := by decide +kernel
theorem dX4_join_69 : decode cX4_join 69 = .ok (.aload 6, 2) := by decide +kernel
theorem dX4_join_71 : decode cX4_join 71 = .ok (.getfield 78, 3) := by decide +kernel
theorem dX4_join_74 : decode cX4_join 74 = .ok (.aload 7, 2) := by decide +kernel
theorem dX4_join_76 : decode cX4_join 76 = .ok (.getfield 78, 3) := by decide +kernel
theorem dX4_join_79 : decode cX4_join 79 = .ok (.invokestatic 81, 3) := by decide +kernel
theorem dX4_join_82 : decode cX4_join 82 = .ok (.istore 8, 2) := by decide +kernel
theorem dX4_join_84 : decode cX4_join 84 = .ok (.iload 8, 2) := by decide +kernel
theorem dX4_join_86 : decode cX4_join 86 = .ok (.bipush 8, 2) := by decide +kernel
theorem dX4_join_88 : decode cX4_join 88 = .ok (.if_icmp .le 5, 3) := by decide +kernel
theorem dX4_join_91 : decode cX4_join 91 = .ok (.iconst 0, 1) := by decide +kernel
theorem dX4_join_92 : decode cX4_join 92 = .ok (.ireturn, 1) := by decide +kernel
theorem dX4_join_93 : decode cX4_join 93 = .ok (.aload 6, 2) := by decide +kernel
theorem dX4_join_95 : decode cX4_join 95 = .ok (.getfield 87, 3) := by decide +kernel
theorem dX4_join_98 : decode cX4_join 98 = .ok (.aload 7, 2) := by decide +kernel
theorem dX4_join_100 : decode cX4_join 100 = .ok (.getfield 87, 3) := by decide +kernel
theorem dX4_join_103 : decode cX4_join 103 = .ok (.invokestatic 90, 3) := by decide +kernel
theorem dX4_join_106 : decode cX4_join 106 = .ok (.istore 9, 2) := by decide +kernel
theorem dX4_join_108 : decode cX4_join 108 = .ok (.iconst 1, 1) := by decide +kernel
theorem dX4_join_109 : decode cX4_join 109 = .ok (.istore 10, 2) := by decide +kernel
theorem dX4_join_111 : decode cX4_join 111 = .ok (.iload 10, 2) := by decide +kernel
theorem dX4_join_113 : decode cX4_join 113 = .ok (.iload 9, 2) := by decide +kernel
theorem dX4_join_115 : decode cX4_join 115 = .ok (.if_icmp .gt 67, 3) := by decide +kernel
theorem dX4_join_118 : decode cX4_join 118 = .ok (.aload 6, 2) := by decide +kernel
theorem dX4_join_120 : decode cX4_join 120 = .ok (.iload 10, 2) := by decide +kernel
theorem dX4_join_122 : decode cX4_join 122 = .ok (.invokevirtual 71, 3) := by decide +kernel
theorem dX4_join_125 : decode cX4_join 125 = .ok (.ifCond .eq 44, 3) := by decide +kernel
theorem dX4_join_128 : decode cX4_join 128 = .ok (.aload 7, 2) := by decide +kernel
theorem dX4_join_130 : decode cX4_join 130 = .ok (.iload 10, 2) := by decide +kernel
theorem dX4_join_132 : decode cX4_join 132 = .ok (.invokevirtual 71, 3) := by decide +kernel
theorem dX4_join_135 : decode cX4_join 135 = .ok (.ifCond .eq 34, 3) := by decide +kernel
theorem dX4_join_138 : decode cX4_join 138 = .ok (.aload 5, 2) := by decide +kernel
theorem dX4_join_140 : decode cX4_join 140 = .ok (.iload 10, 2) := by decide +kernel
theorem dX4_join_142 : decode cX4_join 142 = .ok (.aload 6, 2) := by decide +kernel
theorem dX4_join_144 : decode cX4_join 144 = .ok (.getfield 93, 3) := by decide +kernel
theorem dX4_join_147 : decode cX4_join 147 = .ok (.iload 10, 2) := by decide +kernel
theorem dX4_join_149 : decode cX4_join 149 = .ok (.laload, 1) := by decide +kernel
theorem dX4_join_150 : decode cX4_join 150 = .ok (.aload 7, 2) := by decide +kernel
theorem dX4_join_152 : decode cX4_join 152 = .ok (.getfield 93, 3) := by decide +kernel
theorem dX4_join_155 : decode cX4_join 155 = .ok (.iload 10, 2) := by decide +kernel
theorem dX4_join_157 : decode cX4_join 157 = .ok (.laload, 1) := by decide +kernel
theorem dX4_join_158 : decode cX4_join 158 = .ok (.iload 4, 2) := by decide +kernel
theorem dX4_join_160 : decode cX4_join 160 = .ok (.invokestatic 97, 3) := by decide +kernel
theorem dX4_join_163 : decode cX4_join 163 = .ok (.invokevirtual 67, 3) := by decide +kernel
theorem dX4_join_166 : decode cX4_join 166 = .ok (.goto 10, 3) := by decide +kernel
theorem dX4_join_169 : decode cX4_join 169 = .ok (.aload 5, 2) := by decide +kernel
theorem dX4_join_171 : decode cX4_join 171 = .ok (.iload 10, 2) := by decide +kernel
theorem dX4_join_173 : decode cX4_join 173 = .ok (.invokevirtual 74, 3) := by decide +kernel
theorem dX4_join_176 : decode cX4_join 176 = .ok (.iinc 10 1, 3) := by decide +kernel
theorem dX4_join_179 : decode cX4_join 179 = .ok (.goto (-68), 3) := by decide +kernel
theorem dX4_join_182 : decode cX4_join 182 = .ok (.aload 5, 2) := by decide +kernel
theorem dX4_join_184 : decode cX4_join 184 = .ok (.iload 8, 2) := by decide +kernel
theorem dX4_join_186 : decode cX4_join 186 = .ok (.iload 9, 2) := by decide +kernel
theorem dX4_join_188 : decode cX4_join 188 = .ok (.invokevirtual 55, 3) := by decide +kernel
theorem dX4_join_191 : decode cX4_join 191 = .ok (.iconst 1, 1) := by decide +kernel
theorem dX4_join_192 : decode cX4_join 192 = .ok (.ireturn, 1) := by decide +kernel
theorem dX4_scale_0 : decode cX4_scale 0 = .ok (.aload_n 0, 1) := by decide +kernel
theorem dX4_scale_1 : decode cX4_scale 1 = .ok (.iload_n 1, 1) := by decide +kernel
theorem dX4_scale_2 : decode cX4_scale 2 = .ok (.invokevirtual 41, 3) := by decide +kernel
theorem dX4_scale_5 : decode cX4_scale 5 = .ok (.astore 6, 2) := by decide +kernel
theorem dX4_scale_7 : decode cX4_scale 7 = .ok (.aload 6, 2) := by decide +kernel
theorem dX4_scale_9 : decode cX4_scale 9 = .ok (.ifnonnull 5, 3) := by decide +kernel
theorem dX4_scale_12 : decode cX4_scale 12 = .ok (.iconst 0, 1) := by decide +kernel
theorem dX4_scale_13 : decode cX4_scale 13 = .ok (.ireturn, 1) := by decide +kernel
theorem dX4_scale_14 : decode cX4_scale 14 = .ok (.lload_n 2, 1) := by decide +kernel
theorem dX4_scale_15 : decode cX4_scale 15 = .ok (.invokestatic 45, 3) := by decide +kernel
theorem dX4_scale_18 : decode cX4_scale 18 = .ok (.lstore 7, 2) := by decide +kernel
theorem dX4_scale_20 : decode cX4_scale 20 = .ok (.lload 4, 2) := by decide +kernel
theorem dX4_scale_22 : decode cX4_scale 22 = .ok (.invokestatic 45, 3) := by decide +kernel
theorem dX4_scale_25 : decode cX4_scale 25 = .ok (.lstore 9, 2) := by decide +kernel
theorem dX4_scale_27 : decode cX4_scale 27 = .ok (.iconst 1, 1) := by decide +kernel
theorem dX4_scale_28 : decode cX4_scale 28 = .ok (.istore 11, 2) := by decide +kernel
theorem dX4_scale_30 : decode cX4_scale 30 = .ok (.iload 11, 2) := by decide +kernel
theorem dX4_scale_32 : decode cX4_scale 32 = .ok (.aload 6, 2) := by decide +kernel
theorem dX4_scale_34 : decode cX4_scale 34 = .ok (.getfield 87, 3) := by decide +kernel
theorem dX4_scale_37 : decode cX4_scale 37 = .ok (.if_icmp .gt 44, 3) := by decide +kernel
theorem dX4_scale_40 : decode cX4_scale 40 = .ok (.aload 6, 2) := by decide +kernel
theorem dX4_scale_42 : decode cX4_scale 42 = .ok (.iload 11, 2) := by decide +kernel
theorem dX4_scale_44 : decode cX4_scale 44 = .ok (.invokevirtual 71, 3) := by decide +kernel
theorem dX4_scale_47 : decode cX4_scale 47 = .ok (.ifCond .eq 28, 3) := by decide +kernel
theorem dX4_scale_50 : decode cX4_scale 50 = .ok (.aload 6, 2) := by decide +kernel
theorem dX4_scale_52 : decode cX4_scale 52 = .ok (.iload 11, 2) := by decide +kernel
theorem dX4_scale_54 : decode cX4_scale 54 = .ok (.aload 6, 2) := by decide +kernel
theorem dX4_scale_56 : decode cX4_scale 56 = .ok (.getfield 93, 3) := by decide +kernel
theorem dX4_scale_59 : decode cX4_scale 59 = .ok (.iload 11, 2) := by decide +kernel
theorem dX4_scale_61 : decode cX4_scale 61 = .ok (.laload, 1) := by decide +kernel
theorem dX4_scale_62 : decode cX4_scale 62 = .ok (.lload 7, 2) := by decide +kernel
theorem dX4_scale_64 : decode cX4_scale 64 = .ok (.invokestatic 101, 3) := by decide +kernel
theorem dX4_scale_67 : decode cX4_scale 67 = .ok (.lload 9, 2) := by decide +kernel
theorem dX4_scale_69 : decode cX4_scale 69 = .ok (.invokestatic 105, 3) := by decide +kernel
theorem dX4_scale_72 : decode cX4_scale 72 = .ok (.invokevirtual 67, 3) := by decide +kernel
theorem dX4_scale_75 : decode cX4_scale 75 = .ok (.iinc 11 1, 3) := by decide +kernel
theorem dX4_scale_78 : decode cX4_scale 78 = .ok (.goto (-48), 3) := by decide +kernel
theorem dX4_scale_81 : decode cX4_scale 81 = .ok (.iconst 1, 1) := by decide +kernel
theorem dX4_scale_82 : decode cX4_scale 82 = .ok (.ireturn, 1) := by decide +kernel
theorem dX4_renew_0 : decode cX4_renew 0 = .ok (.aload_n 0, 1) := by decide +kernel
theorem dX4_renew_1 : decode cX4_renew 1 = .ok (.iload_n 1, 1) := by decide +kernel
theorem dX4_renew_2 : decode cX4_renew 2 = .ok (.invokevirtual 41, 3) := by decide +kernel
theorem dX4_renew_5 : decode cX4_renew 5 = .ok (.astore 4, 2) := by decide +kernel
theorem dX4_renew_7 : decode cX4_renew 7 = .ok (.aload 4, 2) := by decide +kernel
theorem dX4_renew_9 : decode cX4_renew 9 = .ok (.ifnonnull 5, 3) := by decide +kernel
theorem dX4_renew_12 : decode cX4_renew 12 = .ok (.iconst 0, 1) := by decide +kernel
theorem dX4_renew_13 : decode cX4_renew 13 = .ok (.ireturn, 1) := by decide +kernel
theorem dX4_renew_14 : decode cX4_renew 14 = .ok (.aload_n 0, 1) := by decide +kernel
theorem dX4_renew_15 : decode cX4_renew 15 = .ok (.getfield 18, 3) := by decide +kernel
theorem dX4_renew_18 : decode cX4_renew 18 = .ok (.lconst 0, 1) := by decide +kernel
theorem dX4_renew_19 : decode cX4_renew 19 = .ok (.aload 4, 2) := by decide +kernel
theorem dX4_renew_21 : decode cX4_renew 21 = .ok (.getfield 78, 3) := by decide +kernel
theorem dX4_renew_24 : decode cX4_renew 24 = .ok (.lload_n 2, 1) := by decide +kernel
theorem dX4_renew_25 : decode cX4_renew 25 = .ok (.invokevirtual 51, 3) := by decide +kernel
theorem dX4_renew_28 : decode cX4_renew 28 = .ok (.iconst 1, 1) := by decide +kernel
theorem dX4_renew_29 : decode cX4_renew 29 = .ok (.istore 5, 2) := by decide +kernel
theorem dX4_renew_31 : decode cX4_renew 31 = .ok (.iload 5, 2) := by decide +kernel
theorem dX4_renew_33 : decode cX4_renew 33 = .ok (.aload 4, 2) := by decide +kernel
theorem dX4_renew_35 : decode cX4_renew 35 = .ok (.getfield 87, 3) := by decide +kernel
theorem dX4_renew_38 : decode cX4_renew 38 = .ok (.if_icmp .gt 47, 3) := by decide +kernel
theorem dX4_renew_41 : decode cX4_renew 41 = .ok (.aload 4, 2) := by decide +kernel
theorem dX4_renew_43 : decode cX4_renew 43 = .ok (.iload 5, 2) := by decide +kernel
theorem dX4_renew_45 : decode cX4_renew 45 = .ok (.invokevirtual 71, 3) := by decide +kernel
theorem dX4_renew_48 : decode cX4_renew 48 = .ok (.ifCond .eq 31, 3) := by decide +kernel
theorem dX4_renew_51 : decode cX4_renew 51 = .ok (.aload 4, 2) := by decide +kernel
theorem dX4_renew_53 : decode cX4_renew 53 = .ok (.iload 5, 2) := by decide +kernel
theorem dX4_renew_55 : decode cX4_renew 55 = .ok (.aload 4, 2) := by decide +kernel
theorem dX4_renew_57 : decode cX4_renew 57 = .ok (.getfield 93, 3) := by decide +kernel
theorem dX4_renew_60 : decode cX4_renew 60 = .ok (.iload 5, 2) := by decide +kernel
theorem dX4_renew_62 : decode cX4_renew 62 = .ok (.laload, 1) := by decide +kernel
theorem dX4_renew_63 : decode cX4_renew 63 = .ok (.aload_n 0, 1) := by decide +kernel
theorem dX4_renew_64 : decode cX4_renew 64 = .ok (.getfield 18, 3) := by decide +kernel
theorem dX4_renew_67 : decode cX4_renew 67 = .ok (.iload 5, 2) := by decide +kernel
theorem dX4_renew_69 : decode cX4_renew 69 = .ok (.i2l, 1) := by decide +kernel
theorem dX4_renew_70 : decode cX4_renew 70 = .ok (.invokevirtual 108, 3) := by decide +kernel
theorem dX4_renew_73 : decode cX4_renew 73 = .ok (.invokestatic 105, 3) := by decide +kernel
theorem dX4_renew_76 : decode cX4_renew 76 = .ok (.invokevirtual 67, 3) := by decide +kernel
theorem dX4_renew_79 : decode cX4_renew 79 = .ok (.iinc 5 1, 3) := by decide +kernel
theorem dX4_renew_82 : decode cX4_renew 82 = .ok (.goto (-51), 3) := by decide +kernel
theorem dX4_renew_85 : decode cX4_renew 85 = .ok (.iconst 1, 1) := by decide +kernel
theorem dX4_renew_86 : decode cX4_renew 86 = .ok (.ireturn, 1) := by decide +kernel
theorem dX4_find_0 : decode cX4_find 0 = .ok (.aload_n 0, 1) := by decide +kernel
theorem dX4_find_1 : decode cX4_find 1 = .ok (.iload_n 1, 1) := by decide +kernel
theorem dX4_find_2 : decode cX4_find 2 = .ok (.invokevirtual 41, 3) := by decide +kernel
theorem dX4_find_5 : decode cX4_find 5 = .ok (.astore_n 3, 1) := by decide +kernel
theorem dX4_find_6 : decode cX4_find 6 = .ok (.aload_n 3, 1) := by decide +kernel
theorem dX4_find_7 : decode cX4_find 7 = .ok (.ifnull 13, 3) := by decide +kernel
theorem dX4_find_10 : decode cX4_find 10 = .ok (.iload_n 2, 1) := by decide +kernel
theorem dX4_find_11 : decode cX4_find 11 = .ok (.ifCond .lt 9, 3) := by decide +kernel
theorem dX4_find_14 : decode cX4_find 14 = .ok (.iload_n 2, 1) := by decide +kernel
theorem dX4_find_15 : decode cX4_find 15 = .ok (.bipush 7, 2) := by decide +kernel
theorem dX4_find_17 : decode cX4_find 17 = .ok (.if_icmp .le 13, 3) := by decide +kernel
theorem dX4_find_20 : decode cX4_find 20 = .ok (.new 111, 3) := by decide +kernel
theorem dX4_find_23 : decode cX4_find 23 = .ok (.dup, 1) := by decide +kernel
theorem dX4_find_24 : decode cX4_find 24 = .ok (.ldc 113, 2) := by decide +kernel
theorem dX4_find_26 : decode cX4_find 26 = .ok (.invokespecial 115, 3) := by decide +kernel
theorem dX4_find_29 : decode cX4_find 29 = .ok (.athrow, 1) := by decide +kernel
theorem dX4_find_30 : decode cX4_find 30 = .ok (.aload_n 3, 1) := by decide +kernel
theorem dX4_find_31 : decode cX4_find 31 = .ok (.invokevirtual 118, 3) := by decide +kernel
theorem dX4_find_34 : decode cX4_find 34 = .ok (.aload_n 3, 1) := by decide +kernel
theorem dX4_find_35 : decode cX4_find 35 = .ok (.getfield 78, 3) := by decide +kernel
theorem dX4_find_38 : decode cX4_find 38 = .ok (.iload_n 2, 1) := by decide +kernel
theorem dX4_find_39 : decode cX4_find 39 = .ok (.invokestatic 122, 3) := by decide +kernel
theorem dX4_find_42 : decode cX4_find 42 = .ok (.if_icmp .ge 13, 3) := by decide +kernel
theorem dX4_find_45 : decode cX4_find 45 = .ok (.new 111, 3) := by decide +kernel
theorem dX4_find_48 : decode cX4_find 48 = .ok (.dup, 1) := by decide +kernel
theorem dX4_find_49 : decode cX4_find 49 = .ok (.ldc 125, 2) := by decide +kernel
theorem dX4_find_51 : decode cX4_find 51 = .ok (.invokespecial 115, 3) := by decide +kernel
theorem dX4_find_54 : decode cX4_find 54 = .ok (.athrow, 1) := by decide +kernel
theorem dX4_find_55 : decode cX4_find 55 = .ok (.aload_n 0, 1) := by decide +kernel
theorem dX4_find_56 : decode cX4_find 56 = .ok (.getfield 25, 3) := by decide +kernel
theorem dX4_find_59 : decode cX4_find 59 = .ok (.aload_n 3, 1) := by decide +kernel
theorem dX4_find_60 : decode cX4_find 60 = .ok (.iload_n 2, 1) := by decide +kernel
theorem dX4_find_61 : decode cX4_find 61 = .ok (.invokevirtual 127, 3) := by decide +kernel
theorem dX4_find_64 : decode cX4_find 64 = .ok (.aload_n 3, 1) := by decide +kernel
theorem dX4_find_65 : decode cX4_find 65 = .ok (.aload_n 0, 1) := by decide +kernel
theorem dX4_find_66 : decode cX4_find 66 = .ok (.getfield 25, 3) := by decide +kernel
theorem dX4_find_69 : decode cX4_find 69 = .ok (.getfield 131, 3) := by decide +kernel
theorem dX4_find_72 : decode cX4_find 72 = .ok (.invokevirtual 134, 3) := by decide +kernel
theorem dX4_find_75 : decode cX4_find 75 = .ok (.istore 4, 2) := by decide +kernel
theorem dX4_find_77 : decode cX4_find 77 = .ok (.iload 4, 2) := by decide +kernel
theorem dX4_find_79 : decode cX4_find 79 = .ok (.iload_n 2, 1) := by decide +kernel
theorem dX4_find_80 : decode cX4_find 80 = .ok (.if_icmp .le 13, 3) := by decide +kernel
theorem dX4_find_83 : decode cX4_find 83 = .ok (.new 138, 3) := by decide +kernel
theorem dX4_find_86 : decode cX4_find 86 = .ok (.dup, 1) := by decide +kernel
theorem dX4_find_87 : decode cX4_find 87 = .ok (.ldc 140, 2) := by decide +kernel
theorem dX4_find_89 : decode cX4_find 89 = .ok (.invokespecial 142, 3) := by decide +kernel
theorem dX4_find_92 : decode cX4_find 92 = .ok (.athrow, 1) := by decide +kernel
theorem dX4_find_93 : decode cX4_find 93 = .ok (.aload_n 0, 1) := by decide +kernel
theorem dX4_find_94 : decode cX4_find 94 = .ok (.iload_n 1, 1) := by decide +kernel
theorem dX4_find_95 : decode cX4_find 95 = .ok (.aload_n 3, 1) := by decide +kernel
theorem dX4_find_96 : decode cX4_find 96 = .ok (.invokevirtual 143, 3) := by decide +kernel
theorem dX4_find_99 : decode cX4_find 99 = .ok (.iload 4, 2) := by decide +kernel
theorem dX4_find_101 : decode cX4_find 101 = .ok (.ireturn, 1) := by decide +kernel
theorem dX4_at_0 : decode cX4_at 0 = .ok (.aload_n 0, 1) := by decide +kernel
theorem dX4_at_1 : decode cX4_at 1 = .ok (.getfield 36, 3) := by decide +kernel
theorem dX4_at_4 : decode cX4_at 4 = .ok (.iconst (-1), 1) := by decide +kernel
theorem dX4_at_5 : decode cX4_at 5 = .ok (.if_icmp .ne 13, 3) := by decide +kernel
theorem dX4_at_8 : decode cX4_at 8 = .ok (.new 147, 3) := by decide +kernel
theorem dX4_at_11 : decode cX4_at 11 = .ok (.dup, 1) := by decide +kernel
theorem dX4_at_12 : decode cX4_at 12 = .ok (.ldc 149, 2) := by decide +kernel
theorem dX4_at_14 : decode cX4_at 14 = .ok (.invokespecial 151, 3) := by decide +kernel
theorem dX4_at_17 : decode cX4_at 17 = .ok (.athrow, 1) := by decide +kernel
theorem dX4_at_18 : decode cX4_at 18 = .ok (.aload_n 0, 1) := by decide +kernel
theorem dX4_at_19 : decode cX4_at 19 = .ok (.getfield 29, 3) := by decide +kernel
theorem dX4_at_22 : decode cX4_at 22 = .ok (.lload_n 1, 1) := by decide +kernel
theorem dX4_at_23 : decode cX4_at 23 = .ok (.invokestatic 45, 3) := by decide +kernel
theorem dX4_at_26 : decode cX4_at 26 = .ok (.invokevirtual 108, 3) := by decide +kernel
theorem dX4_at_29 : decode cX4_at 29 = .ok (.lreturn, 1) := by decide +kernel
theorem dX4_part_0 : decode cX4_part 0 = .ok (.aload_n 0, 1) := by decide +kernel
theorem dX4_part_1 : decode cX4_part 1 = .ok (.getfield 36, 3) := by decide +kernel
theorem dX4_part_4 : decode cX4_part 4 = .ok (.iconst (-1), 1) := by decide +kernel
theorem dX4_part_5 : decode cX4_part 5 = .ok (.if_icmp .eq 13, 3) := by decide +kernel
theorem dX4_part_8 : decode cX4_part 8 = .ok (.iload_n 1, 1) := by decide +kernel
theorem dX4_part_9 : decode cX4_part 9 = .ok (.ifCond .lt 9, 3) := by decide +kernel
theorem dX4_part_12 : decode cX4_part 12 = .ok (.iload_n 1, 1) := by decide +kernel
theorem dX4_part_13 : decode cX4_part 13 = .ok (.bipush 8, 2) := by decide +kernel
theorem dX4_part_15 : decode cX4_part 15 = .ok (.if_icmp .le 13, 3) := by decide +kernel
theorem dX4_part_18 : decode cX4_part 18 = .ok (.new 147, 3) := by decide +kernel
theorem dX4_part_21 : decode cX4_part 21 = .ok (.dup, 1) := by decide +kernel
theorem dX4_part_22 : decode cX4_part 22 = .ok (.ldc 152, 2) := by decide +kernel
theorem dX4_part_24 : decode cX4_part 24 = .ok (.invokespecial 151, 3) := by decide +kernel
theorem dX4_part_27 : decode cX4_part 27 = .ok (.athrow, 1) := by decide +kernel
theorem dX4_part_28 : decode cX4_part 28 = .ok (.aload_n 0, 1) := by decide +kernel
theorem dX4_part_29 : decode cX4_part 29 = .ok (.getfield 29, 3) := by decide +kernel
theorem dX4_part_32 : decode cX4_part 32 = .ok (.getfield 154, 3) := by decide +kernel
theorem dX4_part_35 : decode cX4_part 35 = .ok (.iload_n 1, 1) := by decide +kernel
theorem dX4_part_36 : decode cX4_part 36 = .ok (.laload, 1) := by decide +kernel
theorem dX4_part_37 : decode cX4_part 37 = .ok (.lreturn, 1) := by decide +kernel
theorem dX4_wrong_0 : decode cX4_wrong 0 = .ok (.iload_n 1, 1) := by decide +kernel
theorem dX4_wrong_1 : decode cX4_wrong 1 = .ok (.iconst 1, 1) := by decide +kernel
theorem dX4_wrong_2 : decode cX4_wrong 2 = .ok (.if_icmp .lt 22, 3) := by decide +kernel
theorem dX4_wrong_5 : decode cX4_wrong 5 = .ok (.iload_n 1, 1) := by decide +kernel
theorem dX4_wrong_6 : decode cX4_wrong 6 = .ok (.bipush 16, 2) := by decide +kernel
theorem dX4_wrong_8 : decode cX4_wrong 8 = .ok (.if_icmp .gt 16, 3) := by decide +kernel
theorem dX4_wrong_11 : decode cX4_wrong 11 = .ok (.aload_n 0, 1) := by decide +kernel
theorem dX4_wrong_12 : decode cX4_wrong 12 = .ok (.getfield 32, 3) := by decide +kernel
theorem dX4_wrong_15 : decode cX4_wrong 15 = .ok (.iload_n 1, 1) := by decide +kernel
theorem dX4_wrong_16 : decode cX4_wrong 16 = .ok (.baload, 1) := by decide +kernel
theorem dX4_wrong_17 : decode cX4_wrong 17 = .ok (.ifCond .eq 7, 3) := by decide +kernel
theorem dX4_wrong_20 : decode cX4_wrong 20 = .ok (.iconst 1, 1) := by decide +kernel
theorem dX4_wrong_21 : decode cX4_wrong 21 = .ok (.goto 4, 3) := by decide +kernel
theorem dX4_wrong_24 : decode cX4_wrong 24 = .ok (.iconst 0, 1) := by decide +kernel
theorem dX4_wrong_25 : decode cX4_wrong 25 = .ok (.ireturn, 1) := by decide +kernel
theorem dX4_mend_0 : decode cX4_mend 0 = .ok (.aload_n 0, 1) := by decide +kernel
theorem dX4_mend_1 : decode cX4_mend 1 = .ok (.aload_n 0, 1) := by decide +kernel
theorem dX4_mend_2 : decode cX4_mend 2 = .ok (.getfield 36, 3) := by decide +kernel
theorem dX4_mend_5 : decode cX4_mend 5 = .ok (.invokevirtual 41, 3) := by decide +kernel
theorem dX4_mend_8 : decode cX4_mend 8 = .ok (.astore_n 1, 1) := by decide +kernel
theorem dX4_mend_9 : decode cX4_mend 9 = .ok (.aload_n 1, 1) := by decide +kernel
theorem dX4_mend_10 : decode cX4_mend 10 = .ok (.ifnonnull 5, 3) := by decide +kernel
theorem dX4_mend_13 : decode cX4_mend 13 = .ok (.iconst 0, 1) := by decide +kernel
theorem dX4_mend_14 : decode cX4_mend 14 = .ok (.ireturn, 1) := by decide +kernel
theorem dX4_mend_15 : decode cX4_mend 15 = .ok (.aload_n 1, 1) := by decide +kernel
theorem dX4_mend_16 : decode cX4_mend 16 = .ok (.aload_n 0, 1) := by decide +kernel
theorem dX4_mend_17 : decode cX4_mend 17 = .ok (.getfield 29, 3) := by decide +kernel
theorem dX4_mend_20 : decode cX4_mend 20 = .ok (.invokevirtual 59, 3) := by decide +kernel
theorem dX4_mend_23 : decode cX4_mend 23 = .ok (.iconst 1, 1) := by decide +kernel
theorem dX4_mend_24 : decode cX4_mend 24 = .ok (.ireturn, 1) := by decide +kernel
theorem dX4_share_0 : decode cX4_share 0 = .ok (.aload_n 0, 1) := by decide +kernel
theorem dX4_share_1 : decode cX4_share 1 = .ok (.iload_n 1, 1) := by decide +kernel
theorem dX4_share_2 : decode cX4_share 2 = .ok (.invokevirtual 41, 3) := by decide +kernel
theorem dX4_share_5 : decode cX4_share 5 = .ok (.astore_n 3, 1) := by decide +kernel
theorem dX4_share_6 : decode cX4_share 6 = .ok (.aload_n 3, 1) := by decide +kernel
theorem dX4_share_7 : decode cX4_share 7 = .ok (.ifnull 11, 3) := by decide +kernel
theorem dX4_share_10 : decode cX4_share 10 = .ok (.aload_n 3, 1) := by decide +kernel
theorem dX4_share_11 : decode cX4_share 11 = .ok (.iload_n 2, 1) := by decide +kernel
theorem dX4_share_12 : decode cX4_share 12 = .ok (.invokevirtual 71, 3) := by decide +kernel
theorem dX4_share_15 : decode cX4_share 15 = .ok (.ifCond .ne 13, 3) := by decide +kernel
theorem dX4_share_18 : decode cX4_share 18 = .ok (.new 147, 3) := by decide +kernel
theorem dX4_share_21 : decode cX4_share 21 = .ok (.dup, 1) := by decide +kernel
theorem dX4_share_22 : decode cX4_share 22 = .ok (.ldc 157, 2) := by decide +kernel
theorem dX4_share_24 : decode cX4_share 24 = .ok (.invokespecial 151, 3) := by decide +kernel
theorem dX4_share_27 : decode cX4_share 27 = .ok (.athrow, 1) := by decide +kernel
theorem dX4_share_28 : decode cX4_share 28 = .ok (.aload_n 3, 1) := by decide +kernel
theorem dX4_share_29 : decode cX4_share 29 = .ok (.getfield 93, 3) := by decide +kernel
theorem dX4_share_32 : decode cX4_share 32 = .ok (.iload_n 2, 1) := by decide +kernel
theorem dX4_share_33 : decode cX4_share 33 = .ok (.laload, 1) := by decide +kernel
theorem dX4_share_34 : decode cX4_share 34 = .ok (.lreturn, 1) := by decide +kernel
theorem dX4_split_0 : decode cX4_split 0 = .ok (.aload_n 0, 1) := by decide +kernel
theorem dX4_split_1 : decode cX4_split 1 = .ok (.iload_n 1, 1) := by decide +kernel
theorem dX4_split_2 : decode cX4_split 2 = .ok (.invokevirtual 41, 3) := by decide +kernel
theorem dX4_split_5 : decode cX4_split 5 = .ok (.astore_n 3, 1) := by decide +kernel
theorem dX4_split_6 : decode cX4_split 6 = .ok (.aload_n 3, 1) := by decide +kernel
theorem dX4_split_7 : decode cX4_split 7 = .ok (.ifnonnull 5, 3) := by decide +kernel
theorem dX4_split_10 : decode cX4_split 10 = .ok (.iconst (-1), 1) := by decide +kernel
theorem dX4_split_11 : decode cX4_split 11 = .ok (.ireturn, 1) := by decide +kernel
theorem dX4_split_12 : decode cX4_split 12 = .ok (.iload_n 2, 1) := by decide +kernel
theorem dX4_split_13 : decode cX4_split 13 = .ok (.tableswitch 42 0 2 #[27, 32, 37], 27) := by decide +kernel
theorem dX4_split_40 : decode cX4_split 40 = .ok (.aload_n 3, 1) := by decide +kernel
theorem dX4_split_41 : decode cX4_split 41 = .ok (.getfield 78, 3) := by decide +kernel
theorem dX4_split_44 : decode cX4_split 44 = .ok (.ireturn, 1) := by decide +kernel
theorem dX4_split_45 : decode cX4_split 45 = .ok (.aload_n 3, 1) := by decide +kernel
theorem dX4_split_46 : decode cX4_split 46 = .ok (.getfield 87, 3) := by decide +kernel
theorem dX4_split_49 : decode cX4_split 49 = .ok (.ireturn, 1) := by decide +kernel
theorem dX4_split_50 : decode cX4_split 50 = .ok (.aload_n 3, 1) := by decide +kernel
theorem dX4_split_51 : decode cX4_split 51 = .ok (.invokevirtual 118, 3) := by decide +kernel
theorem dX4_split_54 : decode cX4_split 54 = .ok (.ireturn, 1) := by decide +kernel
theorem dX4_split_55 : decode cX4_split 55 = .ok (.iconst (-1), 1) := by decide +kernel
theorem dX4_split_56 : decode cX4_split 56 = .ok (.ireturn, 1) := by decide +kernel
theorem dX4_splitOrNull_0 : decode cX4_splitOrNull 0 = .ok (.iload_n 1, 1) := by decide +kernel
theorem dX4_splitOrNull_1 : decode cX4_splitOrNull 1 = .ok (.ifCond .lt 18, 3) := by decide +kernel
theorem dX4_splitOrNull_4 : decode cX4_splitOrNull 4 = .ok (.iload_n 1, 1) := by decide +kernel
theorem dX4_splitOrNull_5 : decode cX4_splitOrNull 5 = .ok (.bipush 8, 2) := by decide +kernel
theorem dX4_splitOrNull_7 : decode cX4_splitOrNull 7 = .ok (.if_icmp .ge 12, 3) := by decide +kernel
theorem dX4_splitOrNull_10 : decode cX4_splitOrNull 10 = .ok (.aload_n 0, 1) := by decide +kernel
theorem dX4_splitOrNull_11 : decode cX4_splitOrNull 11 = .ok (.getfield 11, 3) := by decide +kernel
theorem dX4_splitOrNull_14 : decode cX4_splitOrNull 14 = .ok (.iload_n 1, 1) := by decide +kernel
theorem dX4_splitOrNull_15 : decode cX4_splitOrNull 15 = .ok (.aaload, 1) := by decide +kernel
theorem dX4_splitOrNull_16 : decode cX4_splitOrNull 16 = .ok (.goto 4, 3) := by decide +kernel
theorem dX4_splitOrNull_19 : decode cX4_splitOrNull 19 = .ok (.aconst_null, 1) := by decide +kernel
theorem dX4_splitOrNull_20 : decode cX4_splitOrNull 20 = .ok (.areturn, 1) := by decide +kernel
theorem dX4_joined_0 : decode cX4_joined 0 = .ok (.iload 4, 2) := by decide +kernel
theorem dX4_joined_2 : decode cX4_joined 2 = .ok (.lookupswitch 38 #[(0, 26), (1, 32)], 26) := by decide +kernel
theorem dX4_joined_28 : decode cX4_joined 28 = .ok (.lload_n 0, 1) := by decide +kernel
theorem dX4_joined_29 : decode cX4_joined 29 = .ok (.lload_n 2, 1) := by decide +kernel
theorem dX4_joined_30 : decode cX4_joined 30 = .ok (.invokestatic 105, 3) := by decide +kernel
theorem dX4_joined_33 : decode cX4_joined 33 = .ok (.lreturn, 1) := by decide +kernel
theorem dX4_joined_34 : decode cX4_joined 34 = .ok (.lload_n 0, 1) := by decide +kernel
theorem dX4_joined_35 : decode cX4_joined 35 = .ok (.lload_n 2, 1) := by decide +kernel
theorem dX4_joined_36 : decode cX4_joined 36 = .ok (.invokestatic 159, 3) := by decide +kernel
theorem dX4_joined_39 : decode cX4_joined 39 = .ok (.lreturn, 1) := by decide +kernel
theorem dX4_joined_40 : decode cX4_joined 40 = .ok (.lload_n 0, 1) := by decide +kernel
theorem dX4_joined_41 : decode cX4_joined 41 = .ok (.lload_n 2, 1) := by decide +kernel
theorem dX4_joined_42 : decode cX4_joined 42 = .ok (.invokestatic 101, 3) := by decide +kernel
theorem dX4_joined_45 : decode cX4_joined 45 = .ok (.lreturn, 1) := by decide +kernel
theorem dX4_keepFound_0 : decode cX4_keepFound 0 = .ok (.aload_n 0, 1) := by decide +kernel
theorem dX4_keepFound_1 : decode cX4_keepFound 1 = .ok (.iload_n 1, 1) := by decide +kernel
theorem dX4_keepFound_2 : decode cX4_keepFound 2 = .ok (.putfield 36, 3) := by decide +kernel
theorem dX4_keepFound_5 : decode cX4_keepFound 5 = .ok (.aload_n 0, 1) := by decide +kernel
theorem dX4_keepFound_6 : decode cX4_keepFound 6 = .ok (.getfield 29, 3) := by decide +kernel
theorem dX4_keepFound_9 : decode cX4_keepFound 9 = .ok (.aload_n 0, 1) := by decide +kernel
theorem dX4_keepFound_10 : decode cX4_keepFound 10 = .ok (.getfield 25, 3) := by decide +kernel
theorem dX4_keepFound_13 : decode cX4_keepFound 13 = .ok (.getfield 131, 3) := by decide +kernel
theorem dX4_keepFound_16 : decode cX4_keepFound 16 = .ok (.invokevirtual 162, 3) := by decide +kernel
theorem dX4_keepFound_19 : decode cX4_keepFound 19 = .ok (.iconst 1, 1) := by decide +kernel
theorem dX4_keepFound_20 : decode cX4_keepFound 20 = .ok (.istore_n 3, 1) := by decide +kernel
theorem dX4_keepFound_21 : decode cX4_keepFound 21 = .ok (.iload_n 3, 1) := by decide +kernel
theorem dX4_keepFound_22 : decode cX4_keepFound 22 = .ok (.bipush 16, 2) := by decide +kernel
theorem dX4_keepFound_24 : decode cX4_keepFound 24 = .ok (.if_icmp .gt 24, 3) := by decide +kernel
theorem dX4_keepFound_27 : decode cX4_keepFound 27 = .ok (.aload_n 0, 1) := by decide +kernel
theorem dX4_keepFound_28 : decode cX4_keepFound 28 = .ok (.getfield 32, 3) := by decide +kernel
theorem dX4_keepFound_31 : decode cX4_keepFound 31 = .ok (.iload_n 3, 1) := by decide +kernel
theorem dX4_keepFound_32 : decode cX4_keepFound 32 = .ok (.aload_n 2, 1) := by decide +kernel
theorem dX4_keepFound_33 : decode cX4_keepFound 33 = .ok (.aload_n 0, 1) := by decide +kernel
theorem dX4_keepFound_34 : decode cX4_keepFound 34 = .ok (.getfield 29, 3) := by decide +kernel
theorem dX4_keepFound_37 : decode cX4_keepFound 37 = .ok (.iload_n 3, 1) := by decide +kernel
theorem dX4_keepFound_38 : decode cX4_keepFound 38 = .ok (.invokevirtual 165, 3) := by decide +kernel
theorem dX4_keepFound_41 : decode cX4_keepFound 41 = .ok (.bastore, 1) := by decide +kernel
theorem dX4_keepFound_42 : decode cX4_keepFound 42 = .ok (.iinc 3 1, 3) := by decide +kernel
theorem dX4_keepFound_45 : decode cX4_keepFound 45 = .ok (.goto (-24), 3) := by decide +kernel
theorem dX4_keepFound_48 : decode cX4_keepFound 48 = .ok (.return_, 1) := by decide +kernel
theorem dJ9_floorMod_0 : decode cJ9_floorMod 0 = .ok (.lload_n 0, 1) := by decide +kernel
theorem dJ9_floorMod_1 : decode cJ9_floorMod 1 = .ok (.lload_n 2, 1) := by decide +kernel
theorem dJ9_floorMod_2 : decode cJ9_floorMod 2 = .ok (.lrem, 1) := by decide +kernel
theorem dJ9_floorMod_3 : decode cJ9_floorMod 3 = .ok (.lstore 4, 2) := by decide +kernel
theorem dJ9_floorMod_5 : decode cJ9_floorMod 5 = .ok (.lload_n 0, 1) := by decide +kernel
theorem dJ9_floorMod_6 : decode cJ9_floorMod 6 = .ok (.lload_n 2, 1) := by decide +kernel
theorem dJ9_floorMod_7 : decode cJ9_floorMod 7 = .ok (.lxor, 1) := by decide +kernel
theorem dJ9_floorMod_8 : decode cJ9_floorMod 8 = .ok (.lconst 0, 1) := by decide +kernel
theorem dJ9_floorMod_9 : decode cJ9_floorMod 9 = .ok (.lcmp, 1) := by decide +kernel
theorem dJ9_floorMod_10 : decode cJ9_floorMod 10 = .ok (.ifCond .ge 15, 3) := by decide +kernel
theorem dJ9_floorMod_13 : decode cJ9_floorMod 13 = .ok (.lload 4, 2) := by decide +kernel
theorem dJ9_floorMod_15 : decode cJ9_floorMod 15 = .ok (.lconst 0, 1) := by decide +kernel
theorem dJ9_floorMod_16 : decode cJ9_floorMod 16 = .ok (.lcmp, 1) := by decide +kernel
theorem dJ9_floorMod_17 : decode cJ9_floorMod 17 = .ok (.ifCond .eq 8, 3) := by decide +kernel
theorem dJ9_floorMod_20 : decode cJ9_floorMod 20 = .ok (.lload 4, 2) := by decide +kernel
theorem dJ9_floorMod_22 : decode cJ9_floorMod 22 = .ok (.lload_n 2, 1) := by decide +kernel
theorem dJ9_floorMod_23 : decode cJ9_floorMod 23 = .ok (.ladd, 1) := by decide +kernel
theorem dJ9_floorMod_24 : decode cJ9_floorMod 24 = .ok (.lreturn, 1) := by decide +kernel
theorem dJ9_floorMod_25 : decode cJ9_floorMod 25 = .ok (.lload 4, 2) := by decide +kernel
theorem dJ9_floorMod_27 : decode cJ9_floorMod 27 = .ok (.lreturn, 1) := by decide +kernel
theorem dJ9_max_0 : decode cJ9_max 0 = .ok (.iload_n 0, 1) := by decide +kernel
theorem dJ9_max_1 : decode cJ9_max 1 = .ok (.iload_n 1, 1) := by decide +kernel
theorem dJ9_max_2 : decode cJ9_max 2 = .ok (.if_icmp .lt 7, 3) := by decide +kernel
theorem dJ9_max_5 : decode cJ9_max 5 = .ok (.iload_n 0, 1) := by decide +kernel
theorem dJ9_max_6 : decode cJ9_max 6 = .ok (.goto 4, 3) := by decide +kernel
theorem dJ9_max_9 : decode cJ9_max 9 = .ok (.iload_n 1, 1) := by decide +kernel
theorem dJ9_max_10 : decode cJ9_max 10 = .ok (.ireturn, 1) := by decide +kernel
theorem dJ9_min_0 : decode cJ9_min 0 = .ok (.iload_n 0, 1) := by decide +kernel
theorem dJ9_min_1 : decode cJ9_min 1 = .ok (.iload_n 1, 1) := by decide +kernel
theorem dJ9_min_2 : decode cJ9_min 2 = .ok (.if_icmp .gt 7, 3) := by decide +kernel
theorem dJ9_min_5 : decode cJ9_min 5 = .ok (.iload_n 0, 1) := by decide +kernel
theorem dJ9_min_6 : decode cJ9_min 6 = .ok (.goto 4, 3) := by decide +kernel
theorem dJ9_min_9 : decode cJ9_min 9 = .ok (.iload_n 1, 1) := by decide +kernel
theorem dJ9_min_10 : decode cJ9_min 10 = .ok (.ireturn, 1) := by decide +kernel
end
section
theorem dX5_init_0 : decode cX5_init 0 = .ok (.aload_n 0, 1) := by decide +kernel
theorem dX5_init_1 : decode cX5_init 1 = .ok (.invokespecial 1, 3) := by decide +kernel
theorem dX5_init_4 : decode cX5_init 4 = .ok (.aload_n 0, 1) := by decide +kernel
theorem dX5_init_5 : decode cX5_init 5 = .ok (.bipush 8, 2) := by decide +kernel
theorem dX5_init_7 : decode cX5_init 7 = .ok (.newarray .int, 2) := by decide +kernel
theorem dX5_init_9 : decode cX5_init 9 = .ok (.putfield 7, 3) := by decide +kernel
theorem dX5_init_12 : decode cX5_init 12 = .ok (.aload_n 0, 1) := by decide +kernel
theorem dX5_init_13 : decode cX5_init 13 = .ok (.bipush 8, 2) := by decide +kernel
theorem dX5_init_15 : decode cX5_init 15 = .ok (.newarray .int, 2) := by decide +kernel
theorem dX5_init_17 : decode cX5_init 17 = .ok (.putfield 13, 3) := by decide +kernel
theorem dX5_init_20 : decode cX5_init 20 = .ok (.aload_n 0, 1) := by decide +kernel
theorem dX5_init_21 : decode cX5_init 21 = .ok (.sipush 136, 3) := by decide +kernel
theorem dX5_init_24 : decode cX5_init 24 = .ok (.newarray .long, 2) := by decide +kernel
theorem dX5_init_26 : decode cX5_init 26 = .ok (.putfield 16, 3) := by decide +kernel
theorem dX5_init_29 : decode cX5_init 29 = .ok (.aload_n 0, 1) := by decide +kernel
theorem dX5_init_30 : decode cX5_init 30 = .ok (.sipush 136, 3) := by decide +kernel
theorem dX5_init_33 : decode cX5_init 33 = .ok (.newarray .boolean, 2) := by decide +kernel
theorem dX5_init_35 : decode cX5_init 35 = .ok (.putfield 20, 3) := by decide +kernel
theorem dX5_init_38 : decode cX5_init 38 = .ok (.aload_n 0, 1) := by decide +kernel
theorem dX5_init_39 : decode cX5_init 39 = .ok (.bipush 17, 2) := by decide +kernel
theorem dX5_init_41 : decode cX5_init 41 = .ok (.newarray .long, 2) := by decide +kernel
theorem dX5_init_43 : decode cX5_init 43 = .ok (.putfield 24, 3) := by decide +kernel
theorem dX5_init_46 : decode cX5_init 46 = .ok (.aload_n 0, 1) := by decide +kernel
theorem dX5_init_47 : decode cX5_init 47 = .ok (.bipush 9, 2) := by decide +kernel
theorem dX5_init_49 : decode cX5_init 49 = .ok (.newarray .long, 2) := by decide +kernel
theorem dX5_init_51 : decode cX5_init 51 = .ok (.putfield 27, 3) := by decide +kernel
theorem dX5_init_54 : decode cX5_init 54 = .ok (.aload_n 0, 1) := by decide +kernel
theorem dX5_init_55 : decode cX5_init 55 = .ok (.bipush 17, 2) := by decide +kernel
theorem dX5_init_57 : decode cX5_init 57 = .ok (.newarray .boolean, 2) := by decide +kernel
theorem dX5_init_59 : decode cX5_init 59 = .ok (.putfield 30, 3) := by decide +kernel
theorem dX5_init_62 : decode cX5_init 62 = .ok (.aload_n 0, 1) := by decide +kernel
theorem dX5_init_63 : decode cX5_init 63 = .ok (.bipush 16, 2) := by decide +kernel
theorem dX5_init_65 : decode cX5_init 65 = .ok (.newarray .int, 2) := by decide +kernel
theorem dX5_init_67 : decode cX5_init 67 = .ok (.putfield 33, 3) := by decide +kernel
theorem dX5_init_70 : decode cX5_init 70 = .ok (.aload_n 0, 1) := by decide +kernel
theorem dX5_init_71 : decode cX5_init 71 = .ok (.bipush 16, 2) := by decide +kernel
theorem dX5_init_73 : decode cX5_init 73 = .ok (.newarray .int, 2) := by decide +kernel
theorem dX5_init_75 : decode cX5_init 75 = .ok (.putfield 36, 3) := by decide +kernel
theorem dX5_init_78 : decode cX5_init 78 = .ok (.aload_n 0, 1) := by decide +kernel
theorem dX5_init_79 : decode cX5_init 79 = .ok (.bipush 9, 2) := by decide +kernel
theorem dX5_init_81 : decode cX5_init 81 = .ok (.newarray .long, 2) := by decide +kernel
theorem dX5_init_83 : decode cX5_init 83 = .ok (.putfield 39, 3) := by decide +kernel
theorem dX5_init_86 : decode cX5_init 86 = .ok (.aload_n 0, 1) := by decide +kernel
theorem dX5_init_87 : decode cX5_init 87 = .ok (.bipush 9, 2) := by decide +kernel
theorem dX5_init_89 : decode cX5_init 89 = .ok (.newarray .long, 2) := by decide +kernel
theorem dX5_init_91 : decode cX5_init 91 = .ok (.putfield 42, 3) := by decide +kernel
theorem dX5_init_94 : decode cX5_init 94 = .ok (.iconst 1, 1) := by decide +kernel
theorem dX5_init_95 : decode cX5_init 95 = .ok (.istore_n 1, 1) := by decide +kernel
theorem dX5_init_96 : decode cX5_init 96 = .ok (.iload_n 1, 1) := by decide +kernel
theorem dX5_init_97 : decode cX5_init 97 = .ok (.bipush 16, 2) := by decide +kernel
theorem dX5_init_99 : decode cX5_init 99 = .ok (.if_icmp .gt 23, 3) := by decide +kernel
theorem dX5_init_102 : decode cX5_init 102 = .ok (.aload_n 0, 1) := by decide +kernel
theorem dX5_init_103 : decode cX5_init 103 = .ok (.getfield 24, 3) := by decide +kernel
theorem dX5_init_106 : decode cX5_init 106 = .ok (.iload_n 1, 1) := by decide +kernel
theorem dX5_init_107 : decode cX5_init 107 = .ok (.iload_n 1, 1) := by decide +kernel
theorem dX5_init_108 : decode cX5_init 108 = .ok (.i2l, 1) := by decide +kernel
theorem dX5_init_109 : decode cX5_init 109 = .ok (.ldc2_w 45, 3) := by decide +kernel
theorem dX5_init_112 : decode cX5_init 112 = .ok (.invokestatic 47, 3) := by decide +kernel
theorem dX5_init_115 : decode cX5_init 115 = .ok (.lastore, 1) := by decide +kernel
theorem dX5_init_116 : decode cX5_init 116 = .ok (.iinc 1 1, 3) := by decide +kernel
theorem dX5_init_119 : decode cX5_init 119 = .ok (.goto (-23), 3) := by decide +kernel
theorem dX5_init_122 : decode cX5_init 122 = .ok (.return_, 1) := by decide +kernel
theorem dX5_thrown_0 : decode cX5_thrown 0 = .ok (.aload_n 0, 1) := by decide +kernel
theorem dX5_thrown_1 : decode cX5_thrown 1 = .ok (.getfield 51, 3) := by decide +kernel
theorem dX5_thrown_4 : decode cX5_thrown 4 = .ok (.ireturn, 1) := by decide +kernel
theorem dX5_raise_0 : decode cX5_raise 0 = .ok (.aload_n 0, 1) := by decide +kernel
theorem dX5_raise_1 : decode cX5_raise 1 = .ok (.iload_n 1, 1) := by decide +kernel
theorem dX5_raise_2 : decode cX5_raise 2 = .ok (.putfield 51, 3) := by decide +kernel
theorem dX5_raise_5 : decode cX5_raise 5 = .ok (.iconst 0, 1) := by decide +kernel
theorem dX5_raise_6 : decode cX5_raise 6 = .ok (.ireturn, 1) := by decide +kernel
theorem dX5_reduced_0 : decode cX5_reduced 0 = .ok (.lload_n 0, 1) := by decide +kernel
theorem dX5_reduced_1 : decode cX5_reduced 1 = .ok (.ldc2_w 55, 3) := by decide +kernel
theorem dX5_reduced_4 : decode cX5_reduced 4 = .ok (.land, 1) := by decide +kernel
theorem dX5_reduced_5 : decode cX5_reduced 5 = .ok (.lload_n 0, 1) := by decide +kernel
theorem dX5_reduced_6 : decode cX5_reduced 6 = .ok (.bipush 61, 2) := by decide +kernel
theorem dX5_reduced_8 : decode cX5_reduced 8 = .ok (.lushr, 1) := by decide +kernel
theorem dX5_reduced_9 : decode cX5_reduced 9 = .ok (.ladd, 1) := by decide +kernel
theorem dX5_reduced_10 : decode cX5_reduced 10 = .ok (.lstore_n 2, 1) := by decide +kernel
theorem dX5_reduced_11 : decode cX5_reduced 11 = .ok (.lload_n 2, 1) := by decide +kernel
theorem dX5_reduced_12 : decode cX5_reduced 12 = .ok (.ldc2_w 55, 3) := by decide +kernel
theorem dX5_reduced_15 : decode cX5_reduced 15 = .ok (.lcmp, 1) := by decide +kernel
theorem dX5_reduced_16 : decode cX5_reduced 16 = .ok (.ifCond .lt 11, 3) := by decide +kernel
theorem dX5_reduced_19 : decode cX5_reduced 19 = .ok (.lload_n 2, 1) := by decide +kernel
theorem dX5_reduced_20 : decode cX5_reduced 20 = .ok (.ldc2_w 55, 3) := by decide +kernel
theorem dX5_reduced_23 : decode cX5_reduced 23 = .ok (.lsub, 1) := by decide +kernel
theorem dX5_reduced_24 : decode cX5_reduced 24 = .ok (.goto 4, 3) := by decide +kernel
theorem dX5_reduced_27 : decode cX5_reduced 27 = .ok (.lload_n 2, 1) := by decide +kernel
theorem dX5_reduced_28 : decode cX5_reduced 28 = .ok (.lreturn, 1) := by decide +kernel
theorem dX5_modulo_0 : decode cX5_modulo 0 = .ok (.lload_n 0, 1) := by decide +kernel
theorem dX5_modulo_1 : decode cX5_modulo 1 = .ok (.ldc2_w 55, 3) := by decide +kernel
theorem dX5_modulo_4 : decode cX5_modulo 4 = .ok (.lrem, 1) := by decide +kernel
theorem dX5_modulo_5 : decode cX5_modulo 5 = .ok (.lstore_n 2, 1) := by decide +kernel
theorem dX5_modulo_6 : decode cX5_modulo 6 = .ok (.lload_n 2, 1) := by decide +kernel
theorem dX5_modulo_7 : decode cX5_modulo 7 = .ok (.lconst 0, 1) := by decide +kernel
theorem dX5_modulo_8 : decode cX5_modulo 8 = .ok (.lcmp, 1) := by decide +kernel
theorem dX5_modulo_9 : decode cX5_modulo 9 = .ok (.ifCond .ge 11, 3) := by decide +kernel
theorem dX5_modulo_12 : decode cX5_modulo 12 = .ok (.lload_n 2, 1) := by decide +kernel
theorem dX5_modulo_13 : decode cX5_modulo 13 = .ok (.ldc2_w 55, 3) := by decide +kernel
theorem dX5_modulo_16 : decode cX5_modulo 16 = .ok (.ladd, 1) := by decide +kernel
theorem dX5_modulo_17 : decode cX5_modulo 17 = .ok (.goto 4, 3) := by decide +kernel
theorem dX5_modulo_20 : decode cX5_modulo 20 = .ok (.lload_n 2, 1) := by decide +kernel
theorem dX5_modulo_21 : decode cX5_modulo 21 = .ok (.lreturn, 1) := by decide +kernel
theorem dX5_plus_0 : decode cX5_plus 0 = .ok (.lload_n 0, 1) := by decide +kernel
theorem dX5_plus_1 : decode cX5_plus 1 = .ok (.lload_n 2, 1) := by decide +kernel
theorem dX5_plus_2 : decode cX5_plus 2 = .ok (.ladd, 1) := by decide +kernel
theorem dX5_plus_3 : decode cX5_plus 3 = .ok (.invokestatic 57, 3) := by decide +kernel
theorem dX5_plus_6 : decode cX5_plus 6 = .ok (.lreturn, 1) := by decide +kernel
theorem dX5_minus_0 : decode cX5_minus 0 = .ok (.lload_n 0, 1) := by decide +kernel
theorem dX5_minus_1 : decode cX5_minus 1 = .ok (.ldc2_w 55, 3) := by decide +kernel
theorem dX5_minus_4 : decode cX5_minus 4 = .ok (.ladd, 1) := by decide +kernel
theorem dX5_minus_5 : decode cX5_minus 5 = .ok (.lload_n 2, 1) := by decide +kernel
theorem dX5_minus_6 : decode cX5_minus 6 = .ok (.lsub, 1) := by decide +kernel
theorem dX5_minus_7 : decode cX5_minus 7 = .ok (.invokestatic 57, 3) := by decide +kernel
theorem dX5_minus_10 : decode cX5_minus 10 = .ok (.lreturn, 1) := by decide +kernel
theorem dX5_times_0 : decode cX5_times 0 = .ok (.lload_n 0, 1) := by decide +kernel
theorem dX5_times_1 : decode cX5_times 1 = .ok (.ldc2_w 61, 3) := by decide +kernel
theorem dX5_times_4 : decode cX5_times 4 = .ok (.land, 1) := by decide +kernel
theorem dX5_times_5 : decode cX5_times 5 = .ok (.lstore 4, 2) := by decide +kernel
theorem dX5_times_7 : decode cX5_times 7 = .ok (.lload_n 0, 1) := by decide +kernel
theorem dX5_times_8 : decode cX5_times 8 = .ok (.bipush 31, 2) := by decide +kernel
theorem dX5_times_10 : decode cX5_times 10 = .ok (.lushr, 1) := by decide +kernel
theorem dX5_times_11 : decode cX5_times 11 = .ok (.lstore 6, 2) := by decide +kernel
theorem dX5_times_13 : decode cX5_times 13 = .ok (.lload_n 2, 1) := by decide +kernel
theorem dX5_times_14 : decode cX5_times 14 = .ok (.ldc2_w 61, 3) := by decide +kernel
theorem dX5_times_17 : decode cX5_times 17 = .ok (.land, 1) := by decide +kernel
theorem dX5_times_18 : decode cX5_times 18 = .ok (.lstore 8, 2) := by decide +kernel
theorem dX5_times_20 : decode cX5_times 20 = .ok (.lload_n 2, 1) := by decide +kernel
theorem dX5_times_21 : decode cX5_times 21 = .ok (.bipush 31, 2) := by decide +kernel
theorem dX5_times_23 : decode cX5_times 23 = .ok (.lushr, 1) := by decide +kernel
theorem dX5_times_24 : decode cX5_times 24 = .ok (.lstore 10, 2) := by decide +kernel
theorem dX5_times_26 : decode cX5_times 26 = .ok (.lload 6, 2) := by decide +kernel
theorem dX5_times_28 : decode cX5_times 28 = .ok (.lload 8, 2) := by decide +kernel
theorem dX5_times_30 : decode cX5_times 30 = .ok (.lmul, 1) := by decide +kernel
theorem dX5_times_31 : decode cX5_times 31 = .ok (.lload 4, 2) := by decide +kernel
theorem dX5_times_33 : decode cX5_times 33 = .ok (.lload 10, 2) := by decide +kernel
theorem dX5_times_35 : decode cX5_times 35 = .ok (.lmul, 1) := by decide +kernel
theorem dX5_times_36 : decode cX5_times 36 = .ok (.ladd, 1) := by decide +kernel
theorem dX5_times_37 : decode cX5_times 37 = .ok (.lstore 12, 2) := by decide +kernel
theorem dX5_times_39 : decode cX5_times 39 = .ok (.ldc2_w 63, 3) := by decide +kernel
theorem dX5_times_42 : decode cX5_times 42 = .ok (.lload 6, 2) := by decide +kernel
theorem dX5_times_44 : decode cX5_times 44 = .ok (.lmul, 1) := by decide +kernel
theorem dX5_times_45 : decode cX5_times 45 = .ok (.lload 10, 2) := by decide +kernel
theorem dX5_times_47 : decode cX5_times 47 = .ok (.lmul, 1) := by decide +kernel
theorem dX5_times_48 : decode cX5_times 48 = .ok (.invokestatic 57, 3) := by decide +kernel
theorem dX5_times_51 : decode cX5_times 51 = .ok (.lload 12, 2) := by decide +kernel
theorem dX5_times_53 : decode cX5_times 53 = .ok (.bipush 30, 2) := by decide +kernel
theorem dX5_times_55 : decode cX5_times 55 = .ok (.lushr, 1) := by decide +kernel
theorem dX5_times_56 : decode cX5_times 56 = .ok (.invokestatic 65, 3) := by decide +kernel
theorem dX5_times_59 : decode cX5_times 59 = .ok (.lstore 14, 2) := by decide +kernel
theorem dX5_times_61 : decode cX5_times 61 = .ok (.lload 14, 2) := by decide +kernel
theorem dX5_times_63 : decode cX5_times 63 = .ok (.lload 12, 2) := by decide +kernel
theorem dX5_times_65 : decode cX5_times 65 = .ok (.ldc2_w 68, 3) := by decide +kernel
theorem dX5_times_68 : decode cX5_times 68 = .ok (.land, 1) := by decide +kernel
theorem dX5_times_69 : decode cX5_times 69 = .ok (.bipush 31, 2) := by decide +kernel
theorem dX5_times_71 : decode cX5_times 71 = .ok (.lshl, 1) := by decide +kernel
theorem dX5_times_72 : decode cX5_times 72 = .ok (.invokestatic 57, 3) := by decide +kernel
theorem dX5_times_75 : decode cX5_times 75 = .ok (.invokestatic 65, 3) := by decide +kernel
theorem dX5_times_78 : decode cX5_times 78 = .ok (.lstore 14, 2) := by decide +kernel
theorem dX5_times_80 : decode cX5_times 80 = .ok (.lload 14, 2) := by decide +kernel
theorem dX5_times_82 : decode cX5_times 82 = .ok (.lload 4, 2) := by decide +kernel
theorem dX5_times_84 : decode cX5_times 84 = .ok (.lload 8, 2) := by decide +kernel
theorem dX5_times_86 : decode cX5_times 86 = .ok (.lmul, 1) := by decide +kernel
theorem dX5_times_87 : decode cX5_times 87 = .ok (.invokestatic 57, 3) := by decide +kernel
theorem dX5_times_90 : decode cX5_times 90 = .ok (.invokestatic 65, 3) := by decide +kernel
theorem dX5_times_93 : decode cX5_times 93 = .ok (.lreturn, 1) := by decide +kernel
theorem dX5_power_0 : decode cX5_power 0 = .ok (.lconst 1, 1) := by decide +kernel
theorem dX5_power_1 : decode cX5_power 1 = .ok (.lstore 4, 2) := by decide +kernel
theorem dX5_power_3 : decode cX5_power 3 = .ok (.lload_n 0, 1) := by decide +kernel
theorem dX5_power_4 : decode cX5_power 4 = .ok (.lstore 6, 2) := by decide +kernel
theorem dX5_power_6 : decode cX5_power 6 = .ok (.lload_n 2, 1) := by decide +kernel
theorem dX5_power_7 : decode cX5_power 7 = .ok (.lstore 8, 2) := by decide +kernel
theorem dX5_power_9 : decode cX5_power 9 = .ok (.lload 8, 2) := by decide +kernel
theorem dX5_power_11 : decode cX5_power 11 = .ok (.lconst 0, 1) := by decide +kernel
theorem dX5_power_12 : decode cX5_power 12 = .ok (.lcmp, 1) := by decide +kernel
theorem dX5_power_13 : decode cX5_power 13 = .ok (.ifCond .le 39, 3) := by decide +kernel
theorem dX5_power_16 : decode cX5_power 16 = .ok (.lload 8, 2) := by decide +kernel
theorem dX5_power_18 : decode cX5_power 18 = .ok (.lconst 1, 1) := by decide +kernel
theorem dX5_power_19 : decode cX5_power 19 = .ok (.land, 1) := by decide +kernel
theorem dX5_power_20 : decode cX5_power 20 = .ok (.lconst 1, 1) := by decide +kernel
theorem dX5_power_21 : decode cX5_power 21 = .ok (.lcmp, 1) := by decide +kernel
theorem dX5_power_22 : decode cX5_power 22 = .ok (.ifCond .ne 12, 3) := by decide +kernel
theorem dX5_power_25 : decode cX5_power 25 = .ok (.lload 4, 2) := by decide +kernel
theorem dX5_power_27 : decode cX5_power 27 = .ok (.lload 6, 2) := by decide +kernel
theorem dX5_power_29 : decode cX5_power 29 = .ok (.invokestatic 70, 3) := by decide +kernel
theorem dX5_power_32 : decode cX5_power 32 = .ok (.lstore 4, 2) := by decide +kernel
theorem dX5_power_34 : decode cX5_power 34 = .ok (.lload 6, 2) := by decide +kernel
theorem dX5_power_36 : decode cX5_power 36 = .ok (.lload 6, 2) := by decide +kernel
theorem dX5_power_38 : decode cX5_power 38 = .ok (.invokestatic 70, 3) := by decide +kernel
theorem dX5_power_41 : decode cX5_power 41 = .ok (.lstore 6, 2) := by decide +kernel
theorem dX5_power_43 : decode cX5_power 43 = .ok (.lload 8, 2) := by decide +kernel
theorem dX5_power_45 : decode cX5_power 45 = .ok (.iconst 1, 1) := by decide +kernel
theorem dX5_power_46 : decode cX5_power 46 = .ok (.lshr, 1) := by decide +kernel
theorem dX5_power_47 : decode cX5_power 47 = .ok (.lstore 8, 2) := by decide +kernel
theorem dX5_power_49 : decode cX5_power 49 = .ok (.goto (-40), 3) := by decide +kernel
theorem dX5_power_52 : decode cX5_power 52 = .ok (.lload 4, 2) := by decide +kernel
theorem dX5_power_54 : decode cX5_power 54 = .ok (.lreturn, 1) := by decide +kernel
theorem dX5_stepped_0 : decode cX5_stepped 0 = .ok (.lload_n 0, 1) := by decide +kernel
theorem dX5_stepped_1 : decode cX5_stepped 1 = .ok (.ldc2_w 73, 3) := by decide +kernel
theorem dX5_stepped_4 : decode cX5_stepped 4 = .ok (.lmul, 1) := by decide +kernel
theorem dX5_stepped_5 : decode cX5_stepped 5 = .ok (.ldc2_w 75, 3) := by decide +kernel
theorem dX5_stepped_8 : decode cX5_stepped 8 = .ok (.ladd, 1) := by decide +kernel
theorem dX5_stepped_9 : decode cX5_stepped 9 = .ok (.lreturn, 1) := by decide +kernel
theorem dX5_isSplit_0 : decode cX5_isSplit 0 = .ok (.iload_n 0, 1) := by decide +kernel
theorem dX5_isSplit_1 : decode cX5_isSplit 1 = .ok (.ifCond .lt 13, 3) := by decide +kernel
theorem dX5_isSplit_4 : decode cX5_isSplit 4 = .ok (.iload_n 0, 1) := by decide +kernel
theorem dX5_isSplit_5 : decode cX5_isSplit 5 = .ok (.bipush 8, 2) := by decide +kernel
theorem dX5_isSplit_7 : decode cX5_isSplit 7 = .ok (.if_icmp .ge 7, 3) := by decide +kernel
theorem dX5_isSplit_10 : decode cX5_isSplit 10 = .ok (.iconst 1, 1) := by decide +kernel
theorem dX5_isSplit_11 : decode cX5_isSplit 11 = .ok (.goto 4, 3) := by decide +kernel
theorem dX5_isSplit_14 : decode cX5_isSplit 14 = .ok (.iconst 0, 1) := by decide +kernel
theorem dX5_isSplit_15 : decode cX5_isSplit 15 = .ok (.ireturn, 1) := by decide +kernel
theorem dX5_isPlace_0 : decode cX5_isPlace 0 = .ok (.iload_n 1, 1) := by decide +kernel
theorem dX5_isPlace_1 : decode cX5_isPlace 1 = .ok (.invokestatic 77, 3) := by decide +kernel
theorem dX5_isPlace_4 : decode cX5_isPlace 4 = .ok (.ifCond .eq 22, 3) := by decide +kernel
theorem dX5_isPlace_7 : decode cX5_isPlace 7 = .ok (.iload_n 2, 1) := by decide +kernel
theorem dX5_isPlace_8 : decode cX5_isPlace 8 = .ok (.iconst 1, 1) := by decide +kernel
theorem dX5_isPlace_9 : decode cX5_isPlace 9 = .ok (.if_icmp .lt 17, 3) := by decide +kernel
theorem dX5_isPlace_12 : decode cX5_isPlace 12 = .ok (.iload_n 2, 1) := by decide +kernel
theorem dX5_isPlace_13 : decode cX5_isPlace 13 = .ok (.aload_n 0, 1) := by decide +kernel
theorem dX5_isPlace_14 : decode cX5_isPlace 14 = .ok (.getfield 13, 3) := by decide +kernel
theorem dX5_isPlace_17 : decode cX5_isPlace 17 = .ok (.iload_n 1, 1) := by decide +kernel
theorem dX5_isPlace_18 : decode cX5_isPlace 18 = .ok (.iaload, 1) := by decide +kernel
theorem dX5_isPlace_19 : decode cX5_isPlace 19 = .ok (.if_icmp .gt 7, 3) := by decide +kernel
theorem dX5_isPlace_22 : decode cX5_isPlace 22 = .ok (.iconst 1, 1) := by decide +kernel
theorem dX5_isPlace_23 : decode cX5_isPlace 23 = .ok (.goto 4, 3) := by decide +kernel
theorem dX5_isPlace_26 : decode cX5_isPlace 26 = .ok (.iconst 0, 1) := by decide +kernel
theorem dX5_isPlace_27 : decode cX5_isPlace 27 = .ok (.ireturn, 1) := by decide +kernel
theorem dX5_home_0 : decode cX5_home 0 = .ok (.bipush 17, 2) := by decide +kernel
theorem dX5_home_2 : decode cX5_home 2 = .ok (.iload_n 0, 1) := by decide +kernel
theorem dX5_home_3 : decode cX5_home 3 = .ok (.imul, 1) := by decide +kernel
theorem dX5_home_4 : decode cX5_home 4 = .ok (.iload_n 1, 1) := by decide +kernel
theorem dX5_home_5 : decode cX5_home 5 = .ok (.iadd, 1) := by decide +kernel
theorem dX5_home_6 : decode cX5_home 6 = .ok (.ireturn, 1) := by decide +kernel
theorem dX5_onCurve_0 : decode cX5_onCurve 0 = .ok (.lconst 0, 1) := by decide +kernel
theorem dX5_onCurve_1 : decode cX5_onCurve 1 = .ok (.lstore 5, 2) := by decide +kernel
theorem dX5_onCurve_3 : decode cX5_onCurve 3 = .ok (.iload_n 2, 1) := by decide +kernel
theorem dX5_onCurve_4 : decode cX5_onCurve 4 = .ok (.istore 7, 2) := by decide +kernel
theorem dX5_onCurve_6 : decode cX5_onCurve 6 = .ok (.iload 7, 2) := by decide +kernel
theorem dX5_onCurve_8 : decode cX5_onCurve 8 = .ok (.ifCond .lt 24, 3) := by decide +kernel
theorem dX5_onCurve_11 : decode cX5_onCurve 11 = .ok (.lload 5, 2) := by decide +kernel
theorem dX5_onCurve_13 : decode cX5_onCurve 13 = .ok (.lload_n 3, 1) := by decide +kernel
theorem dX5_onCurve_14 : decode cX5_onCurve 14 = .ok (.invokestatic 70, 3) := by decide +kernel
theorem dX5_onCurve_17 : decode cX5_onCurve 17 = .ok (.aload_n 1, 1) := by decide +kernel
theorem dX5_onCurve_18 : decode cX5_onCurve 18 = .ok (.iload 7, 2) := by decide +kernel
theorem dX5_onCurve_20 : decode cX5_onCurve 20 = .ok (.laload, 1) := by decide +kernel
theorem dX5_onCurve_21 : decode cX5_onCurve 21 = .ok (.invokestatic 65, 3) := by decide +kernel
theorem dX5_onCurve_24 : decode cX5_onCurve 24 = .ok (.lstore 5, 2) := by decide +kernel
theorem dX5_onCurve_26 : decode cX5_onCurve 26 = .ok (.iinc 7 (-1), 3) := by decide +kernel
theorem dX5_onCurve_29 : decode cX5_onCurve 29 = .ok (.goto (-23), 3) := by decide +kernel
theorem dX5_onCurve_32 : decode cX5_onCurve 32 = .ok (.lload 5, 2) := by decide +kernel
theorem dX5_onCurve_34 : decode cX5_onCurve 34 = .ok (.lreturn, 1) := by decide +kernel
theorem dX5_draw_0 : decode cX5_draw 0 = .ok (.lload 4, 2) := by decide +kernel
theorem dX5_draw_2 : decode cX5_draw 2 = .ok (.lstore 6, 2) := by decide +kernel
theorem dX5_draw_4 : decode cX5_draw 4 = .ok (.aload_n 0, 1) := by decide +kernel
theorem dX5_draw_5 : decode cX5_draw 5 = .ok (.getfield 39, 3) := by decide +kernel
theorem dX5_draw_8 : decode cX5_draw 8 = .ok (.iconst 0, 1) := by decide +kernel
theorem dX5_draw_9 : decode cX5_draw 9 = .ok (.lload_n 1, 1) := by decide +kernel
theorem dX5_draw_10 : decode cX5_draw 10 = .ok (.lastore, 1) := by decide +kernel
theorem dX5_draw_11 : decode cX5_draw 11 = .ok (.iconst 1, 1) := by decide +kernel
theorem dX5_draw_12 : decode cX5_draw 12 = .ok (.istore 8, 2) := by decide +kernel
theorem dX5_draw_14 : decode cX5_draw 14 = .ok (.iload 8, 2) := by decide +kernel
theorem dX5_draw_16 : decode cX5_draw 16 = .ok (.iload_n 3, 1) := by decide +kernel
theorem dX5_draw_17 : decode cX5_draw 17 = .ok (.if_icmp .gt 30, 3) := by decide +kernel
theorem dX5_draw_20 : decode cX5_draw 20 = .ok (.lload 6, 2) := by decide +kernel
theorem dX5_draw_22 : decode cX5_draw 22 = .ok (.invokestatic 81, 3) := by decide +kernel
theorem dX5_draw_25 : decode cX5_draw 25 = .ok (.lstore 6, 2) := by decide +kernel
theorem dX5_draw_27 : decode cX5_draw 27 = .ok (.aload_n 0, 1) := by decide +kernel
theorem dX5_draw_28 : decode cX5_draw 28 = .ok (.getfield 39, 3) := by decide +kernel
theorem dX5_draw_31 : decode cX5_draw 31 = .ok (.iload 8, 2) := by decide +kernel
theorem dX5_draw_33 : decode cX5_draw 33 = .ok (.lload 6, 2) := by decide +kernel
theorem dX5_draw_35 : decode cX5_draw 35 = .ok (.iconst 3, 1) := by decide +kernel
theorem dX5_draw_36 : decode cX5_draw 36 = .ok (.lushr, 1) := by decide +kernel
theorem dX5_draw_37 : decode cX5_draw 37 = .ok (.invokestatic 57, 3) := by decide +kernel
theorem dX5_draw_40 : decode cX5_draw 40 = .ok (.lastore, 1) := by decide +kernel
theorem dX5_draw_41 : decode cX5_draw 41 = .ok (.iinc 8 1, 3) := by decide +kernel
theorem dX5_draw_44 : decode cX5_draw 44 = .ok (.goto (-30), 3) := by decide +kernel
theorem dX5_draw_47 : decode cX5_draw 47 = .ok (.return_, 1) := by decide +kernel
theorem dX5_deal_0 : decode cX5_deal 0 = .ok (.aload_n 0, 1) := by decide +kernel
theorem dX5_deal_1 : decode cX5_deal 1 = .ok (.iconst 0, 1) := by decide +kernel
theorem dX5_deal_2 : decode cX5_deal 2 = .ok (.putfield 51, 3) := by decide +kernel
theorem dX5_deal_5 : decode cX5_deal 5 = .ok (.iload_n 1, 1) := by decide +kernel
theorem dX5_deal_6 : decode cX5_deal 6 = .ok (.invokestatic 77, 3) := by decide +kernel
theorem dX5_deal_9 : decode cX5_deal 9 = .ok (.ifCond .eq 26, 3) := by decide +kernel
theorem dX5_deal_12 : decode cX5_deal 12 = .ok (.iload_n 2, 1) := by decide +kernel
theorem dX5_deal_13 : decode cX5_deal 13 = .ok (.ifCond .lt 22, 3) := by decide +kernel
theorem dX5_deal_16 : decode cX5_deal 16 = .ok (.iload_n 2, 1) := by decide +kernel
theorem dX5_deal_17 : decode cX5_deal 17 = .ok (.bipush 8, 2) := by decide +kernel
theorem dX5_deal_19 : decode cX5_deal 19 = .ok (.if_icmp .gt 16, 3) := by decide +kernel
theorem dX5_deal_22 : decode cX5_deal 22 = .ok (.iload_n 3, 1) := by decide +kernel
theorem dX5_deal_23 : decode cX5_deal 23 = .ok (.iload_n 2, 1) := by decide +kernel
theorem dX5_deal_24 : decode cX5_deal 24 = .ok (.iconst 1, 1) := by decide +kernel
theorem dX5_deal_25 : decode cX5_deal 25 = .ok (.iadd, 1) := by decide +kernel
theorem dX5_deal_26 : decode cX5_deal 26 = .ok (.if_icmp .lt 9, 3) := by decide +kernel
theorem dX5_deal_29 : decode cX5_deal 29 = .ok (.iload_n 3, 1) := by decide +kernel
theorem dX5_deal_30 : decode cX5_deal 30 = .ok (.bipush 16, 2) := by decide +kernel
theorem dX5_deal_32 : decode cX5_deal 32 = .ok (.if_icmp .le 5, 3) := by decide +kernel
theorem dX5_deal_35 : decode cX5_deal 35 = .ok (.iconst 0, 1) := by decide +kernel
theorem dX5_deal_36 : decode cX5_deal 36 = .ok (.ireturn, 1) := by decide +kernel
theorem dX5_deal_37 : decode cX5_deal 37 = .ok (.aload_n 0, 1) := by decide +kernel
theorem dX5_deal_38 : decode cX5_deal 38 = .ok (.getfield 7, 3) := by decide +kernel
theorem dX5_deal_41 : decode cX5_deal 41 = .ok (.iload_n 1, 1) := by decide +kernel
theorem dX5_deal_42 : decode cX5_deal 42 = .ok (.iload_n 2, 1) := by decide +kernel
theorem dX5_deal_43 : decode cX5_deal 43 = .ok (.iastore, 1) := by decide +kernel
theorem dX5_deal_44 : decode cX5_deal 44 = .ok (.aload_n 0, 1) := by decide +kernel
theorem dX5_deal_45 : decode cX5_deal 45 = .ok (.getfield 13, 3) := by decide +kernel
theorem dX5_deal_48 : decode cX5_deal 48 = .ok (.iload_n 1, 1) := by decide +kernel
theorem dX5_deal_49 : decode cX5_deal 49 = .ok (.iload_n 3, 1) := by decide +kernel
theorem dX5_deal_50 : decode cX5_deal 50 = .ok (.iastore, 1) := by decide +kernel
theorem dX5_deal_51 : decode cX5_deal 51 = .ok (.aload_n 0, 1) := by decide +kernel
theorem dX5_deal_52 : decode cX5_deal 52 = .ok (.lload 4, 2) := by decide +kernel
theorem dX5_deal_54 : decode cX5_deal 54 = .ok (.invokestatic 84, 3) := by decide +kernel
theorem dX5_deal_57 : decode cX5_deal 57 = .ok (.iload_n 2, 1) := by decide +kernel
theorem dX5_deal_58 : decode cX5_deal 58 = .ok (.lload 6, 2) := by decide +kernel
theorem dX5_deal_60 : decode cX5_deal 60 = .ok (.invokevirtual 87, 3) := by decide +kernel
theorem dX5_deal_63 : decode cX5_deal 63 = .ok (.iconst 1, 1) := by decide +kernel
theorem dX5_deal_64 : decode cX5_deal 64 = .ok (.istore 8, 2) := by decide +kernel
theorem dX5_deal_66 : decode cX5_deal 66 = .ok (.iload 8, 2) := by decide +kernel
theorem dX5_deal_68 : decode cX5_deal 68 = .ok (.iload_n 3, 1) := by decide +kernel
theorem dX5_deal_69 : decode cX5_deal 69 = .ok (.if_icmp .gt 44, 3) := by decide +kernel
theorem dX5_deal_72 : decode cX5_deal 72 = .ok (.aload_n 0, 1) := by decide +kernel
theorem dX5_deal_73 : decode cX5_deal 73 = .ok (.getfield 16, 3) := by decide +kernel
theorem dX5_deal_76 : decode cX5_deal 76 = .ok (.iload_n 1, 1) := by decide +kernel
theorem dX5_deal_77 : decode cX5_deal 77 = .ok (.iload 8, 2) := by decide +kernel
theorem dX5_deal_79 : decode cX5_deal 79 = .ok (.invokestatic 91, 3) := by decide +kernel
theorem dX5_deal_82 : decode cX5_deal 82 = .ok (.aload_n 0, 1) := by decide +kernel
theorem dX5_deal_83 : decode cX5_deal 83 = .ok (.aload_n 0, 1) := by decide +kernel
theorem dX5_deal_84 : decode cX5_deal 84 = .ok (.getfield 39, 3) := by decide +kernel
theorem dX5_deal_87 : decode cX5_deal 87 = .ok (.iload_n 2, 1) := by decide +kernel
theorem dX5_deal_88 : decode cX5_deal 88 = .ok (.iload 8, 2) := by decide +kernel
theorem dX5_deal_90 : decode cX5_deal 90 = .ok (.i2l, 1) := by decide +kernel
theorem dX5_deal_91 : decode cX5_deal 91 = .ok (.invokevirtual 95, 3) := by decide +kernel
theorem dX5_deal_94 : decode cX5_deal 94 = .ok (.lastore, 1) := by decide +kernel
theorem dX5_deal_95 : decode cX5_deal 95 = .ok (.aload_n 0, 1) := by decide +kernel
theorem dX5_deal_96 : decode cX5_deal 96 = .ok (.getfield 20, 3) := by decide +kernel
theorem dX5_deal_99 : decode cX5_deal 99 = .ok (.iload_n 1, 1) := by decide +kernel
theorem dX5_deal_100 : decode cX5_deal 100 = .ok (.iload 8, 2) := by decide +kernel
theorem dX5_deal_102 : decode cX5_deal 102 = .ok (.invokestatic 91, 3) := by decide +kernel
theorem dX5_deal_105 : decode cX5_deal 105 = .ok (.iconst 1, 1) := by decide +kernel
theorem dX5_deal_106 : decode cX5_deal 106 = .ok (.bastore, 1) := by decide +kernel
theorem dX5_deal_107 : decode cX5_deal 107 = .ok (.iinc 8 1, 3) := by decide +kernel
theorem dX5_deal_110 : decode cX5_deal 110 = .ok (.goto (-44), 3) := by decide +kernel
theorem dX5_deal_113 : decode cX5_deal 113 = .ok (.iconst 1, 1) := by decide +kernel
theorem dX5_deal_114 : decode cX5_deal 114 = .ok (.ireturn, 1) := by decide +kernel
theorem dX5_put_0 : decode cX5_put 0 = .ok (.aload_n 0, 1) := by decide +kernel
theorem dX5_put_1 : decode cX5_put 1 = .ok (.iconst 0, 1) := by decide +kernel
theorem dX5_put_2 : decode cX5_put 2 = .ok (.putfield 51, 3) := by decide +kernel
theorem dX5_put_5 : decode cX5_put 5 = .ok (.aload_n 0, 1) := by decide +kernel
theorem dX5_put_6 : decode cX5_put 6 = .ok (.iload_n 1, 1) := by decide +kernel
theorem dX5_put_7 : decode cX5_put 7 = .ok (.iload_n 2, 1) := by decide +kernel
theorem dX5_put_8 : decode cX5_put 8 = .ok (.invokevirtual 99, 3) := by decide +kernel
theorem dX5_put_11 : decode cX5_put 11 = .ok (.ifCond .ne 5, 3) := by decide +kernel
theorem dX5_put_14 : decode cX5_put 14 = .ok (.iconst 0, 1) := by decide +kernel
theorem dX5_put_15 : decode cX5_put 15 = .ok (.ireturn, 1) := by decide +kernel
theorem dX5_put_16 : decode cX5_put 16 = .ok (.aload_n 0, 1) := by decide +kernel
theorem dX5_put_17 : decode cX5_put 17 = .ok (.getfield 16, 3) := by decide +kernel
theorem dX5_put_20 : decode cX5_put 20 = .ok (.iload_n 1, 1) := by decide +kernel
theorem dX5_put_21 : decode cX5_put 21 = .ok (.iload_n 2, 1) := by decide +kernel
theorem dX5_put_22 : decode cX5_put 22 = .ok (.invokestatic 91, 3) := by decide +kernel
theorem dX5_put_25 : decode cX5_put 25 = .ok (.lload_n 3, 1) := by decide +kernel
theorem dX5_put_26 : decode cX5_put 26 = .ok (.invokestatic 84, 3) := by decide +kernel
theorem dX5_put_29 : decode cX5_put 29 = .ok (.lastore, 1) := by decide +kernel
theorem dX5_put_30 : decode cX5_put 30 = .ok (.aload_n 0, 1) := by decide +kernel
theorem dX5_put_31 : decode cX5_put 31 = .ok (.getfield 20, 3) := by decide +kernel
theorem dX5_put_34 : decode cX5_put 34 = .ok (.iload_n 1, 1) := by decide +kernel
theorem dX5_put_35 : decode cX5_put 35 = .ok (.iload_n 2, 1) := by decide +kernel
theorem dX5_put_36 : decode cX5_put 36 = .ok (.invokestatic 91, 3) := by decide +kernel
theorem dX5_put_39 : decode cX5_put 39 = .ok (.iconst 1, 1) := by decide +kernel
theorem dX5_put_40 : decode cX5_put 40 = .ok (.bastore, 1) := by decide +kernel
theorem dX5_put_41 : decode cX5_put 41 = .ok (.iconst 1, 1) := by decide +kernel
theorem dX5_put_42 : decode cX5_put 42 = .ok (.ireturn, 1) := by decide +kernel
theorem dX5_lose_0 : decode cX5_lose 0 = .ok (.aload_n 0, 1) := by decide +kernel
theorem dX5_lose_1 : decode cX5_lose 1 = .ok (.iconst 0, 1) := by decide +kernel
theorem dX5_lose_2 : decode cX5_lose 2 = .ok (.putfield 51, 3) := by decide +kernel
theorem dX5_lose_5 : decode cX5_lose 5 = .ok (.aload_n 0, 1) := by decide +kernel
theorem dX5_lose_6 : decode cX5_lose 6 = .ok (.iload_n 1, 1) := by decide +kernel
theorem dX5_lose_7 : decode cX5_lose 7 = .ok (.iload_n 2, 1) := by decide +kernel
theorem dX5_lose_8 : decode cX5_lose 8 = .ok (.invokevirtual 99, 3) := by decide +kernel
theorem dX5_lose_11 : decode cX5_lose 11 = .ok (.ifCond .eq 16, 3) := by decide +kernel
theorem dX5_lose_14 : decode cX5_lose 14 = .ok (.aload_n 0, 1) := by decide +kernel
theorem dX5_lose_15 : decode cX5_lose 15 = .ok (.getfield 20, 3) := by decide +kernel
theorem dX5_lose_18 : decode cX5_lose 18 = .ok (.iload_n 1, 1) := by decide +kernel
theorem dX5_lose_19 : decode cX5_lose 19 = .ok (.iload_n 2, 1) := by decide +kernel
theorem dX5_lose_20 : decode cX5_lose 20 = .ok (.invokestatic 91, 3) := by decide +kernel
theorem dX5_lose_23 : decode cX5_lose 23 = .ok (.baload, 1) := by decide +kernel
theorem dX5_lose_24 : decode cX5_lose 24 = .ok (.ifCond .ne 5, 3) := by decide +kernel
theorem dX5_lose_27 : decode cX5_lose 27 = .ok (.iconst 0, 1) := by decide +kernel
theorem dX5_lose_28 : decode cX5_lose 28 = .ok (.ireturn, 1) := by decide +kernel
theorem dX5_lose_29 : decode cX5_lose 29 = .ok (.aload_n 0, 1) := by decide +kernel
theorem dX5_lose_30 : decode cX5_lose 30 = .ok (.getfield 20, 3) := by decide +kernel
theorem dX5_lose_33 : decode cX5_lose 33 = .ok (.iload_n 1, 1) := by decide +kernel
theorem dX5_lose_34 : decode cX5_lose 34 = .ok (.iload_n 2, 1) := by decide +kernel
theorem dX5_lose_35 : decode cX5_lose 35 = .ok (.invokestatic 91, 3) := by decide +kernel
theorem dX5_lose_38 : decode cX5_lose 38 = .ok (.iconst 0, 1) := by decide +kernel
theorem dX5_lose_39 : decode cX5_lose 39 = .ok (.bastore, 1) := by decide +kernel
theorem dX5_lose_40 : decode cX5_lose 40 = .ok (.iconst 1, 1) := by decide +kernel
theorem dX5_lose_41 : decode cX5_lose 41 = .ok (.ireturn, 1) := by decide +kernel
theorem dX5_join_0 : decode cX5_join 0 = .ok (.aload_n 0, 1) := by decide +kernel
theorem dX5_join_1 : decode cX5_join 1 = .ok (.iconst 0, 1) := by decide +kernel
theorem dX5_join_2 : decode cX5_join 2 = .ok (.putfield 51, 3) := by decide +kernel
theorem dX5_join_5 : decode cX5_join 5 = .ok (.iload_n 1, 1) := by decide +kernel
theorem dX5_join_6 : decode cX5_join 6 = .ok (.invokestatic 77, 3) := by decide +kernel
theorem dX5_join_9 : decode cX5_join 9 = .ok (.ifCond .eq 28, 3) := by decide +kernel
theorem dX5_join_12 : decode cX5_join 12 = .ok (.iload_n 2, 1) := by decide +kernel
theorem dX5_join_13 : decode cX5_join 13 = .ok (.invokestatic 77, 3) := by decide +kernel
theorem dX5_join_16 : decode cX5_join 16 = .ok (.ifCond .eq 21, 3) := by decide +kernel
theorem dX5_join_19 : decode cX5_join 19 = .ok (.iload_n 3, 1) := by decide +kernel
theorem dX5_join_20 : decode cX5_join 20 = .ok (.invokestatic 77, 3) := by decide +kernel
theorem dX5_join_23 : decode cX5_join 23 = .ok (.ifCond .eq 14, 3) := by decide +kernel
theorem dX5_join_26 : decode cX5_join 26 = .ok (.iload 4, 2) := by decide +kernel
theorem dX5_join_28 : decode cX5_join 28 = .ok (.ifCond .lt 9, 3) := by decide +kernel
theorem dX5_join_31 : decode cX5_join 31 = .ok (.iload 4, 2) := by decide +kernel
theorem dX5_join_33 : decode cX5_join 33 = .ok (.iconst 2, 1) := by decide +kernel
theorem dX5_join_34 : decode cX5_join 34 = .ok (.if_icmp .le 5, 3) := by decide +kernel
theorem dX5_join_37 : decode cX5_join 37 = .ok (.iconst 0, 1) := by decide +kernel
theorem dX5_join_38 : decode cX5_join 38 = .ok (.ireturn, 1) := by decide +kernel
theorem dX5_join_39 : decode cX5_join 39 = .ok (.iload 4, 2) := by decide +kernel
theorem dX5_join_41 : decode cX5_join 41 = .ok (.iconst 2, 1) := by decide +kernel
theorem dX5_join_42 : decode cX5_join 42 = .ok (.if_icmp .ne 19, 3) := by decide +kernel
theorem dX5_join_45 : decode cX5_join 45 = .ok (.aload_n 0, 1) := by decide +kernel
theorem dX5_join_46 : decode cX5_join 46 = .ok (.getfield 7, 3) := by decide +kernel
theorem dX5_join_49 : decode cX5_join 49 = .ok (.iload_n 2, 1) := by decide +kernel
theorem dX5_join_50 : decode cX5_join 50 = .ok (.iaload, 1) := by decide +kernel
theorem dX5_join_51 : decode cX5_join 51 = .ok (.aload_n 0, 1) := by decide +kernel
theorem dX5_join_52 : decode cX5_join 52 = .ok (.getfield 7, 3) := by decide +kernel
theorem dX5_join_55 : decode cX5_join 55 = .ok (.iload_n 3, 1) := by decide +kernel
theorem dX5_join_56 : decode cX5_join 56 = .ok (.iaload, 1) := by decide +kernel
theorem dX5_join_57 : decode cX5_join 57 = .ok (.iadd, 1) := by decide +kernel
theorem dX5_join_58 : decode cX5_join 58 = .ok (.goto 33, 3) := by decide +kernel
theorem dX5_join_61 : decode cX5_join 61 = .ok (.aload_n 0, 1) := by decide +kernel
theorem dX5_join_62 : decode cX5_join 62 = .ok (.getfield 7, 3) := by decide +kernel
theorem dX5_join_65 : decode cX5_join 65 = .ok (.iload_n 2, 1) := by decide +kernel
theorem dX5_join_66 : decode cX5_join 66 = .ok (.iaload, 1) := by decide +kernel
theorem dX5_join_67 : decode cX5_join 67 = .ok (.aload_n 0, 1) := by decide +kernel
theorem dX5_join_68 : decode cX5_join 68 = .ok (.getfield 7, 3) := by decide +kernel
theorem dX5_join_71 : decode cX5_join 71 = .ok (.iload_n 3, 1) := by decide +kernel
theorem dX5_join_72 : decode cX5_join 72 = .ok (.iaload, 1) := by decide +kernel
theorem dX5_join_73 : decode cX5_join 73 = .ok (.if_icmp .le 12, 3) := by decide +kernel
theorem dX5_join_76 : decode cX5_join 76 = .ok (.aload_n 0, 1) := by decide +kernel
theorem dX5_join_77 : decode cX5_join 77 = .ok (.getfield 7, 3) := by decide +kernel
theorem dX5_join_80 : decode cX5_join 80 = .ok (.iload_n 2, 1) := by decide +kernel
theorem dX5_join_81 : decode cX5_join 81 = .ok (.iaload, 1) := by decide +kernel
theorem dX5_join_82 : decode cX5_join 82 = .ok (.goto 9, 3) := by decide +kernel
theorem dX5_join_85 : decode cX5_join 85 = .ok (.aload_n 0, 1) := by decide +kernel
theorem dX5_join_86 : decode cX5_join 86 = .ok (.getfield 7, 3) := by decide +kernel
theorem dX5_join_89 : decode cX5_join 89 = .ok (.iload_n 3, 1) := by decide +kernel
theorem dX5_join_90 : decode cX5_join 90 = .ok (.iaload, 1) := by decide +kernel
theorem dX5_join_91 : decode cX5_join 91 = .ok (.istore 5, 2) := by decide +kernel
theorem dX5_join_93 : decode cX5_join 93 = .ok (.iload 5, 2) := by decide +kernel
theorem dX5_join_95 : decode cX5_join 95 = .ok (.bipush 8, 2) := by decide +kernel
theorem dX5_join_97 : decode cX5_join 97 = .ok (.if_icmp .le 5, 3) := by decide +kernel
theorem dX5_join_100 : decode cX5_join 100 = .ok (.iconst 0, 1) := by decide +kernel
theorem dX5_join_101 : decode cX5_join 101 = .ok (.ireturn, 1) := by decide +kernel
theorem dX5_join_102 : decode cX5_join 102 = .ok (.aload_n 0, 1) := by decide +kernel
theorem dX5_join_103 : decode cX5_join 103 = .ok (.getfield 13, 3) := by decide +kernel
theorem dX5_join_106 : decode cX5_join 106 = .ok (.iload_n 2, 1) := by decide +kernel
theorem dX5_join_107 : decode cX5_join 107 = .ok (.iaload, 1) := by decide +kernel
theorem dX5_join_108 : decode cX5_join 108 = .ok (.aload_n 0, 1) := by decide +kernel
theorem dX5_join_109 : decode cX5_join 109 = .ok (.getfield 13, 3) := by decide +kernel
theorem dX5_join_112 : decode cX5_join 112 = .ok (.iload_n 3, 1) := by decide +kernel
theorem dX5_join_113 : decode cX5_join 113 = .ok (.iaload, 1) := by decide +kernel
theorem dX5_join_114 : decode cX5_join 114 = .ok (.if_icmp .ge 12, 3) := by decide +kernel
theorem dX5_join_117 : decode cX5_join 117 = .ok (.aload_n 0, 1) := by decide +kernel
theorem dX5_join_118 : decode cX5_join 118 = .ok (.getfield 13, 3) := by decide +kernel
theorem dX5_join_121 : decode cX5_join 121 = .ok (.iload_n 2, 1) := by decide +kernel
theorem dX5_join_122 : decode cX5_join 122 = .ok (.iaload, 1) := by decide +kernel
theorem dX5_join_123 : decode cX5_join 123 = .ok (.goto 9, 3) := by decide +kernel
theorem dX5_join_126 : decode cX5_join 126 = .ok (.aload_n 0, 1) := by decide +kernel
theorem dX5_join_127 : decode cX5_join 127 = .ok (.getfield 13, 3) := by decide +kernel
theorem dX5_join_130 : decode cX5_join 130 = .ok (.iload_n 3, 1) := by decide +kernel
theorem dX5_join_131 : decode cX5_join 131 = .ok (.iaload, 1) := by decide +kernel
theorem dX5_join_132 : decode cX5_join 132 = .ok (.istore 6, 2) := by decide +kernel
theorem dX5_join_134 : decode cX5_join 134 = .ok (.iconst 1, 1) := by decide +kernel
theorem dX5_join_135 : decode cX5_join 135 = .ok (.istore 7, 2) := by decide +kernel
theorem dX5_join_137 : decode cX5_join 137 = .ok (.iload 7, 2) := by decide +kernel
theorem dX5_join_139 : decode cX5_join 139 = .ok (.iload 6, 2) := by decide +kernel
theorem dX5_join_141 : decode cX5_join 141 = .ok (.if_icmp .gt 128, 3) := by decide +kernel
theorem dX5_join_144 : decode cX5_join 144 = .ok (.aload_n 0, 1) := by decide +kernel
theorem dX5_join_145 : decode cX5_join 145 = .ok (.getfield 16, 3) := by decide +kernel
theorem dX5_join_148 : decode cX5_join 148 = .ok (.iload_n 2, 1) := by decide +kernel
theorem dX5_join_149 : decode cX5_join 149 = .ok (.iload 7, 2) := by decide +kernel
theorem dX5_join_151 : decode cX5_join 151 = .ok (.invokestatic 91, 3) := by decide +kernel
theorem dX5_join_154 : decode cX5_join 154 = .ok (.laload, 1) := by decide +kernel
theorem dX5_join_155 : decode cX5_join 155 = .ok (.lstore 8, 2) := by decide +kernel
theorem dX5_join_157 : decode cX5_join 157 = .ok (.aload_n 0, 1) := by decide +kernel
theorem dX5_join_158 : decode cX5_join 158 = .ok (.getfield 16, 3) := by decide +kernel
theorem dX5_join_161 : decode cX5_join 161 = .ok (.iload_n 3, 1) := by decide +kernel
theorem dX5_join_162 : decode cX5_join 162 = .ok (.iload 7, 2) := by decide +kernel
theorem dX5_join_164 : decode cX5_join 164 = .ok (.invokestatic 91, 3) := by decide +kernel
theorem dX5_join_167 : decode cX5_join 167 = .ok (.laload, 1) := by decide +kernel
theorem dX5_join_168 : decode cX5_join 168 = .ok (.lstore 10, 2) := by decide +kernel
theorem dX5_join_170 : decode cX5_join 170 = .ok (.aload_n 0, 1) := by decide +kernel
theorem dX5_join_171 : decode cX5_join 171 = .ok (.getfield 20, 3) := by decide +kernel
theorem dX5_join_174 : decode cX5_join 174 = .ok (.iload_n 1, 1) := by decide +kernel
theorem dX5_join_175 : decode cX5_join 175 = .ok (.iload 7, 2) := by decide +kernel
theorem dX5_join_177 : decode cX5_join 177 = .ok (.invokestatic 91, 3) := by decide +kernel
theorem dX5_join_180 : decode cX5_join 180 = .ok (.aload_n 0, 1) := by decide +kernel
theorem dX5_join_181 : decode cX5_join 181 = .ok (.getfield 20, 3) := by decide +kernel
theorem dX5_join_184 : decode cX5_join 184 = .ok (.iload_n 2, 1) := by decide +kernel
theorem dX5_join_185 : decode cX5_join 185 = .ok (.iload 7, 2) := by decide +kernel
theorem dX5_join_187 : decode cX5_join 187 = .ok (.invokestatic 91, 3) := by decide +kernel
theorem dX5_join_190 : decode cX5_join 190 = .ok (.baload, 1) := by decide +kernel
theorem dX5_join_191 : decode cX5_join 191 = .ok (.ifCond .eq 21, 3) := by decide +kernel
theorem dX5_join_194 : decode cX5_join 194 = .ok (.aload_n 0, 1) := by decide +kernel
theorem dX5_join_195 : decode cX5_join 195 = .ok (.getfield 20, 3) := by decide +kernel
theorem dX5_join_198 : decode cX5_join 198 = .ok (.iload_n 3, 1) := by decide +kernel
theorem dX5_join_199 : decode cX5_join 199 = .ok (.iload 7, 2) := by decide +kernel
theorem dX5_join_201 : decode cX5_join 201 = .ok (.invokestatic 91, 3) := by decide +kernel
theorem dX5_join_204 : decode cX5_join 204 = .ok (.baload, 1) := by decide +kernel
theorem dX5_join_205 : decode cX5_join 205 = .ok (.ifCond .eq 7, 3) := by decide +kernel
theorem dX5_join_208 : decode cX5_join 208 = .ok (.iconst 1, 1) := by decide +kernel
theorem dX5_join_209 : decode cX5_join 209 = .ok (.goto 4, 3) := by decide +kernel
theorem dX5_join_212 : decode cX5_join 212 = .ok (.iconst 0, 1) := by decide +kernel
theorem dX5_join_213 : decode cX5_join 213 = .ok (.bastore, 1) := by decide +kernel
theorem dX5_join_214 : decode cX5_join 214 = .ok (.aload_n 0, 1) := by decide +kernel
theorem dX5_join_215 : decode cX5_join 215 = .ok (.getfield 16, 3) := by decide +kernel
theorem dX5_join_218 : decode cX5_join 218 = .ok (.iload_n 1, 1) := by decide +kernel
theorem dX5_join_219 : decode cX5_join 219 = .ok (.iload 7, 2) := by decide +kernel
theorem dX5_join_221 : decode cX5_join 221 = .ok (.invokestatic 91, 3) := by decide +kernel
theorem dX5_join_224 : decode cX5_join 224 = .ok (.iload 4, 2) := by decide +kernel
theorem dX5_join_226 : decode cX5_join 226 = .ok (.ifCond .ne 13, 3) := by decide +kernel
theorem dX5_join_229 : decode cX5_join 229 = .ok (.lload 8, 2) := by decide +kernel
theorem dX5_join_231 : decode cX5_join 231 = .ok (.lload 10, 2) := by decide +kernel
theorem dX5_join_233 : decode cX5_join 233 = .ok (.invokestatic 65, 3) := by decide +kernel
theorem dX5_join_236 : decode cX5_join 236 = .ok (.goto 26, 3) := by decide +kernel
theorem dX5_join_239 : decode cX5_join 239 = .ok (.iload 4, 2) := by decide +kernel
theorem dX5_join_241 : decode cX5_join 241 = .ok (.iconst 1, 1) := by decide +kernel
theorem dX5_join_242 : decode cX5_join 242 = .ok (.if_icmp .ne 13, 3) := by decide +kernel
theorem dX5_join_245 : decode cX5_join 245 = .ok (.lload 8, 2) := by decide +kernel
theorem dX5_join_247 : decode cX5_join 247 = .ok (.lload 10, 2) := by decide +kernel
theorem dX5_join_249 : decode cX5_join 249 = .ok (.invokestatic 103, 3) := by decide +kernel
theorem dX5_join_252 : decode cX5_join 252 = .ok (.goto 10, 3) := by decide +kernel
theorem dX5_join_255 : decode cX5_join 255 = .ok (.lload 8, 2) := by decide +kernel
theorem dX5_join_257 : decode cX5_join 257 = .ok (.lload 10, 2) := by decide +kernel
theorem dX5_join_259 : decode cX5_join 259 = .ok (.invokestatic 70, 3) := by decide +kernel
theorem dX5_join_262 : decode cX5_join 262 = .ok (.lastore, 1) := by decide +kernel
theorem dX5_join_263 : decode cX5_join 263 = .ok (.iinc 7 1, 3) := by decide +kernel
theorem dX5_join_266 : decode cX5_join 266 = .ok (.goto (-129), 3) := by decide +kernel
theorem dX5_join_269 : decode cX5_join 269 = .ok (.aload_n 0, 1) := by decide +kernel
theorem dX5_join_270 : decode cX5_join 270 = .ok (.getfield 13, 3) := by decide +kernel
theorem dX5_join_273 : decode cX5_join 273 = .ok (.iload_n 1, 1) := by decide +kernel
theorem dX5_join_274 : decode cX5_join 274 = .ok (.iload 6, 2) := by decide +kernel
theorem dX5_join_276 : decode cX5_join 276 = .ok (.iastore, 1) := by decide +kernel
theorem dX5_join_277 : decode cX5_join 277 = .ok (.aload_n 0, 1) := by decide +kernel
theorem dX5_join_278 : decode cX5_join 278 = .ok (.getfield 7, 3) := by decide +kernel
theorem dX5_join_281 : decode cX5_join 281 = .ok (.iload_n 1, 1) := by decide +kernel
theorem dX5_join_282 : decode cX5_join 282 = .ok (.iload 5, 2) := by decide +kernel
theorem dX5_join_284 : decode cX5_join 284 = .ok (.iastore, 1) := by decide +kernel
theorem dX5_join_285 : decode cX5_join 285 = .ok (.iconst 1, 1) := by decide +kernel
theorem dX5_join_286 : decode cX5_join 286 = .ok (.ireturn, 1) := by decide +kernel
theorem dX5_scale_0 : decode cX5_scale 0 = .ok (.aload_n 0, 1) := by decide +kernel
theorem dX5_scale_1 : decode cX5_scale 1 = .ok (.iconst 0, 1) := by decide +kernel
theorem dX5_scale_2 : decode cX5_scale 2 = .ok (.putfield 51, 3) := by decide +kernel
theorem dX5_scale_5 : decode cX5_scale 5 = .ok (.iload_n 1, 1) := by decide +kernel
theorem dX5_scale_6 : decode cX5_scale 6 = .ok (.invokestatic 77, 3) := by decide +kernel
theorem dX5_scale_9 : decode cX5_scale 9 = .ok (.ifCond .ne 5, 3) := by decide +kernel
theorem dX5_scale_12 : decode cX5_scale 12 = .ok (.iconst 0, 1) := by decide +kernel
theorem dX5_scale_13 : decode cX5_scale 13 = .ok (.ireturn, 1) := by decide +kernel
theorem dX5_scale_14 : decode cX5_scale 14 = .ok (.iconst 1, 1) := by decide +kernel
theorem dX5_scale_15 : decode cX5_scale 15 = .ok (.istore 6, 2) := by decide +kernel
theorem dX5_scale_17 : decode cX5_scale 17 = .ok (.iload 6, 2) := by decide +kernel
theorem dX5_scale_19 : decode cX5_scale 19 = .ok (.aload_n 0, 1) := by decide +kernel
theorem dX5_scale_20 : decode cX5_scale 20 = .ok (.getfield 13, 3) := by decide +kernel
theorem dX5_scale_23 : decode cX5_scale 23 = .ok (.iload_n 1, 1) := by decide +kernel
theorem dX5_scale_24 : decode cX5_scale 24 = .ok (.iaload, 1) := by decide +kernel
theorem dX5_scale_25 : decode cX5_scale 25 = .ok (.if_icmp .gt 46, 3) := by decide +kernel
theorem dX5_scale_28 : decode cX5_scale 28 = .ok (.aload_n 0, 1) := by decide +kernel
theorem dX5_scale_29 : decode cX5_scale 29 = .ok (.getfield 16, 3) := by decide +kernel
theorem dX5_scale_32 : decode cX5_scale 32 = .ok (.iload_n 1, 1) := by decide +kernel
theorem dX5_scale_33 : decode cX5_scale 33 = .ok (.iload 6, 2) := by decide +kernel
theorem dX5_scale_35 : decode cX5_scale 35 = .ok (.invokestatic 91, 3) := by decide +kernel
theorem dX5_scale_38 : decode cX5_scale 38 = .ok (.aload_n 0, 1) := by decide +kernel
theorem dX5_scale_39 : decode cX5_scale 39 = .ok (.getfield 16, 3) := by decide +kernel
theorem dX5_scale_42 : decode cX5_scale 42 = .ok (.iload_n 1, 1) := by decide +kernel
theorem dX5_scale_43 : decode cX5_scale 43 = .ok (.iload 6, 2) := by decide +kernel
theorem dX5_scale_45 : decode cX5_scale 45 = .ok (.invokestatic 91, 3) := by decide +kernel
theorem dX5_scale_48 : decode cX5_scale 48 = .ok (.laload, 1) := by decide +kernel
theorem dX5_scale_49 : decode cX5_scale 49 = .ok (.lload_n 2, 1) := by decide +kernel
theorem dX5_scale_50 : decode cX5_scale 50 = .ok (.invokestatic 84, 3) := by decide +kernel
theorem dX5_scale_53 : decode cX5_scale 53 = .ok (.invokestatic 70, 3) := by decide +kernel
theorem dX5_scale_56 : decode cX5_scale 56 = .ok (.lload 4, 2) := by decide +kernel
theorem dX5_scale_58 : decode cX5_scale 58 = .ok (.invokestatic 84, 3) := by decide +kernel
theorem dX5_scale_61 : decode cX5_scale 61 = .ok (.invokestatic 65, 3) := by decide +kernel
theorem dX5_scale_64 : decode cX5_scale 64 = .ok (.lastore, 1) := by decide +kernel
theorem dX5_scale_65 : decode cX5_scale 65 = .ok (.iinc 6 1, 3) := by decide +kernel
theorem dX5_scale_68 : decode cX5_scale 68 = .ok (.goto (-51), 3) := by decide +kernel
theorem dX5_scale_71 : decode cX5_scale 71 = .ok (.iconst 1, 1) := by decide +kernel
theorem dX5_scale_72 : decode cX5_scale 72 = .ok (.ireturn, 1) := by decide +kernel
theorem dX5_renew_0 : decode cX5_renew 0 = .ok (.aload_n 0, 1) := by decide +kernel
theorem dX5_renew_1 : decode cX5_renew 1 = .ok (.iconst 0, 1) := by decide +kernel
theorem dX5_renew_2 : decode cX5_renew 2 = .ok (.putfield 51, 3) := by decide +kernel
theorem dX5_renew_5 : decode cX5_renew 5 = .ok (.iload_n 1, 1) := by decide +kernel
theorem dX5_renew_6 : decode cX5_renew 6 = .ok (.invokestatic 77, 3) := by decide +kernel
theorem dX5_renew_9 : decode cX5_renew 9 = .ok (.ifCond .ne 5, 3) := by decide +kernel
theorem dX5_renew_12 : decode cX5_renew 12 = .ok (.iconst 0, 1) := by decide +kernel
theorem dX5_renew_13 : decode cX5_renew 13 = .ok (.ireturn, 1) := by decide +kernel
theorem dX5_renew_14 : decode cX5_renew 14 = .ok (.aload_n 0, 1) := by decide +kernel
theorem dX5_renew_15 : decode cX5_renew 15 = .ok (.lconst 0, 1) := by decide +kernel
theorem dX5_renew_16 : decode cX5_renew 16 = .ok (.aload_n 0, 1) := by decide +kernel
theorem dX5_renew_17 : decode cX5_renew 17 = .ok (.getfield 7, 3) := by decide +kernel
theorem dX5_renew_20 : decode cX5_renew 20 = .ok (.iload_n 1, 1) := by decide +kernel
theorem dX5_renew_21 : decode cX5_renew 21 = .ok (.iaload, 1) := by decide +kernel
theorem dX5_renew_22 : decode cX5_renew 22 = .ok (.lload_n 2, 1) := by decide +kernel
theorem dX5_renew_23 : decode cX5_renew 23 = .ok (.invokevirtual 87, 3) := by decide +kernel
theorem dX5_renew_26 : decode cX5_renew 26 = .ok (.iconst 1, 1) := by decide +kernel
theorem dX5_renew_27 : decode cX5_renew 27 = .ok (.istore 4, 2) := by decide +kernel
theorem dX5_renew_29 : decode cX5_renew 29 = .ok (.iload 4, 2) := by decide +kernel
theorem dX5_renew_31 : decode cX5_renew 31 = .ok (.aload_n 0, 1) := by decide +kernel
theorem dX5_renew_32 : decode cX5_renew 32 = .ok (.getfield 13, 3) := by decide +kernel
theorem dX5_renew_35 : decode cX5_renew 35 = .ok (.iload_n 1, 1) := by decide +kernel
theorem dX5_renew_36 : decode cX5_renew 36 = .ok (.iaload, 1) := by decide +kernel
theorem dX5_renew_37 : decode cX5_renew 37 = .ok (.if_icmp .gt 51, 3) := by decide +kernel
theorem dX5_renew_40 : decode cX5_renew 40 = .ok (.aload_n 0, 1) := by decide +kernel
theorem dX5_renew_41 : decode cX5_renew 41 = .ok (.getfield 16, 3) := by decide +kernel
theorem dX5_renew_44 : decode cX5_renew 44 = .ok (.iload_n 1, 1) := by decide +kernel
theorem dX5_renew_45 : decode cX5_renew 45 = .ok (.iload 4, 2) := by decide +kernel
theorem dX5_renew_47 : decode cX5_renew 47 = .ok (.invokestatic 91, 3) := by decide +kernel
theorem dX5_renew_50 : decode cX5_renew 50 = .ok (.aload_n 0, 1) := by decide +kernel
theorem dX5_renew_51 : decode cX5_renew 51 = .ok (.getfield 16, 3) := by decide +kernel
theorem dX5_renew_54 : decode cX5_renew 54 = .ok (.iload_n 1, 1) := by decide +kernel
theorem dX5_renew_55 : decode cX5_renew 55 = .ok (.iload 4, 2) := by decide +kernel
theorem dX5_renew_57 : decode cX5_renew 57 = .ok (.invokestatic 91, 3) := by decide +kernel
theorem dX5_renew_60 : decode cX5_renew 60 = .ok (.laload, 1) := by decide +kernel
theorem dX5_renew_61 : decode cX5_renew 61 = .ok (.aload_n 0, 1) := by decide +kernel
theorem dX5_renew_62 : decode cX5_renew 62 = .ok (.aload_n 0, 1) := by decide +kernel
theorem dX5_renew_63 : decode cX5_renew 63 = .ok (.getfield 39, 3) := by decide +kernel
theorem dX5_renew_66 : decode cX5_renew 66 = .ok (.aload_n 0, 1) := by decide +kernel
theorem dX5_renew_67 : decode cX5_renew 67 = .ok (.getfield 7, 3) := by decide +kernel
theorem dX5_renew_70 : decode cX5_renew 70 = .ok (.iload_n 1, 1) := by decide +kernel
theorem dX5_renew_71 : decode cX5_renew 71 = .ok (.iaload, 1) := by decide +kernel
theorem dX5_renew_72 : decode cX5_renew 72 = .ok (.iload 4, 2) := by decide +kernel
theorem dX5_renew_74 : decode cX5_renew 74 = .ok (.i2l, 1) := by decide +kernel
theorem dX5_renew_75 : decode cX5_renew 75 = .ok (.invokevirtual 95, 3) := by decide +kernel
theorem dX5_renew_78 : decode cX5_renew 78 = .ok (.invokestatic 65, 3) := by decide +kernel
theorem dX5_renew_81 : decode cX5_renew 81 = .ok (.lastore, 1) := by decide +kernel
theorem dX5_renew_82 : decode cX5_renew 82 = .ok (.iinc 4 1, 3) := by decide +kernel
theorem dX5_renew_85 : decode cX5_renew 85 = .ok (.goto (-56), 3) := by decide +kernel
theorem dX5_renew_88 : decode cX5_renew 88 = .ok (.iconst 1, 1) := by decide +kernel
theorem dX5_renew_89 : decode cX5_renew 89 = .ok (.ireturn, 1) := by decide +kernel
theorem dX5_over_0 : decode cX5_over 0 = .ok (.iload_n 3, 1) := by decide +kernel
theorem dX5_over_1 : decode cX5_over 1 = .ok (.ifCond .ge 21, 3) := by decide +kernel
theorem dX5_over_4 : decode cX5_over 4 = .ok (.lconst 0, 1) := by decide +kernel
theorem dX5_over_5 : decode cX5_over 5 = .ok (.lload_n 1, 1) := by decide +kernel
theorem dX5_over_6 : decode cX5_over 6 = .ok (.aload_n 0, 1) := by decide +kernel
theorem dX5_over_7 : decode cX5_over 7 = .ok (.getfield 24, 3) := by decide +kernel
theorem dX5_over_10 : decode cX5_over 10 = .ok (.iload_n 3, 1) := by decide +kernel
theorem dX5_over_11 : decode cX5_over 11 = .ok (.ineg, 1) := by decide +kernel
theorem dX5_over_12 : decode cX5_over 12 = .ok (.laload, 1) := by decide +kernel
theorem dX5_over_13 : decode cX5_over 13 = .ok (.invokestatic 70, 3) := by decide +kernel
theorem dX5_over_16 : decode cX5_over 16 = .ok (.invokestatic 103, 3) := by decide +kernel
theorem dX5_over_19 : decode cX5_over 19 = .ok (.goto 13, 3) := by decide +kernel
theorem dX5_over_22 : decode cX5_over 22 = .ok (.lload_n 1, 1) := by decide +kernel
theorem dX5_over_23 : decode cX5_over 23 = .ok (.aload_n 0, 1) := by decide +kernel
theorem dX5_over_24 : decode cX5_over 24 = .ok (.getfield 24, 3) := by decide +kernel
theorem dX5_over_27 : decode cX5_over 27 = .ok (.iload_n 3, 1) := by decide +kernel
theorem dX5_over_28 : decode cX5_over 28 = .ok (.laload, 1) := by decide +kernel
theorem dX5_over_29 : decode cX5_over 29 = .ok (.invokestatic 70, 3) := by decide +kernel
theorem dX5_over_32 : decode cX5_over 32 = .ok (.lreturn, 1) := by decide +kernel
theorem dX5_through_0 : decode cX5_through 0 = .ok (.iconst 0, 1) := by decide +kernel
theorem dX5_through_1 : decode cX5_through 1 = .ok (.istore_n 3, 1) := by decide +kernel
theorem dX5_through_2 : decode cX5_through 2 = .ok (.iload_n 3, 1) := by decide +kernel
theorem dX5_through_3 : decode cX5_through 3 = .ok (.iload_n 2, 1) := by decide +kernel
theorem dX5_through_4 : decode cX5_through 4 = .ok (.if_icmp .gt 30, 3) := by decide +kernel
theorem dX5_through_7 : decode cX5_through 7 = .ok (.aload_n 0, 1) := by decide +kernel
theorem dX5_through_8 : decode cX5_through 8 = .ok (.getfield 42, 3) := by decide +kernel
theorem dX5_through_11 : decode cX5_through 11 = .ok (.iload_n 3, 1) := by decide +kernel
theorem dX5_through_12 : decode cX5_through 12 = .ok (.aload_n 0, 1) := by decide +kernel
theorem dX5_through_13 : decode cX5_through 13 = .ok (.getfield 16, 3) := by decide +kernel
theorem dX5_through_16 : decode cX5_through 16 = .ok (.iload_n 1, 1) := by decide +kernel
theorem dX5_through_17 : decode cX5_through 17 = .ok (.aload_n 0, 1) := by decide +kernel
theorem dX5_through_18 : decode cX5_through 18 = .ok (.getfield 36, 3) := by decide +kernel
theorem dX5_through_21 : decode cX5_through 21 = .ok (.iload_n 3, 1) := by decide +kernel
theorem dX5_through_22 : decode cX5_through 22 = .ok (.iaload, 1) := by decide +kernel
theorem dX5_through_23 : decode cX5_through 23 = .ok (.invokestatic 91, 3) := by decide +kernel
theorem dX5_through_26 : decode cX5_through 26 = .ok (.laload, 1) := by decide +kernel
theorem dX5_through_27 : decode cX5_through 27 = .ok (.lastore, 1) := by decide +kernel
theorem dX5_through_28 : decode cX5_through 28 = .ok (.iinc 3 1, 3) := by decide +kernel
theorem dX5_through_31 : decode cX5_through 31 = .ok (.goto (-29), 3) := by decide +kernel
theorem dX5_through_34 : decode cX5_through 34 = .ok (.iconst 1, 1) := by decide +kernel
theorem dX5_through_35 : decode cX5_through 35 = .ok (.istore_n 3, 1) := by decide +kernel
theorem dX5_through_36 : decode cX5_through 36 = .ok (.iload_n 3, 1) := by decide +kernel
theorem dX5_through_37 : decode cX5_through 37 = .ok (.iload_n 2, 1) := by decide +kernel
theorem dX5_through_38 : decode cX5_through 38 = .ok (.if_icmp .gt 71, 3) := by decide +kernel
theorem dX5_through_41 : decode cX5_through 41 = .ok (.iload_n 2, 1) := by decide +kernel
theorem dX5_through_42 : decode cX5_through 42 = .ok (.istore 4, 2) := by decide +kernel
theorem dX5_through_44 : decode cX5_through 44 = .ok (.iload 4, 2) := by decide +kernel
theorem dX5_through_46 : decode cX5_through 46 = .ok (.iload_n 3, 1) := by decide +kernel
theorem dX5_through_47 : decode cX5_through 47 = .ok (.if_icmp .lt 56, 3) := by decide +kernel
theorem dX5_through_50 : decode cX5_through 50 = .ok (.aload_n 0, 1) := by decide +kernel
theorem dX5_through_51 : decode cX5_through 51 = .ok (.getfield 42, 3) := by decide +kernel
theorem dX5_through_54 : decode cX5_through 54 = .ok (.iload 4, 2) := by decide +kernel
theorem dX5_through_56 : decode cX5_through 56 = .ok (.aload_n 0, 1) := by decide +kernel
theorem dX5_through_57 : decode cX5_through 57 = .ok (.aload_n 0, 1) := by decide +kernel
theorem dX5_through_58 : decode cX5_through 58 = .ok (.getfield 42, 3) := by decide +kernel
theorem dX5_through_61 : decode cX5_through 61 = .ok (.iload 4, 2) := by decide +kernel
theorem dX5_through_63 : decode cX5_through 63 = .ok (.laload, 1) := by decide +kernel
theorem dX5_through_64 : decode cX5_through 64 = .ok (.aload_n 0, 1) := by decide +kernel
theorem dX5_through_65 : decode cX5_through 65 = .ok (.getfield 42, 3) := by decide +kernel
theorem dX5_through_68 : decode cX5_through 68 = .ok (.iload 4, 2) := by decide +kernel
theorem dX5_through_70 : decode cX5_through 70 = .ok (.iconst 1, 1) := by decide +kernel
theorem dX5_through_71 : decode cX5_through 71 = .ok (.isub, 1) := by decide +kernel
theorem dX5_through_72 : decode cX5_through 72 = .ok (.laload, 1) := by decide +kernel
theorem dX5_through_73 : decode cX5_through 73 = .ok (.invokestatic 103, 3) := by decide +kernel
theorem dX5_through_76 : decode cX5_through 76 = .ok (.aload_n 0, 1) := by decide +kernel
theorem dX5_through_77 : decode cX5_through 77 = .ok (.getfield 36, 3) := by decide +kernel
theorem dX5_through_80 : decode cX5_through 80 = .ok (.iload 4, 2) := by decide +kernel
theorem dX5_through_82 : decode cX5_through 82 = .ok (.iaload, 1) := by decide +kernel
theorem dX5_through_83 : decode cX5_through 83 = .ok (.aload_n 0, 1) := by decide +kernel
theorem dX5_through_84 : decode cX5_through 84 = .ok (.getfield 36, 3) := by decide +kernel
theorem dX5_through_87 : decode cX5_through 87 = .ok (.iload 4, 2) := by decide +kernel
theorem dX5_through_89 : decode cX5_through 89 = .ok (.iload_n 3, 1) := by decide +kernel
theorem dX5_through_90 : decode cX5_through 90 = .ok (.isub, 1) := by decide +kernel
theorem dX5_through_91 : decode cX5_through 91 = .ok (.iaload, 1) := by decide +kernel
theorem dX5_through_92 : decode cX5_through 92 = .ok (.isub, 1) := by decide +kernel
theorem dX5_through_93 : decode cX5_through 93 = .ok (.invokevirtual 106, 3) := by decide +kernel
theorem dX5_through_96 : decode cX5_through 96 = .ok (.lastore, 1) := by decide +kernel
theorem dX5_through_97 : decode cX5_through 97 = .ok (.iinc 4 (-1), 3) := by decide +kernel
theorem dX5_through_100 : decode cX5_through 100 = .ok (.goto (-56), 3) := by decide +kernel
theorem dX5_through_103 : decode cX5_through 103 = .ok (.iinc 3 1, 3) := by decide +kernel
theorem dX5_through_106 : decode cX5_through 106 = .ok (.goto (-70), 3) := by decide +kernel
theorem dX5_through_109 : decode cX5_through 109 = .ok (.iconst 0, 1) := by decide +kernel
theorem dX5_through_110 : decode cX5_through 110 = .ok (.istore_n 3, 1) := by decide +kernel
theorem dX5_through_111 : decode cX5_through 111 = .ok (.iload_n 3, 1) := by decide +kernel
theorem dX5_through_112 : decode cX5_through 112 = .ok (.bipush 8, 2) := by decide +kernel
theorem dX5_through_114 : decode cX5_through 114 = .ok (.if_icmp .gt 16, 3) := by decide +kernel
theorem dX5_through_117 : decode cX5_through 117 = .ok (.aload_n 0, 1) := by decide +kernel
theorem dX5_through_118 : decode cX5_through 118 = .ok (.getfield 39, 3) := by decide +kernel
theorem dX5_through_121 : decode cX5_through 121 = .ok (.iload_n 3, 1) := by decide +kernel
theorem dX5_through_122 : decode cX5_through 122 = .ok (.lconst 0, 1) := by decide +kernel
theorem dX5_through_123 : decode cX5_through 123 = .ok (.lastore, 1) := by decide +kernel
theorem dX5_through_124 : decode cX5_through 124 = .ok (.iinc 3 1, 3) := by decide +kernel
theorem dX5_through_127 : decode cX5_through 127 = .ok (.goto (-16), 3) := by decide +kernel
theorem dX5_through_130 : decode cX5_through 130 = .ok (.iload_n 2, 1) := by decide +kernel
theorem dX5_through_131 : decode cX5_through 131 = .ok (.istore_n 3, 1) := by decide +kernel
theorem dX5_through_132 : decode cX5_through 132 = .ok (.iload_n 3, 1) := by decide +kernel
theorem dX5_through_133 : decode cX5_through 133 = .ok (.ifCond .lt 106, 3) := by decide +kernel
theorem dX5_through_136 : decode cX5_through 136 = .ok (.iload_n 2, 1) := by decide +kernel
theorem dX5_through_137 : decode cX5_through 137 = .ok (.istore 4, 2) := by decide +kernel
theorem dX5_through_139 : decode cX5_through 139 = .ok (.iload 4, 2) := by decide +kernel
theorem dX5_through_141 : decode cX5_through 141 = .ok (.ifCond .le 45, 3) := by decide +kernel
theorem dX5_through_144 : decode cX5_through 144 = .ok (.aload_n 0, 1) := by decide +kernel
theorem dX5_through_145 : decode cX5_through 145 = .ok (.getfield 39, 3) := by decide +kernel
theorem dX5_through_148 : decode cX5_through 148 = .ok (.iload 4, 2) := by decide +kernel
theorem dX5_through_150 : decode cX5_through 150 = .ok (.aload_n 0, 1) := by decide +kernel
theorem dX5_through_151 : decode cX5_through 151 = .ok (.getfield 39, 3) := by decide +kernel
theorem dX5_through_154 : decode cX5_through 154 = .ok (.iload 4, 2) := by decide +kernel
theorem dX5_through_156 : decode cX5_through 156 = .ok (.iconst 1, 1) := by decide +kernel
theorem dX5_through_157 : decode cX5_through 157 = .ok (.isub, 1) := by decide +kernel
theorem dX5_through_158 : decode cX5_through 158 = .ok (.laload, 1) := by decide +kernel
theorem dX5_through_159 : decode cX5_through 159 = .ok (.aload_n 0, 1) := by decide +kernel
theorem dX5_through_160 : decode cX5_through 160 = .ok (.getfield 39, 3) := by decide +kernel
theorem dX5_through_163 : decode cX5_through 163 = .ok (.iload 4, 2) := by decide +kernel
theorem dX5_through_165 : decode cX5_through 165 = .ok (.laload, 1) := by decide +kernel
theorem dX5_through_166 : decode cX5_through 166 = .ok (.aload_n 0, 1) := by decide +kernel
theorem dX5_through_167 : decode cX5_through 167 = .ok (.getfield 36, 3) := by decide +kernel
theorem dX5_through_170 : decode cX5_through 170 = .ok (.iload_n 3, 1) := by decide +kernel
theorem dX5_through_171 : decode cX5_through 171 = .ok (.iaload, 1) := by decide +kernel
theorem dX5_through_172 : decode cX5_through 172 = .ok (.i2l, 1) := by decide +kernel
theorem dX5_through_173 : decode cX5_through 173 = .ok (.invokestatic 70, 3) := by decide +kernel
theorem dX5_through_176 : decode cX5_through 176 = .ok (.invokestatic 103, 3) := by decide +kernel
theorem dX5_through_179 : decode cX5_through 179 = .ok (.lastore, 1) := by decide +kernel
theorem dX5_through_180 : decode cX5_through 180 = .ok (.iinc 4 (-1), 3) := by decide +kernel
theorem dX5_through_183 : decode cX5_through 183 = .ok (.goto (-44), 3) := by decide +kernel
theorem dX5_through_186 : decode cX5_through 186 = .ok (.aload_n 0, 1) := by decide +kernel
theorem dX5_through_187 : decode cX5_through 187 = .ok (.getfield 39, 3) := by decide +kernel
theorem dX5_through_190 : decode cX5_through 190 = .ok (.iconst 0, 1) := by decide +kernel
theorem dX5_through_191 : decode cX5_through 191 = .ok (.lconst 0, 1) := by decide +kernel
theorem dX5_through_192 : decode cX5_through 192 = .ok (.aload_n 0, 1) := by decide +kernel
theorem dX5_through_193 : decode cX5_through 193 = .ok (.getfield 39, 3) := by decide +kernel
theorem dX5_through_196 : decode cX5_through 196 = .ok (.iconst 0, 1) := by decide +kernel
theorem dX5_through_197 : decode cX5_through 197 = .ok (.laload, 1) := by decide +kernel
theorem dX5_through_198 : decode cX5_through 198 = .ok (.aload_n 0, 1) := by decide +kernel
theorem dX5_through_199 : decode cX5_through 199 = .ok (.getfield 36, 3) := by decide +kernel
theorem dX5_through_202 : decode cX5_through 202 = .ok (.iload_n 3, 1) := by decide +kernel
theorem dX5_through_203 : decode cX5_through 203 = .ok (.iaload, 1) := by decide +kernel
theorem dX5_through_204 : decode cX5_through 204 = .ok (.i2l, 1) := by decide +kernel
theorem dX5_through_205 : decode cX5_through 205 = .ok (.invokestatic 70, 3) := by decide +kernel
theorem dX5_through_208 : decode cX5_through 208 = .ok (.invokestatic 103, 3) := by decide +kernel
theorem dX5_through_211 : decode cX5_through 211 = .ok (.lastore, 1) := by decide +kernel
theorem dX5_through_212 : decode cX5_through 212 = .ok (.aload_n 0, 1) := by decide +kernel
theorem dX5_through_213 : decode cX5_through 213 = .ok (.getfield 39, 3) := by decide +kernel
theorem dX5_through_216 : decode cX5_through 216 = .ok (.iconst 0, 1) := by decide +kernel
theorem dX5_through_217 : decode cX5_through 217 = .ok (.aload_n 0, 1) := by decide +kernel
theorem dX5_through_218 : decode cX5_through 218 = .ok (.getfield 39, 3) := by decide +kernel
theorem dX5_through_221 : decode cX5_through 221 = .ok (.iconst 0, 1) := by decide +kernel
theorem dX5_through_222 : decode cX5_through 222 = .ok (.laload, 1) := by decide +kernel
theorem dX5_through_223 : decode cX5_through 223 = .ok (.aload_n 0, 1) := by decide +kernel
theorem dX5_through_224 : decode cX5_through 224 = .ok (.getfield 42, 3) := by decide +kernel
theorem dX5_through_227 : decode cX5_through 227 = .ok (.iload_n 3, 1) := by decide +kernel
theorem dX5_through_228 : decode cX5_through 228 = .ok (.laload, 1) := by decide +kernel
theorem dX5_through_229 : decode cX5_through 229 = .ok (.invokestatic 65, 3) := by decide +kernel
theorem dX5_through_232 : decode cX5_through 232 = .ok (.lastore, 1) := by decide +kernel
theorem dX5_through_233 : decode cX5_through 233 = .ok (.iinc 3 (-1), 3) := by decide +kernel
theorem dX5_through_236 : decode cX5_through 236 = .ok (.goto (-104), 3) := by decide +kernel
theorem dX5_through_239 : decode cX5_through 239 = .ok (.return_, 1) := by decide +kernel
theorem dX5_missed_0 : decode cX5_missed 0 = .ok (.iconst 0, 1) := by decide +kernel
theorem dX5_missed_1 : decode cX5_missed 1 = .ok (.istore_n 3, 1) := by decide +kernel
theorem dX5_missed_2 : decode cX5_missed 2 = .ok (.iconst 0, 1) := by decide +kernel
theorem dX5_missed_3 : decode cX5_missed 3 = .ok (.istore 4, 2) := by decide +kernel
theorem dX5_missed_5 : decode cX5_missed 5 = .ok (.iload 4, 2) := by decide +kernel
theorem dX5_missed_7 : decode cX5_missed 7 = .ok (.aload_n 0, 1) := by decide +kernel
theorem dX5_missed_8 : decode cX5_missed 8 = .ok (.getfield 110, 3) := by decide +kernel
theorem dX5_missed_11 : decode cX5_missed 11 = .ok (.if_icmp .ge 54, 3) := by decide +kernel
theorem dX5_missed_14 : decode cX5_missed 14 = .ok (.iload_n 3, 1) := by decide +kernel
theorem dX5_missed_15 : decode cX5_missed 15 = .ok (.aload_n 0, 1) := by decide +kernel
theorem dX5_missed_16 : decode cX5_missed 16 = .ok (.aload_n 0, 1) := by decide +kernel
theorem dX5_missed_17 : decode cX5_missed 17 = .ok (.getfield 39, 3) := by decide +kernel
theorem dX5_missed_20 : decode cX5_missed 20 = .ok (.iload_n 2, 1) := by decide +kernel
theorem dX5_missed_21 : decode cX5_missed 21 = .ok (.aload_n 0, 1) := by decide +kernel
theorem dX5_missed_22 : decode cX5_missed 22 = .ok (.getfield 33, 3) := by decide +kernel
theorem dX5_missed_25 : decode cX5_missed 25 = .ok (.iload 4, 2) := by decide +kernel
theorem dX5_missed_27 : decode cX5_missed 27 = .ok (.iaload, 1) := by decide +kernel
theorem dX5_missed_28 : decode cX5_missed 28 = .ok (.i2l, 1) := by decide +kernel
theorem dX5_missed_29 : decode cX5_missed 29 = .ok (.invokevirtual 95, 3) := by decide +kernel
theorem dX5_missed_32 : decode cX5_missed 32 = .ok (.aload_n 0, 1) := by decide +kernel
theorem dX5_missed_33 : decode cX5_missed 33 = .ok (.getfield 16, 3) := by decide +kernel
theorem dX5_missed_36 : decode cX5_missed 36 = .ok (.iload_n 1, 1) := by decide +kernel
theorem dX5_missed_37 : decode cX5_missed 37 = .ok (.aload_n 0, 1) := by decide +kernel
theorem dX5_missed_38 : decode cX5_missed 38 = .ok (.getfield 33, 3) := by decide +kernel
theorem dX5_missed_41 : decode cX5_missed 41 = .ok (.iload 4, 2) := by decide +kernel
theorem dX5_missed_43 : decode cX5_missed 43 = .ok (.iaload, 1) := by decide +kernel
theorem dX5_missed_44 : decode cX5_missed 44 = .ok (.invokestatic 91, 3) := by decide +kernel
theorem dX5_missed_47 : decode cX5_missed 47 = .ok (.laload, 1) := by decide +kernel
theorem dX5_missed_48 : decode cX5_missed 48 = .ok (.lcmp, 1) := by decide +kernel
theorem dX5_missed_49 : decode cX5_missed 49 = .ok (.ifCond .eq 7, 3) := by decide +kernel
theorem dX5_missed_52 : decode cX5_missed 52 = .ok (.iconst 1, 1) := by decide +kernel
theorem dX5_missed_53 : decode cX5_missed 53 = .ok (.goto 4, 3) := by decide +kernel
theorem dX5_missed_56 : decode cX5_missed 56 = .ok (.iconst 0, 1) := by decide +kernel
theorem dX5_missed_57 : decode cX5_missed 57 = .ok (.iadd, 1) := by decide +kernel
theorem dX5_missed_58 : decode cX5_missed 58 = .ok (.istore_n 3, 1) := by decide +kernel
theorem dX5_missed_59 : decode cX5_missed 59 = .ok (.iinc 4 1, 3) := by decide +kernel
theorem dX5_missed_62 : decode cX5_missed 62 = .ok (.goto (-57), 3) := by decide +kernel
theorem dX5_missed_65 : decode cX5_missed 65 = .ok (.iload_n 3, 1) := by decide +kernel
theorem dX5_missed_66 : decode cX5_missed 66 = .ok (.ireturn, 1) := by decide +kernel
theorem dX5_isOne_0 : decode cX5_isOne 0 = .ok (.iconst 0, 1) := by decide +kernel
theorem dX5_isOne_1 : decode cX5_isOne 1 = .ok (.istore 4, 2) := by decide +kernel
theorem dX5_isOne_3 : decode cX5_isOne 3 = .ok (.iload 4, 2) := by decide +kernel
theorem dX5_isOne_5 : decode cX5_isOne 5 = .ok (.iconst 1, 1) := by decide +kernel
theorem dX5_isOne_6 : decode cX5_isOne 6 = .ok (.iload_n 2, 1) := by decide +kernel
theorem dX5_isOne_7 : decode cX5_isOne 7 = .ok (.iconst 1, 1) := by decide +kernel
theorem dX5_isOne_8 : decode cX5_isOne 8 = .ok (.iadd, 1) := by decide +kernel
theorem dX5_isOne_9 : decode cX5_isOne 9 = .ok (.iload_n 3, 1) := by decide +kernel
theorem dX5_isOne_10 : decode cX5_isOne 10 = .ok (.iadd, 1) := by decide +kernel
theorem dX5_isOne_11 : decode cX5_isOne 11 = .ok (.ishl, 1) := by decide +kernel
theorem dX5_isOne_12 : decode cX5_isOne 12 = .ok (.if_icmp .ge 96, 3) := by decide +kernel
theorem dX5_isOne_15 : decode cX5_isOne 15 = .ok (.iconst 0, 1) := by decide +kernel
theorem dX5_isOne_16 : decode cX5_isOne 16 = .ok (.istore 5, 2) := by decide +kernel
theorem dX5_isOne_18 : decode cX5_isOne 18 = .ok (.iconst 0, 1) := by decide +kernel
theorem dX5_isOne_19 : decode cX5_isOne 19 = .ok (.istore 6, 2) := by decide +kernel
theorem dX5_isOne_21 : decode cX5_isOne 21 = .ok (.iload 6, 2) := by decide +kernel
theorem dX5_isOne_23 : decode cX5_isOne 23 = .ok (.iload_n 2, 1) := by decide +kernel
theorem dX5_isOne_24 : decode cX5_isOne 24 = .ok (.iconst 1, 1) := by decide +kernel
theorem dX5_isOne_25 : decode cX5_isOne 25 = .ok (.iadd, 1) := by decide +kernel
theorem dX5_isOne_26 : decode cX5_isOne 26 = .ok (.iload_n 3, 1) := by decide +kernel
theorem dX5_isOne_27 : decode cX5_isOne 27 = .ok (.iadd, 1) := by decide +kernel
theorem dX5_isOne_28 : decode cX5_isOne 28 = .ok (.if_icmp .ge 45, 3) := by decide +kernel
theorem dX5_isOne_31 : decode cX5_isOne 31 = .ok (.iload 4, 2) := by decide +kernel
theorem dX5_isOne_33 : decode cX5_isOne 33 = .ok (.iload 6, 2) := by decide +kernel
theorem dX5_isOne_35 : decode cX5_isOne 35 = .ok (.ishr, 1) := by decide +kernel
theorem dX5_isOne_36 : decode cX5_isOne 36 = .ok (.iconst 1, 1) := by decide +kernel
theorem dX5_isOne_37 : decode cX5_isOne 37 = .ok (.iand, 1) := by decide +kernel
theorem dX5_isOne_38 : decode cX5_isOne 38 = .ok (.ifCond .ne 6, 3) := by decide +kernel
theorem dX5_isOne_41 : decode cX5_isOne 41 = .ok (.goto 26, 3) := by decide +kernel
theorem dX5_isOne_44 : decode cX5_isOne 44 = .ok (.iload 5, 2) := by decide +kernel
theorem dX5_isOne_46 : decode cX5_isOne 46 = .ok (.iload_n 2, 1) := by decide +kernel
theorem dX5_isOne_47 : decode cX5_isOne 47 = .ok (.if_icmp .gt 17, 3) := by decide +kernel
theorem dX5_isOne_50 : decode cX5_isOne 50 = .ok (.aload_n 0, 1) := by decide +kernel
theorem dX5_isOne_51 : decode cX5_isOne 51 = .ok (.getfield 36, 3) := by decide +kernel
theorem dX5_isOne_54 : decode cX5_isOne 54 = .ok (.iload 5, 2) := by decide +kernel
theorem dX5_isOne_56 : decode cX5_isOne 56 = .ok (.aload_n 0, 1) := by decide +kernel
theorem dX5_isOne_57 : decode cX5_isOne 57 = .ok (.getfield 33, 3) := by decide +kernel
theorem dX5_isOne_60 : decode cX5_isOne 60 = .ok (.iload 6, 2) := by decide +kernel
theorem dX5_isOne_62 : decode cX5_isOne 62 = .ok (.iaload, 1) := by decide +kernel
theorem dX5_isOne_63 : decode cX5_isOne 63 = .ok (.iastore, 1) := by decide +kernel
theorem dX5_isOne_64 : decode cX5_isOne 64 = .ok (.iinc 5 1, 3) := by decide +kernel
theorem dX5_isOne_67 : decode cX5_isOne 67 = .ok (.iinc 6 1, 3) := by decide +kernel
theorem dX5_isOne_70 : decode cX5_isOne 70 = .ok (.goto (-49), 3) := by decide +kernel
theorem dX5_isOne_73 : decode cX5_isOne 73 = .ok (.iload 5, 2) := by decide +kernel
theorem dX5_isOne_75 : decode cX5_isOne 75 = .ok (.iload_n 2, 1) := by decide +kernel
theorem dX5_isOne_76 : decode cX5_isOne 76 = .ok (.iconst 1, 1) := by decide +kernel
theorem dX5_isOne_77 : decode cX5_isOne 77 = .ok (.iadd, 1) := by decide +kernel
theorem dX5_isOne_78 : decode cX5_isOne 78 = .ok (.if_icmp .eq 6, 3) := by decide +kernel
theorem dX5_isOne_81 : decode cX5_isOne 81 = .ok (.goto 21, 3) := by decide +kernel
theorem dX5_isOne_84 : decode cX5_isOne 84 = .ok (.aload_n 0, 1) := by decide +kernel
theorem dX5_isOne_85 : decode cX5_isOne 85 = .ok (.iload_n 1, 1) := by decide +kernel
theorem dX5_isOne_86 : decode cX5_isOne 86 = .ok (.iload_n 2, 1) := by decide +kernel
theorem dX5_isOne_87 : decode cX5_isOne 87 = .ok (.invokevirtual 113, 3) := by decide +kernel
theorem dX5_isOne_90 : decode cX5_isOne 90 = .ok (.aload_n 0, 1) := by decide +kernel
theorem dX5_isOne_91 : decode cX5_isOne 91 = .ok (.iload_n 1, 1) := by decide +kernel
theorem dX5_isOne_92 : decode cX5_isOne 92 = .ok (.iload_n 2, 1) := by decide +kernel
theorem dX5_isOne_93 : decode cX5_isOne 93 = .ok (.invokevirtual 117, 3) := by decide +kernel
theorem dX5_isOne_96 : decode cX5_isOne 96 = .ok (.iload_n 3, 1) := by decide +kernel
theorem dX5_isOne_97 : decode cX5_isOne 97 = .ok (.if_icmp .gt 5, 3) := by decide +kernel
theorem dX5_isOne_100 : decode cX5_isOne 100 = .ok (.iconst 1, 1) := by decide +kernel
theorem dX5_isOne_101 : decode cX5_isOne 101 = .ok (.ireturn, 1) := by decide +kernel
theorem dX5_isOne_102 : decode cX5_isOne 102 = .ok (.iinc 4 1, 3) := by decide +kernel
theorem dX5_isOne_105 : decode cX5_isOne 105 = .ok (.goto (-102), 3) := by decide +kernel
theorem dX5_isOne_108 : decode cX5_isOne 108 = .ok (.iconst 0, 1) := by decide +kernel
theorem dX5_isOne_109 : decode cX5_isOne 109 = .ok (.ireturn, 1) := by decide +kernel
theorem dX5_find_0 : decode cX5_find 0 = .ok (.iload_n 1, 1) := by decide +kernel
theorem dX5_find_1 : decode cX5_find 1 = .ok (.invokestatic 77, 3) := by decide +kernel
theorem dX5_find_4 : decode cX5_find 4 = .ok (.ifCond .eq 13, 3) := by decide +kernel
theorem dX5_find_7 : decode cX5_find 7 = .ok (.iload_n 2, 1) := by decide +kernel
theorem dX5_find_8 : decode cX5_find 8 = .ok (.ifCond .lt 9, 3) := by decide +kernel
theorem dX5_find_11 : decode cX5_find 11 = .ok (.iload_n 2, 1) := by decide +kernel
theorem dX5_find_12 : decode cX5_find 12 = .ok (.bipush 7, 2) := by decide +kernel
theorem dX5_find_14 : decode cX5_find 14 = .ok (.if_icmp .le 9, 3) := by decide +kernel
theorem dX5_find_17 : decode cX5_find 17 = .ok (.aload_n 0, 1) := by decide +kernel
theorem dX5_find_18 : decode cX5_find 18 = .ok (.iconst 1, 1) := by decide +kernel
theorem dX5_find_19 : decode cX5_find 19 = .ok (.invokevirtual 120, 3) := by decide +kernel
theorem dX5_find_22 : decode cX5_find 22 = .ok (.ireturn, 1) := by decide +kernel
theorem dX5_find_23 : decode cX5_find 23 = .ok (.aload_n 0, 1) := by decide +kernel
theorem dX5_find_24 : decode cX5_find 24 = .ok (.iconst 0, 1) := by decide +kernel
theorem dX5_find_25 : decode cX5_find 25 = .ok (.putfield 110, 3) := by decide +kernel
theorem dX5_find_28 : decode cX5_find 28 = .ok (.iconst 1, 1) := by decide +kernel
theorem dX5_find_29 : decode cX5_find 29 = .ok (.istore_n 3, 1) := by decide +kernel
theorem dX5_find_30 : decode cX5_find 30 = .ok (.iload_n 3, 1) := by decide +kernel
theorem dX5_find_31 : decode cX5_find 31 = .ok (.aload_n 0, 1) := by decide +kernel
theorem dX5_find_32 : decode cX5_find 32 = .ok (.getfield 13, 3) := by decide +kernel
theorem dX5_find_35 : decode cX5_find 35 = .ok (.iload_n 1, 1) := by decide +kernel
theorem dX5_find_36 : decode cX5_find 36 = .ok (.iaload, 1) := by decide +kernel
theorem dX5_find_37 : decode cX5_find 37 = .ok (.if_icmp .gt 45, 3) := by decide +kernel
theorem dX5_find_40 : decode cX5_find 40 = .ok (.aload_n 0, 1) := by decide +kernel
theorem dX5_find_41 : decode cX5_find 41 = .ok (.getfield 20, 3) := by decide +kernel
theorem dX5_find_44 : decode cX5_find 44 = .ok (.iload_n 1, 1) := by decide +kernel
theorem dX5_find_45 : decode cX5_find 45 = .ok (.iload_n 3, 1) := by decide +kernel
theorem dX5_find_46 : decode cX5_find 46 = .ok (.invokestatic 91, 3) := by decide +kernel
theorem dX5_find_49 : decode cX5_find 49 = .ok (.baload, 1) := by decide +kernel
theorem dX5_find_50 : decode cX5_find 50 = .ok (.ifCond .ne 6, 3) := by decide +kernel
theorem dX5_find_53 : decode cX5_find 53 = .ok (.goto 23, 3) := by decide +kernel
theorem dX5_find_56 : decode cX5_find 56 = .ok (.aload_n 0, 1) := by decide +kernel
theorem dX5_find_57 : decode cX5_find 57 = .ok (.getfield 33, 3) := by decide +kernel
theorem dX5_find_60 : decode cX5_find 60 = .ok (.aload_n 0, 1) := by decide +kernel
theorem dX5_find_61 : decode cX5_find 61 = .ok (.getfield 110, 3) := by decide +kernel
theorem dX5_find_64 : decode cX5_find 64 = .ok (.iload_n 3, 1) := by decide +kernel
theorem dX5_find_65 : decode cX5_find 65 = .ok (.iastore, 1) := by decide +kernel
theorem dX5_find_66 : decode cX5_find 66 = .ok (.aload_n 0, 1) := by decide +kernel
theorem dX5_find_67 : decode cX5_find 67 = .ok (.dup, 1) := by decide +kernel
theorem dX5_find_68 : decode cX5_find 68 = .ok (.getfield 110, 3) := by decide +kernel
theorem dX5_find_71 : decode cX5_find 71 = .ok (.iconst 1, 1) := by decide +kernel
theorem dX5_find_72 : decode cX5_find 72 = .ok (.iadd, 1) := by decide +kernel
theorem dX5_find_73 : decode cX5_find 73 = .ok (.putfield 110, 3) := by decide +kernel
theorem dX5_find_76 : decode cX5_find 76 = .ok (.iinc 3 1, 3) := by decide +kernel
theorem dX5_find_79 : decode cX5_find 79 = .ok (.goto (-49), 3) := by decide +kernel
theorem dX5_find_82 : decode cX5_find 82 = .ok (.aload_n 0, 1) := by decide +kernel
theorem dX5_find_83 : decode cX5_find 83 = .ok (.getfield 7, 3) := by decide +kernel
theorem dX5_find_86 : decode cX5_find 86 = .ok (.iload_n 1, 1) := by decide +kernel
theorem dX5_find_87 : decode cX5_find 87 = .ok (.iaload, 1) := by decide +kernel
theorem dX5_find_88 : decode cX5_find 88 = .ok (.istore_n 3, 1) := by decide +kernel
theorem dX5_find_89 : decode cX5_find 89 = .ok (.aload_n 0, 1) := by decide +kernel
theorem dX5_find_90 : decode cX5_find 90 = .ok (.getfield 110, 3) := by decide +kernel
theorem dX5_find_93 : decode cX5_find 93 = .ok (.iload_n 3, 1) := by decide +kernel
theorem dX5_find_94 : decode cX5_find 94 = .ok (.iconst 1, 1) := by decide +kernel
theorem dX5_find_95 : decode cX5_find 95 = .ok (.iadd, 1) := by decide +kernel
theorem dX5_find_96 : decode cX5_find 96 = .ok (.iconst 2, 1) := by decide +kernel
theorem dX5_find_97 : decode cX5_find 97 = .ok (.iload_n 2, 1) := by decide +kernel
theorem dX5_find_98 : decode cX5_find 98 = .ok (.imul, 1) := by decide +kernel
theorem dX5_find_99 : decode cX5_find 99 = .ok (.iadd, 1) := by decide +kernel
theorem dX5_find_100 : decode cX5_find 100 = .ok (.if_icmp .ge 9, 3) := by decide +kernel
theorem dX5_find_103 : decode cX5_find 103 = .ok (.aload_n 0, 1) := by decide +kernel
theorem dX5_find_104 : decode cX5_find 104 = .ok (.iconst 1, 1) := by decide +kernel
theorem dX5_find_105 : decode cX5_find 105 = .ok (.invokevirtual 120, 3) := by decide +kernel
theorem dX5_find_108 : decode cX5_find 108 = .ok (.ireturn, 1) := by decide +kernel
theorem dX5_find_109 : decode cX5_find 109 = .ok (.aload_n 0, 1) := by decide +kernel
theorem dX5_find_110 : decode cX5_find 110 = .ok (.iload_n 1, 1) := by decide +kernel
theorem dX5_find_111 : decode cX5_find 111 = .ok (.iload_n 3, 1) := by decide +kernel
theorem dX5_find_112 : decode cX5_find 112 = .ok (.iload_n 2, 1) := by decide +kernel
theorem dX5_find_113 : decode cX5_find 113 = .ok (.invokevirtual 124, 3) := by decide +kernel
theorem dX5_find_116 : decode cX5_find 116 = .ok (.ifCond .ne 9, 3) := by decide +kernel
theorem dX5_find_119 : decode cX5_find 119 = .ok (.aload_n 0, 1) := by decide +kernel
theorem dX5_find_120 : decode cX5_find 120 = .ok (.iconst 2, 1) := by decide +kernel
theorem dX5_find_121 : decode cX5_find 121 = .ok (.invokevirtual 120, 3) := by decide +kernel
theorem dX5_find_124 : decode cX5_find 124 = .ok (.ireturn, 1) := by decide +kernel
theorem dX5_find_125 : decode cX5_find 125 = .ok (.aload_n 0, 1) := by decide +kernel
theorem dX5_find_126 : decode cX5_find 126 = .ok (.iconst 0, 1) := by decide +kernel
theorem dX5_find_127 : decode cX5_find 127 = .ok (.putfield 51, 3) := by decide +kernel
theorem dX5_find_130 : decode cX5_find 130 = .ok (.aload_n 0, 1) := by decide +kernel
theorem dX5_find_131 : decode cX5_find 131 = .ok (.iconst 1, 1) := by decide +kernel
theorem dX5_find_132 : decode cX5_find 132 = .ok (.putfield 128, 3) := by decide +kernel
theorem dX5_find_135 : decode cX5_find 135 = .ok (.aload_n 0, 1) := by decide +kernel
theorem dX5_find_136 : decode cX5_find 136 = .ok (.iload_n 1, 1) := by decide +kernel
theorem dX5_find_137 : decode cX5_find 137 = .ok (.putfield 132, 3) := by decide +kernel
theorem dX5_find_140 : decode cX5_find 140 = .ok (.iconst 0, 1) := by decide +kernel
theorem dX5_find_141 : decode cX5_find 141 = .ok (.istore 4, 2) := by decide +kernel
theorem dX5_find_143 : decode cX5_find 143 = .ok (.iload 4, 2) := by decide +kernel
theorem dX5_find_145 : decode cX5_find 145 = .ok (.bipush 8, 2) := by decide +kernel
theorem dX5_find_147 : decode cX5_find 147 = .ok (.if_icmp .gt 23, 3) := by decide +kernel
theorem dX5_find_150 : decode cX5_find 150 = .ok (.aload_n 0, 1) := by decide +kernel
theorem dX5_find_151 : decode cX5_find 151 = .ok (.getfield 27, 3) := by decide +kernel
theorem dX5_find_154 : decode cX5_find 154 = .ok (.iload 4, 2) := by decide +kernel
theorem dX5_find_156 : decode cX5_find 156 = .ok (.aload_n 0, 1) := by decide +kernel
theorem dX5_find_157 : decode cX5_find 157 = .ok (.getfield 39, 3) := by decide +kernel
theorem dX5_find_160 : decode cX5_find 160 = .ok (.iload 4, 2) := by decide +kernel
theorem dX5_find_162 : decode cX5_find 162 = .ok (.laload, 1) := by decide +kernel
theorem dX5_find_163 : decode cX5_find 163 = .ok (.lastore, 1) := by decide +kernel
theorem dX5_find_164 : decode cX5_find 164 = .ok (.iinc 4 1, 3) := by decide +kernel
theorem dX5_find_167 : decode cX5_find 167 = .ok (.goto (-24), 3) := by decide +kernel
theorem dX5_find_170 : decode cX5_find 170 = .ok (.iconst 0, 1) := by decide +kernel
theorem dX5_find_171 : decode cX5_find 171 = .ok (.istore 4, 2) := by decide +kernel
theorem dX5_find_173 : decode cX5_find 173 = .ok (.iload 4, 2) := by decide +kernel
theorem dX5_find_175 : decode cX5_find 175 = .ok (.bipush 16, 2) := by decide +kernel
theorem dX5_find_177 : decode cX5_find 177 = .ok (.if_icmp .gt 17, 3) := by decide +kernel
theorem dX5_find_180 : decode cX5_find 180 = .ok (.aload_n 0, 1) := by decide +kernel
theorem dX5_find_181 : decode cX5_find 181 = .ok (.getfield 30, 3) := by decide +kernel
theorem dX5_find_184 : decode cX5_find 184 = .ok (.iload 4, 2) := by decide +kernel
theorem dX5_find_186 : decode cX5_find 186 = .ok (.iconst 0, 1) := by decide +kernel
theorem dX5_find_187 : decode cX5_find 187 = .ok (.bastore, 1) := by decide +kernel
theorem dX5_find_188 : decode cX5_find 188 = .ok (.iinc 4 1, 3) := by decide +kernel
theorem dX5_find_191 : decode cX5_find 191 = .ok (.goto (-18), 3) := by decide +kernel
theorem dX5_find_194 : decode cX5_find 194 = .ok (.iconst 0, 1) := by decide +kernel
theorem dX5_find_195 : decode cX5_find 195 = .ok (.istore 4, 2) := by decide +kernel
theorem dX5_find_197 : decode cX5_find 197 = .ok (.iconst 0, 1) := by decide +kernel
theorem dX5_find_198 : decode cX5_find 198 = .ok (.istore 5, 2) := by decide +kernel
theorem dX5_find_200 : decode cX5_find 200 = .ok (.iload 5, 2) := by decide +kernel
theorem dX5_find_202 : decode cX5_find 202 = .ok (.aload_n 0, 1) := by decide +kernel
theorem dX5_find_203 : decode cX5_find 203 = .ok (.getfield 110, 3) := by decide +kernel
theorem dX5_find_206 : decode cX5_find 206 = .ok (.if_icmp .ge 89, 3) := by decide +kernel
theorem dX5_find_209 : decode cX5_find 209 = .ok (.aload_n 0, 1) := by decide +kernel
theorem dX5_find_210 : decode cX5_find 210 = .ok (.getfield 30, 3) := by decide +kernel
theorem dX5_find_213 : decode cX5_find 213 = .ok (.aload_n 0, 1) := by decide +kernel
theorem dX5_find_214 : decode cX5_find 214 = .ok (.getfield 33, 3) := by decide +kernel
theorem dX5_find_217 : decode cX5_find 217 = .ok (.iload 5, 2) := by decide +kernel
theorem dX5_find_219 : decode cX5_find 219 = .ok (.iaload, 1) := by decide +kernel
theorem dX5_find_220 : decode cX5_find 220 = .ok (.aload_n 0, 1) := by decide +kernel
theorem dX5_find_221 : decode cX5_find 221 = .ok (.aload_n 0, 1) := by decide +kernel
theorem dX5_find_222 : decode cX5_find 222 = .ok (.getfield 27, 3) := by decide +kernel
theorem dX5_find_225 : decode cX5_find 225 = .ok (.bipush 8, 2) := by decide +kernel
theorem dX5_find_227 : decode cX5_find 227 = .ok (.aload_n 0, 1) := by decide +kernel
theorem dX5_find_228 : decode cX5_find 228 = .ok (.getfield 33, 3) := by decide +kernel
theorem dX5_find_231 : decode cX5_find 231 = .ok (.iload 5, 2) := by decide +kernel
theorem dX5_find_233 : decode cX5_find 233 = .ok (.iaload, 1) := by decide +kernel
theorem dX5_find_234 : decode cX5_find 234 = .ok (.i2l, 1) := by decide +kernel
theorem dX5_find_235 : decode cX5_find 235 = .ok (.invokevirtual 95, 3) := by decide +kernel
theorem dX5_find_238 : decode cX5_find 238 = .ok (.aload_n 0, 1) := by decide +kernel
theorem dX5_find_239 : decode cX5_find 239 = .ok (.getfield 16, 3) := by decide +kernel
theorem dX5_find_242 : decode cX5_find 242 = .ok (.iload_n 1, 1) := by decide +kernel
theorem dX5_find_243 : decode cX5_find 243 = .ok (.aload_n 0, 1) := by decide +kernel
theorem dX5_find_244 : decode cX5_find 244 = .ok (.getfield 33, 3) := by decide +kernel
theorem dX5_find_247 : decode cX5_find 247 = .ok (.iload 5, 2) := by decide +kernel
theorem dX5_find_249 : decode cX5_find 249 = .ok (.iaload, 1) := by decide +kernel
theorem dX5_find_250 : decode cX5_find 250 = .ok (.invokestatic 91, 3) := by decide +kernel
theorem dX5_find_253 : decode cX5_find 253 = .ok (.laload, 1) := by decide +kernel
theorem dX5_find_254 : decode cX5_find 254 = .ok (.lcmp, 1) := by decide +kernel
theorem dX5_find_255 : decode cX5_find 255 = .ok (.ifCond .eq 7, 3) := by decide +kernel
theorem dX5_find_258 : decode cX5_find 258 = .ok (.iconst 1, 1) := by decide +kernel
theorem dX5_find_259 : decode cX5_find 259 = .ok (.goto 4, 3) := by decide +kernel
theorem dX5_find_262 : decode cX5_find 262 = .ok (.iconst 0, 1) := by decide +kernel
theorem dX5_find_263 : decode cX5_find 263 = .ok (.bastore, 1) := by decide +kernel
theorem dX5_find_264 : decode cX5_find 264 = .ok (.iload 4, 2) := by decide +kernel
theorem dX5_find_266 : decode cX5_find 266 = .ok (.aload_n 0, 1) := by decide +kernel
theorem dX5_find_267 : decode cX5_find 267 = .ok (.getfield 30, 3) := by decide +kernel
theorem dX5_find_270 : decode cX5_find 270 = .ok (.aload_n 0, 1) := by decide +kernel
theorem dX5_find_271 : decode cX5_find 271 = .ok (.getfield 33, 3) := by decide +kernel
theorem dX5_find_274 : decode cX5_find 274 = .ok (.iload 5, 2) := by decide +kernel
theorem dX5_find_276 : decode cX5_find 276 = .ok (.iaload, 1) := by decide +kernel
theorem dX5_find_277 : decode cX5_find 277 = .ok (.baload, 1) := by decide +kernel
theorem dX5_find_278 : decode cX5_find 278 = .ok (.ifCond .eq 7, 3) := by decide +kernel
theorem dX5_find_281 : decode cX5_find 281 = .ok (.iconst 1, 1) := by decide +kernel
theorem dX5_find_282 : decode cX5_find 282 = .ok (.goto 4, 3) := by decide +kernel
theorem dX5_find_285 : decode cX5_find 285 = .ok (.iconst 0, 1) := by decide +kernel
theorem dX5_find_286 : decode cX5_find 286 = .ok (.iadd, 1) := by decide +kernel
theorem dX5_find_287 : decode cX5_find 287 = .ok (.istore 4, 2) := by decide +kernel
theorem dX5_find_289 : decode cX5_find 289 = .ok (.iinc 5 1, 3) := by decide +kernel
theorem dX5_find_292 : decode cX5_find 292 = .ok (.goto (-92), 3) := by decide +kernel
theorem dX5_find_295 : decode cX5_find 295 = .ok (.iload 4, 2) := by decide +kernel
theorem dX5_find_297 : decode cX5_find 297 = .ok (.ireturn, 1) := by decide +kernel
theorem dX5_at_0 : decode cX5_at 0 = .ok (.aload_n 0, 1) := by decide +kernel
theorem dX5_at_1 : decode cX5_at 1 = .ok (.aload_n 0, 1) := by decide +kernel
theorem dX5_at_2 : decode cX5_at 2 = .ok (.getfield 128, 3) := by decide +kernel
theorem dX5_at_5 : decode cX5_at 5 = .ok (.ifCond .eq 7, 3) := by decide +kernel
theorem dX5_at_8 : decode cX5_at 8 = .ok (.iconst 0, 1) := by decide +kernel
theorem dX5_at_9 : decode cX5_at 9 = .ok (.goto 4, 3) := by decide +kernel
theorem dX5_at_12 : decode cX5_at 12 = .ok (.iconst 1, 1) := by decide +kernel
theorem dX5_at_13 : decode cX5_at 13 = .ok (.putfield 51, 3) := by decide +kernel
theorem dX5_at_16 : decode cX5_at 16 = .ok (.aload_n 0, 1) := by decide +kernel
theorem dX5_at_17 : decode cX5_at 17 = .ok (.getfield 128, 3) := by decide +kernel
theorem dX5_at_20 : decode cX5_at 20 = .ok (.ifCond .eq 20, 3) := by decide +kernel
theorem dX5_at_23 : decode cX5_at 23 = .ok (.aload_n 0, 1) := by decide +kernel
theorem dX5_at_24 : decode cX5_at 24 = .ok (.aload_n 0, 1) := by decide +kernel
theorem dX5_at_25 : decode cX5_at 25 = .ok (.getfield 27, 3) := by decide +kernel
theorem dX5_at_28 : decode cX5_at 28 = .ok (.bipush 8, 2) := by decide +kernel
theorem dX5_at_30 : decode cX5_at 30 = .ok (.lload_n 1, 1) := by decide +kernel
theorem dX5_at_31 : decode cX5_at 31 = .ok (.invokestatic 84, 3) := by decide +kernel
theorem dX5_at_34 : decode cX5_at 34 = .ok (.invokevirtual 95, 3) := by decide +kernel
theorem dX5_at_37 : decode cX5_at 37 = .ok (.goto 4, 3) := by decide +kernel
theorem dX5_at_40 : decode cX5_at 40 = .ok (.lconst 0, 1) := by decide +kernel
theorem dX5_at_41 : decode cX5_at 41 = .ok (.lreturn, 1) := by decide +kernel
theorem dX5_part_0 : decode cX5_part 0 = .ok (.aload_n 0, 1) := by decide +kernel
theorem dX5_part_1 : decode cX5_part 1 = .ok (.aload_n 0, 1) := by decide +kernel
theorem dX5_part_2 : decode cX5_part 2 = .ok (.getfield 128, 3) := by decide +kernel
theorem dX5_part_5 : decode cX5_part 5 = .ok (.ifCond .eq 17, 3) := by decide +kernel
theorem dX5_part_8 : decode cX5_part 8 = .ok (.iload_n 1, 1) := by decide +kernel
theorem dX5_part_9 : decode cX5_part 9 = .ok (.ifCond .lt 13, 3) := by decide +kernel
theorem dX5_part_12 : decode cX5_part 12 = .ok (.iload_n 1, 1) := by decide +kernel
theorem dX5_part_13 : decode cX5_part 13 = .ok (.bipush 8, 2) := by decide +kernel
theorem dX5_part_15 : decode cX5_part 15 = .ok (.if_icmp .gt 7, 3) := by decide +kernel
theorem dX5_part_18 : decode cX5_part 18 = .ok (.iconst 0, 1) := by decide +kernel
theorem dX5_part_19 : decode cX5_part 19 = .ok (.goto 4, 3) := by decide +kernel
theorem dX5_part_22 : decode cX5_part 22 = .ok (.iconst 1, 1) := by decide +kernel
theorem dX5_part_23 : decode cX5_part 23 = .ok (.putfield 51, 3) := by decide +kernel
theorem dX5_part_26 : decode cX5_part 26 = .ok (.aload_n 0, 1) := by decide +kernel
theorem dX5_part_27 : decode cX5_part 27 = .ok (.getfield 51, 3) := by decide +kernel
theorem dX5_part_30 : decode cX5_part 30 = .ok (.ifCond .ne 12, 3) := by decide +kernel
theorem dX5_part_33 : decode cX5_part 33 = .ok (.aload_n 0, 1) := by decide +kernel
theorem dX5_part_34 : decode cX5_part 34 = .ok (.getfield 27, 3) := by decide +kernel
theorem dX5_part_37 : decode cX5_part 37 = .ok (.iload_n 1, 1) := by decide +kernel
theorem dX5_part_38 : decode cX5_part 38 = .ok (.laload, 1) := by decide +kernel
theorem dX5_part_39 : decode cX5_part 39 = .ok (.goto 4, 3) := by decide +kernel
theorem dX5_part_42 : decode cX5_part 42 = .ok (.lconst 0, 1) := by decide +kernel
theorem dX5_part_43 : decode cX5_part 43 = .ok (.lreturn, 1) := by decide +kernel
theorem dX5_wrong_0 : decode cX5_wrong 0 = .ok (.aload_n 0, 1) := by decide +kernel
theorem dX5_wrong_1 : decode cX5_wrong 1 = .ok (.iconst 0, 1) := by decide +kernel
theorem dX5_wrong_2 : decode cX5_wrong 2 = .ok (.putfield 51, 3) := by decide +kernel
theorem dX5_wrong_5 : decode cX5_wrong 5 = .ok (.aload_n 0, 1) := by decide +kernel
theorem dX5_wrong_6 : decode cX5_wrong 6 = .ok (.getfield 128, 3) := by decide +kernel
theorem dX5_wrong_9 : decode cX5_wrong 9 = .ok (.ifCond .eq 27, 3) := by decide +kernel
theorem dX5_wrong_12 : decode cX5_wrong 12 = .ok (.iload_n 1, 1) := by decide +kernel
theorem dX5_wrong_13 : decode cX5_wrong 13 = .ok (.iconst 1, 1) := by decide +kernel
theorem dX5_wrong_14 : decode cX5_wrong 14 = .ok (.if_icmp .lt 22, 3) := by decide +kernel
theorem dX5_wrong_17 : decode cX5_wrong 17 = .ok (.iload_n 1, 1) := by decide +kernel
theorem dX5_wrong_18 : decode cX5_wrong 18 = .ok (.bipush 16, 2) := by decide +kernel
theorem dX5_wrong_20 : decode cX5_wrong 20 = .ok (.if_icmp .gt 16, 3) := by decide +kernel
theorem dX5_wrong_23 : decode cX5_wrong 23 = .ok (.aload_n 0, 1) := by decide +kernel
theorem dX5_wrong_24 : decode cX5_wrong 24 = .ok (.getfield 30, 3) := by decide +kernel
theorem dX5_wrong_27 : decode cX5_wrong 27 = .ok (.iload_n 1, 1) := by decide +kernel
theorem dX5_wrong_28 : decode cX5_wrong 28 = .ok (.baload, 1) := by decide +kernel
theorem dX5_wrong_29 : decode cX5_wrong 29 = .ok (.ifCond .eq 7, 3) := by decide +kernel
theorem dX5_wrong_32 : decode cX5_wrong 32 = .ok (.iconst 1, 1) := by decide +kernel
theorem dX5_wrong_33 : decode cX5_wrong 33 = .ok (.goto 4, 3) := by decide +kernel
theorem dX5_wrong_36 : decode cX5_wrong 36 = .ok (.iconst 0, 1) := by decide +kernel
theorem dX5_wrong_37 : decode cX5_wrong 37 = .ok (.ireturn, 1) := by decide +kernel
theorem dX5_mend_0 : decode cX5_mend 0 = .ok (.aload_n 0, 1) := by decide +kernel
theorem dX5_mend_1 : decode cX5_mend 1 = .ok (.iconst 0, 1) := by decide +kernel
theorem dX5_mend_2 : decode cX5_mend 2 = .ok (.putfield 51, 3) := by decide +kernel
theorem dX5_mend_5 : decode cX5_mend 5 = .ok (.aload_n 0, 1) := by decide +kernel
theorem dX5_mend_6 : decode cX5_mend 6 = .ok (.getfield 128, 3) := by decide +kernel
theorem dX5_mend_9 : decode cX5_mend 9 = .ok (.ifCond .ne 5, 3) := by decide +kernel
theorem dX5_mend_12 : decode cX5_mend 12 = .ok (.iconst 0, 1) := by decide +kernel
theorem dX5_mend_13 : decode cX5_mend 13 = .ok (.ireturn, 1) := by decide +kernel
theorem dX5_mend_14 : decode cX5_mend 14 = .ok (.iconst 1, 1) := by decide +kernel
theorem dX5_mend_15 : decode cX5_mend 15 = .ok (.istore_n 1, 1) := by decide +kernel
theorem dX5_mend_16 : decode cX5_mend 16 = .ok (.iload_n 1, 1) := by decide +kernel
theorem dX5_mend_17 : decode cX5_mend 17 = .ok (.aload_n 0, 1) := by decide +kernel
theorem dX5_mend_18 : decode cX5_mend 18 = .ok (.getfield 13, 3) := by decide +kernel
theorem dX5_mend_21 : decode cX5_mend 21 = .ok (.aload_n 0, 1) := by decide +kernel
theorem dX5_mend_22 : decode cX5_mend 22 = .ok (.getfield 132, 3) := by decide +kernel
theorem dX5_mend_25 : decode cX5_mend 25 = .ok (.iaload, 1) := by decide +kernel
theorem dX5_mend_26 : decode cX5_mend 26 = .ok (.if_icmp .gt 48, 3) := by decide +kernel
theorem dX5_mend_29 : decode cX5_mend 29 = .ok (.aload_n 0, 1) := by decide +kernel
theorem dX5_mend_30 : decode cX5_mend 30 = .ok (.getfield 16, 3) := by decide +kernel
theorem dX5_mend_33 : decode cX5_mend 33 = .ok (.aload_n 0, 1) := by decide +kernel
theorem dX5_mend_34 : decode cX5_mend 34 = .ok (.getfield 132, 3) := by decide +kernel
theorem dX5_mend_37 : decode cX5_mend 37 = .ok (.iload_n 1, 1) := by decide +kernel
theorem dX5_mend_38 : decode cX5_mend 38 = .ok (.invokestatic 91, 3) := by decide +kernel
theorem dX5_mend_41 : decode cX5_mend 41 = .ok (.aload_n 0, 1) := by decide +kernel
theorem dX5_mend_42 : decode cX5_mend 42 = .ok (.aload_n 0, 1) := by decide +kernel
theorem dX5_mend_43 : decode cX5_mend 43 = .ok (.getfield 27, 3) := by decide +kernel
theorem dX5_mend_46 : decode cX5_mend 46 = .ok (.bipush 8, 2) := by decide +kernel
theorem dX5_mend_48 : decode cX5_mend 48 = .ok (.iload_n 1, 1) := by decide +kernel
theorem dX5_mend_49 : decode cX5_mend 49 = .ok (.i2l, 1) := by decide +kernel
theorem dX5_mend_50 : decode cX5_mend 50 = .ok (.invokevirtual 95, 3) := by decide +kernel
theorem dX5_mend_53 : decode cX5_mend 53 = .ok (.lastore, 1) := by decide +kernel
theorem dX5_mend_54 : decode cX5_mend 54 = .ok (.aload_n 0, 1) := by decide +kernel
theorem dX5_mend_55 : decode cX5_mend 55 = .ok (.getfield 20, 3) := by decide +kernel
theorem dX5_mend_58 : decode cX5_mend 58 = .ok (.aload_n 0, 1) := by decide +kernel
theorem dX5_mend_59 : decode cX5_mend 59 = .ok (.getfield 132, 3) := by decide +kernel
theorem dX5_mend_62 : decode cX5_mend 62 = .ok (.iload_n 1, 1) := by decide +kernel
theorem dX5_mend_63 : decode cX5_mend 63 = .ok (.invokestatic 91, 3) := by decide +kernel
theorem dX5_mend_66 : decode cX5_mend 66 = .ok (.iconst 1, 1) := by decide +kernel
theorem dX5_mend_67 : decode cX5_mend 67 = .ok (.bastore, 1) := by decide +kernel
theorem dX5_mend_68 : decode cX5_mend 68 = .ok (.iinc 1 1, 3) := by decide +kernel
theorem dX5_mend_71 : decode cX5_mend 71 = .ok (.goto (-55), 3) := by decide +kernel
theorem dX5_mend_74 : decode cX5_mend 74 = .ok (.iconst 1, 1) := by decide +kernel
theorem dX5_mend_75 : decode cX5_mend 75 = .ok (.ireturn, 1) := by decide +kernel
theorem dX5_share_0 : decode cX5_share 0 = .ok (.aload_n 0, 1) := by decide +kernel
theorem dX5_share_1 : decode cX5_share 1 = .ok (.aload_n 0, 1) := by decide +kernel
theorem dX5_share_2 : decode cX5_share 2 = .ok (.iload_n 1, 1) := by decide +kernel
theorem dX5_share_3 : decode cX5_share 3 = .ok (.iload_n 2, 1) := by decide +kernel
theorem dX5_share_4 : decode cX5_share 4 = .ok (.invokevirtual 99, 3) := by decide +kernel
theorem dX5_share_7 : decode cX5_share 7 = .ok (.ifCond .eq 20, 3) := by decide +kernel
theorem dX5_share_10 : decode cX5_share 10 = .ok (.aload_n 0, 1) := by decide +kernel
theorem dX5_share_11 : decode cX5_share 11 = .ok (.getfield 20, 3) := by decide +kernel
theorem dX5_share_14 : decode cX5_share 14 = .ok (.iload_n 1, 1) := by decide +kernel
theorem dX5_share_15 : decode cX5_share 15 = .ok (.iload_n 2, 1) := by decide +kernel
theorem dX5_share_16 : decode cX5_share 16 = .ok (.invokestatic 91, 3) := by decide +kernel
theorem dX5_share_19 : decode cX5_share 19 = .ok (.baload, 1) := by decide +kernel
theorem dX5_share_20 : decode cX5_share 20 = .ok (.ifCond .eq 7, 3) := by decide +kernel
theorem dX5_share_23 : decode cX5_share 23 = .ok (.iconst 0, 1) := by decide +kernel
theorem dX5_share_24 : decode cX5_share 24 = .ok (.goto 4, 3) := by decide +kernel
theorem dX5_share_27 : decode cX5_share 27 = .ok (.iconst 1, 1) := by decide +kernel
theorem dX5_share_28 : decode cX5_share 28 = .ok (.putfield 51, 3) := by decide +kernel
theorem dX5_share_31 : decode cX5_share 31 = .ok (.aload_n 0, 1) := by decide +kernel
theorem dX5_share_32 : decode cX5_share 32 = .ok (.getfield 51, 3) := by decide +kernel
theorem dX5_share_35 : decode cX5_share 35 = .ok (.ifCond .ne 16, 3) := by decide +kernel
theorem dX5_share_38 : decode cX5_share 38 = .ok (.aload_n 0, 1) := by decide +kernel
theorem dX5_share_39 : decode cX5_share 39 = .ok (.getfield 16, 3) := by decide +kernel
theorem dX5_share_42 : decode cX5_share 42 = .ok (.iload_n 1, 1) := by decide +kernel
theorem dX5_share_43 : decode cX5_share 43 = .ok (.iload_n 2, 1) := by decide +kernel
theorem dX5_share_44 : decode cX5_share 44 = .ok (.invokestatic 91, 3) := by decide +kernel
theorem dX5_share_47 : decode cX5_share 47 = .ok (.laload, 1) := by decide +kernel
theorem dX5_share_48 : decode cX5_share 48 = .ok (.goto 4, 3) := by decide +kernel
theorem dX5_share_51 : decode cX5_share 51 = .ok (.lconst 0, 1) := by decide +kernel
theorem dX5_share_52 : decode cX5_share 52 = .ok (.lreturn, 1) := by decide +kernel
theorem dX5_split_0 : decode cX5_split 0 = .ok (.aload_n 0, 1) := by decide +kernel
theorem dX5_split_1 : decode cX5_split 1 = .ok (.iconst 0, 1) := by decide +kernel
theorem dX5_split_2 : decode cX5_split 2 = .ok (.putfield 51, 3) := by decide +kernel
theorem dX5_split_5 : decode cX5_split 5 = .ok (.iload_n 1, 1) := by decide +kernel
theorem dX5_split_6 : decode cX5_split 6 = .ok (.invokestatic 77, 3) := by decide +kernel
theorem dX5_split_9 : decode cX5_split 9 = .ok (.ifCond .ne 5, 3) := by decide +kernel
theorem dX5_split_12 : decode cX5_split 12 = .ok (.iconst (-1), 1) := by decide +kernel
theorem dX5_split_13 : decode cX5_split 13 = .ok (.ireturn, 1) := by decide +kernel
theorem dX5_split_14 : decode cX5_split 14 = .ok (.iconst 0, 1) := by decide +kernel
theorem dX5_split_15 : decode cX5_split 15 = .ok (.istore_n 3, 1) := by decide +kernel
theorem dX5_split_16 : decode cX5_split 16 = .ok (.iconst 1, 1) := by decide +kernel
theorem dX5_split_17 : decode cX5_split 17 = .ok (.istore 4, 2) := by decide +kernel
theorem dX5_split_19 : decode cX5_split 19 = .ok (.iload 4, 2) := by decide +kernel
theorem dX5_split_21 : decode cX5_split 21 = .ok (.aload_n 0, 1) := by decide +kernel
theorem dX5_split_22 : decode cX5_split 22 = .ok (.getfield 13, 3) := by decide +kernel
theorem dX5_split_25 : decode cX5_split 25 = .ok (.iload_n 1, 1) := by decide +kernel
theorem dX5_split_26 : decode cX5_split 26 = .ok (.iaload, 1) := by decide +kernel
theorem dX5_split_27 : decode cX5_split 27 = .ok (.if_icmp .gt 31, 3) := by decide +kernel
theorem dX5_split_30 : decode cX5_split 30 = .ok (.iload_n 3, 1) := by decide +kernel
theorem dX5_split_31 : decode cX5_split 31 = .ok (.aload_n 0, 1) := by decide +kernel
theorem dX5_split_32 : decode cX5_split 32 = .ok (.getfield 20, 3) := by decide +kernel
theorem dX5_split_35 : decode cX5_split 35 = .ok (.iload_n 1, 1) := by decide +kernel
theorem dX5_split_36 : decode cX5_split 36 = .ok (.iload 4, 2) := by decide +kernel
theorem dX5_split_38 : decode cX5_split 38 = .ok (.invokestatic 91, 3) := by decide +kernel
theorem dX5_split_41 : decode cX5_split 41 = .ok (.baload, 1) := by decide +kernel
theorem dX5_split_42 : decode cX5_split 42 = .ok (.ifCond .eq 7, 3) := by decide +kernel
theorem dX5_split_45 : decode cX5_split 45 = .ok (.iconst 1, 1) := by decide +kernel
theorem dX5_split_46 : decode cX5_split 46 = .ok (.goto 4, 3) := by decide +kernel
theorem dX5_split_49 : decode cX5_split 49 = .ok (.iconst 0, 1) := by decide +kernel
theorem dX5_split_50 : decode cX5_split 50 = .ok (.iadd, 1) := by decide +kernel
theorem dX5_split_51 : decode cX5_split 51 = .ok (.istore_n 3, 1) := by decide +kernel
theorem dX5_split_52 : decode cX5_split 52 = .ok (.iinc 4 1, 3) := by decide +kernel
theorem dX5_split_55 : decode cX5_split 55 = .ok (.goto (-36), 3) := by decide +kernel
theorem dX5_split_58 : decode cX5_split 58 = .ok (.iload_n 2, 1) := by decide +kernel
theorem dX5_split_59 : decode cX5_split 59 = .ok (.ifCond .ne 12, 3) := by decide +kernel
theorem dX5_split_62 : decode cX5_split 62 = .ok (.aload_n 0, 1) := by decide +kernel
theorem dX5_split_63 : decode cX5_split 63 = .ok (.getfield 7, 3) := by decide +kernel
theorem dX5_split_66 : decode cX5_split 66 = .ok (.iload_n 1, 1) := by decide +kernel
theorem dX5_split_67 : decode cX5_split 67 = .ok (.iaload, 1) := by decide +kernel
theorem dX5_split_68 : decode cX5_split 68 = .ok (.goto 27, 3) := by decide +kernel
theorem dX5_split_71 : decode cX5_split 71 = .ok (.iload_n 2, 1) := by decide +kernel
theorem dX5_split_72 : decode cX5_split 72 = .ok (.iconst 1, 1) := by decide +kernel
theorem dX5_split_73 : decode cX5_split 73 = .ok (.if_icmp .ne 12, 3) := by decide +kernel
theorem dX5_split_76 : decode cX5_split 76 = .ok (.aload_n 0, 1) := by decide +kernel
theorem dX5_split_77 : decode cX5_split 77 = .ok (.getfield 13, 3) := by decide +kernel
theorem dX5_split_80 : decode cX5_split 80 = .ok (.iload_n 1, 1) := by decide +kernel
theorem dX5_split_81 : decode cX5_split 81 = .ok (.iaload, 1) := by decide +kernel
theorem dX5_split_82 : decode cX5_split 82 = .ok (.goto 13, 3) := by decide +kernel
theorem dX5_split_85 : decode cX5_split 85 = .ok (.iload_n 2, 1) := by decide +kernel
theorem dX5_split_86 : decode cX5_split 86 = .ok (.iconst 2, 1) := by decide +kernel
theorem dX5_split_87 : decode cX5_split 87 = .ok (.if_icmp .ne 7, 3) := by decide +kernel
theorem dX5_split_90 : decode cX5_split 90 = .ok (.iload_n 3, 1) := by decide +kernel
theorem dX5_split_91 : decode cX5_split 91 = .ok (.goto 4, 3) := by decide +kernel
theorem dX5_split_94 : decode cX5_split 94 = .ok (.iconst (-1), 1) := by decide +kernel
theorem dX5_split_95 : decode cX5_split 95 = .ok (.ireturn, 1) := by decide +kernel
end
section
theorem dL_find_0 : decode cL_find 0 = .ok (.aload_n 3, 1) := by decide +kernel
theorem dL_find_1 : decode cL_find 1 = .ok (.iconst 0, 1) := by decide +kernel
theorem dL_find_2 : decode cL_find 2 = .ok (.aload_n 0, 1) := by decide +kernel
theorem dL_find_3 : decode cL_find 3 = .ok (.iload_n 1, 1) := by decide +kernel
theorem dL_find_4 : decode cL_find 4 = .ok (.iload_n 2, 1) := by decide +kernel
theorem dL_find_5 : decode cL_find 5 = .ok (.invokevirtual 7, 3) := by decide +kernel
theorem dL_find_8 : decode cL_find 8 = .ok (.i2l, 1) := by decide +kernel
theorem dL_find_9 : decode cL_find 9 = .ok (.lastore, 1) := by decide +kernel
theorem dL_find_10 : decode cL_find 10 = .ok (.goto 11, 3) := by decide +kernel
theorem dL_find_13 : decode cL_find 13 = .ok (.astore 4, 2) := by decide +kernel
theorem dL_find_15 : decode cL_find 15 = .ok (.iconst 1, 1) := by decide +kernel
theorem dL_find_16 : decode cL_find 16 = .ok (.ireturn, 1) := by decide +kernel
theorem dL_find_17 : decode cL_find 17 = .ok (.astore 4, 2) := by decide +kernel
theorem dL_find_19 : decode cL_find 19 = .ok (.iconst 2, 1) := by decide +kernel
theorem dL_find_20 : decode cL_find 20 = .ok (.ireturn, 1) := by decide +kernel
theorem dL_find_21 : decode cL_find 21 = .ok (.iconst 0, 1) := by decide +kernel
theorem dL_find_22 : decode cL_find 22 = .ok (.ireturn, 1) := by decide +kernel
theorem dL_at_0 : decode cL_at 0 = .ok (.aload_n 3, 1) := by decide +kernel
theorem dL_at_1 : decode cL_at 1 = .ok (.iconst 0, 1) := by decide +kernel
theorem dL_at_2 : decode cL_at 2 = .ok (.aload_n 0, 1) := by decide +kernel
theorem dL_at_3 : decode cL_at 3 = .ok (.lload_n 1, 1) := by decide +kernel
theorem dL_at_4 : decode cL_at 4 = .ok (.invokevirtual 17, 3) := by decide +kernel
theorem dL_at_7 : decode cL_at 7 = .ok (.lastore, 1) := by decide +kernel
theorem dL_at_8 : decode cL_at 8 = .ok (.goto 7, 3) := by decide +kernel
theorem dL_at_11 : decode cL_at 11 = .ok (.astore 4, 2) := by decide +kernel
theorem dL_at_13 : decode cL_at 13 = .ok (.iconst 1, 1) := by decide +kernel
theorem dL_at_14 : decode cL_at 14 = .ok (.ireturn, 1) := by decide +kernel
theorem dL_at_15 : decode cL_at 15 = .ok (.iconst 0, 1) := by decide +kernel
theorem dL_at_16 : decode cL_at 16 = .ok (.ireturn, 1) := by decide +kernel
theorem dL_part_0 : decode cL_part 0 = .ok (.aload_n 2, 1) := by decide +kernel
theorem dL_part_1 : decode cL_part 1 = .ok (.iconst 0, 1) := by decide +kernel
theorem dL_part_2 : decode cL_part 2 = .ok (.aload_n 0, 1) := by decide +kernel
theorem dL_part_3 : decode cL_part 3 = .ok (.iload_n 1, 1) := by decide +kernel
theorem dL_part_4 : decode cL_part 4 = .ok (.invokevirtual 23, 3) := by decide +kernel
theorem dL_part_7 : decode cL_part 7 = .ok (.lastore, 1) := by decide +kernel
theorem dL_part_8 : decode cL_part 8 = .ok (.goto 6, 3) := by decide +kernel
theorem dL_part_11 : decode cL_part 11 = .ok (.astore_n 3, 1) := by decide +kernel
theorem dL_part_12 : decode cL_part 12 = .ok (.iconst 1, 1) := by decide +kernel
theorem dL_part_13 : decode cL_part 13 = .ok (.ireturn, 1) := by decide +kernel
theorem dL_part_14 : decode cL_part 14 = .ok (.iconst 0, 1) := by decide +kernel
theorem dL_part_15 : decode cL_part 15 = .ok (.ireturn, 1) := by decide +kernel
theorem dL_share_0 : decode cL_share 0 = .ok (.aload_n 3, 1) := by decide +kernel
theorem dL_share_1 : decode cL_share 1 = .ok (.iconst 0, 1) := by decide +kernel
theorem dL_share_2 : decode cL_share 2 = .ok (.aload_n 0, 1) := by decide +kernel
theorem dL_share_3 : decode cL_share 3 = .ok (.iload_n 1, 1) := by decide +kernel
theorem dL_share_4 : decode cL_share 4 = .ok (.iload_n 2, 1) := by decide +kernel
theorem dL_share_5 : decode cL_share 5 = .ok (.invokevirtual 27, 3) := by decide +kernel
theorem dL_share_8 : decode cL_share 8 = .ok (.lastore, 1) := by decide +kernel
theorem dL_share_9 : decode cL_share 9 = .ok (.goto 7, 3) := by decide +kernel
theorem dL_share_12 : decode cL_share 12 = .ok (.astore 4, 2) := by decide +kernel
theorem dL_share_14 : decode cL_share 14 = .ok (.iconst 1, 1) := by decide +kernel
theorem dL_share_15 : decode cL_share 15 = .ok (.ireturn, 1) := by decide +kernel
theorem dL_share_16 : decode cL_share 16 = .ok (.iconst 0, 1) := by decide +kernel
theorem dL_share_17 : decode cL_share 17 = .ok (.ireturn, 1) := by decide +kernel
theorem dL_law_0 : decode cL_law 0 = .ok (.new 8, 3) := by decide +kernel
theorem dL_law_3 : decode cL_law 3 = .ok (.dup, 1) := by decide +kernel
theorem dL_law_4 : decode cL_law 4 = .ok (.invokespecial 31, 3) := by decide +kernel
theorem dL_law_7 : decode cL_law 7 = .ok (.astore_n 1, 1) := by decide +kernel
theorem dL_law_8 : decode cL_law 8 = .ok (.new 32, 3) := by decide +kernel
theorem dL_law_11 : decode cL_law 11 = .ok (.dup, 1) := by decide +kernel
theorem dL_law_12 : decode cL_law 12 = .ok (.invokespecial 34, 3) := by decide +kernel
theorem dL_law_15 : decode cL_law 15 = .ok (.astore_n 2, 1) := by decide +kernel
theorem dL_law_16 : decode cL_law 16 = .ok (.iconst 1, 1) := by decide +kernel
theorem dL_law_17 : decode cL_law 17 = .ok (.newarray .long, 2) := by decide +kernel
theorem dL_law_19 : decode cL_law 19 = .ok (.astore_n 3, 1) := by decide +kernel
theorem dL_law_20 : decode cL_law 20 = .ok (.iconst 0, 1) := by decide +kernel
theorem dL_law_21 : decode cL_law 21 = .ok (.istore 4, 2) := by decide +kernel
theorem dL_law_23 : decode cL_law 23 = .ok (.iload 4, 2) := by decide +kernel
theorem dL_law_25 : decode cL_law 25 = .ok (.aload_n 0, 1) := by decide +kernel
theorem dL_law_26 : decode cL_law 26 = .ok (.arraylength, 1) := by decide +kernel
theorem dL_law_27 : decode cL_law 27 = .ok (.bipush 8, 2) := by decide +kernel
theorem dL_law_29 : decode cL_law 29 = .ok (.isub, 1) := by decide +kernel
theorem dL_law_30 : decode cL_law 30 = .ok (.if_icmp .gt 938, 3) := by decide +kernel
theorem dL_law_33 : decode cL_law 33 = .ok (.aload_n 0, 1) := by decide +kernel
theorem dL_law_34 : decode cL_law 34 = .ok (.iload 4, 2) := by decide +kernel
theorem dL_law_36 : decode cL_law 36 = .ok (.iaload, 1) := by decide +kernel
theorem dL_law_37 : decode cL_law 37 = .ok (.bipush 15, 2) := by decide +kernel
theorem dL_law_39 : decode cL_law 39 = .ok (.iand, 1) := by decide +kernel
theorem dL_law_40 : decode cL_law 40 = .ok (.tableswitch 922 0 12 #[68, 209, 290, 327, 388, 501, 570, 638, 725, 780, 805, 818, 885], 68) := by decide +kernel
theorem dL_law_108 : decode cL_law 108 = .ok (.aload_n 1, 1) := by decide +kernel
theorem dL_law_109 : decode cL_law 109 = .ok (.aload_n 0, 1) := by decide +kernel
theorem dL_law_110 : decode cL_law 110 = .ok (.iload 4, 2) := by decide +kernel
theorem dL_law_112 : decode cL_law 112 = .ok (.iconst 1, 1) := by decide +kernel
theorem dL_law_113 : decode cL_law 113 = .ok (.iadd, 1) := by decide +kernel
theorem dL_law_114 : decode cL_law 114 = .ok (.iaload, 1) := by decide +kernel
theorem dL_law_115 : decode cL_law 115 = .ok (.aload_n 0, 1) := by decide +kernel
theorem dL_law_116 : decode cL_law 116 = .ok (.iload 4, 2) := by decide +kernel
theorem dL_law_118 : decode cL_law 118 = .ok (.iconst 2, 1) := by decide +kernel
theorem dL_law_119 : decode cL_law 119 = .ok (.iadd, 1) := by decide +kernel
theorem dL_law_120 : decode cL_law 120 = .ok (.iaload, 1) := by decide +kernel
theorem dL_law_121 : decode cL_law 121 = .ok (.aload_n 0, 1) := by decide +kernel
theorem dL_law_122 : decode cL_law 122 = .ok (.iload 4, 2) := by decide +kernel
theorem dL_law_124 : decode cL_law 124 = .ok (.iconst 3, 1) := by decide +kernel
theorem dL_law_125 : decode cL_law 125 = .ok (.iadd, 1) := by decide +kernel
theorem dL_law_126 : decode cL_law 126 = .ok (.iaload, 1) := by decide +kernel
theorem dL_law_127 : decode cL_law 127 = .ok (.aload_n 0, 1) := by decide +kernel
theorem dL_law_128 : decode cL_law 128 = .ok (.iload 4, 2) := by decide +kernel
theorem dL_law_130 : decode cL_law 130 = .ok (.iconst 4, 1) := by decide +kernel
theorem dL_law_131 : decode cL_law 131 = .ok (.iadd, 1) := by decide +kernel
theorem dL_law_132 : decode cL_law 132 = .ok (.iaload, 1) := by decide +kernel
theorem dL_law_133 : decode cL_law 133 = .ok (.i2l, 1) := by decide +kernel
theorem dL_law_134 : decode cL_law 134 = .ok (.bipush 32, 2) := by decide +kernel
theorem dL_law_136 : decode cL_law 136 = .ok (.lshl, 1) := by decide +kernel
theorem dL_law_137 : decode cL_law 137 = .ok (.aload_n 0, 1) := by decide +kernel
theorem dL_law_138 : decode cL_law 138 = .ok (.iload 4, 2) := by decide +kernel
theorem dL_law_140 : decode cL_law 140 = .ok (.iconst 5, 1) := by decide +kernel
theorem dL_law_141 : decode cL_law 141 = .ok (.iadd, 1) := by decide +kernel
theorem dL_law_142 : decode cL_law 142 = .ok (.iaload, 1) := by decide +kernel
theorem dL_law_143 : decode cL_law 143 = .ok (.i2l, 1) := by decide +kernel
theorem dL_law_144 : decode cL_law 144 = .ok (.ldc2_w 35, 3) := by decide +kernel
theorem dL_law_147 : decode cL_law 147 = .ok (.land, 1) := by decide +kernel
theorem dL_law_148 : decode cL_law 148 = .ok (.lor, 1) := by decide +kernel
theorem dL_law_149 : decode cL_law 149 = .ok (.aload_n 0, 1) := by decide +kernel
theorem dL_law_150 : decode cL_law 150 = .ok (.iload 4, 2) := by decide +kernel
theorem dL_law_152 : decode cL_law 152 = .ok (.bipush 6, 2) := by decide +kernel
theorem dL_law_154 : decode cL_law 154 = .ok (.iadd, 1) := by decide +kernel
theorem dL_law_155 : decode cL_law 155 = .ok (.iaload, 1) := by decide +kernel
theorem dL_law_156 : decode cL_law 156 = .ok (.i2l, 1) := by decide +kernel
theorem dL_law_157 : decode cL_law 157 = .ok (.bipush 32, 2) := by decide +kernel
theorem dL_law_159 : decode cL_law 159 = .ok (.lshl, 1) := by decide +kernel
theorem dL_law_160 : decode cL_law 160 = .ok (.aload_n 0, 1) := by decide +kernel
theorem dL_law_161 : decode cL_law 161 = .ok (.iload 4, 2) := by decide +kernel
theorem dL_law_163 : decode cL_law 163 = .ok (.bipush 7, 2) := by decide +kernel
theorem dL_law_165 : decode cL_law 165 = .ok (.iadd, 1) := by decide +kernel
theorem dL_law_166 : decode cL_law 166 = .ok (.iaload, 1) := by decide +kernel
theorem dL_law_167 : decode cL_law 167 = .ok (.i2l, 1) := by decide +kernel
theorem dL_law_168 : decode cL_law 168 = .ok (.ldc2_w 35, 3) := by decide +kernel
theorem dL_law_171 : decode cL_law 171 = .ok (.land, 1) := by decide +kernel
theorem dL_law_172 : decode cL_law 172 = .ok (.lor, 1) := by decide +kernel
theorem dL_law_173 : decode cL_law 173 = .ok (.invokevirtual 37, 3) := by decide +kernel
theorem dL_law_176 : decode cL_law 176 = .ok (.aload_n 2, 1) := by decide +kernel
theorem dL_law_177 : decode cL_law 177 = .ok (.aload_n 0, 1) := by decide +kernel
theorem dL_law_178 : decode cL_law 178 = .ok (.iload 4, 2) := by decide +kernel
theorem dL_law_180 : decode cL_law 180 = .ok (.iconst 1, 1) := by decide +kernel
theorem dL_law_181 : decode cL_law 181 = .ok (.iadd, 1) := by decide +kernel
theorem dL_law_182 : decode cL_law 182 = .ok (.iaload, 1) := by decide +kernel
theorem dL_law_183 : decode cL_law 183 = .ok (.aload_n 0, 1) := by decide +kernel
theorem dL_law_184 : decode cL_law 184 = .ok (.iload 4, 2) := by decide +kernel
theorem dL_law_186 : decode cL_law 186 = .ok (.iconst 2, 1) := by decide +kernel
theorem dL_law_187 : decode cL_law 187 = .ok (.iadd, 1) := by decide +kernel
theorem dL_law_188 : decode cL_law 188 = .ok (.iaload, 1) := by decide +kernel
theorem dL_law_189 : decode cL_law 189 = .ok (.aload_n 0, 1) := by decide +kernel
theorem dL_law_190 : decode cL_law 190 = .ok (.iload 4, 2) := by decide +kernel
theorem dL_law_192 : decode cL_law 192 = .ok (.iconst 3, 1) := by decide +kernel
theorem dL_law_193 : decode cL_law 193 = .ok (.iadd, 1) := by decide +kernel
theorem dL_law_194 : decode cL_law 194 = .ok (.iaload, 1) := by decide +kernel
theorem dL_law_195 : decode cL_law 195 = .ok (.aload_n 0, 1) := by decide +kernel
theorem dL_law_196 : decode cL_law 196 = .ok (.iload 4, 2) := by decide +kernel
theorem dL_law_198 : decode cL_law 198 = .ok (.iconst 4, 1) := by decide +kernel
theorem dL_law_199 : decode cL_law 199 = .ok (.iadd, 1) := by decide +kernel
theorem dL_law_200 : decode cL_law 200 = .ok (.iaload, 1) := by decide +kernel
theorem dL_law_201 : decode cL_law 201 = .ok (.i2l, 1) := by decide +kernel
theorem dL_law_202 : decode cL_law 202 = .ok (.bipush 32, 2) := by decide +kernel
theorem dL_law_204 : decode cL_law 204 = .ok (.lshl, 1) := by decide +kernel
theorem dL_law_205 : decode cL_law 205 = .ok (.aload_n 0, 1) := by decide +kernel
theorem dL_law_206 : decode cL_law 206 = .ok (.iload 4, 2) := by decide +kernel
theorem dL_law_208 : decode cL_law 208 = .ok (.iconst 5, 1) := by decide +kernel
theorem dL_law_209 : decode cL_law 209 = .ok (.iadd, 1) := by decide +kernel
theorem dL_law_210 : decode cL_law 210 = .ok (.iaload, 1) := by decide +kernel
theorem dL_law_211 : decode cL_law 211 = .ok (.i2l, 1) := by decide +kernel
theorem dL_law_212 : decode cL_law 212 = .ok (.ldc2_w 35, 3) := by decide +kernel
theorem dL_law_215 : decode cL_law 215 = .ok (.land, 1) := by decide +kernel
theorem dL_law_216 : decode cL_law 216 = .ok (.lor, 1) := by decide +kernel
theorem dL_law_217 : decode cL_law 217 = .ok (.aload_n 0, 1) := by decide +kernel
theorem dL_law_218 : decode cL_law 218 = .ok (.iload 4, 2) := by decide +kernel
theorem dL_law_220 : decode cL_law 220 = .ok (.bipush 6, 2) := by decide +kernel
theorem dL_law_222 : decode cL_law 222 = .ok (.iadd, 1) := by decide +kernel
theorem dL_law_223 : decode cL_law 223 = .ok (.iaload, 1) := by decide +kernel
theorem dL_law_224 : decode cL_law 224 = .ok (.i2l, 1) := by decide +kernel
theorem dL_law_225 : decode cL_law 225 = .ok (.bipush 32, 2) := by decide +kernel
theorem dL_law_227 : decode cL_law 227 = .ok (.lshl, 1) := by decide +kernel
theorem dL_law_228 : decode cL_law 228 = .ok (.aload_n 0, 1) := by decide +kernel
theorem dL_law_229 : decode cL_law 229 = .ok (.iload 4, 2) := by decide +kernel
theorem dL_law_231 : decode cL_law 231 = .ok (.bipush 7, 2) := by decide +kernel
theorem dL_law_233 : decode cL_law 233 = .ok (.iadd, 1) := by decide +kernel
theorem dL_law_234 : decode cL_law 234 = .ok (.iaload, 1) := by decide +kernel
theorem dL_law_235 : decode cL_law 235 = .ok (.i2l, 1) := by decide +kernel
theorem dL_law_236 : decode cL_law 236 = .ok (.ldc2_w 35, 3) := by decide +kernel
theorem dL_law_239 : decode cL_law 239 = .ok (.land, 1) := by decide +kernel
theorem dL_law_240 : decode cL_law 240 = .ok (.lor, 1) := by decide +kernel
theorem dL_law_241 : decode cL_law 241 = .ok (.invokevirtual 41, 3) := by decide +kernel
theorem dL_law_244 : decode cL_law 244 = .ok (.if_icmp .eq 718, 3) := by decide +kernel
theorem dL_law_247 : decode cL_law 247 = .ok (.iconst 0, 1) := by decide +kernel
theorem dL_law_248 : decode cL_law 248 = .ok (.ireturn, 1) := by decide +kernel
theorem dL_law_249 : decode cL_law 249 = .ok (.aload_n 1, 1) := by decide +kernel
theorem dL_law_250 : decode cL_law 250 = .ok (.aload_n 0, 1) := by decide +kernel
theorem dL_law_251 : decode cL_law 251 = .ok (.iload 4, 2) := by decide +kernel
theorem dL_law_253 : decode cL_law 253 = .ok (.iconst 1, 1) := by decide +kernel
theorem dL_law_254 : decode cL_law 254 = .ok (.iadd, 1) := by decide +kernel
theorem dL_law_255 : decode cL_law 255 = .ok (.iaload, 1) := by decide +kernel
theorem dL_law_256 : decode cL_law 256 = .ok (.aload_n 0, 1) := by decide +kernel
theorem dL_law_257 : decode cL_law 257 = .ok (.iload 4, 2) := by decide +kernel
theorem dL_law_259 : decode cL_law 259 = .ok (.iconst 2, 1) := by decide +kernel
theorem dL_law_260 : decode cL_law 260 = .ok (.iadd, 1) := by decide +kernel
theorem dL_law_261 : decode cL_law 261 = .ok (.iaload, 1) := by decide +kernel
theorem dL_law_262 : decode cL_law 262 = .ok (.aload_n 0, 1) := by decide +kernel
theorem dL_law_263 : decode cL_law 263 = .ok (.iload 4, 2) := by decide +kernel
theorem dL_law_265 : decode cL_law 265 = .ok (.iconst 3, 1) := by decide +kernel
theorem dL_law_266 : decode cL_law 266 = .ok (.iadd, 1) := by decide +kernel
theorem dL_law_267 : decode cL_law 267 = .ok (.iaload, 1) := by decide +kernel
theorem dL_law_268 : decode cL_law 268 = .ok (.i2l, 1) := by decide +kernel
theorem dL_law_269 : decode cL_law 269 = .ok (.bipush 32, 2) := by decide +kernel
theorem dL_law_271 : decode cL_law 271 = .ok (.lshl, 1) := by decide +kernel
theorem dL_law_272 : decode cL_law 272 = .ok (.aload_n 0, 1) := by decide +kernel
theorem dL_law_273 : decode cL_law 273 = .ok (.iload 4, 2) := by decide +kernel
theorem dL_law_275 : decode cL_law 275 = .ok (.iconst 4, 1) := by decide +kernel
theorem dL_law_276 : decode cL_law 276 = .ok (.iadd, 1) := by decide +kernel
theorem dL_law_277 : decode cL_law 277 = .ok (.iaload, 1) := by decide +kernel
theorem dL_law_278 : decode cL_law 278 = .ok (.i2l, 1) := by decide +kernel
theorem dL_law_279 : decode cL_law 279 = .ok (.ldc2_w 35, 3) := by decide +kernel
theorem dL_law_282 : decode cL_law 282 = .ok (.land, 1) := by decide +kernel
theorem dL_law_283 : decode cL_law 283 = .ok (.lor, 1) := by decide +kernel
theorem dL_law_284 : decode cL_law 284 = .ok (.invokevirtual 42, 3) := by decide +kernel
theorem dL_law_287 : decode cL_law 287 = .ok (.aload_n 2, 1) := by decide +kernel
theorem dL_law_288 : decode cL_law 288 = .ok (.aload_n 0, 1) := by decide +kernel
theorem dL_law_289 : decode cL_law 289 = .ok (.iload 4, 2) := by decide +kernel
theorem dL_law_291 : decode cL_law 291 = .ok (.iconst 1, 1) := by decide +kernel
theorem dL_law_292 : decode cL_law 292 = .ok (.iadd, 1) := by decide +kernel
theorem dL_law_293 : decode cL_law 293 = .ok (.iaload, 1) := by decide +kernel
theorem dL_law_294 : decode cL_law 294 = .ok (.aload_n 0, 1) := by decide +kernel
theorem dL_law_295 : decode cL_law 295 = .ok (.iload 4, 2) := by decide +kernel
theorem dL_law_297 : decode cL_law 297 = .ok (.iconst 2, 1) := by decide +kernel
theorem dL_law_298 : decode cL_law 298 = .ok (.iadd, 1) := by decide +kernel
theorem dL_law_299 : decode cL_law 299 = .ok (.iaload, 1) := by decide +kernel
theorem dL_law_300 : decode cL_law 300 = .ok (.aload_n 0, 1) := by decide +kernel
theorem dL_law_301 : decode cL_law 301 = .ok (.iload 4, 2) := by decide +kernel
theorem dL_law_303 : decode cL_law 303 = .ok (.iconst 3, 1) := by decide +kernel
theorem dL_law_304 : decode cL_law 304 = .ok (.iadd, 1) := by decide +kernel
theorem dL_law_305 : decode cL_law 305 = .ok (.iaload, 1) := by decide +kernel
theorem dL_law_306 : decode cL_law 306 = .ok (.i2l, 1) := by decide +kernel
theorem dL_law_307 : decode cL_law 307 = .ok (.bipush 32, 2) := by decide +kernel
theorem dL_law_309 : decode cL_law 309 = .ok (.lshl, 1) := by decide +kernel
theorem dL_law_310 : decode cL_law 310 = .ok (.aload_n 0, 1) := by decide +kernel
theorem dL_law_311 : decode cL_law 311 = .ok (.iload 4, 2) := by decide +kernel
theorem dL_law_313 : decode cL_law 313 = .ok (.iconst 4, 1) := by decide +kernel
theorem dL_law_314 : decode cL_law 314 = .ok (.iadd, 1) := by decide +kernel
theorem dL_law_315 : decode cL_law 315 = .ok (.iaload, 1) := by decide +kernel
theorem dL_law_316 : decode cL_law 316 = .ok (.i2l, 1) := by decide +kernel
theorem dL_law_317 : decode cL_law 317 = .ok (.ldc2_w 35, 3) := by decide +kernel
theorem dL_law_320 : decode cL_law 320 = .ok (.land, 1) := by decide +kernel
theorem dL_law_321 : decode cL_law 321 = .ok (.lor, 1) := by decide +kernel
theorem dL_law_322 : decode cL_law 322 = .ok (.invokevirtual 46, 3) := by decide +kernel
theorem dL_law_325 : decode cL_law 325 = .ok (.if_icmp .eq 637, 3) := by decide +kernel
theorem dL_law_328 : decode cL_law 328 = .ok (.iconst 0, 1) := by decide +kernel
theorem dL_law_329 : decode cL_law 329 = .ok (.ireturn, 1) := by decide +kernel
theorem dL_law_330 : decode cL_law 330 = .ok (.aload_n 1, 1) := by decide +kernel
theorem dL_law_331 : decode cL_law 331 = .ok (.aload_n 0, 1) := by decide +kernel
theorem dL_law_332 : decode cL_law 332 = .ok (.iload 4, 2) := by decide +kernel
theorem dL_law_334 : decode cL_law 334 = .ok (.iconst 1, 1) := by decide +kernel
theorem dL_law_335 : decode cL_law 335 = .ok (.iadd, 1) := by decide +kernel
theorem dL_law_336 : decode cL_law 336 = .ok (.iaload, 1) := by decide +kernel
theorem dL_law_337 : decode cL_law 337 = .ok (.aload_n 0, 1) := by decide +kernel
theorem dL_law_338 : decode cL_law 338 = .ok (.iload 4, 2) := by decide +kernel
theorem dL_law_340 : decode cL_law 340 = .ok (.iconst 2, 1) := by decide +kernel
theorem dL_law_341 : decode cL_law 341 = .ok (.iadd, 1) := by decide +kernel
theorem dL_law_342 : decode cL_law 342 = .ok (.iaload, 1) := by decide +kernel
theorem dL_law_343 : decode cL_law 343 = .ok (.invokevirtual 47, 3) := by decide +kernel
theorem dL_law_346 : decode cL_law 346 = .ok (.aload_n 2, 1) := by decide +kernel
theorem dL_law_347 : decode cL_law 347 = .ok (.aload_n 0, 1) := by decide +kernel
theorem dL_law_348 : decode cL_law 348 = .ok (.iload 4, 2) := by decide +kernel
theorem dL_law_350 : decode cL_law 350 = .ok (.iconst 1, 1) := by decide +kernel
theorem dL_law_351 : decode cL_law 351 = .ok (.iadd, 1) := by decide +kernel
theorem dL_law_352 : decode cL_law 352 = .ok (.iaload, 1) := by decide +kernel
theorem dL_law_353 : decode cL_law 353 = .ok (.aload_n 0, 1) := by decide +kernel
theorem dL_law_354 : decode cL_law 354 = .ok (.iload 4, 2) := by decide +kernel
theorem dL_law_356 : decode cL_law 356 = .ok (.iconst 2, 1) := by decide +kernel
theorem dL_law_357 : decode cL_law 357 = .ok (.iadd, 1) := by decide +kernel
theorem dL_law_358 : decode cL_law 358 = .ok (.iaload, 1) := by decide +kernel
theorem dL_law_359 : decode cL_law 359 = .ok (.invokevirtual 51, 3) := by decide +kernel
theorem dL_law_362 : decode cL_law 362 = .ok (.if_icmp .eq 600, 3) := by decide +kernel
theorem dL_law_365 : decode cL_law 365 = .ok (.iconst 0, 1) := by decide +kernel
theorem dL_law_366 : decode cL_law 366 = .ok (.ireturn, 1) := by decide +kernel
theorem dL_law_367 : decode cL_law 367 = .ok (.aload_n 1, 1) := by decide +kernel
theorem dL_law_368 : decode cL_law 368 = .ok (.aload_n 0, 1) := by decide +kernel
theorem dL_law_369 : decode cL_law 369 = .ok (.iload 4, 2) := by decide +kernel
theorem dL_law_371 : decode cL_law 371 = .ok (.iconst 1, 1) := by decide +kernel
theorem dL_law_372 : decode cL_law 372 = .ok (.iadd, 1) := by decide +kernel
theorem dL_law_373 : decode cL_law 373 = .ok (.iaload, 1) := by decide +kernel
theorem dL_law_374 : decode cL_law 374 = .ok (.aload_n 0, 1) := by decide +kernel
theorem dL_law_375 : decode cL_law 375 = .ok (.iload 4, 2) := by decide +kernel
theorem dL_law_377 : decode cL_law 377 = .ok (.iconst 2, 1) := by decide +kernel
theorem dL_law_378 : decode cL_law 378 = .ok (.iadd, 1) := by decide +kernel
theorem dL_law_379 : decode cL_law 379 = .ok (.iaload, 1) := by decide +kernel
theorem dL_law_380 : decode cL_law 380 = .ok (.aload_n 0, 1) := by decide +kernel
theorem dL_law_381 : decode cL_law 381 = .ok (.iload 4, 2) := by decide +kernel
theorem dL_law_383 : decode cL_law 383 = .ok (.iconst 3, 1) := by decide +kernel
theorem dL_law_384 : decode cL_law 384 = .ok (.iadd, 1) := by decide +kernel
theorem dL_law_385 : decode cL_law 385 = .ok (.iaload, 1) := by decide +kernel
theorem dL_law_386 : decode cL_law 386 = .ok (.aload_n 0, 1) := by decide +kernel
theorem dL_law_387 : decode cL_law 387 = .ok (.iload 4, 2) := by decide +kernel
theorem dL_law_389 : decode cL_law 389 = .ok (.iconst 4, 1) := by decide +kernel
theorem dL_law_390 : decode cL_law 390 = .ok (.iadd, 1) := by decide +kernel
theorem dL_law_391 : decode cL_law 391 = .ok (.iaload, 1) := by decide +kernel
theorem dL_law_392 : decode cL_law 392 = .ok (.invokevirtual 52, 3) := by decide +kernel
theorem dL_law_395 : decode cL_law 395 = .ok (.aload_n 2, 1) := by decide +kernel
theorem dL_law_396 : decode cL_law 396 = .ok (.aload_n 0, 1) := by decide +kernel
theorem dL_law_397 : decode cL_law 397 = .ok (.iload 4, 2) := by decide +kernel
theorem dL_law_399 : decode cL_law 399 = .ok (.iconst 1, 1) := by decide +kernel
theorem dL_law_400 : decode cL_law 400 = .ok (.iadd, 1) := by decide +kernel
theorem dL_law_401 : decode cL_law 401 = .ok (.iaload, 1) := by decide +kernel
theorem dL_law_402 : decode cL_law 402 = .ok (.aload_n 0, 1) := by decide +kernel
theorem dL_law_403 : decode cL_law 403 = .ok (.iload 4, 2) := by decide +kernel
theorem dL_law_405 : decode cL_law 405 = .ok (.iconst 2, 1) := by decide +kernel
theorem dL_law_406 : decode cL_law 406 = .ok (.iadd, 1) := by decide +kernel
theorem dL_law_407 : decode cL_law 407 = .ok (.iaload, 1) := by decide +kernel
theorem dL_law_408 : decode cL_law 408 = .ok (.aload_n 0, 1) := by decide +kernel
theorem dL_law_409 : decode cL_law 409 = .ok (.iload 4, 2) := by decide +kernel
theorem dL_law_411 : decode cL_law 411 = .ok (.iconst 3, 1) := by decide +kernel
theorem dL_law_412 : decode cL_law 412 = .ok (.iadd, 1) := by decide +kernel
theorem dL_law_413 : decode cL_law 413 = .ok (.iaload, 1) := by decide +kernel
theorem dL_law_414 : decode cL_law 414 = .ok (.aload_n 0, 1) := by decide +kernel
theorem dL_law_415 : decode cL_law 415 = .ok (.iload 4, 2) := by decide +kernel
theorem dL_law_417 : decode cL_law 417 = .ok (.iconst 4, 1) := by decide +kernel
theorem dL_law_418 : decode cL_law 418 = .ok (.iadd, 1) := by decide +kernel
theorem dL_law_419 : decode cL_law 419 = .ok (.iaload, 1) := by decide +kernel
theorem dL_law_420 : decode cL_law 420 = .ok (.invokevirtual 56, 3) := by decide +kernel
theorem dL_law_423 : decode cL_law 423 = .ok (.if_icmp .eq 539, 3) := by decide +kernel
theorem dL_law_426 : decode cL_law 426 = .ok (.iconst 0, 1) := by decide +kernel
theorem dL_law_427 : decode cL_law 427 = .ok (.ireturn, 1) := by decide +kernel
theorem dL_law_428 : decode cL_law 428 = .ok (.aload_n 1, 1) := by decide +kernel
theorem dL_law_429 : decode cL_law 429 = .ok (.aload_n 0, 1) := by decide +kernel
theorem dL_law_430 : decode cL_law 430 = .ok (.iload 4, 2) := by decide +kernel
theorem dL_law_432 : decode cL_law 432 = .ok (.iconst 1, 1) := by decide +kernel
theorem dL_law_433 : decode cL_law 433 = .ok (.iadd, 1) := by decide +kernel
theorem dL_law_434 : decode cL_law 434 = .ok (.iaload, 1) := by decide +kernel
theorem dL_law_435 : decode cL_law 435 = .ok (.aload_n 0, 1) := by decide +kernel
theorem dL_law_436 : decode cL_law 436 = .ok (.iload 4, 2) := by decide +kernel
theorem dL_law_438 : decode cL_law 438 = .ok (.iconst 2, 1) := by decide +kernel
theorem dL_law_439 : decode cL_law 439 = .ok (.iadd, 1) := by decide +kernel
theorem dL_law_440 : decode cL_law 440 = .ok (.iaload, 1) := by decide +kernel
theorem dL_law_441 : decode cL_law 441 = .ok (.i2l, 1) := by decide +kernel
theorem dL_law_442 : decode cL_law 442 = .ok (.bipush 32, 2) := by decide +kernel
theorem dL_law_444 : decode cL_law 444 = .ok (.lshl, 1) := by decide +kernel
theorem dL_law_445 : decode cL_law 445 = .ok (.aload_n 0, 1) := by decide +kernel
theorem dL_law_446 : decode cL_law 446 = .ok (.iload 4, 2) := by decide +kernel
theorem dL_law_448 : decode cL_law 448 = .ok (.iconst 3, 1) := by decide +kernel
theorem dL_law_449 : decode cL_law 449 = .ok (.iadd, 1) := by decide +kernel
theorem dL_law_450 : decode cL_law 450 = .ok (.iaload, 1) := by decide +kernel
theorem dL_law_451 : decode cL_law 451 = .ok (.i2l, 1) := by decide +kernel
theorem dL_law_452 : decode cL_law 452 = .ok (.ldc2_w 35, 3) := by decide +kernel
theorem dL_law_455 : decode cL_law 455 = .ok (.land, 1) := by decide +kernel
theorem dL_law_456 : decode cL_law 456 = .ok (.lor, 1) := by decide +kernel
theorem dL_law_457 : decode cL_law 457 = .ok (.aload_n 0, 1) := by decide +kernel
theorem dL_law_458 : decode cL_law 458 = .ok (.iload 4, 2) := by decide +kernel
theorem dL_law_460 : decode cL_law 460 = .ok (.iconst 4, 1) := by decide +kernel
theorem dL_law_461 : decode cL_law 461 = .ok (.iadd, 1) := by decide +kernel
theorem dL_law_462 : decode cL_law 462 = .ok (.iaload, 1) := by decide +kernel
theorem dL_law_463 : decode cL_law 463 = .ok (.i2l, 1) := by decide +kernel
theorem dL_law_464 : decode cL_law 464 = .ok (.bipush 32, 2) := by decide +kernel
theorem dL_law_466 : decode cL_law 466 = .ok (.lshl, 1) := by decide +kernel
theorem dL_law_467 : decode cL_law 467 = .ok (.aload_n 0, 1) := by decide +kernel
theorem dL_law_468 : decode cL_law 468 = .ok (.iload 4, 2) := by decide +kernel
theorem dL_law_470 : decode cL_law 470 = .ok (.iconst 5, 1) := by decide +kernel
theorem dL_law_471 : decode cL_law 471 = .ok (.iadd, 1) := by decide +kernel
theorem dL_law_472 : decode cL_law 472 = .ok (.iaload, 1) := by decide +kernel
theorem dL_law_473 : decode cL_law 473 = .ok (.i2l, 1) := by decide +kernel
theorem dL_law_474 : decode cL_law 474 = .ok (.ldc2_w 35, 3) := by decide +kernel
theorem dL_law_477 : decode cL_law 477 = .ok (.land, 1) := by decide +kernel
theorem dL_law_478 : decode cL_law 478 = .ok (.lor, 1) := by decide +kernel
theorem dL_law_479 : decode cL_law 479 = .ok (.invokevirtual 57, 3) := by decide +kernel
theorem dL_law_482 : decode cL_law 482 = .ok (.aload_n 2, 1) := by decide +kernel
theorem dL_law_483 : decode cL_law 483 = .ok (.aload_n 0, 1) := by decide +kernel
theorem dL_law_484 : decode cL_law 484 = .ok (.iload 4, 2) := by decide +kernel
theorem dL_law_486 : decode cL_law 486 = .ok (.iconst 1, 1) := by decide +kernel
theorem dL_law_487 : decode cL_law 487 = .ok (.iadd, 1) := by decide +kernel
theorem dL_law_488 : decode cL_law 488 = .ok (.iaload, 1) := by decide +kernel
theorem dL_law_489 : decode cL_law 489 = .ok (.aload_n 0, 1) := by decide +kernel
theorem dL_law_490 : decode cL_law 490 = .ok (.iload 4, 2) := by decide +kernel
theorem dL_law_492 : decode cL_law 492 = .ok (.iconst 2, 1) := by decide +kernel
theorem dL_law_493 : decode cL_law 493 = .ok (.iadd, 1) := by decide +kernel
theorem dL_law_494 : decode cL_law 494 = .ok (.iaload, 1) := by decide +kernel
theorem dL_law_495 : decode cL_law 495 = .ok (.i2l, 1) := by decide +kernel
theorem dL_law_496 : decode cL_law 496 = .ok (.bipush 32, 2) := by decide +kernel
theorem dL_law_498 : decode cL_law 498 = .ok (.lshl, 1) := by decide +kernel
theorem dL_law_499 : decode cL_law 499 = .ok (.aload_n 0, 1) := by decide +kernel
theorem dL_law_500 : decode cL_law 500 = .ok (.iload 4, 2) := by decide +kernel
theorem dL_law_502 : decode cL_law 502 = .ok (.iconst 3, 1) := by decide +kernel
theorem dL_law_503 : decode cL_law 503 = .ok (.iadd, 1) := by decide +kernel
theorem dL_law_504 : decode cL_law 504 = .ok (.iaload, 1) := by decide +kernel
theorem dL_law_505 : decode cL_law 505 = .ok (.i2l, 1) := by decide +kernel
theorem dL_law_506 : decode cL_law 506 = .ok (.ldc2_w 35, 3) := by decide +kernel
theorem dL_law_509 : decode cL_law 509 = .ok (.land, 1) := by decide +kernel
theorem dL_law_510 : decode cL_law 510 = .ok (.lor, 1) := by decide +kernel
theorem dL_law_511 : decode cL_law 511 = .ok (.aload_n 0, 1) := by decide +kernel
theorem dL_law_512 : decode cL_law 512 = .ok (.iload 4, 2) := by decide +kernel
theorem dL_law_514 : decode cL_law 514 = .ok (.iconst 4, 1) := by decide +kernel
theorem dL_law_515 : decode cL_law 515 = .ok (.iadd, 1) := by decide +kernel
theorem dL_law_516 : decode cL_law 516 = .ok (.iaload, 1) := by decide +kernel
theorem dL_law_517 : decode cL_law 517 = .ok (.i2l, 1) := by decide +kernel
theorem dL_law_518 : decode cL_law 518 = .ok (.bipush 32, 2) := by decide +kernel
theorem dL_law_520 : decode cL_law 520 = .ok (.lshl, 1) := by decide +kernel
theorem dL_law_521 : decode cL_law 521 = .ok (.aload_n 0, 1) := by decide +kernel
theorem dL_law_522 : decode cL_law 522 = .ok (.iload 4, 2) := by decide +kernel
theorem dL_law_524 : decode cL_law 524 = .ok (.iconst 5, 1) := by decide +kernel
theorem dL_law_525 : decode cL_law 525 = .ok (.iadd, 1) := by decide +kernel
theorem dL_law_526 : decode cL_law 526 = .ok (.iaload, 1) := by decide +kernel
theorem dL_law_527 : decode cL_law 527 = .ok (.i2l, 1) := by decide +kernel
theorem dL_law_528 : decode cL_law 528 = .ok (.ldc2_w 35, 3) := by decide +kernel
theorem dL_law_531 : decode cL_law 531 = .ok (.land, 1) := by decide +kernel
theorem dL_law_532 : decode cL_law 532 = .ok (.lor, 1) := by decide +kernel
theorem dL_law_533 : decode cL_law 533 = .ok (.invokevirtual 61, 3) := by decide +kernel
theorem dL_law_536 : decode cL_law 536 = .ok (.if_icmp .eq 426, 3) := by decide +kernel
theorem dL_law_539 : decode cL_law 539 = .ok (.iconst 0, 1) := by decide +kernel
theorem dL_law_540 : decode cL_law 540 = .ok (.ireturn, 1) := by decide +kernel
theorem dL_law_541 : decode cL_law 541 = .ok (.aload_n 1, 1) := by decide +kernel
theorem dL_law_542 : decode cL_law 542 = .ok (.aload_n 0, 1) := by decide +kernel
theorem dL_law_543 : decode cL_law 543 = .ok (.iload 4, 2) := by decide +kernel
theorem dL_law_545 : decode cL_law 545 = .ok (.iconst 1, 1) := by decide +kernel
theorem dL_law_546 : decode cL_law 546 = .ok (.iadd, 1) := by decide +kernel
theorem dL_law_547 : decode cL_law 547 = .ok (.iaload, 1) := by decide +kernel
theorem dL_law_548 : decode cL_law 548 = .ok (.aload_n 0, 1) := by decide +kernel
theorem dL_law_549 : decode cL_law 549 = .ok (.iload 4, 2) := by decide +kernel
theorem dL_law_551 : decode cL_law 551 = .ok (.iconst 2, 1) := by decide +kernel
theorem dL_law_552 : decode cL_law 552 = .ok (.iadd, 1) := by decide +kernel
theorem dL_law_553 : decode cL_law 553 = .ok (.iaload, 1) := by decide +kernel
theorem dL_law_554 : decode cL_law 554 = .ok (.i2l, 1) := by decide +kernel
theorem dL_law_555 : decode cL_law 555 = .ok (.bipush 32, 2) := by decide +kernel
theorem dL_law_557 : decode cL_law 557 = .ok (.lshl, 1) := by decide +kernel
theorem dL_law_558 : decode cL_law 558 = .ok (.aload_n 0, 1) := by decide +kernel
theorem dL_law_559 : decode cL_law 559 = .ok (.iload 4, 2) := by decide +kernel
theorem dL_law_561 : decode cL_law 561 = .ok (.iconst 3, 1) := by decide +kernel
theorem dL_law_562 : decode cL_law 562 = .ok (.iadd, 1) := by decide +kernel
theorem dL_law_563 : decode cL_law 563 = .ok (.iaload, 1) := by decide +kernel
theorem dL_law_564 : decode cL_law 564 = .ok (.i2l, 1) := by decide +kernel
theorem dL_law_565 : decode cL_law 565 = .ok (.ldc2_w 35, 3) := by decide +kernel
theorem dL_law_568 : decode cL_law 568 = .ok (.land, 1) := by decide +kernel
theorem dL_law_569 : decode cL_law 569 = .ok (.lor, 1) := by decide +kernel
theorem dL_law_570 : decode cL_law 570 = .ok (.invokevirtual 62, 3) := by decide +kernel
theorem dL_law_573 : decode cL_law 573 = .ok (.aload_n 2, 1) := by decide +kernel
theorem dL_law_574 : decode cL_law 574 = .ok (.aload_n 0, 1) := by decide +kernel
theorem dL_law_575 : decode cL_law 575 = .ok (.iload 4, 2) := by decide +kernel
theorem dL_law_577 : decode cL_law 577 = .ok (.iconst 1, 1) := by decide +kernel
theorem dL_law_578 : decode cL_law 578 = .ok (.iadd, 1) := by decide +kernel
theorem dL_law_579 : decode cL_law 579 = .ok (.iaload, 1) := by decide +kernel
theorem dL_law_580 : decode cL_law 580 = .ok (.aload_n 0, 1) := by decide +kernel
theorem dL_law_581 : decode cL_law 581 = .ok (.iload 4, 2) := by decide +kernel
theorem dL_law_583 : decode cL_law 583 = .ok (.iconst 2, 1) := by decide +kernel
theorem dL_law_584 : decode cL_law 584 = .ok (.iadd, 1) := by decide +kernel
theorem dL_law_585 : decode cL_law 585 = .ok (.iaload, 1) := by decide +kernel
theorem dL_law_586 : decode cL_law 586 = .ok (.i2l, 1) := by decide +kernel
theorem dL_law_587 : decode cL_law 587 = .ok (.bipush 32, 2) := by decide +kernel
theorem dL_law_589 : decode cL_law 589 = .ok (.lshl, 1) := by decide +kernel
theorem dL_law_590 : decode cL_law 590 = .ok (.aload_n 0, 1) := by decide +kernel
theorem dL_law_591 : decode cL_law 591 = .ok (.iload 4, 2) := by decide +kernel
theorem dL_law_593 : decode cL_law 593 = .ok (.iconst 3, 1) := by decide +kernel
theorem dL_law_594 : decode cL_law 594 = .ok (.iadd, 1) := by decide +kernel
theorem dL_law_595 : decode cL_law 595 = .ok (.iaload, 1) := by decide +kernel
theorem dL_law_596 : decode cL_law 596 = .ok (.i2l, 1) := by decide +kernel
theorem dL_law_597 : decode cL_law 597 = .ok (.ldc2_w 35, 3) := by decide +kernel
theorem dL_law_600 : decode cL_law 600 = .ok (.land, 1) := by decide +kernel
theorem dL_law_601 : decode cL_law 601 = .ok (.lor, 1) := by decide +kernel
theorem dL_law_602 : decode cL_law 602 = .ok (.invokevirtual 66, 3) := by decide +kernel
theorem dL_law_605 : decode cL_law 605 = .ok (.if_icmp .eq 357, 3) := by decide +kernel
theorem dL_law_608 : decode cL_law 608 = .ok (.iconst 0, 1) := by decide +kernel
theorem dL_law_609 : decode cL_law 609 = .ok (.ireturn, 1) := by decide +kernel
theorem dL_law_610 : decode cL_law 610 = .ok (.aload_n 1, 1) := by decide +kernel
theorem dL_law_611 : decode cL_law 611 = .ok (.aload_n 0, 1) := by decide +kernel
theorem dL_law_612 : decode cL_law 612 = .ok (.iload 4, 2) := by decide +kernel
theorem dL_law_614 : decode cL_law 614 = .ok (.iconst 1, 1) := by decide +kernel
theorem dL_law_615 : decode cL_law 615 = .ok (.iadd, 1) := by decide +kernel
theorem dL_law_616 : decode cL_law 616 = .ok (.iaload, 1) := by decide +kernel
theorem dL_law_617 : decode cL_law 617 = .ok (.aload_n 0, 1) := by decide +kernel
theorem dL_law_618 : decode cL_law 618 = .ok (.iload 4, 2) := by decide +kernel
theorem dL_law_620 : decode cL_law 620 = .ok (.iconst 2, 1) := by decide +kernel
theorem dL_law_621 : decode cL_law 621 = .ok (.iadd, 1) := by decide +kernel
theorem dL_law_622 : decode cL_law 622 = .ok (.iaload, 1) := by decide +kernel
theorem dL_law_623 : decode cL_law 623 = .ok (.aload_n 3, 1) := by decide +kernel
theorem dL_law_624 : decode cL_law 624 = .ok (.invokestatic 67, 3) := by decide +kernel
theorem dL_law_627 : decode cL_law 627 = .ok (.istore 5, 2) := by decide +kernel
theorem dL_law_629 : decode cL_law 629 = .ok (.aload_n 2, 1) := by decide +kernel
theorem dL_law_630 : decode cL_law 630 = .ok (.aload_n 0, 1) := by decide +kernel
theorem dL_law_631 : decode cL_law 631 = .ok (.iload 4, 2) := by decide +kernel
theorem dL_law_633 : decode cL_law 633 = .ok (.iconst 1, 1) := by decide +kernel
theorem dL_law_634 : decode cL_law 634 = .ok (.iadd, 1) := by decide +kernel
theorem dL_law_635 : decode cL_law 635 = .ok (.iaload, 1) := by decide +kernel
theorem dL_law_636 : decode cL_law 636 = .ok (.aload_n 0, 1) := by decide +kernel
theorem dL_law_637 : decode cL_law 637 = .ok (.iload 4, 2) := by decide +kernel
theorem dL_law_639 : decode cL_law 639 = .ok (.iconst 2, 1) := by decide +kernel
theorem dL_law_640 : decode cL_law 640 = .ok (.iadd, 1) := by decide +kernel
theorem dL_law_641 : decode cL_law 641 = .ok (.iaload, 1) := by decide +kernel
theorem dL_law_642 : decode cL_law 642 = .ok (.invokevirtual 72, 3) := by decide +kernel
theorem dL_law_645 : decode cL_law 645 = .ok (.istore 6, 2) := by decide +kernel
theorem dL_law_647 : decode cL_law 647 = .ok (.aload_n 2, 1) := by decide +kernel
theorem dL_law_648 : decode cL_law 648 = .ok (.invokevirtual 73, 3) := by decide +kernel
theorem dL_law_651 : decode cL_law 651 = .ok (.iload 5, 2) := by decide +kernel
theorem dL_law_653 : decode cL_law 653 = .ok (.if_icmp .eq 5, 3) := by decide +kernel
theorem dL_law_656 : decode cL_law 656 = .ok (.iconst 0, 1) := by decide +kernel
theorem dL_law_657 : decode cL_law 657 = .ok (.ireturn, 1) := by decide +kernel
theorem dL_law_658 : decode cL_law 658 = .ok (.iload 5, 2) := by decide +kernel
theorem dL_law_660 : decode cL_law 660 = .ok (.ifCond .ne 15, 3) := by decide +kernel
theorem dL_law_663 : decode cL_law 663 = .ok (.aload_n 3, 1) := by decide +kernel
theorem dL_law_664 : decode cL_law 664 = .ok (.iconst 0, 1) := by decide +kernel
theorem dL_law_665 : decode cL_law 665 = .ok (.laload, 1) := by decide +kernel
theorem dL_law_666 : decode cL_law 666 = .ok (.iload 6, 2) := by decide +kernel
theorem dL_law_668 : decode cL_law 668 = .ok (.i2l, 1) := by decide +kernel
theorem dL_law_669 : decode cL_law 669 = .ok (.lcmp, 1) := by decide +kernel
theorem dL_law_670 : decode cL_law 670 = .ok (.ifCond .eq 5, 3) := by decide +kernel
theorem dL_law_673 : decode cL_law 673 = .ok (.iconst 0, 1) := by decide +kernel
theorem dL_law_674 : decode cL_law 674 = .ok (.ireturn, 1) := by decide +kernel
theorem dL_law_675 : decode cL_law 675 = .ok (.goto 287, 3) := by decide +kernel
theorem dL_law_678 : decode cL_law 678 = .ok (.aload_n 1, 1) := by decide +kernel
theorem dL_law_679 : decode cL_law 679 = .ok (.aload_n 0, 1) := by decide +kernel
theorem dL_law_680 : decode cL_law 680 = .ok (.iload 4, 2) := by decide +kernel
theorem dL_law_682 : decode cL_law 682 = .ok (.iconst 1, 1) := by decide +kernel
theorem dL_law_683 : decode cL_law 683 = .ok (.iadd, 1) := by decide +kernel
theorem dL_law_684 : decode cL_law 684 = .ok (.iaload, 1) := by decide +kernel
theorem dL_law_685 : decode cL_law 685 = .ok (.i2l, 1) := by decide +kernel
theorem dL_law_686 : decode cL_law 686 = .ok (.bipush 32, 2) := by decide +kernel
theorem dL_law_688 : decode cL_law 688 = .ok (.lshl, 1) := by decide +kernel
theorem dL_law_689 : decode cL_law 689 = .ok (.aload_n 0, 1) := by decide +kernel
theorem dL_law_690 : decode cL_law 690 = .ok (.iload 4, 2) := by decide +kernel
theorem dL_law_692 : decode cL_law 692 = .ok (.iconst 2, 1) := by decide +kernel
theorem dL_law_693 : decode cL_law 693 = .ok (.iadd, 1) := by decide +kernel
theorem dL_law_694 : decode cL_law 694 = .ok (.iaload, 1) := by decide +kernel
theorem dL_law_695 : decode cL_law 695 = .ok (.i2l, 1) := by decide +kernel
theorem dL_law_696 : decode cL_law 696 = .ok (.ldc2_w 35, 3) := by decide +kernel
theorem dL_law_699 : decode cL_law 699 = .ok (.land, 1) := by decide +kernel
theorem dL_law_700 : decode cL_law 700 = .ok (.lor, 1) := by decide +kernel
theorem dL_law_701 : decode cL_law 701 = .ok (.aload_n 3, 1) := by decide +kernel
theorem dL_law_702 : decode cL_law 702 = .ok (.invokestatic 77, 3) := by decide +kernel
theorem dL_law_705 : decode cL_law 705 = .ok (.istore 5, 2) := by decide +kernel
theorem dL_law_707 : decode cL_law 707 = .ok (.aload_n 2, 1) := by decide +kernel
theorem dL_law_708 : decode cL_law 708 = .ok (.aload_n 0, 1) := by decide +kernel
theorem dL_law_709 : decode cL_law 709 = .ok (.iload 4, 2) := by decide +kernel
theorem dL_law_711 : decode cL_law 711 = .ok (.iconst 1, 1) := by decide +kernel
theorem dL_law_712 : decode cL_law 712 = .ok (.iadd, 1) := by decide +kernel
theorem dL_law_713 : decode cL_law 713 = .ok (.iaload, 1) := by decide +kernel
theorem dL_law_714 : decode cL_law 714 = .ok (.i2l, 1) := by decide +kernel
theorem dL_law_715 : decode cL_law 715 = .ok (.bipush 32, 2) := by decide +kernel
theorem dL_law_717 : decode cL_law 717 = .ok (.lshl, 1) := by decide +kernel
theorem dL_law_718 : decode cL_law 718 = .ok (.aload_n 0, 1) := by decide +kernel
theorem dL_law_719 : decode cL_law 719 = .ok (.iload 4, 2) := by decide +kernel
theorem dL_law_721 : decode cL_law 721 = .ok (.iconst 2, 1) := by decide +kernel
theorem dL_law_722 : decode cL_law 722 = .ok (.iadd, 1) := by decide +kernel
theorem dL_law_723 : decode cL_law 723 = .ok (.iaload, 1) := by decide +kernel
theorem dL_law_724 : decode cL_law 724 = .ok (.i2l, 1) := by decide +kernel
theorem dL_law_725 : decode cL_law 725 = .ok (.ldc2_w 35, 3) := by decide +kernel
theorem dL_law_728 : decode cL_law 728 = .ok (.land, 1) := by decide +kernel
theorem dL_law_729 : decode cL_law 729 = .ok (.lor, 1) := by decide +kernel
theorem dL_law_730 : decode cL_law 730 = .ok (.invokevirtual 80, 3) := by decide +kernel
theorem dL_law_733 : decode cL_law 733 = .ok (.lstore 6, 2) := by decide +kernel
theorem dL_law_735 : decode cL_law 735 = .ok (.aload_n 2, 1) := by decide +kernel
theorem dL_law_736 : decode cL_law 736 = .ok (.invokevirtual 73, 3) := by decide +kernel
theorem dL_law_739 : decode cL_law 739 = .ok (.iload 5, 2) := by decide +kernel
theorem dL_law_741 : decode cL_law 741 = .ok (.if_icmp .eq 5, 3) := by decide +kernel
theorem dL_law_744 : decode cL_law 744 = .ok (.iconst 0, 1) := by decide +kernel
theorem dL_law_745 : decode cL_law 745 = .ok (.ireturn, 1) := by decide +kernel
theorem dL_law_746 : decode cL_law 746 = .ok (.iload 5, 2) := by decide +kernel
theorem dL_law_748 : decode cL_law 748 = .ok (.ifCond .ne 14, 3) := by decide +kernel
theorem dL_law_751 : decode cL_law 751 = .ok (.aload_n 3, 1) := by decide +kernel
theorem dL_law_752 : decode cL_law 752 = .ok (.iconst 0, 1) := by decide +kernel
theorem dL_law_753 : decode cL_law 753 = .ok (.laload, 1) := by decide +kernel
theorem dL_law_754 : decode cL_law 754 = .ok (.lload 6, 2) := by decide +kernel
theorem dL_law_756 : decode cL_law 756 = .ok (.lcmp, 1) := by decide +kernel
theorem dL_law_757 : decode cL_law 757 = .ok (.ifCond .eq 5, 3) := by decide +kernel
theorem dL_law_760 : decode cL_law 760 = .ok (.iconst 0, 1) := by decide +kernel
theorem dL_law_761 : decode cL_law 761 = .ok (.ireturn, 1) := by decide +kernel
theorem dL_law_762 : decode cL_law 762 = .ok (.goto 200, 3) := by decide +kernel
theorem dL_law_765 : decode cL_law 765 = .ok (.aload_n 1, 1) := by decide +kernel
theorem dL_law_766 : decode cL_law 766 = .ok (.aload_n 0, 1) := by decide +kernel
theorem dL_law_767 : decode cL_law 767 = .ok (.iload 4, 2) := by decide +kernel
theorem dL_law_769 : decode cL_law 769 = .ok (.iconst 1, 1) := by decide +kernel
theorem dL_law_770 : decode cL_law 770 = .ok (.iadd, 1) := by decide +kernel
theorem dL_law_771 : decode cL_law 771 = .ok (.iaload, 1) := by decide +kernel
theorem dL_law_772 : decode cL_law 772 = .ok (.aload_n 3, 1) := by decide +kernel
theorem dL_law_773 : decode cL_law 773 = .ok (.invokestatic 81, 3) := by decide +kernel
theorem dL_law_776 : decode cL_law 776 = .ok (.istore 5, 2) := by decide +kernel
theorem dL_law_778 : decode cL_law 778 = .ok (.aload_n 2, 1) := by decide +kernel
theorem dL_law_779 : decode cL_law 779 = .ok (.aload_n 0, 1) := by decide +kernel
theorem dL_law_780 : decode cL_law 780 = .ok (.iload 4, 2) := by decide +kernel
theorem dL_law_782 : decode cL_law 782 = .ok (.iconst 1, 1) := by decide +kernel
theorem dL_law_783 : decode cL_law 783 = .ok (.iadd, 1) := by decide +kernel
theorem dL_law_784 : decode cL_law 784 = .ok (.iaload, 1) := by decide +kernel
theorem dL_law_785 : decode cL_law 785 = .ok (.invokevirtual 84, 3) := by decide +kernel
theorem dL_law_788 : decode cL_law 788 = .ok (.lstore 6, 2) := by decide +kernel
theorem dL_law_790 : decode cL_law 790 = .ok (.aload_n 2, 1) := by decide +kernel
theorem dL_law_791 : decode cL_law 791 = .ok (.invokevirtual 73, 3) := by decide +kernel
theorem dL_law_794 : decode cL_law 794 = .ok (.iload 5, 2) := by decide +kernel
theorem dL_law_796 : decode cL_law 796 = .ok (.if_icmp .eq 5, 3) := by decide +kernel
theorem dL_law_799 : decode cL_law 799 = .ok (.iconst 0, 1) := by decide +kernel
theorem dL_law_800 : decode cL_law 800 = .ok (.ireturn, 1) := by decide +kernel
theorem dL_law_801 : decode cL_law 801 = .ok (.iload 5, 2) := by decide +kernel
theorem dL_law_803 : decode cL_law 803 = .ok (.ifCond .ne 14, 3) := by decide +kernel
theorem dL_law_806 : decode cL_law 806 = .ok (.aload_n 3, 1) := by decide +kernel
theorem dL_law_807 : decode cL_law 807 = .ok (.iconst 0, 1) := by decide +kernel
theorem dL_law_808 : decode cL_law 808 = .ok (.laload, 1) := by decide +kernel
theorem dL_law_809 : decode cL_law 809 = .ok (.lload 6, 2) := by decide +kernel
theorem dL_law_811 : decode cL_law 811 = .ok (.lcmp, 1) := by decide +kernel
theorem dL_law_812 : decode cL_law 812 = .ok (.ifCond .eq 5, 3) := by decide +kernel
theorem dL_law_815 : decode cL_law 815 = .ok (.iconst 0, 1) := by decide +kernel
theorem dL_law_816 : decode cL_law 816 = .ok (.ireturn, 1) := by decide +kernel
theorem dL_law_817 : decode cL_law 817 = .ok (.goto 145, 3) := by decide +kernel
theorem dL_law_820 : decode cL_law 820 = .ok (.aload_n 1, 1) := by decide +kernel
theorem dL_law_821 : decode cL_law 821 = .ok (.aload_n 0, 1) := by decide +kernel
theorem dL_law_822 : decode cL_law 822 = .ok (.iload 4, 2) := by decide +kernel
theorem dL_law_824 : decode cL_law 824 = .ok (.iconst 1, 1) := by decide +kernel
theorem dL_law_825 : decode cL_law 825 = .ok (.iadd, 1) := by decide +kernel
theorem dL_law_826 : decode cL_law 826 = .ok (.iaload, 1) := by decide +kernel
theorem dL_law_827 : decode cL_law 827 = .ok (.invokevirtual 85, 3) := by decide +kernel
theorem dL_law_830 : decode cL_law 830 = .ok (.aload_n 2, 1) := by decide +kernel
theorem dL_law_831 : decode cL_law 831 = .ok (.aload_n 0, 1) := by decide +kernel
theorem dL_law_832 : decode cL_law 832 = .ok (.iload 4, 2) := by decide +kernel
theorem dL_law_834 : decode cL_law 834 = .ok (.iconst 1, 1) := by decide +kernel
theorem dL_law_835 : decode cL_law 835 = .ok (.iadd, 1) := by decide +kernel
theorem dL_law_836 : decode cL_law 836 = .ok (.iaload, 1) := by decide +kernel
theorem dL_law_837 : decode cL_law 837 = .ok (.invokevirtual 89, 3) := by decide +kernel
theorem dL_law_840 : decode cL_law 840 = .ok (.if_icmp .eq 122, 3) := by decide +kernel
theorem dL_law_843 : decode cL_law 843 = .ok (.iconst 0, 1) := by decide +kernel
theorem dL_law_844 : decode cL_law 844 = .ok (.ireturn, 1) := by decide +kernel
theorem dL_law_845 : decode cL_law 845 = .ok (.aload_n 1, 1) := by decide +kernel
theorem dL_law_846 : decode cL_law 846 = .ok (.invokevirtual 90, 3) := by decide +kernel
theorem dL_law_849 : decode cL_law 849 = .ok (.aload_n 2, 1) := by decide +kernel
theorem dL_law_850 : decode cL_law 850 = .ok (.invokevirtual 94, 3) := by decide +kernel
theorem dL_law_853 : decode cL_law 853 = .ok (.if_icmp .eq 109, 3) := by decide +kernel
theorem dL_law_856 : decode cL_law 856 = .ok (.iconst 0, 1) := by decide +kernel
theorem dL_law_857 : decode cL_law 857 = .ok (.ireturn, 1) := by decide +kernel
theorem dL_law_858 : decode cL_law 858 = .ok (.aload_n 1, 1) := by decide +kernel
theorem dL_law_859 : decode cL_law 859 = .ok (.aload_n 0, 1) := by decide +kernel
theorem dL_law_860 : decode cL_law 860 = .ok (.iload 4, 2) := by decide +kernel
theorem dL_law_862 : decode cL_law 862 = .ok (.iconst 1, 1) := by decide +kernel
theorem dL_law_863 : decode cL_law 863 = .ok (.iadd, 1) := by decide +kernel
theorem dL_law_864 : decode cL_law 864 = .ok (.iaload, 1) := by decide +kernel
theorem dL_law_865 : decode cL_law 865 = .ok (.aload_n 0, 1) := by decide +kernel
theorem dL_law_866 : decode cL_law 866 = .ok (.iload 4, 2) := by decide +kernel
theorem dL_law_868 : decode cL_law 868 = .ok (.iconst 2, 1) := by decide +kernel
theorem dL_law_869 : decode cL_law 869 = .ok (.iadd, 1) := by decide +kernel
theorem dL_law_870 : decode cL_law 870 = .ok (.iaload, 1) := by decide +kernel
theorem dL_law_871 : decode cL_law 871 = .ok (.aload_n 3, 1) := by decide +kernel
theorem dL_law_872 : decode cL_law 872 = .ok (.invokestatic 95, 3) := by decide +kernel
theorem dL_law_875 : decode cL_law 875 = .ok (.istore 5, 2) := by decide +kernel
theorem dL_law_877 : decode cL_law 877 = .ok (.aload_n 2, 1) := by decide +kernel
theorem dL_law_878 : decode cL_law 878 = .ok (.aload_n 0, 1) := by decide +kernel
theorem dL_law_879 : decode cL_law 879 = .ok (.iload 4, 2) := by decide +kernel
theorem dL_law_881 : decode cL_law 881 = .ok (.iconst 1, 1) := by decide +kernel
theorem dL_law_882 : decode cL_law 882 = .ok (.iadd, 1) := by decide +kernel
theorem dL_law_883 : decode cL_law 883 = .ok (.iaload, 1) := by decide +kernel
theorem dL_law_884 : decode cL_law 884 = .ok (.aload_n 0, 1) := by decide +kernel
theorem dL_law_885 : decode cL_law 885 = .ok (.iload 4, 2) := by decide +kernel
theorem dL_law_887 : decode cL_law 887 = .ok (.iconst 2, 1) := by decide +kernel
theorem dL_law_888 : decode cL_law 888 = .ok (.iadd, 1) := by decide +kernel
theorem dL_law_889 : decode cL_law 889 = .ok (.iaload, 1) := by decide +kernel
theorem dL_law_890 : decode cL_law 890 = .ok (.invokevirtual 97, 3) := by decide +kernel
theorem dL_law_893 : decode cL_law 893 = .ok (.lstore 6, 2) := by decide +kernel
theorem dL_law_895 : decode cL_law 895 = .ok (.aload_n 2, 1) := by decide +kernel
theorem dL_law_896 : decode cL_law 896 = .ok (.invokevirtual 73, 3) := by decide +kernel
theorem dL_law_899 : decode cL_law 899 = .ok (.iload 5, 2) := by decide +kernel
theorem dL_law_901 : decode cL_law 901 = .ok (.if_icmp .eq 5, 3) := by decide +kernel
theorem dL_law_904 : decode cL_law 904 = .ok (.iconst 0, 1) := by decide +kernel
theorem dL_law_905 : decode cL_law 905 = .ok (.ireturn, 1) := by decide +kernel
theorem dL_law_906 : decode cL_law 906 = .ok (.iload 5, 2) := by decide +kernel
theorem dL_law_908 : decode cL_law 908 = .ok (.ifCond .ne 14, 3) := by decide +kernel
theorem dL_law_911 : decode cL_law 911 = .ok (.aload_n 3, 1) := by decide +kernel
theorem dL_law_912 : decode cL_law 912 = .ok (.iconst 0, 1) := by decide +kernel
theorem dL_law_913 : decode cL_law 913 = .ok (.laload, 1) := by decide +kernel
theorem dL_law_914 : decode cL_law 914 = .ok (.lload 6, 2) := by decide +kernel
theorem dL_law_916 : decode cL_law 916 = .ok (.lcmp, 1) := by decide +kernel
theorem dL_law_917 : decode cL_law 917 = .ok (.ifCond .eq 5, 3) := by decide +kernel
theorem dL_law_920 : decode cL_law 920 = .ok (.iconst 0, 1) := by decide +kernel
theorem dL_law_921 : decode cL_law 921 = .ok (.ireturn, 1) := by decide +kernel
theorem dL_law_922 : decode cL_law 922 = .ok (.goto 40, 3) := by decide +kernel
theorem dL_law_925 : decode cL_law 925 = .ok (.aload_n 1, 1) := by decide +kernel
theorem dL_law_926 : decode cL_law 926 = .ok (.aload_n 0, 1) := by decide +kernel
theorem dL_law_927 : decode cL_law 927 = .ok (.iload 4, 2) := by decide +kernel
theorem dL_law_929 : decode cL_law 929 = .ok (.iconst 1, 1) := by decide +kernel
theorem dL_law_930 : decode cL_law 930 = .ok (.iadd, 1) := by decide +kernel
theorem dL_law_931 : decode cL_law 931 = .ok (.iaload, 1) := by decide +kernel
theorem dL_law_932 : decode cL_law 932 = .ok (.aload_n 0, 1) := by decide +kernel
theorem dL_law_933 : decode cL_law 933 = .ok (.iload 4, 2) := by decide +kernel
theorem dL_law_935 : decode cL_law 935 = .ok (.iconst 2, 1) := by decide +kernel
theorem dL_law_936 : decode cL_law 936 = .ok (.iadd, 1) := by decide +kernel
theorem dL_law_937 : decode cL_law 937 = .ok (.iaload, 1) := by decide +kernel
theorem dL_law_938 : decode cL_law 938 = .ok (.invokevirtual 98, 3) := by decide +kernel
theorem dL_law_941 : decode cL_law 941 = .ok (.aload_n 2, 1) := by decide +kernel
theorem dL_law_942 : decode cL_law 942 = .ok (.aload_n 0, 1) := by decide +kernel
theorem dL_law_943 : decode cL_law 943 = .ok (.iload 4, 2) := by decide +kernel
theorem dL_law_945 : decode cL_law 945 = .ok (.iconst 1, 1) := by decide +kernel
theorem dL_law_946 : decode cL_law 946 = .ok (.iadd, 1) := by decide +kernel
theorem dL_law_947 : decode cL_law 947 = .ok (.iaload, 1) := by decide +kernel
theorem dL_law_948 : decode cL_law 948 = .ok (.aload_n 0, 1) := by decide +kernel
theorem dL_law_949 : decode cL_law 949 = .ok (.iload 4, 2) := by decide +kernel
theorem dL_law_951 : decode cL_law 951 = .ok (.iconst 2, 1) := by decide +kernel
theorem dL_law_952 : decode cL_law 952 = .ok (.iadd, 1) := by decide +kernel
theorem dL_law_953 : decode cL_law 953 = .ok (.iaload, 1) := by decide +kernel
theorem dL_law_954 : decode cL_law 954 = .ok (.invokevirtual 101, 3) := by decide +kernel
theorem dL_law_957 : decode cL_law 957 = .ok (.if_icmp .eq 5, 3) := by decide +kernel
theorem dL_law_960 : decode cL_law 960 = .ok (.iconst 0, 1) := by decide +kernel
theorem dL_law_961 : decode cL_law 961 = .ok (.ireturn, 1) := by decide +kernel
theorem dL_law_962 : decode cL_law 962 = .ok (.iinc 4 8, 3) := by decide +kernel
theorem dL_law_965 : decode cL_law 965 = .ok (.goto (-942), 3) := by decide +kernel
theorem dL_law_968 : decode cL_law 968 = .ok (.iconst 1, 1) := by decide +kernel
theorem dL_law_969 : decode cL_law 969 = .ok (.ireturn, 1) := by decide +kernel
end
section
/-! calls over one list of words for all methods -/
abbrev mm {w x : Cond} (h : w ∈ bg) : w ∈ x :: bg := List.mem_cons_of_mem _ h
theorem sd_gi {x y : Cond} (h : y ∈ bg) : GoodIn (x :: bg) (y :: bg) := fun w hw => by
  have hb : w ∈ bg := (List.mem_cons.mp hw).elim (fun e => e ▸ h) id
  exact ⟨List.mem_cons_of_mem _ hb, good_of_word (bg_good hb).2⟩
/-- what a call asks of the callee's name -/
def sd_Nm (y : MethodName) (n : Nat) : Prop := y.cls ≠ "java/lang/invoke/MethodHandle" ∧ y.cls ≠ "java/lang/invoke/VarHandle" ∧ (parseMethodDescriptor y.desc).map (fun d => d.parameters.length) = some n
section
variable {R : Room} {s : State} {args : Array Value} {own C : String} {index n maxL mc ms : Nat} {y : MethodName} {bytes : ByteArray} {ret : Option FieldType} {rm : Room} {x : Cond}
theorem sd_cwV (ht : ∀ w ∈ x :: bg, w.before args s = true) (hcode : Cond.code y bytes maxL ret ∈ bg) (hini : Cond.initialized y.cls ∈ bg) (hl : Cond.methodLink own index y ∈ bg) (hi : Cond.instanceMethod y ∈ bg) (hs : Cond.selects C y y ∈ bg) (hd : sd_Nm y n) (hrc : rm.cells = mc) (hrs : rm.slots = ms) (hR : rm.frames + 1 ≤ R.frames ∧ 8 + (maxL + 11) + rm.locals ≤ R.locals) :
    CallW R s args own C index y bytes maxL ret (Cond.code y bytes maxL ret :: bg) rm mc ms n :=
  ⟨callB_of n ht (sd_gi hcode) rfl hrc hrs (ht _ (mm hini)) (ht _ (mm hl)) hd hR, ht _ (mm hi), ht _ (mm hs)⟩
theorem sd_cwS (ht : ∀ w ∈ x :: bg, w.before args s = true) (hcode : Cond.code y bytes maxL ret ∈ bg) (hini : Cond.initialized y.cls ∈ bg) (hl : Cond.methodLink own index y ∈ bg) (hi : Cond.static y ∈ bg) (hd : sd_Nm y n) (hrc : rm.cells = mc) (hrs : rm.slots = ms) (hR : rm.frames + 1 ≤ R.frames ∧ 8 + (maxL + 11) + rm.locals ≤ R.locals) :
    CallB R s args own index y bytes maxL ret (Cond.code y bytes maxL ret :: bg) rm mc ms n ∧ (Cond.static y).before args s = true :=
  ⟨callB_of n ht (sd_gi hcode) rfl hrc hrs (ht _ (mm hini)) (ht _ (mm hl)) hd hR, ht _ (mm hi)⟩
end
/-- a boolean as an int -/
def bI (b : Bool) : Int32 := if b = true then 1 else 0
theorem bI_t : bI true = 1 := rfl
theorem bI_f : bI false = 0 := rfl
theorem bI_nar (b : Bool) : narrow .boolean (.int (bI b)) = .int (bI b) := by cases b <;> rfl
theorem bI_vp (b : Bool) : vp_nar .boolean (bI b) = bI b := by cases b <;> rfl
theorem bI_0 {b : Bool} : bI b = 0 ↔ b = false := by cases b <;> decide
theorem bI_ne {b : Bool} : ¬ bI b = 0 ↔ b = true := by cases b <;> decide
theorem bI_inj {a b : Bool} (h : bI a = bI b) : a = b := by cases a <;> cases b <;> first | rfl | (exact absurd h (by decide))
section
variable {p : Program} {l : Launch} {e : Env} {R : Room} {s : State} {m : MethodId} {args : Array Value} {below : List Frame} {meth : Method} {c : Code} {H : Heap} {locs : List Loc} {cells slots : Nat} {Q : State → Prop}
variable {cc : ByteArray} {pc : Nat} {ls : Array Slot} {rest st0 : List Value} {D : va_G} {cl : List vw_C} {A A0 : Nat → Prop} {a : Nat} {tys : List (ClassId × FieldType)} {ws : va_W} {H0 : Heap} {aa : Array Value}
theorem sd_if_eqB (hexec : p.tables.exec = Jvm.exec) (hb : c.code = cc) {b : Bool} {off : Int} {tgt : Nat} (hdg : decode cc pc = .ok (.ifCond .eq off, 3)) (ht : (pc : Int) + off = (tgt : Int)) (kt : b = false → W p l e R s m args below meth c H locs cells slots Q (F0 m tgt ls rest)) (kf : b = true → W p l e R s m args below meth c H locs cells slots Q (F0 m (pc + 3) ls rest)) : W p l e R s m args below meth c H locs cells slots Q (F0 m pc ls (.int (bI b) :: rest)) :=
  lv_if_eq hexec hb hdg ht (fun q => kt (bI_0.mp q)) (fun q => kf (bI_ne.mp q))
theorem sd_if_neB (hexec : p.tables.exec = Jvm.exec) (hb : c.code = cc) {b : Bool} {off : Int} {tgt : Nat} (hdg : decode cc pc = .ok (.ifCond .ne off, 3)) (ht : (pc : Int) + off = (tgt : Int)) (kt : b = true → W p l e R s m args below meth c H locs cells slots Q (F0 m tgt ls rest)) (kf : b = false → W p l e R s m args below meth c H locs cells slots Q (F0 m (pc + 3) ls rest)) : W p l e R s m args below meth c H locs cells slots Q (F0 m pc ls (.int (bI b) :: rest)) :=
  lv_if_ne hexec hb hdg ht (fun q => kt (bI_ne.mp q)) (fun q => kf (bI_0.mp q))
/-- a field that is written: the new world by its name -/
theorem sd_put (hexec : p.tables.exec = Jvm.exec) (hb : c.code = cc) {own ref C : String} {T : u_T} {N ci index : Nat} {Ts : List Cond} (hts : ∀ w ∈ Ts, w.before args s = true) (hin : ∀ w ∈ u_ws C T N, w ∈ Ts) (ty0 : Nat → FieldType) (hty : ∀ k, k < N → parseFieldDescriptor (T k).2.2.1 = some (ty0 k)) (hnm : ∀ a, a < N → ∀ b, b < N → a ≠ b → (T a).2.1 ≠ (T b).2.1) (hown : s.vm.findClass own = some m.cls) (hK : va_K D cl tys s) (hP : va_P D cl ws H) (hD : va_D A ws) (hS0 : va_S A H0 H locs) (q0 : Nat) {fs fs2 : List Value} (he : ws[q0]? = some (a, .inr (ci, fs))) (hc : cl[ci]? = some (C, T, N)) (k : Nat) (hk : k < N) (hlink : (Cond.fieldLink own index ref (T k).2.1 (T k).2.2.1).before args s = true) (hsame : (T k).1 = ref) (hfin : (T k).2.2.2 = false) {v : Value} (hn : narrow (ty0 k) v = v) (hfit : fits (ty0 k) v = true) (hl : k < fs.length) (hfs : fs.set k v = fs2) {ws2 : va_W} (hw : ws.set q0 (a, .inr (ci, fs2)) = ws2) (hdg : decode cc pc = .ok (.putfield index, 3))
    (kk : ∀ (H1 : Heap) (locs1 : List Loc), va_P D cl ws2 H1 → va_D A ws2 → va_S A H0 H1 locs1 → W p l e R s m args below meth c H1 locs1 cells slots Q (F0 m (pc + 3) ls rest)) : W p l e R s m args below meth c H locs cells slots Q (F0 m pc ls (v :: .ref a :: rest)) := by
  subst hfs
  subst hw
  exact va_put hexec hb hts hin ty0 hty hnm hown hK hP hD hS0 q0 he hc k hk hlink (fun x h9 => by rw [← hsame]; exact h9) hfin (hty k hk) hn hfit hl hdg kk
/-- calls of methods that only read -/
theorem sd_ri {post : Int32 → Prop} (hr : va_Run p l e R s m args below meth c H locs cells slots 0 0 (F0 m pc ls st0) rest (vp_Si post aa) (fun _ => False)) (kk : ∀ r : Int32, post r → W p l e R s m args below meth c H locs cells slots Q (F0 m (pc + 3) ls (.int r :: rest))) : W p l e R s m args below meth c H locs cells slots Q (F0 m pc ls st0) := vp_callSi hr.run kk
theorem sd_rl {post : Int64 → Prop} (hr : va_Run p l e R s m args below meth c H locs cells slots 0 0 (F0 m pc ls st0) rest (vp_Sl post aa) (fun _ => False)) (kk : ∀ r : Int64, post r → W p l e R s m args below meth c H locs cells slots Q (F0 m (pc + 3) ls (.long r :: rest))) : W p l e R s m args below meth c H locs cells slots Q (F0 m pc ls st0) := vp_callSl hr.run kk
end
end
section
/-! longs: the rest by P, Math.floorMod's cases, rows for lN -/
theorem sd_ofInt_lN (n : Nat) : Int64.ofInt (n : Int) = lN n := rfl
theorem sd_P64 : (2305843009213693951 : Int64).toInt = 2305843009213693951 := by decide +kernel
theorem sd_rem (x : Int64) : x - x / 2305843009213693951 * 2305843009213693951 = Int64.ofInt (x.toInt.tmod 2305843009213693951) := by
  have hq : (x / 2305843009213693951).toInt = x.toInt.tdiv 2305843009213693951 := by
    rw [Int64.toInt_div_of_ne_right x _ (by decide), sd_P64]
  have h1 : x / 2305843009213693951 = Int64.ofInt (x.toInt.tdiv 2305843009213693951) := by rw [← hq, Int64.ofInt_toInt]
  have h2 : (2305843009213693951 : Int64) = Int64.ofInt 2305843009213693951 := by decide +kernel
  have h3 : x = Int64.ofInt x.toInt := (Int64.ofInt_toInt x).symm
  rw [h1]
  generalize hz : x.toInt = z at *
  rw [h3, h2, ← Int64.ofInt_mul, ← Int64.ofInt_sub]
  refine congrArg Int64.ofInt ?_
  have := Int.mul_tdiv_add_tmod z 2305843009213693951
  omega
theorem sd_tm {z : Int} (h : z < 0) : z.tmod 2305843009213693951 = -((-z) % 2305843009213693951) := by
  have e : z.tmod 2305843009213693951 = -((-z).tmod 2305843009213693951) := by
    rw [Int.neg_tmod, Int.neg_neg]
  rw [e, Int.tmod_eq_emod_of_nonneg (by omega)]
theorem sd_xorneg (x : Int64) : x ^^^ 2305843009213693951 < 0 ↔ x < 0 := by
  have a : (x ^^^ 2305843009213693951).toBitVec.msb = x.toBitVec.msb := by
    rw [Int64.toBitVec_xor, BitVec.msb_xor, show (2305843009213693951 : Int64).toBitVec.msb = false by decide +kernel, Bool.xor_false]
  rw [BitVec.msb_eq_toInt, BitVec.msb_eq_toInt, decide_eq_decide] at a
  rw [Int64.lt_iff_toInt_lt, Int64.lt_iff_toInt_lt, Int64.toInt_zero]
  exact a
theorem sd_of_val (x : Int64) : sd_L (sd_of x) = Int64.ofInt (x.toInt % 2305843009213693951) := by
  have h1 := Int.emod_nonneg x.toInt (show (2305843009213693951 : Int) ≠ 0 by decide)
  show lN (x.toInt % 2305843009213693951).toNat = _
  rw [← sd_ofInt_lN, Int.toNat_of_nonneg h1]
/-- the rest is the number already -/
theorem sd_fm_0 {x : Int64} (h : ¬ x < 0) : x - x / 2305843009213693951 * 2305843009213693951 = sd_L (sd_of x) := by
  rw [Int64.lt_iff_toInt_lt, Int64.toInt_zero] at h
  rw [sd_rem, sd_of_val, Int.tmod_eq_emod_of_nonneg (by omega)]
theorem sd_fm_z {x : Int64} (h : x - x / 2305843009213693951 * 2305843009213693951 = 0) : x - x / 2305843009213693951 * 2305843009213693951 = sd_L (sd_of x) := by
  by_cases hn : x < 0
  · rw [Int64.lt_iff_toInt_lt, Int64.toInt_zero] at hn
    rw [sd_rem, sd_tm hn] at h ⊢
    have h0 : (-((-x.toInt) % 2305843009213693951) : Int) = 0 := by
      have hb := congrArg Int64.toInt h
      rw [Int64.toInt_ofInt_of_le (by omega) (by omega), Int64.toInt_zero] at hb
      exact hb
    rw [sd_of_val, h0]
    refine congrArg Int64.ofInt ?_
    omega
  · exact sd_fm_0 hn
theorem sd_fm_n {x : Int64} (hn : x < 0) (h : ¬ x - x / 2305843009213693951 * 2305843009213693951 = 0) : x - x / 2305843009213693951 * 2305843009213693951 + 2305843009213693951 = sd_L (sd_of x) := by
  rw [Int64.lt_iff_toInt_lt, Int64.toInt_zero] at hn
  rw [sd_rem, sd_tm hn] at h ⊢
  have h0 : ¬ (-((-x.toInt) % 2305843009213693951) : Int) = 0 := fun z => h (by rw [z]; rfl)
  have h2 : (2305843009213693951 : Int64) = Int64.ofInt 2305843009213693951 := by decide +kernel
  rw [sd_of_val, h2, ← Int64.ofInt_add]
  refine congrArg Int64.ofInt ?_
  omega
section
variable {p : Program} {l : Launch} {e : Env} {R : Room} {s : State} {m : MethodId} {args : Array Value} {below : List Frame} {meth : Method} {c : Code} {H : Heap} {locs : List Loc} {cells slots : Nat} {Q : State → Prop}
variable {cc : ByteArray} {pc : Nat} {ls : Array Slot} {rest : List Value}
theorem sd_lushr (hexec : p.tables.exec = Jvm.exec) (hb : c.code = cc) {n k v : Nat} (hn : n < 2 ^ 64) (hk : k < 64) (hv : n / 2 ^ k = v) (hdg : decode cc pc = .ok (.lushr, 1)) (kk : W p l e R s m args below meth c H locs cells slots Q (F0 m (pc + 1) ls (.long (lN v) :: rest))) : W p l e R s m args below meth c H locs cells slots Q (F0 m pc ls (.int (nI k) :: .long (lN n) :: rest)) := lv_lushr hexec hb hdg (by rw [wb_shr hn hk, hv]) kk
theorem sd_lshl (hexec : p.tables.exec = Jvm.exec) (hb : c.code = cc) {n k v : Nat} (hk : k < 64) (hv : n * 2 ^ k = v) (hdg : decode cc pc = .ok (.lshl, 1)) (kk : W p l e R s m args below meth c H locs cells slots Q (F0 m (pc + 1) ls (.long (lN v) :: rest))) : W p l e R s m args below meth c H locs cells slots Q (F0 m pc ls (.int (nI k) :: .long (lN n) :: rest)) := lv_lshl hexec hb hdg (by rw [wb_shl n hk, hv]) kk
theorem sd_land (hexec : p.tables.exec = Jvm.exec) (hb : c.code = cc) {n k M v : Nat} (hn : n < 2 ^ 64) (hk : k < 64) (hM : 2 ^ k - 1 = M) (hv : n % 2 ^ k = v) (hdg : decode cc pc = .ok (.land, 1)) (kk : W p l e R s m args below meth c H locs cells slots Q (F0 m (pc + 1) ls (.long (lN v) :: rest))) : W p l e R s m args below meth c H locs cells slots Q (F0 m pc ls (.long (lN M) :: .long (lN n) :: rest)) := lv_land hexec hb hdg (by rw [← hM, wb_mask hn hk, hv]; exact kk)
theorem sd_lmul (hexec : p.tables.exec = Jvm.exec) (hb : c.code = cc) {a b : Nat} (hdg : decode cc pc = .ok (.lmul, 1)) (kk : W p l e R s m args below meth c H locs cells slots Q (F0 m (pc + 1) ls (.long (lN (a * b)) :: rest))) : W p l e R s m args below meth c H locs cells slots Q (F0 m pc ls (.long (lN b) :: .long (lN a) :: rest)) := lv_lmul hexec hb hdg (by rw [lN_mul]; exact kk)
theorem sd_ladd (hexec : p.tables.exec = Jvm.exec) (hb : c.code = cc) {a b : Nat} (hdg : decode cc pc = .ok (.ladd, 1)) (kk : W p l e R s m args below meth c H locs cells slots Q (F0 m (pc + 1) ls (.long (lN (a + b)) :: rest))) : W p l e R s m args below meth c H locs cells slots Q (F0 m pc ls (.long (lN b) :: .long (lN a) :: rest)) := lv_ladd hexec hb hdg (by rw [lN_add]; exact kk)
theorem sd_lsub (hexec : p.tables.exec = Jvm.exec) (hb : c.code = cc) {a b : Nat} (h : b ≤ a) (hdg : decode cc pc = .ok (.lsub, 1)) (kk : W p l e R s m args below meth c H locs cells slots Q (F0 m (pc + 1) ls (.long (lN (a - b)) :: rest))) : W p l e R s m args below meth c H locs cells slots Q (F0 m pc ls (.long (lN b) :: .long (lN a) :: rest)) := lv_lsub hexec hb hdg (by rw [lN_sub h]; exact kk)
theorem sd_lrem (hexec : p.tables.exec = Jvm.exec) (hb : c.code = cc) {a b : Nat} (ha : a < 2 ^ 63) (h0 : 0 < b) (hb2 : b < 2 ^ 63) (hdg : decode cc pc = .ok (.lrem, 1)) (kk : W p l e R s m args below meth c H locs cells slots Q (F0 m (pc + 1) ls (.long (lN (a % b)) :: rest))) : W p l e R s m args below meth c H locs cells slots Q (F0 m pc ls (.long (lN b) :: .long (lN a) :: rest)) := lv_lrem hexec hb hdg (fun q => by have := (pk_lEQ (a := b) (b := 0) hb2 (by decide)).mp q; omega) (by rw [pk_lRem ha h0 hb2]; exact kk)
theorem sd_ldiv (hexec : p.tables.exec = Jvm.exec) (hb : c.code = cc) {a b : Nat} (ha : a < 2 ^ 63) (h0 : 0 < b) (hb2 : b < 2 ^ 63) (hdg : decode cc pc = .ok (.ldiv, 1)) (kk : W p l e R s m args below meth c H locs cells slots Q (F0 m (pc + 1) ls (.long (lN (a / b)) :: rest))) : W p l e R s m args below meth c H locs cells slots Q (F0 m pc ls (.long (lN b) :: .long (lN a) :: rest)) := lv_ldiv hexec hb hdg (fun q => by have := (pk_lEQ (a := b) (b := 0) hb2 (by decide)).mp q; omega) (by rw [pk_lDiv ha h0 hb2]; exact kk)
theorem sd_tob {b : Bool} {v : Int32} (h : bI b = v) (kk : W p l e R s m args below meth c H locs cells slots Q (F0 m pc ls (.int (bI b) :: rest))) : W p l e R s m args below meth c H locs cells slots Q (F0 m pc ls (.int v :: rest)) := h ▸ kk
/-- the same number on the stack, by another name -/
theorem sd_tol {x y : Int64} (h : x = y) (kk : W p l e R s m args below meth c H locs cells slots Q (F0 m pc ls (.long y :: rest))) : W p l e R s m args below meth c H locs cells slots Q (F0 m pc ls (.long x :: rest)) := h ▸ kk
theorem sd_toi {x y : Int32} (h : x = y) (kk : W p l e R s m args below meth c H locs cells slots Q (F0 m pc ls (.int y :: rest))) : W p l e R s m args below meth c H locs cells slots Q (F0 m pc ls (.int x :: rest)) := h ▸ kk
end
end
section
/-! what a call asks of each name -/
theorem nq_X0_init : sd_Nm yX0_init 0 := by unfold sd_Nm; decide +kernel
theorem nq_X0_draw : sd_Nm yX0_draw 3 := by unfold sd_Nm; decide +kernel
theorem nq_X0_valueAt : sd_Nm yX0_valueAt 1 := by unfold sd_Nm; decide +kernel
theorem nq_X0_copyFrom : sd_Nm yX0_copyFrom 1 := by unfold sd_Nm; decide +kernel
theorem nq_X1_init : sd_Nm yX1_init 0 := by unfold sd_Nm; decide +kernel
theorem nq_X1_sharesNeeded : sd_Nm yX1_sharesNeeded 2 := by unfold sd_Nm; decide +kernel
theorem nq_X1_seek : sd_Nm yX1_seek 2 := by unfold sd_Nm; decide +kernel
theorem nq_X1_writeEquations : sd_Nm yX1_writeEquations 3 := by unfold sd_Nm; decide +kernel
theorem nq_X1_writeEquation : sd_Nm yX1_writeEquation 5 := by unfold sd_Nm; decide +kernel
theorem nq_X1_solveEquations : sd_Nm yX1_solveEquations 1 := by unfold sd_Nm; decide +kernel
theorem nq_X1_unusedRowWith : sd_Nm yX1_unusedRowWith 2 := by unfold sd_Nm; decide +kernel
theorem nq_X1_makeOne : sd_Nm yX1_makeOne 3 := by unfold sd_Nm; decide +kernel
theorem nq_X1_clearElsewhere : sd_Nm yX1_clearElsewhere 3 := by unfold sd_Nm; decide +kernel
theorem nq_X1_takeTimes : sd_Nm yX1_takeTimes 4 := by unfold sd_Nm; decide +kernel
theorem nq_X1_divide : sd_Nm yX1_divide 2 := by unfold sd_Nm; decide +kernel
theorem nq_X2_of : sd_Nm yX2_of 1 := by unfold sd_Nm; decide +kernel
theorem nq_X2_plus : sd_Nm yX2_plus 2 := by unfold sd_Nm; decide +kernel
theorem nq_X2_minus : sd_Nm yX2_minus 2 := by unfold sd_Nm; decide +kernel
theorem nq_X2_times : sd_Nm yX2_times 2 := by unfold sd_Nm; decide +kernel
theorem nq_X2_inverse : sd_Nm yX2_inverse 1 := by unfold sd_Nm; decide +kernel
theorem nq_X3_init : sd_Nm yX3_init 0 := by unfold sd_Nm; decide +kernel
theorem nq_X3_shape : sd_Nm yX3_shape 2 := by unfold sd_Nm; decide +kernel
theorem nq_X3_hasPlace : sd_Nm yX3_hasPlace 1 := by unfold sd_Nm; decide +kernel
theorem nq_X3_hasShare : sd_Nm yX3_hasShare 1 := by unfold sd_Nm; decide +kernel
theorem nq_X3_keep : sd_Nm yX3_keep 2 := by unfold sd_Nm; decide +kernel
theorem nq_X3_drop : sd_Nm yX3_drop 1 := by unfold sd_Nm; decide +kernel
theorem nq_X3_fill : sd_Nm yX3_fill 1 := by unfold sd_Nm; decide +kernel
theorem nq_X3_countThere : sd_Nm yX3_countThere 0 := by unfold sd_Nm; decide +kernel
theorem nq_X3_isMissedBy : sd_Nm yX3_isMissedBy 2 := by unfold sd_Nm; decide +kernel
theorem nq_X3_countMissedBy : sd_Nm yX3_countMissedBy 1 := by unfold sd_Nm; decide +kernel
theorem nq_X4_init : sd_Nm yX4_init 0 := by unfold sd_Nm; decide +kernel
theorem nq_X4_deal : sd_Nm yX4_deal 5 := by unfold sd_Nm; decide +kernel
theorem nq_X4_put : sd_Nm yX4_put 3 := by unfold sd_Nm; decide +kernel
theorem nq_X4_lose : sd_Nm yX4_lose 2 := by unfold sd_Nm; decide +kernel
theorem nq_X4_join : sd_Nm yX4_join 4 := by unfold sd_Nm; decide +kernel
theorem nq_X4_scale : sd_Nm yX4_scale 3 := by unfold sd_Nm; decide +kernel
theorem nq_X4_renew : sd_Nm yX4_renew 2 := by unfold sd_Nm; decide +kernel
theorem nq_X4_find : sd_Nm yX4_find 2 := by unfold sd_Nm; decide +kernel
theorem nq_X4_at : sd_Nm yX4_at 1 := by unfold sd_Nm; decide +kernel
theorem nq_X4_part : sd_Nm yX4_part 1 := by unfold sd_Nm; decide +kernel
theorem nq_X4_wrong : sd_Nm yX4_wrong 1 := by unfold sd_Nm; decide +kernel
theorem nq_X4_mend : sd_Nm yX4_mend 0 := by unfold sd_Nm; decide +kernel
theorem nq_X4_share : sd_Nm yX4_share 2 := by unfold sd_Nm; decide +kernel
theorem nq_X4_split : sd_Nm yX4_split 2 := by unfold sd_Nm; decide +kernel
theorem nq_X4_splitOrNull : sd_Nm yX4_splitOrNull 1 := by unfold sd_Nm; decide +kernel
theorem nq_X4_joined : sd_Nm yX4_joined 3 := by unfold sd_Nm; decide +kernel
theorem nq_X4_keepFound : sd_Nm yX4_keepFound 2 := by unfold sd_Nm; decide +kernel
theorem nq_X5_init : sd_Nm yX5_init 0 := by unfold sd_Nm; decide +kernel
theorem nq_X5_thrown : sd_Nm yX5_thrown 0 := by unfold sd_Nm; decide +kernel
theorem nq_X5_raise : sd_Nm yX5_raise 1 := by unfold sd_Nm; decide +kernel
theorem nq_X5_reduced : sd_Nm yX5_reduced 1 := by unfold sd_Nm; decide +kernel
theorem nq_X5_modulo : sd_Nm yX5_modulo 1 := by unfold sd_Nm; decide +kernel
theorem nq_X5_plus : sd_Nm yX5_plus 2 := by unfold sd_Nm; decide +kernel
theorem nq_X5_minus : sd_Nm yX5_minus 2 := by unfold sd_Nm; decide +kernel
theorem nq_X5_times : sd_Nm yX5_times 2 := by unfold sd_Nm; decide +kernel
theorem nq_X5_power : sd_Nm yX5_power 2 := by unfold sd_Nm; decide +kernel
theorem nq_X5_stepped : sd_Nm yX5_stepped 1 := by unfold sd_Nm; decide +kernel
theorem nq_X5_isSplit : sd_Nm yX5_isSplit 1 := by unfold sd_Nm; decide +kernel
theorem nq_X5_isPlace : sd_Nm yX5_isPlace 2 := by unfold sd_Nm; decide +kernel
theorem nq_X5_home : sd_Nm yX5_home 2 := by unfold sd_Nm; decide +kernel
theorem nq_X5_onCurve : sd_Nm yX5_onCurve 3 := by unfold sd_Nm; decide +kernel
theorem nq_X5_draw : sd_Nm yX5_draw 3 := by unfold sd_Nm; decide +kernel
theorem nq_X5_deal : sd_Nm yX5_deal 5 := by unfold sd_Nm; decide +kernel
theorem nq_X5_put : sd_Nm yX5_put 3 := by unfold sd_Nm; decide +kernel
theorem nq_X5_lose : sd_Nm yX5_lose 2 := by unfold sd_Nm; decide +kernel
theorem nq_X5_join : sd_Nm yX5_join 4 := by unfold sd_Nm; decide +kernel
theorem nq_X5_scale : sd_Nm yX5_scale 3 := by unfold sd_Nm; decide +kernel
theorem nq_X5_renew : sd_Nm yX5_renew 2 := by unfold sd_Nm; decide +kernel
theorem nq_X5_over : sd_Nm yX5_over 2 := by unfold sd_Nm; decide +kernel
theorem nq_X5_through : sd_Nm yX5_through 2 := by unfold sd_Nm; decide +kernel
theorem nq_X5_missed : sd_Nm yX5_missed 2 := by unfold sd_Nm; decide +kernel
theorem nq_X5_isOne : sd_Nm yX5_isOne 3 := by unfold sd_Nm; decide +kernel
theorem nq_X5_find : sd_Nm yX5_find 2 := by unfold sd_Nm; decide +kernel
theorem nq_X5_at : sd_Nm yX5_at 1 := by unfold sd_Nm; decide +kernel
theorem nq_X5_part : sd_Nm yX5_part 1 := by unfold sd_Nm; decide +kernel
theorem nq_X5_wrong : sd_Nm yX5_wrong 1 := by unfold sd_Nm; decide +kernel
theorem nq_X5_mend : sd_Nm yX5_mend 0 := by unfold sd_Nm; decide +kernel
theorem nq_X5_share : sd_Nm yX5_share 2 := by unfold sd_Nm; decide +kernel
theorem nq_X5_split : sd_Nm yX5_split 2 := by unfold sd_Nm; decide +kernel
theorem nq_L_find : sd_Nm yL_find 4 := by unfold sd_Nm; decide +kernel
theorem nq_L_at : sd_Nm yL_at 3 := by unfold sd_Nm; decide +kernel
theorem nq_L_part : sd_Nm yL_part 3 := by unfold sd_Nm; decide +kernel
theorem nq_L_share : sd_Nm yL_share 4 := by unfold sd_Nm; decide +kernel
theorem nq_J9_floorMod : sd_Nm yJ9_floorMod 2 := by unfold sd_Nm; decide +kernel
theorem nq_J9_max : sd_Nm yJ9_max 2 := by unfold sd_Nm; decide +kernel
theorem nq_J9_min : sd_Nm yJ9_min 2 := by unfold sd_Nm; decide +kernel
end
section
/-! the desk's cells, by number: 0 the desk, 1 the splits' row, 2 + 2 c and 3 + 2 c a curve (0 drawn, 1 candidate, 2 found) and its parts, 8 the finder, 9 its rows' row, 10 used, 11 solution, 12 row of unknown, 13 found wrong, 14 + 3 s .. a split, its values, its flags, 38 + r a row -/
abbrev ty5 (tc : Nat → ClassId) : List (ClassId × FieldType) := [(tc 0, .long), (tc 1, .boolean), (tc 2, .int), (tc 3, .object "SplitDesk$Split"), (tc 4, .array .long)]
abbrev aL (c : ClassId) (n : Nat) (f : Nat → FP) : va_E := .inl (c, n, .inr (.inl (fun j => sd_L (f j))))
abbrev aZ (c : ClassId) (n : Nat) (f : Nat → Bool) : va_E := .inl (c, n, .inl (fun j => bI (f j)))
abbrev aI (c : ClassId) (n : Nat) (f : Nat → Int32) : va_E := .inl (c, n, .inl f)
abbrev aR (c : ClassId) (n : Nat) (f : Nat → Option Nat) : va_E := .inl (c, n, .inr (.inr (.inr (.inr f))))
abbrev dsp (ad : Nat → Nat) (tc : Nat → ClassId) (dg pl : Nat → Nat) (vl : Nat → Nat → FP) (th : Nat → Nat → Bool) (i : Nat) : va_W :=
  [(ad (14 + 3 * i), .inr (3, [.ref (ad (15 + 3 * i)), .ref (ad (16 + 3 * i)), .int (nI (dg i)), .int (nI (pl i))])), (ad (15 + 3 * i), aL (tc 0) 17 (vl i)), (ad (16 + 3 * i), aZ (tc 1) 17 (th i))]
def dw (ad : Nat → Nat) (tc : Nat → ClassId) (dg pl : Nat → Nat) (vl : Nat → Nat → FP) (th : Nat → Nat → Bool) (cu mx : Nat → Nat → FP) (us : Nat → Bool) (so : Nat → FP) (rr : Nat → Int32) (fw : Nat → Bool) (ff : Int32) : va_W :=
  [(ad 0, .inr (4, [.ref (ad 1), .ref (ad 2), .ref (ad 8), .ref (ad 6), .ref (ad 13), .int ff])), (ad 1, aR (tc 3) 8 (fun i => some (ad (14 + 3 * i)))),
   (ad 2, .inr (0, [.ref (ad 3)])), (ad 3, aL (tc 0) 9 (cu 0)), (ad 4, .inr (0, [.ref (ad 5)])), (ad 5, aL (tc 0) 9 (cu 1)), (ad 6, .inr (0, [.ref (ad 7)])), (ad 7, aL (tc 0) 9 (cu 2)),
   (ad 8, .inr (1, [.ref (ad 4), .ref (ad 9), .ref (ad 10), .ref (ad 11), .ref (ad 12)])), (ad 9, aR (tc 4) 16 (fun i => some (ad (38 + i)))), (ad 10, aZ (tc 1) 16 us), (ad 11, aL (tc 0) 16 so), (ad 12, aI (tc 2) 16 rr), (ad 13, aZ (tc 1) 17 fw)] ++
  (dsp ad tc dg pl vl th 0 ++ dsp ad tc dg pl vl th 1 ++ dsp ad tc dg pl vl th 2 ++ dsp ad tc dg pl vl th 3 ++ dsp ad tc dg pl vl th 4 ++ dsp ad tc dg pl vl th 5 ++ dsp ad tc dg pl vl th 6 ++ dsp ad tc dg pl vl th 7) ++
  [(ad 38, aL (tc 0) 17 (mx 0)), (ad 39, aL (tc 0) 17 (mx 1)), (ad 40, aL (tc 0) 17 (mx 2)), (ad 41, aL (tc 0) 17 (mx 3)), (ad 42, aL (tc 0) 17 (mx 4)), (ad 43, aL (tc 0) 17 (mx 5)), (ad 44, aL (tc 0) 17 (mx 6)), (ad 45, aL (tc 0) 17 (mx 7)),
   (ad 46, aL (tc 0) 17 (mx 8)), (ad 47, aL (tc 0) 17 (mx 9)), (ad 48, aL (tc 0) 17 (mx 10)), (ad 49, aL (tc 0) 17 (mx 11)), (ad 50, aL (tc 0) 17 (mx 12)), (ad 51, aL (tc 0) 17 (mx 13)), (ad 52, aL (tc 0) 17 (mx 14)), (ad 53, aL (tc 0) 17 (mx 15))]
/-- stores of numbers and flags -/
theorem sd_stL (f : Nat → FP) (k : Nat) (x : FP) : vp_updL (fun j => sd_L (f j)) k (sd_L x) = fun j => sd_L (sd_up f k x j) := by
  funext j
  simp only [vp_updL, sd_up]
  split <;> rfl
theorem sd_stZ (f : Nat → Bool) (k : Nat) (x : Bool) : upd (fun j => bI (f j)) k (vp_nar .boolean (bI x)) = fun j => bI (sd_up f k x j) := by
  funext j
  rw [bI_vp]
  simp only [upd, sd_up]
  split <;> rfl
theorem sd_stI (f : Nat → Int32) (k : Nat) (x : Int32) : upd f k x = sd_up f k x := rfl
section
variable {ad : Nat → Nat} {tc : Nat → ClassId} {dg pl : Nat → Nat} {vl : Nat → Nat → FP} {th : Nat → Nat → Bool} {cu mx : Nat → Nat → FP} {us : Nat → Bool} {so : Nat → FP} {rr : Nat → Int32} {fw : Nat → Bool} {ff : Int32} {s c r : Nat}
theorem dw_desk : (dw ad tc dg pl vl th cu mx us so rr fw ff)[0]? = some (ad 0, .inr (4, [.ref (ad 1), .ref (ad 2), .ref (ad 8), .ref (ad 6), .ref (ad 13), .int ff])) := rfl
theorem dw_splits : (dw ad tc dg pl vl th cu mx us so rr fw ff)[1]? = some (ad 1, aR (tc 3) 8 (fun i => some (ad (14 + 3 * i)))) := rfl
theorem dw_curve (h : c < 3) : (dw ad tc dg pl vl th cu mx us so rr fw ff)[2 + 2 * c]? = some (ad (2 + 2 * c), .inr (0, [.ref (ad (3 + 2 * c))])) := by
  match c, h with
  | 0, _ => rfl
  | 1, _ => rfl
  | 2, _ => rfl
theorem dw_parts (h : c < 3) : (dw ad tc dg pl vl th cu mx us so rr fw ff)[3 + 2 * c]? = some (ad (3 + 2 * c), aL (tc 0) 9 (cu c)) := by
  match c, h with
  | 0, _ => rfl
  | 1, _ => rfl
  | 2, _ => rfl
theorem dw_finder : (dw ad tc dg pl vl th cu mx us so rr fw ff)[8]? = some (ad 8, .inr (1, [.ref (ad 4), .ref (ad 9), .ref (ad 10), .ref (ad 11), .ref (ad 12)])) := rfl
theorem dw_rows : (dw ad tc dg pl vl th cu mx us so rr fw ff)[9]? = some (ad 9, aR (tc 4) 16 (fun i => some (ad (38 + i)))) := rfl
theorem dw_used : (dw ad tc dg pl vl th cu mx us so rr fw ff)[10]? = some (ad 10, aZ (tc 1) 16 us) := rfl
theorem dw_sol : (dw ad tc dg pl vl th cu mx us so rr fw ff)[11]? = some (ad 11, aL (tc 0) 16 so) := rfl
theorem dw_rou : (dw ad tc dg pl vl th cu mx us so rr fw ff)[12]? = some (ad 12, aI (tc 2) 16 rr) := rfl
theorem dw_fw : (dw ad tc dg pl vl th cu mx us so rr fw ff)[13]? = some (ad 13, aZ (tc 1) 17 fw) := rfl
theorem dw_sp (h : s < 8) : (dw ad tc dg pl vl th cu mx us so rr fw ff)[14 + 3 * s]? = some (ad (14 + 3 * s), .inr (3, [.ref (ad (15 + 3 * s)), .ref (ad (16 + 3 * s)), .int (nI (dg s)), .int (nI (pl s))])) := by
  match s, h with
  | 0, _ => rfl
  | 1, _ => rfl
  | 2, _ => rfl
  | 3, _ => rfl
  | 4, _ => rfl
  | 5, _ => rfl
  | 6, _ => rfl
  | 7, _ => rfl
theorem dw_vl (h : s < 8) : (dw ad tc dg pl vl th cu mx us so rr fw ff)[15 + 3 * s]? = some (ad (15 + 3 * s), aL (tc 0) 17 (vl s)) := by
  match s, h with
  | 0, _ => rfl
  | 1, _ => rfl
  | 2, _ => rfl
  | 3, _ => rfl
  | 4, _ => rfl
  | 5, _ => rfl
  | 6, _ => rfl
  | 7, _ => rfl
theorem dw_th (h : s < 8) : (dw ad tc dg pl vl th cu mx us so rr fw ff)[16 + 3 * s]? = some (ad (16 + 3 * s), aZ (tc 1) 17 (th s)) := by
  match s, h with
  | 0, _ => rfl
  | 1, _ => rfl
  | 2, _ => rfl
  | 3, _ => rfl
  | 4, _ => rfl
  | 5, _ => rfl
  | 6, _ => rfl
  | 7, _ => rfl
theorem dw_mx (h : r < 16) : (dw ad tc dg pl vl th cu mx us so rr fw ff)[38 + r]? = some (ad (38 + r), aL (tc 0) 17 (mx r)) := by
  match r, h with
  | 0, _ => rfl
  | 1, _ => rfl
  | 2, _ => rfl
  | 3, _ => rfl
  | 4, _ => rfl
  | 5, _ => rfl
  | 6, _ => rfl
  | 7, _ => rfl
  | 8, _ => rfl
  | 9, _ => rfl
  | 10, _ => rfl
  | 11, _ => rfl
  | 12, _ => rfl
  | 13, _ => rfl
  | 14, _ => rfl
  | 15, _ => rfl
  | n + 16, h => exact absurd h (by omega)
theorem dws_ff (x : Int32) : (dw ad tc dg pl vl th cu mx us so rr fw ff).set 0 (ad 0, .inr (4, [.ref (ad 1), .ref (ad 2), .ref (ad 8), .ref (ad 6), .ref (ad 13), .int x])) = dw ad tc dg pl vl th cu mx us so rr fw x := rfl
theorem dws_used (f : Nat → Bool) : (dw ad tc dg pl vl th cu mx us so rr fw ff).set 10 (ad 10, aZ (tc 1) 16 f) = dw ad tc dg pl vl th cu mx f so rr fw ff := rfl
theorem dws_sol (f : Nat → FP) : (dw ad tc dg pl vl th cu mx us so rr fw ff).set 11 (ad 11, aL (tc 0) 16 f) = dw ad tc dg pl vl th cu mx us f rr fw ff := rfl
theorem dws_rou (f : Nat → Int32) : (dw ad tc dg pl vl th cu mx us so rr fw ff).set 12 (ad 12, aI (tc 2) 16 f) = dw ad tc dg pl vl th cu mx us so f fw ff := rfl
theorem dws_fw (f : Nat → Bool) : (dw ad tc dg pl vl th cu mx us so rr fw ff).set 13 (ad 13, aZ (tc 1) 17 f) = dw ad tc dg pl vl th cu mx us so rr f ff := rfl
theorem dws_parts (h : c < 3) (f : Nat → FP) : (dw ad tc dg pl vl th cu mx us so rr fw ff).set (3 + 2 * c) (ad (3 + 2 * c), aL (tc 0) 9 f) = dw ad tc dg pl vl th (sd_up cu c f) mx us so rr fw ff := by
  match c, h with
  | 0, _ => rfl
  | 1, _ => rfl
  | 2, _ => rfl
theorem dws_dg (h : s < 8) (x : Nat) : (dw ad tc dg pl vl th cu mx us so rr fw ff).set (14 + 3 * s) (ad (14 + 3 * s), .inr (3, [.ref (ad (15 + 3 * s)), .ref (ad (16 + 3 * s)), .int (nI x), .int (nI (pl s))])) = dw ad tc (sd_up dg s x) pl vl th cu mx us so rr fw ff := by
  match s, h with
  | 0, _ => rfl
  | 1, _ => rfl
  | 2, _ => rfl
  | 3, _ => rfl
  | 4, _ => rfl
  | 5, _ => rfl
  | 6, _ => rfl
  | 7, _ => rfl
theorem dws_pl (h : s < 8) (x : Nat) : (dw ad tc dg pl vl th cu mx us so rr fw ff).set (14 + 3 * s) (ad (14 + 3 * s), .inr (3, [.ref (ad (15 + 3 * s)), .ref (ad (16 + 3 * s)), .int (nI (dg s)), .int (nI x)])) = dw ad tc dg (sd_up pl s x) vl th cu mx us so rr fw ff := by
  match s, h with
  | 0, _ => rfl
  | 1, _ => rfl
  | 2, _ => rfl
  | 3, _ => rfl
  | 4, _ => rfl
  | 5, _ => rfl
  | 6, _ => rfl
  | 7, _ => rfl
theorem dws_vl (h : s < 8) (f : Nat → FP) : (dw ad tc dg pl vl th cu mx us so rr fw ff).set (15 + 3 * s) (ad (15 + 3 * s), aL (tc 0) 17 f) = dw ad tc dg pl (sd_up vl s f) th cu mx us so rr fw ff := by
  match s, h with
  | 0, _ => rfl
  | 1, _ => rfl
  | 2, _ => rfl
  | 3, _ => rfl
  | 4, _ => rfl
  | 5, _ => rfl
  | 6, _ => rfl
  | 7, _ => rfl
theorem dws_th (h : s < 8) (f : Nat → Bool) : (dw ad tc dg pl vl th cu mx us so rr fw ff).set (16 + 3 * s) (ad (16 + 3 * s), aZ (tc 1) 17 f) = dw ad tc dg pl vl (sd_up th s f) cu mx us so rr fw ff := by
  match s, h with
  | 0, _ => rfl
  | 1, _ => rfl
  | 2, _ => rfl
  | 3, _ => rfl
  | 4, _ => rfl
  | 5, _ => rfl
  | 6, _ => rfl
  | 7, _ => rfl
theorem dws_mx (h : r < 16) (f : Nat → FP) : (dw ad tc dg pl vl th cu mx us so rr fw ff).set (38 + r) (ad (38 + r), aL (tc 0) 17 f) = dw ad tc dg pl vl th cu (sd_up mx r f) us so rr fw ff := by
  match r, h with
  | 0, _ => rfl
  | 1, _ => rfl
  | 2, _ => rfl
  | 3, _ => rfl
  | 4, _ => rfl
  | 5, _ => rfl
  | 6, _ => rfl
  | 7, _ => rfl
  | 8, _ => rfl
  | 9, _ => rfl
  | 10, _ => rfl
  | 11, _ => rfl
  | 12, _ => rfl
  | 13, _ => rfl
  | 14, _ => rfl
  | 15, _ => rfl
  | n + 16, h => exact absurd h (by omega)
end
end
section
set_option maxHeartbeats 4000000 in
set_option maxRecDepth 100000 in
/-- Math.floorMod of a long and P -/
theorem k_J9_floorMod (l : Launch)  (x : Int64)  : Met l yJ9_floorMod (Cond.code yJ9_floorMod cJ9_floorMod 6 (some .long) :: bg) { frames := 0, cells := 0, slots := 0, locals := 0 } (sd_N0 [.long x, .long 2305843009213693951]) (vp_Sl (fun r => r = sd_L (sd_of x))) 0 0 (fun _ => False) := by
  refine va_MetF (cc := cJ9_floorMod) (maxL := 6) (ret := some .long) (by decide +kernel) rfl ?_
  intro p e s m args below meth c s₁ B hml hv
  obtain ⟨rfl, -⟩ := hv
  have hx := B.exec
  have hb := B.bytes
  have hr := B.returns
  have hts := atoms_spec (ws := Cond.code yJ9_floorMod cJ9_floorMod 6 (some .long) :: bg) B.pre
  have hown : s.vm.findClass RJ9 = some m.cls := findClass_of_methodNamed B.named
  have hlocks := B.notSynchronized
  have hl := lv_entry ([.long x, .long 2305843009213693951]) (n := 6) (Nat.le_of_ble_eq_true rfl)
  rw [lg_entry_eq]
  generalize (lg_sl ([.long x, .long 2305843009213693951]) ++ List.replicate (6 - (lg_sl ([.long x, .long 2305843009213693951])).length) Slot.unset).toArray = ls at hl ⊢
  replace hl : lv_has ls 6 [(0, .long x), (2, .long 2305843009213693951)] := hl
  refine lv_lload_n hx hb dJ9_floorMod_0 rfl (lv_at hl 0 rfl) ?_
  refine lv_lload_n hx hb dJ9_floorMod_1 rfl (lv_at hl 1 rfl) ?_
  refine lv_lrem hx hb dJ9_floorMod_2 (by decide) ?_
  refine lv_lstore (lv' := [(4, .long (x - x / 2305843009213693951 * 2305843009213693951)), (0, .long x), (2, .long 2305843009213693951)]) hx hb dJ9_floorMod_3 hl (by decide) rfl (fun ls hl => ?_)
  refine lv_lload_n hx hb dJ9_floorMod_5 rfl (lv_at hl 1 rfl) ?_
  refine lv_lload_n hx hb dJ9_floorMod_6 rfl (lv_at hl 2 rfl) ?_
  refine lv_lxor hx hb dJ9_floorMod_7 ?_
  refine lv_lconst (v := 0) hx hb dJ9_floorMod_8 (by decide) ?_
  refine W.lcmp hx hb dJ9_floorMod_9 ?_
  refine lv_if_ge (tgt := 25) hx hb dJ9_floorMod_10 (by decide) (fun c1 => ?_) (fun c1 => ?_)
  · have c1 : 0 ≤ (x ^^^ 2305843009213693951) := (lg_cmp_ge _ _).mp c1
    refine lv_lload hx hb dJ9_floorMod_25 (lv_at hl 0 rfl) ?_
    exact W.lret hx hb hr (fun t ht hW => ⟨_, rfl, sd_fm_0 (fun q => absurd c1 (lg_lt_not_le ((sd_xorneg x).mpr q))), ht⟩) (fun q h => nomatch h) dJ9_floorMod_27
  · have c1 : ¬ 0 ≤ (x ^^^ 2305843009213693951) := fun q => c1 ((lg_cmp_ge _ _).mpr q)
    refine lv_lload hx hb dJ9_floorMod_13 (lv_at hl 0 rfl) ?_
    refine lv_lconst (v := 0) hx hb dJ9_floorMod_15 (by decide) ?_
    refine W.lcmp hx hb dJ9_floorMod_16 ?_
    refine lv_if_eq (tgt := 25) hx hb dJ9_floorMod_17 (by decide) (fun c2 => ?_) (fun c2 => ?_)
    · have c2 : (x - x / 2305843009213693951 * 2305843009213693951) = 0 := (lg_cmp_eq _ _).mp c2
      refine lv_lload hx hb dJ9_floorMod_25 (lv_at hl 0 rfl) ?_
      exact W.lret hx hb hr (fun t ht hW => ⟨_, rfl, sd_fm_z c2, ht⟩) (fun q h => nomatch h) dJ9_floorMod_27
    · have c2 : ¬ (x - x / 2305843009213693951 * 2305843009213693951) = 0 := fun q => c2 ((lg_cmp_eq _ _).mpr q)
      refine lv_lload hx hb dJ9_floorMod_20 (lv_at hl 0 rfl) ?_
      refine lv_lload_n hx hb dJ9_floorMod_22 rfl (lv_at hl 2 rfl) ?_
      refine lv_ladd hx hb dJ9_floorMod_23 ?_
      exact W.lret hx hb hr (fun t ht hW => ⟨_, rfl, sd_fm_n ((sd_xorneg x).mp (lg_tri _ _ |>.elim id (fun q => absurd (q.elim (fun z => by rw [z]; exact Int64.le_refl _) (fun z => Int64.le_of_lt z)) c1))) c2, ht⟩) (fun q h => nomatch h) dJ9_floorMod_24

set_option maxHeartbeats 4000000 in
set_option maxRecDepth 100000 in
/-- a long from outside -/
theorem k_X2_of (l : Launch)  (x : Int64)  : Met l yX2_of (Cond.code yX2_of cX2_of 2 (some .long) :: bg) { frames := 1, cells := 0, slots := 0, locals := 25 } (sd_N0 [.long x]) (vp_Sl (fun r => r = sd_L (sd_of x))) 0 0 (fun _ => False) := by
  refine Met.ofW (cc := cX2_of) (maxL := 2) (ret := some .long) (by decide) rfl ?_
  intro p e s m args below meth c s₁ B hml hv
  obtain ⟨rfl, -⟩ := hv
  have hx := B.exec
  have hb := B.bytes
  have hr := B.returns
  have hts := atoms_spec (ws := Cond.code yX2_of cX2_of 2 (some .long) :: bg) B.pre
  have hown : s.vm.findClass RX2 = some m.cls := findClass_of_methodNamed B.named
  have hlocks := B.notSynchronized
  have hl := lv_entry ([.long x]) (n := 2) (Nat.le_of_ble_eq_true rfl)
  rw [lg_entry_eq]
  generalize (lg_sl ([.long x]) ++ List.replicate (2 - (lg_sl ([.long x])).length) Slot.unset).toArray = ls at hl ⊢
  replace hl : lv_has ls 2 [(0, .long x)] := hl
  refine lv_lload_n hx hb dX2_of_0 rfl (lv_at hl 0 rfl) ?_
  refine lv_ldc2 (v := 2305843009213693951) hx hb hown (hts _ (mm wl_X2_11)) dX2_of_1 ?_
  refine sd_rl (va_runS (As := [.long x, .long 2305843009213693951]) (rest := []) ⟨hx, hb, hml, hown, hts⟩ (k_J9_floorMod l x) (sd_cwS hts wd_J9_floorMod wn_J9 wm_X2_13 wi_J9_floorMod nq_J9_floorMod rfl rfl ⟨Nat.le_of_ble_eq_true rfl, Nat.le_of_ble_eq_true rfl⟩) sd_preN rfl rfl hl.1 rfl (lv_room (Nat.le_of_ble_eq_true rfl)) dX2_of_4 ⟨Nat.zero_le _, Nat.zero_le _⟩) (fun r1 hr1 => ?_)
  subst hr1
  exact W.lret hx hb hr (fun t ht hW => ⟨_, rfl, rfl, ht⟩) (fun q h => nomatch h) dX2_of_7

set_option maxHeartbeats 4000000 in
set_option maxRecDepth 100000 in
theorem k_X2_plus (l : Launch)  (a b : FP)  : Met l yX2_plus (Cond.code yX2_plus cX2_plus 6 (some .long) :: bg) { frames := 0, cells := 0, slots := 0, locals := 0 } (sd_N0 [.long (sd_L a), .long (sd_L b)]) (vp_Sl (fun r => r = sd_L (a + b))) 0 0 (fun _ => False) := by
  refine Met.ofW (cc := cX2_plus) (maxL := 6) (ret := some .long) (by decide) rfl ?_
  intro p e s m args below meth c s₁ B hml hv
  obtain ⟨rfl, -⟩ := hv
  have hx := B.exec
  have hb := B.bytes
  have hr := B.returns
  have hts := atoms_spec (ws := Cond.code yX2_plus cX2_plus 6 (some .long) :: bg) B.pre
  have hown : s.vm.findClass RX2 = some m.cls := findClass_of_methodNamed B.named
  have hlocks := B.notSynchronized
  have hl := lv_entry ([.long (sd_L a), .long (sd_L b)]) (n := 6) (Nat.le_of_ble_eq_true rfl)
  rw [lg_entry_eq]
  generalize (lg_sl ([.long (sd_L a), .long (sd_L b)]) ++ List.replicate (6 - (lg_sl ([.long (sd_L a), .long (sd_L b)])).length) Slot.unset).toArray = ls at hl ⊢
  replace hl : lv_has ls 6 [(0, .long (sd_L a)), (2, .long (sd_L b))] := hl
  refine lv_lload_n hx hb dX2_plus_0 rfl (lv_at hl 0 rfl) ?_
  refine lv_lload_n hx hb dX2_plus_1 rfl (lv_at hl 1 rfl) ?_
  refine lv_ladd hx hb dX2_plus_2 ?_
  refine lv_lstore (lv' := [(4, .long ((sd_L a) + (sd_L b))), (0, .long (sd_L a)), (2, .long (sd_L b))]) hx hb dX2_plus_3 hl (by decide) rfl (fun ls hl => ?_)
  refine lv_lload hx hb dX2_plus_5 (lv_at hl 0 rfl) ?_
  refine lv_ldc2 (v := 2305843009213693951) hx hb hown (hts _ (mm wl_X2_11)) dX2_plus_7 ?_
  refine W.lcmp hx hb dX2_plus_10 ?_
  refine lv_if_lt (tgt := 23) hx hb dX2_plus_11 (by decide) (fun c1 => ?_) (fun c1 => ?_)
  · have c1 : ((sd_L a) + (sd_L b)) < 2305843009213693951 := (lg_cmp_lt _ _).mp c1
    refine lv_lload hx hb dX2_plus_23 (lv_at hl 0 rfl) ?_
    exact W.lret hx hb hr (fun t ht hW => ⟨_, rfl, sd_plus_lt (lg_lt_not_le c1), ht⟩) (fun q h => nomatch h) dX2_plus_25
  · have c1 : ¬ ((sd_L a) + (sd_L b)) < 2305843009213693951 := fun q => c1 ((lg_cmp_lt _ _).mpr q)
    refine lv_lload hx hb dX2_plus_14 (lv_at hl 0 rfl) ?_
    refine lv_ldc2 (v := 2305843009213693951) hx hb hown (hts _ (mm wl_X2_11)) dX2_plus_16 ?_
    refine lv_lsub hx hb dX2_plus_19 ?_
    refine lv_goto (tgt := 25) hx hb dX2_plus_20 (by decide) ?_
    exact W.lret hx hb hr (fun t ht hW => ⟨_, rfl, sd_plus_ge ((lg_tri _ _).elim (fun q => absurd q c1) (fun q => q.elim (fun z => by rw [z]; exact Int64.le_refl _) (fun z => Int64.le_of_lt z))), ht⟩) (fun q h => nomatch h) dX2_plus_25

set_option maxHeartbeats 4000000 in
set_option maxRecDepth 100000 in
theorem k_X2_minus (l : Launch)  (a b : FP)  : Met l yX2_minus (Cond.code yX2_minus cX2_minus 4 (some .long) :: bg) { frames := 0, cells := 0, slots := 0, locals := 0 } (sd_N0 [.long (sd_L a), .long (sd_L b)]) (vp_Sl (fun r => r = sd_L (a - b))) 0 0 (fun _ => False) := by
  refine Met.ofW (cc := cX2_minus) (maxL := 4) (ret := some .long) (by decide) rfl ?_
  intro p e s m args below meth c s₁ B hml hv
  obtain ⟨rfl, -⟩ := hv
  have hx := B.exec
  have hb := B.bytes
  have hr := B.returns
  have hts := atoms_spec (ws := Cond.code yX2_minus cX2_minus 4 (some .long) :: bg) B.pre
  have hown : s.vm.findClass RX2 = some m.cls := findClass_of_methodNamed B.named
  have hlocks := B.notSynchronized
  have hl := lv_entry ([.long (sd_L a), .long (sd_L b)]) (n := 4) (Nat.le_of_ble_eq_true rfl)
  rw [lg_entry_eq]
  generalize (lg_sl ([.long (sd_L a), .long (sd_L b)]) ++ List.replicate (4 - (lg_sl ([.long (sd_L a), .long (sd_L b)])).length) Slot.unset).toArray = ls at hl ⊢
  replace hl : lv_has ls 4 [(0, .long (sd_L a)), (2, .long (sd_L b))] := hl
  refine lv_lload_n hx hb dX2_minus_0 rfl (lv_at hl 0 rfl) ?_
  refine lv_lload_n hx hb dX2_minus_1 rfl (lv_at hl 1 rfl) ?_
  refine W.lcmp hx hb dX2_minus_2 ?_
  refine lv_if_lt (tgt := 12) hx hb dX2_minus_3 (by decide) (fun c1 => ?_) (fun c1 => ?_)
  · have c1 : (sd_L a) < (sd_L b) := (lg_cmp_lt _ _).mp c1
    refine lv_lload_n hx hb dX2_minus_12 rfl (lv_at hl 0 rfl) ?_
    refine lv_lload_n hx hb dX2_minus_13 rfl (lv_at hl 1 rfl) ?_
    refine lv_lsub hx hb dX2_minus_14 ?_
    refine lv_ldc2 (v := 2305843009213693951) hx hb hown (hts _ (mm wl_X2_11)) dX2_minus_15 ?_
    refine lv_ladd hx hb dX2_minus_18 ?_
    exact W.lret hx hb hr (fun t ht hW => ⟨_, rfl, sd_minus_lt (lg_lt_not_le c1), ht⟩) (fun q h => nomatch h) dX2_minus_19
  · have c1 : ¬ (sd_L a) < (sd_L b) := fun q => c1 ((lg_cmp_lt _ _).mpr q)
    refine lv_lload_n hx hb dX2_minus_6 rfl (lv_at hl 0 rfl) ?_
    refine lv_lload_n hx hb dX2_minus_7 rfl (lv_at hl 1 rfl) ?_
    refine lv_lsub hx hb dX2_minus_8 ?_
    refine lv_goto (tgt := 19) hx hb dX2_minus_9 (by decide) ?_
    exact W.lret hx hb hr (fun t ht hW => ⟨_, rfl, sd_minus_ge ((lg_tri _ _).elim (fun q => absurd q c1) (fun q => q.elim (fun z => by rw [z]; exact Int64.le_refl _) (fun z => Int64.le_of_lt z))), ht⟩) (fun q h => nomatch h) dX2_minus_19

set_option maxHeartbeats 4000000 in
set_option maxRecDepth 100000 in
theorem k_X2_times (l : Launch)  (a b : FP)  : Met l yX2_times (Cond.code yX2_times cX2_times 16 (some .long) :: bg) { frames := 0, cells := 0, slots := 0, locals := 0 } (sd_N0 [.long (sd_L a), .long (sd_L b)]) (vp_Sl (fun r => r = sd_L (a * b))) 0 0 (fun _ => False) := by
  refine Met.ofW (cc := cX2_times) (maxL := 16) (ret := some .long) (by decide) rfl ?_
  intro p e s m args below meth c s₁ B hml hv
  obtain ⟨rfl, -⟩ := hv
  have hx := B.exec
  have hb := B.bytes
  have hr := B.returns
  have hts := atoms_spec (ws := Cond.code yX2_times cX2_times 16 (some .long) :: bg) B.pre
  have hown : s.vm.findClass RX2 = some m.cls := findClass_of_methodNamed B.named
  have hlocks := B.notSynchronized
  have hl := lv_entry ([.long (sd_L a), .long (sd_L b)]) (n := 16) (Nat.le_of_ble_eq_true rfl)
  rw [lg_entry_eq]
  generalize (lg_sl ([.long (sd_L a), .long (sd_L b)]) ++ List.replicate (16 - (lg_sl ([.long (sd_L a), .long (sd_L b)])).length) Slot.unset).toArray = ls at hl ⊢
  replace hl : lv_has ls 16 [(0, .long (sd_L a)), (2, .long (sd_L b))] := hl
  replace hl : lv_has ls 16 [(0, .long (lN a.val)), (2, .long (lN b.val))] := hl
  have ha := a.isLt
  have hb2 := b.isLt
  have hT9 := sd_times_nat ha hb2
  refine lv_lload_n hx hb dX2_times_0 rfl (lv_at hl 0 rfl) ?_
  refine lv_bipush (v := nI 31) hx hb dX2_times_1 (by decide) ?_
  refine sd_lushr hx hb (by omega) (by decide) (v := a.val / 2147483648) rfl dX2_times_3 ?_
  refine lv_lstore (lv' := [(4, .long (lN (a.val / 2147483648))), (0, .long (lN a.val)), (2, .long (lN b.val))]) hx hb dX2_times_4 hl (by decide) rfl (fun ls hl => ?_)
  refine lv_lload_n hx hb dX2_times_6 rfl (lv_at hl 1 rfl) ?_
  refine lv_ldc2 (v := lN 2147483647) hx hb hown (hts _ (mm wl_X2_19)) dX2_times_7 ?_
  refine sd_land hx hb (k := 31) (by omega) (by decide) (by decide) (v := a.val % 2147483648) rfl dX2_times_10 ?_
  refine lv_lstore (lv' := [(6, .long (lN (a.val % 2147483648))), (4, .long (lN (a.val / 2147483648))), (0, .long (lN a.val)), (2, .long (lN b.val))]) hx hb dX2_times_11 hl (by decide) rfl (fun ls hl => ?_)
  refine lv_lload_n hx hb dX2_times_13 rfl (lv_at hl 3 rfl) ?_
  refine lv_bipush (v := nI 31) hx hb dX2_times_14 (by decide) ?_
  refine sd_lushr hx hb (by omega) (by decide) (v := b.val / 2147483648) rfl dX2_times_16 ?_
  refine lv_lstore (lv' := [(8, .long (lN (b.val / 2147483648))), (6, .long (lN (a.val % 2147483648))), (4, .long (lN (a.val / 2147483648))), (0, .long (lN a.val)), (2, .long (lN b.val))]) hx hb dX2_times_17 hl (by decide) rfl (fun ls hl => ?_)
  refine lv_lload_n hx hb dX2_times_19 rfl (lv_at hl 4 rfl) ?_
  refine lv_ldc2 (v := lN 2147483647) hx hb hown (hts _ (mm wl_X2_19)) dX2_times_20 ?_
  refine sd_land hx hb (k := 31) (by omega) (by decide) (by decide) (v := b.val % 2147483648) rfl dX2_times_23 ?_
  refine lv_lstore (lv' := [(10, .long (lN (b.val % 2147483648))), (8, .long (lN (b.val / 2147483648))), (6, .long (lN (a.val % 2147483648))), (4, .long (lN (a.val / 2147483648))), (0, .long (lN a.val)), (2, .long (lN b.val))]) hx hb dX2_times_24 hl (by decide) rfl (fun ls hl => ?_)
  refine lv_lload hx hb dX2_times_26 (lv_at hl 3 rfl) ?_
  refine lv_lload hx hb dX2_times_28 (lv_at hl 0 rfl) ?_
  refine sd_lmul hx hb dX2_times_30 ?_
  refine lv_lload hx hb dX2_times_31 (lv_at hl 2 rfl) ?_
  refine lv_lload hx hb dX2_times_33 (lv_at hl 1 rfl) ?_
  refine sd_lmul hx hb dX2_times_35 ?_
  refine sd_ladd hx hb dX2_times_36 ?_
  refine lv_lstore (lv' := [(12, .long (lN (((a.val / 2147483648) * (b.val % 2147483648)) + ((a.val % 2147483648) * (b.val / 2147483648))))), (10, .long (lN (b.val % 2147483648))), (8, .long (lN (b.val / 2147483648))), (6, .long (lN (a.val % 2147483648))), (4, .long (lN (a.val / 2147483648))), (0, .long (lN a.val)), (2, .long (lN b.val))]) hx hb dX2_times_37 hl (by decide) rfl (fun ls hl => ?_)
  refine lv_lload hx hb dX2_times_39 (lv_at hl 0 rfl) ?_
  refine lv_bipush (v := nI 30) hx hb dX2_times_41 (by decide) ?_
  refine sd_lushr hx hb (by omega) (by decide) (v := (((a.val / 2147483648) * (b.val % 2147483648)) + ((a.val % 2147483648) * (b.val / 2147483648))) / 1073741824) rfl dX2_times_43 ?_
  refine lv_lload hx hb dX2_times_44 (lv_at hl 0 rfl) ?_
  refine lv_ldc2 (v := lN 1073741823) hx hb hown (hts _ (mm wl_X2_21)) dX2_times_46 ?_
  refine sd_land hx hb (k := 30) (by omega) (by decide) (by decide) (v := (((a.val / 2147483648) * (b.val % 2147483648)) + ((a.val % 2147483648) * (b.val / 2147483648))) % 1073741824) rfl dX2_times_49 ?_
  refine lv_bipush (v := nI 31) hx hb dX2_times_50 (by decide) ?_
  refine sd_lshl hx hb (by decide) (v := ((((a.val / 2147483648) * (b.val % 2147483648)) + ((a.val % 2147483648) * (b.val / 2147483648))) % 1073741824) * 2147483648) rfl dX2_times_52 ?_
  refine sd_ladd hx hb dX2_times_53 ?_
  refine lv_lstore (lv' := [(14, .long (lN (((((a.val / 2147483648) * (b.val % 2147483648)) + ((a.val % 2147483648) * (b.val / 2147483648))) / 1073741824) + (((((a.val / 2147483648) * (b.val % 2147483648)) + ((a.val % 2147483648) * (b.val / 2147483648))) % 1073741824) * 2147483648)))), (12, .long (lN (((a.val / 2147483648) * (b.val % 2147483648)) + ((a.val % 2147483648) * (b.val / 2147483648))))), (10, .long (lN (b.val % 2147483648))), (8, .long (lN (b.val / 2147483648))), (6, .long (lN (a.val % 2147483648))), (4, .long (lN (a.val / 2147483648))), (0, .long (lN a.val)), (2, .long (lN b.val))]) hx hb dX2_times_54 hl (by decide) rfl (fun ls hl => ?_)
  refine lv_ldc2 (v := lN 2) hx hb hown (hts _ (mm wl_X2_23)) dX2_times_56 ?_
  refine lv_lload hx hb dX2_times_59 (lv_at hl 5 rfl) ?_
  refine sd_lmul hx hb dX2_times_61 ?_
  refine lv_lload hx hb dX2_times_62 (lv_at hl 3 rfl) ?_
  refine sd_lmul hx hb dX2_times_64 ?_
  refine lv_lload hx hb dX2_times_65 (lv_at hl 0 rfl) ?_
  refine sd_ladd hx hb dX2_times_67 ?_
  refine lv_lload hx hb dX2_times_68 (lv_at hl 4 rfl) ?_
  refine lv_lload hx hb dX2_times_70 (lv_at hl 2 rfl) ?_
  refine sd_lmul hx hb dX2_times_72 ?_
  refine sd_ladd hx hb dX2_times_73 ?_
  refine lv_ldc2 (v := lN 2305843009213693951) hx hb hown (hts _ (mm wl_X2_11)) dX2_times_74 ?_
  refine sd_lrem hx hb (by omega) (by omega) (by omega) dX2_times_77 ?_
  exact W.lret hx hb hr (fun t ht hW => ⟨_, rfl, (congrArg lN hT9.1).trans (by unfold sd_L; rw [sd_mul_val]), ht⟩) (fun q h => nomatch h) dX2_times_78

theorem sd_inv_end {a : FP} {i r : Nat} {x y : Int} (h : sd_EI a.val i r 0 x y) : a * sd_of (Int64.ofInt x) = 1 := by
  obtain ⟨⟨k, hk⟩, h1, h2⟩ := sd_EI_end h
  apply Fin.ext
  rw [Fin.val_mul]
  show a.val * ((Int64.ofInt x).toInt % 2305843009213693951).toNat % 2305843009213693951 = 1
  rw [Int64.toInt_ofInt_of_le (by omega) (by omega)]
  have hn := Int.emod_nonneg x (show (2305843009213693951 : Int) ≠ 0 by decide)
  have hd := Int.mul_ediv_add_emod x 2305843009213693951
  have ht : (((x % 2305843009213693951).toNat : Nat) : Int) = x % 2305843009213693951 := Int.toNat_of_nonneg hn
  have e : ((a.val * (x % 2305843009213693951).toNat : Nat) : Int) = 1 + 2305843009213693951 * (k - (a.val : Int) * (x / 2305843009213693951)) := by
    rw [Int.natCast_mul, ht]
    generalize (x % 2305843009213693951) = w at hd ⊢
    generalize (x / 2305843009213693951) = q at hd ⊢
    generalize (a.val : Int) = b at hk ⊢
    grind
  have e2 : ((a.val * (x % 2305843009213693951).toNat : Nat) : Int) % 2305843009213693951 = 1 := by
    rw [e, Int.add_mul_emod_self_left]
    decide
  omega

set_option maxHeartbeats 4000000 in
set_option maxRecDepth 100000 in
theorem k_X2_inverse (l : Launch)  (a : FP) (ha : a ≠ 0) : Met l yX2_inverse (Cond.code yX2_inverse cX2_inverse 17 (some .long) :: bg) { frames := 2, cells := 0, slots := 0, locals := 46 } (sd_N0 [.long (sd_L a)]) (vp_Sl (fun r => ∃ b : FP, r = sd_L b ∧ a * b = 1)) 0 0 (fun _ => False) := by
  refine Met.ofW (cc := cX2_inverse) (maxL := 17) (ret := some .long) (by decide) rfl ?_
  intro p e s m args below meth c s₁ B hml hv
  obtain ⟨rfl, -⟩ := hv
  have hx := B.exec
  have hb := B.bytes
  have hr := B.returns
  have hts := atoms_spec (ws := Cond.code yX2_inverse cX2_inverse 17 (some .long) :: bg) B.pre
  have hown : s.vm.findClass RX2 = some m.cls := findClass_of_methodNamed B.named
  have hlocks := B.notSynchronized
  have hl := lv_entry ([.long (sd_L a)]) (n := 17) (Nat.le_of_ble_eq_true rfl)
  rw [lg_entry_eq]
  generalize (lg_sl ([.long (sd_L a)]) ++ List.replicate (17 - (lg_sl ([.long (sd_L a)])).length) Slot.unset).toArray = ls at hl ⊢
  replace hl : lv_has ls 17 [(0, .long (sd_L a))] := hl
  have ha0 : 0 < a.val := by
    rcases Nat.eq_zero_or_pos a.val with e0 | e0
    · exact absurd (Fin.ext e0) ha
    · exact e0
  refine lv_ldc2 (v := lN 2305843009213693951) hx hb hown (hts _ (mm wl_X2_11)) dX2_inverse_0 ?_
  refine lv_lstore_n (lv' := [(2, .long (lN 2305843009213693951)), (0, .long (sd_L a))]) hx hb dX2_inverse_3 rfl hl (by decide) rfl (fun ls hl => ?_)
  refine lv_lconst (v := 0) hx hb dX2_inverse_4 (by decide) ?_
  refine lv_lstore (lv' := [(4, .long 0), (2, .long (lN 2305843009213693951)), (0, .long (sd_L a))]) hx hb dX2_inverse_5 hl (by decide) rfl (fun ls hl => ?_)
  refine lv_lload_n hx hb dX2_inverse_7 rfl (lv_at hl 2 rfl) ?_
  refine lv_lstore (lv' := [(6, .long (sd_L a)), (4, .long 0), (2, .long (lN 2305843009213693951)), (0, .long (sd_L a))]) hx hb dX2_inverse_8 hl (by decide) rfl (fun ls hl => ?_)
  refine lv_lconst (v := 1) hx hb dX2_inverse_10 (by decide) ?_
  refine lv_lstore (lv' := [(8, .long 1), (6, .long (sd_L a)), (4, .long 0), (2, .long (lN 2305843009213693951)), (0, .long (sd_L a))]) hx hb dX2_inverse_11 hl (by decide) rfl (fun ls hl => ?_)
  refine lv_iconst (v := nI 0) hx hb dX2_inverse_13 (by decide) ?_
  refine lv_istore (lv' := [(10, .int (nI 0)), (8, .long 1), (6, .long (sd_L a)), (4, .long 0), (2, .long (lN 2305843009213693951)), (0, .long (sd_L a))]) hx hb dX2_inverse_14 hl (by decide) rfl (fun ls hl => ?_)
  obtain ⟨i, r, n, x, y, hI, hi, hl9⟩ : ∃ (i : Nat) (r : Nat) (n : Nat) (x : Int) (y : Int), (sd_EI a.val i r n x y) ∧ (i ≤ 100) ∧ lv_has ls 17 [(10, .int (nI i)), (8, .long (Int64.ofInt y)), (6, .long (lN n)), (4, .long (Int64.ofInt x)), (2, .long (lN r))] := ⟨0, 2305843009213693951, a.val, 0, 1, sd_EI_0 ha0 a.isLt, by decide, (lv_sub hl [0, 1, 2, 3, 4] rfl)⟩
  replace hl := hl9
  clear hl9
  obtain ⟨k9, hk9⟩ : ∃ k9 : Nat, 100 < i + k9 := ⟨101, by omega⟩
  induction k9 generalizing i r n x y ls with
  | zero => exact absurd hk9 (by omega)
  | succ k9 ih =>
    refine lv_iload hx hb dX2_inverse_16 (lv_at hl 0 rfl) ?_
    refine lv_bipush (v := nI 100) hx hb dX2_inverse_18 (by decide) ?_
    refine sd_icmp_ge (tgt := 76) hx hb (by omega) (by omega) dX2_inverse_20 (by decide) (fun c1 => ?_) (fun c1 => ?_)
    · have ei : i = 100 := by omega
      subst ei
      have en := sd_EI_lim hI
      subst en
      refine lv_lload hx hb dX2_inverse_76 (lv_at hl 3 rfl) ?_
      refine sd_rl (va_runS (As := [.long (Int64.ofInt x)]) (rest := []) ⟨hx, hb, hml, hown, hts⟩ (k_X2_of l (Int64.ofInt x)) (sd_cwS hts wd_X2_of wn_X2 wm_X2_25 wi_X2_of nq_X2_of rfl rfl ⟨Nat.le_of_ble_eq_true rfl, Nat.le_of_ble_eq_true rfl⟩) sd_preN rfl rfl hl.1 rfl (lv_room (Nat.le_of_ble_eq_true rfl)) dX2_inverse_78 ⟨Nat.zero_le _, Nat.zero_le _⟩) (fun r1 hr1 => ?_)
      subst hr1
      exact W.lret hx hb hr (fun t ht hW => ⟨_, rfl, ⟨_, rfl, sd_inv_end hI⟩, ht⟩) (fun q h => nomatch h) dX2_inverse_81
    · refine lv_lload hx hb dX2_inverse_23 (lv_at hl 2 rfl) ?_
      refine lv_lconst (v := 0) hx hb dX2_inverse_25 (by decide) ?_
      refine W.lcmp hx hb dX2_inverse_26 ?_
      refine lv_if_eq (tgt := 76) hx hb dX2_inverse_27 (by decide) (fun c2 => ?_) (fun c2 => ?_)
      · have c2 : (lN n) = 0 := (lg_cmp_eq _ _).mp c2
        have hI2 := hI.1
        have hI3 := hI.2.1
        have en : n = 0 := (pk_lEQ (a := n) (b := 0) (by omega) (by decide)).mp c2
        subst en
        refine lv_lload hx hb dX2_inverse_76 (lv_at hl 3 rfl) ?_
        refine sd_rl (va_runS (As := [.long (Int64.ofInt x)]) (rest := []) ⟨hx, hb, hml, hown, hts⟩ (k_X2_of l (Int64.ofInt x)) (sd_cwS hts wd_X2_of wn_X2 wm_X2_25 wi_X2_of nq_X2_of rfl rfl ⟨Nat.le_of_ble_eq_true rfl, Nat.le_of_ble_eq_true rfl⟩) sd_preN rfl rfl hl.1 rfl (lv_room (Nat.le_of_ble_eq_true rfl)) dX2_inverse_78 ⟨Nat.zero_le _, Nat.zero_le _⟩) (fun r2 hr2 => ?_)
        subst hr2
        exact W.lret hx hb hr (fun t ht hW => ⟨_, rfl, ⟨_, rfl, sd_inv_end hI⟩, ht⟩) (fun q h => nomatch h) dX2_inverse_81
      · have c2 : ¬ (lN n) = 0 := fun q => c2 ((lg_cmp_eq _ _).mpr q)
        have hI2 := hI.1
        have hI3 := hI.2.1
        have en : n ≠ 0 := fun q => c2 (by rw [q]; rfl)
        have hq1 : r / n * n ≤ r := Nat.div_mul_le_self r n
        have hq2 : r - r / n * n = r % n := by have := Nat.div_add_mod r n; rw [Nat.mul_comm] at this; omega
        refine lv_lload_n hx hb dX2_inverse_30 rfl (lv_at hl 4 rfl) ?_
        refine lv_lload hx hb dX2_inverse_31 (lv_at hl 2 rfl) ?_
        refine sd_ldiv hx hb (by omega) (by omega) (by omega) dX2_inverse_33 ?_
        refine lv_lstore (lv' := [(11, .long (lN (r / n))), (10, .int (nI i)), (8, .long (Int64.ofInt y)), (6, .long (lN n)), (4, .long (Int64.ofInt x)), (2, .long (lN r))]) hx hb dX2_inverse_34 hl (by decide) rfl (fun ls hl => ?_)
        refine lv_lload_n hx hb dX2_inverse_36 rfl (lv_at hl 5 rfl) ?_
        refine lv_lload hx hb dX2_inverse_37 (lv_at hl 0 rfl) ?_
        refine lv_lload hx hb dX2_inverse_39 (lv_at hl 3 rfl) ?_
        refine sd_lmul hx hb dX2_inverse_41 ?_
        refine sd_lsub hx hb (by omega) dX2_inverse_42 ?_
        refine sd_tol (y := lN (r % n)) (congrArg lN hq2) ?_
        refine lv_lstore (lv' := [(13, .long (lN (r % n))), (11, .long (lN (r / n))), (10, .int (nI i)), (8, .long (Int64.ofInt y)), (6, .long (lN n)), (4, .long (Int64.ofInt x)), (2, .long (lN r))]) hx hb dX2_inverse_43 hl (by decide) rfl (fun ls hl => ?_)
        refine lv_lload hx hb dX2_inverse_45 (lv_at hl 5 rfl) ?_
        refine lv_lload hx hb dX2_inverse_47 (lv_at hl 1 rfl) ?_
        refine lv_lload hx hb dX2_inverse_49 (lv_at hl 3 rfl) ?_
        refine lv_lmul hx hb dX2_inverse_51 ?_
        refine lv_lsub hx hb dX2_inverse_52 ?_
        refine sd_tol (y := Int64.ofInt (x - ((r / n : Nat) : Int) * y)) (by rw [← sd_ofInt_lN, ← Int64.ofInt_mul, ← Int64.ofInt_sub]) ?_
        refine lv_lstore (lv' := [(15, .long (Int64.ofInt (x - ((r / n : Nat) : Int) * y))), (13, .long (lN (r % n))), (11, .long (lN (r / n))), (10, .int (nI i)), (8, .long (Int64.ofInt y)), (6, .long (lN n)), (4, .long (Int64.ofInt x)), (2, .long (lN r))]) hx hb dX2_inverse_53 hl (by decide) rfl (fun ls hl => ?_)
        refine lv_lload hx hb dX2_inverse_55 (lv_at hl 5 rfl) ?_
        refine lv_lstore_n (lv' := [(2, .long (lN n)), (15, .long (Int64.ofInt (x - ((r / n : Nat) : Int) * y))), (13, .long (lN (r % n))), (11, .long (lN (r / n))), (10, .int (nI i)), (8, .long (Int64.ofInt y)), (6, .long (lN n)), (4, .long (Int64.ofInt x))]) hx hb dX2_inverse_57 rfl hl (by decide) rfl (fun ls hl => ?_)
        refine lv_lload hx hb dX2_inverse_58 (lv_at hl 5 rfl) ?_
        refine lv_lstore (lv' := [(4, .long (Int64.ofInt y)), (2, .long (lN n)), (15, .long (Int64.ofInt (x - ((r / n : Nat) : Int) * y))), (13, .long (lN (r % n))), (11, .long (lN (r / n))), (10, .int (nI i)), (8, .long (Int64.ofInt y)), (6, .long (lN n))]) hx hb dX2_inverse_60 hl (by decide) rfl (fun ls hl => ?_)
        refine lv_lload hx hb dX2_inverse_62 (lv_at hl 3 rfl) ?_
        refine lv_lstore (lv' := [(6, .long (lN (r % n))), (4, .long (Int64.ofInt y)), (2, .long (lN n)), (15, .long (Int64.ofInt (x - ((r / n : Nat) : Int) * y))), (13, .long (lN (r % n))), (11, .long (lN (r / n))), (10, .int (nI i)), (8, .long (Int64.ofInt y))]) hx hb dX2_inverse_64 hl (by decide) rfl (fun ls hl => ?_)
        refine lv_lload hx hb dX2_inverse_66 (lv_at hl 3 rfl) ?_
        refine lv_lstore (lv' := [(8, .long (Int64.ofInt (x - ((r / n : Nat) : Int) * y))), (6, .long (lN (r % n))), (4, .long (Int64.ofInt y)), (2, .long (lN n)), (15, .long (Int64.ofInt (x - ((r / n : Nat) : Int) * y))), (13, .long (lN (r % n))), (11, .long (lN (r / n))), (10, .int (nI i))]) hx hb dX2_inverse_68 hl (by decide) rfl (fun ls hl => ?_)
        refine lv_iinc (v := nI (i + 1)) (lv' := [(10, .int (nI (i + 1))), (8, .long (Int64.ofInt (x - ((r / n : Nat) : Int) * y))), (6, .long (lN (r % n))), (4, .long (Int64.ofInt y)), (2, .long (lN n)), (15, .long (Int64.ofInt (x - ((r / n : Nat) : Int) * y))), (13, .long (lN (r % n))), (11, .long (lN (r / n)))]) hx hb dX2_inverse_70 hl (k := 7) rfl (nI_1 _) (by decide) rfl (fun ls hl => ?_)
        refine lv_goto (tgt := 16) hx hb dX2_inverse_73 (by decide) ?_
        exact ih (i := i + 1) (r := n) (n := r % n) (x := y) (y := x - ((r / n : Nat) : Int) * y) (hI := sd_EI_s hI en) (hi := by omega) (ls := ls) (hl := (lv_sub hl [0, 1, 2, 3, 4] rfl)) (hk9 := by omega)
end
section
/-! pure words for curves and splits -/
theorem sd_up2 {α : Type} (f : Nat → Nat → α) (q k : Nat) (x : α) (i j : Nat) : sd_up f q (sd_up (f q) k x) i j = if i = q ∧ j = k then x else f i j := by
  by_cases h : i = q
  · subst h
    by_cases h2 : j = k
    · subst h2
      rw [sd_up_s, sd_up_s, if_pos ⟨rfl, rfl⟩]
    · rw [sd_up_s, sd_up_n _ _ h2, if_neg (fun z => h2 z.2)]
  · rw [sd_up_n _ _ h, if_neg (fun z => h z.1)]
/-- the generator's states, and what a state tells -/
def sd_gs (seed : Int64) : Nat → Int64
  | 0 => seed
  | k + 1 => sd_gs seed k * 6364136223846793005 + 1442695040888963407
def sd_nx (x : Int64) : FP := Fin.ofNat 2305843009213693951 (x.toBitVec.toNat / 8)
theorem sd_ush3 (x : Int64) : (x.toUInt64 >>> ((nI 3).toInt64.toUInt64 &&& Int64.toUInt64 63)).toInt64 = lN (x.toBitVec.toNat / 8) := by
  obtain ⟨n, hn, rfl⟩ := wb_of x
  rw [wb_shr hn (by decide), wb_tn hn]
theorem sd_nx_L (x : Int64) : lN (x.toBitVec.toNat / 8 % 2305843009213693951) = sd_L (sd_nx x) := rfl
theorem sd_m1 : nI 0 + (-1) = -1 := by decide
def sd_hp (n : Nat) (x : Int32) : Bool := decide (1 ≤ x.toInt ∧ x.toInt ≤ (n : Int))
theorem sd_hp_lt {x : Int32} (n : Nat) (h : x < nI 1) : sd_hp n x = false := by
  rw [Int32.lt_iff_toInt_lt, nI_toInt (by decide)] at h
  exact decide_eq_false (by omega)
theorem sd_hp_gt {x : Int32} {n : Nat} (hn : n < 2 ^ 31) (h : nI n < x) : sd_hp n x = false := by
  rw [Int32.lt_iff_toInt_lt, nI_toInt hn] at h
  exact decide_eq_false (by omega)
theorem sd_hp_in {x : Int32} {n : Nat} (hn : n < 2 ^ 31) (h1 : ¬ x < nI 1) (h2 : ¬ nI n < x) : sd_hp n x = true := by
  rw [Int32.lt_iff_toInt_lt, nI_toInt (by decide)] at h1
  rw [Int32.lt_iff_toInt_lt, nI_toInt hn] at h2
  exact decide_eq_true (by omega)
theorem sd_hp_of {x : Int32} {n : Nat} (hn : n < 2 ^ 31) (h : sd_hp n x = true) : ∃ j : Nat, 1 ≤ j ∧ j ≤ n ∧ x = nI j := by
  have h := of_decide_eq_true h
  refine ⟨x.toInt.toNat, by omega, by omega, ?_⟩
  apply Int32.toInt_inj.mp
  rw [nI_toInt (by omega)]
  omega
theorem sd_hp_nI {n k : Nat} (hk : k < 2 ^ 31) : sd_hp n (nI k) = decide (1 ≤ k ∧ k ≤ n) := by
  unfold sd_hp
  rw [nI_toInt hk]
  exact decide_eq_decide.mpr (by omega)
/-- a share is there -/
def sd_hs (n : Nat) (t : Nat → Bool) (x : Int32) : Bool := sd_hp n x && t x.toInt.toNat
theorem sd_hs_nI {n k : Nat} (t : Nat → Bool) (hk : k < 2 ^ 31) (h1 : 1 ≤ k) (h2 : k ≤ n) : sd_hs n t (nI k) = t k := by
  unfold sd_hs
  rw [sd_hp_nI hk, decide_eq_true ⟨h1, h2⟩, nI_toInt hk, Bool.true_and]
  rfl
theorem sd_hs_f {n : Nat} (t : Nat → Bool) {x : Int32} (h : sd_hp n x = false) : sd_hs n t x = false := by
  unfold sd_hs
  rw [h, Bool.false_and]
theorem sd_hs_of {n : Nat} {t : Nat → Bool} {x : Int32} (hn : n < 2 ^ 31) (h : sd_hs n t x = true) : ∃ j : Nat, 1 ≤ j ∧ j ≤ n ∧ t j = true ∧ x = nI j := by
  unfold sd_hs at h
  rw [Bool.and_eq_true] at h
  obtain ⟨j, h1, h2, rfl⟩ := sd_hp_of hn h.1
  refine ⟨j, h1, h2, ?_, rfl⟩
  have := h.2
  rw [nI_toInt (by omega)] at this
  exact this

set_option maxHeartbeats 4000000 in
set_option maxRecDepth 100000 in
theorem k_X0_valueAt (l : Launch) (D : va_G) {ad : Nat → Nat} {tc : Nat → ClassId} {dg pl : Nat → Nat} {vl : Nat → Nat → FP} {th : Nat → Nat → Bool} {cu mx : Nat → Nat → FP} {us : Nat → Bool} {so : Nat → FP} {rr : Nat → Int32} {fw : Nat → Bool} {ff : Int32} (cv : Nat) (x : FP) (hcv : cv < 3) : Met l yX0_valueAt (Cond.code yX0_valueAt cX0_valueAt 6 (some .long) :: bg) { frames := 1, cells := 0, slots := 0, locals := 35 } (sd_R D vwCl (ty5 tc) (dw ad tc dg pl vl th cu mx us so rr fw ff) [.ref (ad (2 + 2 * cv)), .long (sd_L x)]) (vp_Sl (fun r => r = sd_L (sd_ev (cu cv) x))) 0 0 (fun _ => False) := by
  refine Met.ofW (cc := cX0_valueAt) (maxL := 6) (ret := some .long) (by decide) rfl ?_
  intro p e s m args below meth c s₁ B hml hv
  obtain ⟨rfl, hP, hK⟩ := hv
  have hx := B.exec
  have hb := B.bytes
  have hr := B.returns
  have hts := atoms_spec (ws := Cond.code yX0_valueAt cX0_valueAt 6 (some .long) :: bg) B.pre
  have hown : s.vm.findClass RX0 = some m.cls := findClass_of_methodNamed B.named
  have hlocks := B.notSynchronized
  have hl := lv_entry ([.ref (ad (2 + 2 * cv)), .long (sd_L x)]) (n := 6) (Nat.le_of_ble_eq_true rfl)
  rw [lg_entry_eq]
  generalize (lg_sl ([.ref (ad (2 + 2 * cv)), .long (sd_L x)]) ++ List.replicate (6 - (lg_sl ([.ref (ad (2 + 2 * cv)), .long (sd_L x)])).length) Slot.unset).toArray = ls at hl ⊢
  replace hl : lv_has ls 6 [(0, .ref (ad (2 + 2 * cv))), (1, .long (sd_L x))] := hl
  refine lv_lconst (v := 0) hx hb dX0_valueAt_0 (by decide) ?_
  refine sd_tol (y := sd_L 0) sd_L_0.symm ?_
  refine lv_lstore_n (lv' := [(3, .long (sd_L 0)), (0, .ref (ad (2 + 2 * cv))), (1, .long (sd_L x))]) hx hb dX0_valueAt_1 rfl hl (by decide) rfl (fun ls hl => ?_)
  refine lv_bipush (v := nI 8) hx hb dX0_valueAt_2 (by decide) ?_
  refine lv_istore (lv' := [(5, .int (nI 8)), (3, .long (sd_L 0)), (0, .ref (ad (2 + 2 * cv))), (1, .long (sd_L x))]) hx hb dX0_valueAt_4 hl (by decide) rfl (fun ls hl => ?_)
  obtain ⟨K, y, hK9, hy, hl9⟩ : ∃ (K : Nat) (y : FP), (K ≤ 9) ∧ (y = sd_pv (cu cv) x K (9 - K)) ∧ lv_has ls 6 [(5, .int (nI K + (-1))), (3, .long (sd_L y)), (0, .ref (ad (2 + 2 * cv))), (1, .long (sd_L x))] := ⟨9, 0, by decide, rfl, (lv_sub hl [0, 1, 2, 3] rfl)⟩
  replace hl := hl9
  clear hl9
  obtain ⟨k9, hk9⟩ : ∃ k9 : Nat, K < k9 := ⟨10, by omega⟩
  induction k9 generalizing K y ls with
  | zero => exact absurd hk9 (by omega)
  | succ k9 ih =>
    rcases K with _ | K
    · rw [sd_m1] at hl
      refine lv_iload hx hb dX0_valueAt_6 (lv_at hl 0 rfl) ?_
      refine lv_if_lt (tgt := 33) hx hb dX0_valueAt_8 (by decide) (fun c1 => ?_) (fun c1 => ?_)
      · refine lv_lload_n hx hb dX0_valueAt_33 rfl (lv_at hl 1 rfl) ?_
        exact W.lret hx hb hr (fun t ht hW => ⟨_, rfl, by rw [hy]; rfl, ht⟩) (fun q h => nomatch h) dX0_valueAt_34
      · exact absurd (by decide) c1
    · rw [pk_m1] at hl
      refine lv_iload hx hb dX0_valueAt_6 (lv_at hl 0 rfl) ?_
      refine lv_if_lt (tgt := 33) hx hb dX0_valueAt_8 (by decide) (fun c1 => ?_) (fun c1 => ?_)
      · exact absurd c1 (nI_pos (by omega))
      · refine lv_lload_n hx hb dX0_valueAt_11 rfl (lv_at hl 1 rfl) ?_
        refine lv_lload_n hx hb dX0_valueAt_12 rfl (lv_at hl 3 rfl) ?_
        refine sd_rl (va_runS (As := [.long (sd_L y), .long (sd_L x)]) (rest := []) ⟨hx, hb, hml, hown, hts⟩ (k_X2_times l y x) (sd_cwS hts wd_X2_times wn_X2 wm_X0_21 wi_X2_times nq_X2_times rfl rfl ⟨Nat.le_of_ble_eq_true rfl, Nat.le_of_ble_eq_true rfl⟩) sd_preN rfl rfl hl.1 rfl (lv_room (Nat.le_of_ble_eq_true rfl)) dX0_valueAt_13 ⟨Nat.zero_le _, Nat.zero_le _⟩) (fun r1 hr1 => ?_)
        subst hr1
        refine lv_aload_n hx hb dX0_valueAt_16 rfl (lv_at hl 2 rfl) ?_
        refine va_get (D := D) (ci := 0) (v := .ref (ad (3 + 2 * cv))) (C := RX0) (T := TX0) (N := 1) hx hb hts (fun w h => mm (inX0 w h)) hown hK hP (2 + 2 * cv) (dw_curve hcv) rfl 0 (by decide) (hts _ (mm wf_X0_9)) (fun _ h9 => h9) rfl dX0_valueAt_17 ?_
        refine lv_iload hx hb dX0_valueAt_20 (lv_at hl 0 rfl) ?_
        refine sd_lald hx hb hK hP (3 + 2 * cv) 0 (dw_parts hcv) rfl (k := K) (by omega) (by decide) dX0_valueAt_22 ?_
        refine sd_rl (va_runS (As := [.long (sd_L (y * x)), .long (sd_L ((cu cv) K))]) (rest := []) ⟨hx, hb, hml, hown, hts⟩ (k_X2_plus l (y * x) (cu cv K)) (sd_cwS hts wd_X2_plus wn_X2 wm_X0_27 wi_X2_plus nq_X2_plus rfl rfl ⟨Nat.le_of_ble_eq_true rfl, Nat.le_of_ble_eq_true rfl⟩) sd_preN rfl rfl hl.1 rfl (lv_room (Nat.le_of_ble_eq_true rfl)) dX0_valueAt_23 ⟨Nat.zero_le _, Nat.zero_le _⟩) (fun r2 hr2 => ?_)
        subst hr2
        refine lv_lstore_n (lv' := [(3, .long (sd_L (y * x + cu cv K))), (5, .int (nI K)), (0, .ref (ad (2 + 2 * cv))), (1, .long (sd_L x))]) hx hb dX0_valueAt_26 rfl hl (by decide) rfl (fun ls hl => ?_)
        refine lv_iinc (v := nI K + (-1)) (lv' := [(5, .int (nI K + (-1))), (3, .long (sd_L (y * x + cu cv K))), (0, .ref (ad (2 + 2 * cv))), (1, .long (sd_L x))]) hx hb dX0_valueAt_27 hl (k := 1) rfl (by rw [show Int32.ofInt (-1) = -1 by decide]) (by decide) rfl (fun ls hl => ?_)
        refine lv_goto (tgt := 6) hx hb dX0_valueAt_30 (by decide) ?_
        exact ih (K := K) (y := y * x + cu cv K) (hK9 := by omega) (hy := by rw [show 9 - K = (9 - (K + 1)) + 1 by omega, sd_pv_s, hy]; grind) (ls := ls) (hl := (lv_sub hl [0, 1, 2, 3] rfl)) (hk9 := by omega)

set_option maxHeartbeats 4000000 in
set_option maxRecDepth 100000 in
theorem k_X0_draw (l : Launch) (D : va_G) {ad : Nat → Nat} {tc : Nat → ClassId} {dg pl : Nat → Nat} {vl : Nat → Nat → FP} {th : Nat → Nat → Bool} {cu mx : Nat → Nat → FP} {us : Nat → Bool} {so : Nat → FP} {rr : Nat → Int32} {fw : Nat → Bool} {ff : Int32} (sz : Nat) (cv : Nat) (c0 : FP) (t : Nat) (seed : Int64) (hcv : cv < 3) (ht8 : t ≤ 8) : Met l yX0_draw (Cond.code yX0_draw cX0_draw 9 none :: bg) { frames := 0, cells := 0, slots := 0, locals := 0 } (sd_Wr D vwCl (ty5 tc) (dw ad tc dg pl vl th cu mx us so rr fw ff) sz [.ref (ad (2 + 2 * cv)), .long (sd_L c0), .int (nI t), .long seed]) (va_Qv (S := Nat → Nat → FP) (fun u : Nat → Nat → FP => (∀ i, i ≠ cv → u i = cu i) ∧ u cv 0 = c0 ∧ ∀ k, 1 ≤ k → k ≤ 8 → u cv k = (if k ≤ t then sd_nx (sd_gs seed k) else 0)) (sd_B D vwCl (ty5 tc) (va_A (dw ad tc dg pl vl th cu mx us so rr fw ff) sz) (fun u => dw ad tc dg pl vl th u mx us so rr fw ff)) (va_A (dw ad tc dg pl vl th cu mx us so rr fw ff) sz)) 0 0 (va_A (dw ad tc dg pl vl th cu mx us so rr fw ff) sz) := by
  refine Met.ofW (cc := cX0_draw) (maxL := 9) (ret := none) (by decide) rfl ?_
  intro p e s m args below meth c s₁ B hml hv
  obtain ⟨rfl, hsz, hP, hK, hD0⟩ := hv
  have hx := B.exec
  have hb := B.bytes
  have hr := B.returns
  have hts := atoms_spec (ws := Cond.code yX0_draw cX0_draw 9 none :: bg) B.pre
  have hown : s.vm.findClass RX0 = some m.cls := findClass_of_methodNamed B.named
  have hlocks := B.notSynchronized
  subst hsz
  have hD := hD0.self (sz := s.heap.size)
  generalize hAe : va_A (dw ad tc dg pl vl th cu mx us so rr fw ff) s.heap.size = A at hD ⊢
  have hA : ∀ q : Nat, s.heap.size ≤ q → A q := fun q h => by rw [← hAe]; exact Or.inr h
  have hS : va_S A s.heap s.heap [] := va_S.rf
  have hl := lv_entry ([.ref (ad (2 + 2 * cv)), .long (sd_L c0), .int (nI t), .long seed]) (n := 9) (Nat.le_of_ble_eq_true rfl)
  rw [lg_entry_eq]
  generalize (lg_sl ([.ref (ad (2 + 2 * cv)), .long (sd_L c0), .int (nI t), .long seed]) ++ List.replicate (9 - (lg_sl ([.ref (ad (2 + 2 * cv)), .long (sd_L c0), .int (nI t), .long seed])).length) Slot.unset).toArray = ls at hl ⊢
  replace hl : lv_has ls 9 [(0, .ref (ad (2 + 2 * cv))), (1, .long (sd_L c0)), (3, .int (nI t)), (4, .long seed)] := hl
  refine lv_lload hx hb dX0_draw_0 (lv_at hl 3 rfl) ?_
  refine lv_lstore (lv' := [(6, .long seed), (0, .ref (ad (2 + 2 * cv))), (1, .long (sd_L c0)), (3, .int (nI t)), (4, .long seed)]) hx hb dX0_draw_2 hl (by decide) rfl (fun ls hl => ?_)
  refine lv_aload_n hx hb dX0_draw_4 rfl (lv_at hl 1 rfl) ?_
  refine va_get (D := D) (ci := 0) (v := .ref (ad (3 + 2 * cv))) (C := RX0) (T := TX0) (N := 1) hx hb hts (fun w h => mm (inX0 w h)) hown hK hP (2 + 2 * cv) (dw_curve hcv) rfl 0 (by decide) (hts _ (mm wf_X0_9)) (fun _ h9 => h9) rfl dX0_draw_5 ?_
  refine lv_iconst (v := nI 0) hx hb dX0_draw_8 (by decide) ?_
  refine lv_lload_n hx hb dX0_draw_9 rfl (lv_at hl 2 rfl) ?_
  refine sd_last hx hb hK hP hD hS (3 + 2 * cv) 0 (dw_parts hcv) rfl (k := 0) (by omega) (by decide) (ws2 := dw ad tc dg pl vl th (sd_up cu cv (sd_up (cu cv) 0 c0)) mx us so rr fw ff) (by rw [sd_stL]; exact dws_parts hcv _) dX0_draw_10 (fun H locs hP hD hS => ?_)
  refine lv_iconst (v := nI 1) hx hb dX0_draw_11 (by decide) ?_
  refine lv_istore (lv' := [(8, .int (nI 1)), (6, .long seed), (0, .ref (ad (2 + 2 * cv))), (1, .long (sd_L c0)), (3, .int (nI t)), (4, .long seed)]) hx hb dX0_draw_12 hl (by decide) rfl (fun ls hl => ?_)
  obtain ⟨k, c1, hk, hI, hP9, hD9, hl9⟩ : ∃ (k : Nat) (c1 : Nat → Nat → FP), (1 ≤ k ∧ k ≤ 9) ∧ ((∀ i, i ≠ cv → c1 i = cu i) ∧ c1 cv 0 = c0 ∧ ∀ j, 1 ≤ j → j < k → c1 cv j = (if j ≤ t then sd_nx (sd_gs seed j) else 0)) ∧ va_P D vwCl (dw ad tc dg pl vl th c1 mx us so rr fw ff) H ∧ va_D A (dw ad tc dg pl vl th c1 mx us so rr fw ff) ∧ lv_has ls 9 [(8, .int (nI k)), (6, .long (sd_gs seed (k - 1))), (0, .ref (ad (2 + 2 * cv))), (3, .int (nI t))] := ⟨1, sd_up cu cv (sd_up (cu cv) 0 c0), by decide, ⟨fun i hi => sd_up_n _ _ hi, by rw [sd_up_s, sd_up_s], fun j h1 h2 => absurd h2 (by omega)⟩, hP, hD, (lv_sub hl [0, 1, 2, 4] rfl)⟩
  replace hl := hl9
  clear hl9
  replace hP := hP9
  replace hD := hD9
  clear hP9 hD9
  obtain ⟨k9, hk9⟩ : ∃ k9 : Nat, 9 < k + k9 := ⟨9, by omega⟩
  induction k9 generalizing k c1 ls H locs with
  | zero => exact absurd hk9 (by omega)
  | succ k9 ih =>
    refine lv_iload hx hb dX0_draw_14 (lv_at hl 0 rfl) ?_
    refine lv_bipush (v := nI 8) hx hb dX0_draw_16 (by decide) ?_
    refine sd_icmp_gt (tgt := 64) hx hb (by omega) (by omega) dX0_draw_18 (by decide) (fun c2 => ?_) (fun c2 => ?_)
    · exact W.vret hx hb hr (fun t ht hW => ⟨⟨c1, rfl, ⟨hI.1, hI.2.1, fun j h1 h2 => hI.2.2 j h1 (by omega)⟩, by rw [ht]; exact hP, va_K.moved hW.alike hK, hD⟩, hS.F ht⟩) hS.2.2 dX0_draw_64
    · refine lv_lload hx hb dX0_draw_21 (lv_at hl 1 rfl) ?_
      refine lv_ldc2 (v := 6364136223846793005) hx hb hown (hts _ (mm wl_X0_15)) dX0_draw_23 ?_
      refine lv_lmul hx hb dX0_draw_26 ?_
      refine lv_ldc2 (v := 1442695040888963407) hx hb hown (hts _ (mm wl_X0_17)) dX0_draw_27 ?_
      refine lv_ladd hx hb dX0_draw_30 ?_
      refine sd_tol (y := sd_gs seed k) (by rw [show k = (k - 1) + 1 by omega]; rfl) ?_
      refine lv_lstore (lv' := [(6, .long (sd_gs seed k)), (8, .int (nI k)), (0, .ref (ad (2 + 2 * cv))), (3, .int (nI t))]) hx hb dX0_draw_31 hl (by decide) rfl (fun ls hl => ?_)
      refine lv_aload_n hx hb dX0_draw_33 rfl (lv_at hl 2 rfl) ?_
      refine va_get (D := D) (ci := 0) (v := .ref (ad (3 + 2 * cv))) (C := RX0) (T := TX0) (N := 1) hx hb hts (fun w h => mm (inX0 w h)) hown hK hP (2 + 2 * cv) (dw_curve hcv) rfl 0 (by decide) (hts _ (mm wf_X0_9)) (fun _ h9 => h9) rfl dX0_draw_34 ?_
      refine lv_iload hx hb dX0_draw_37 (lv_at hl 1 rfl) ?_
      refine lv_iload hx hb dX0_draw_39 (lv_at hl 1 rfl) ?_
      refine lv_iload_n hx hb dX0_draw_41 rfl (lv_at hl 3 rfl) ?_
      refine sd_icmp_gt (tgt := 56) hx hb (by omega) (by omega) dX0_draw_42 (by decide) (fun c3 => ?_) (fun c3 => ?_)
      · refine lv_lconst (v := 0) hx hb dX0_draw_56 (by decide) ?_
        refine sd_tol (y := sd_L 0) sd_L_0.symm ?_
        refine sd_last hx hb hK hP hD hS (3 + 2 * cv) 0 (dw_parts hcv) rfl (k := k) (by omega) (by decide) (ws2 := dw ad tc dg pl vl th (sd_up c1 cv (sd_up (c1 cv) k 0)) mx us so rr fw ff) (by rw [sd_stL]; exact dws_parts hcv _) dX0_draw_57 (fun H locs hP hD hS => ?_)
        refine lv_iinc (v := nI (k + 1)) (lv' := [(8, .int (nI (k + 1))), (6, .long (sd_gs seed k)), (0, .ref (ad (2 + 2 * cv))), (3, .int (nI t))]) hx hb dX0_draw_58 hl (k := 1) rfl (nI_1 _) (by decide) rfl (fun ls hl => ?_)
        refine lv_goto (tgt := 14) hx hb dX0_draw_61 (by decide) ?_
        exact ih (k := k + 1) (c1 := sd_up c1 cv (sd_up (c1 cv) k 0)) (hk := by omega) (hI := ⟨fun i hi => by rw [sd_up_n _ _ hi]; exact hI.1 i hi, by rw [sd_up2, if_neg (by omega)]; exact hI.2.1, fun j h1 h2 => by rw [sd_up2]; exact (Classical.em (j = k)).elim (fun e9 => by rw [if_pos ⟨rfl, e9⟩, if_neg (by omega)]) (fun e9 => by rw [if_neg (fun z => e9 z.2)]; exact hI.2.2 j h1 (by omega))⟩) (H := H) (locs := locs) (hP := hP) (hD := hD) (hS := hS) (ls := ls) (hl := (lv_sub hl [0, 1, 2, 3] rfl)) (hk9 := by omega)
      · refine lv_lload hx hb dX0_draw_45 (lv_at hl 0 rfl) ?_
        refine lv_iconst (v := nI 3) hx hb dX0_draw_47 (by decide) ?_
        refine lv_lushr (v := lN ((sd_gs seed k).toBitVec.toNat / 8)) hx hb dX0_draw_48 (sd_ush3 _) ?_
        have hbv : (sd_gs seed k).toBitVec.toNat < 2 ^ 64 := (sd_gs seed k).toBitVec.isLt
        refine lv_ldc2 (v := lN 2305843009213693951) hx hb hown (hts _ (mm wl_X0_19)) dX0_draw_49 ?_
        refine sd_lrem hx hb (by omega) (by omega) (by omega) dX0_draw_52 ?_
        refine sd_tol (y := sd_L (sd_nx (sd_gs seed k))) (sd_nx_L _) ?_
        refine lv_goto (tgt := 57) hx hb dX0_draw_53 (by decide) ?_
        refine sd_last hx hb hK hP hD hS (3 + 2 * cv) 0 (dw_parts hcv) rfl (k := k) (by omega) (by decide) (ws2 := dw ad tc dg pl vl th (sd_up c1 cv (sd_up (c1 cv) k (sd_nx (sd_gs seed k)))) mx us so rr fw ff) (by rw [sd_stL]; exact dws_parts hcv _) dX0_draw_57 (fun H locs hP hD hS => ?_)
        refine lv_iinc (v := nI (k + 1)) (lv' := [(8, .int (nI (k + 1))), (6, .long (sd_gs seed k)), (0, .ref (ad (2 + 2 * cv))), (3, .int (nI t))]) hx hb dX0_draw_58 hl (k := 1) rfl (nI_1 _) (by decide) rfl (fun ls hl => ?_)
        refine lv_goto (tgt := 14) hx hb dX0_draw_61 (by decide) ?_
        exact ih (k := k + 1) (c1 := sd_up c1 cv (sd_up (c1 cv) k (sd_nx (sd_gs seed k)))) (hk := by omega) (hI := ⟨fun i hi => by rw [sd_up_n _ _ hi]; exact hI.1 i hi, by rw [sd_up2, if_neg (by omega)]; exact hI.2.1, fun j h1 h2 => by rw [sd_up2]; exact (Classical.em (j = k)).elim (fun e9 => by rw [if_pos ⟨rfl, e9⟩, if_pos (by omega), e9]) (fun e9 => by rw [if_neg (fun z => e9 z.2)]; exact hI.2.2 j h1 (by omega))⟩) (H := H) (locs := locs) (hP := hP) (hD := hD) (hS := hS) (ls := ls) (hl := (lv_sub hl [0, 1, 2, 3] rfl)) (hk9 := by omega)

set_option maxHeartbeats 4000000 in
set_option maxRecDepth 100000 in
theorem k_X3_shape (l : Launch) (D : va_G) {ad : Nat → Nat} {tc : Nat → ClassId} {dg pl : Nat → Nat} {vl : Nat → Nat → FP} {th : Nat → Nat → Bool} {cu mx : Nat → Nat → FP} {us : Nat → Bool} {so : Nat → FP} {rr : Nat → Int32} {fw : Nat → Bool} {ff : Int32} (sz : Nat) (q t n : Nat) (hq : q < 8) : Met l yX3_shape (Cond.code yX3_shape cX3_shape 3 none :: bg) { frames := 0, cells := 0, slots := 0, locals := 0 } (sd_Wr D vwCl (ty5 tc) (dw ad tc dg pl vl th cu mx us so rr fw ff) sz [.ref (ad (14 + 3 * q)), .int (nI t), .int (nI n)]) (va_Qv (S := Unit) (fun _ : Unit => True) (sd_B D vwCl (ty5 tc) (va_A (dw ad tc dg pl vl th cu mx us so rr fw ff) sz) (fun _ => dw ad tc (sd_up dg q t) (sd_up pl q n) vl th cu mx us so rr fw ff)) (va_A (dw ad tc dg pl vl th cu mx us so rr fw ff) sz)) 0 0 (va_A (dw ad tc dg pl vl th cu mx us so rr fw ff) sz) := by
  refine Met.ofW (cc := cX3_shape) (maxL := 3) (ret := none) (by decide) rfl ?_
  intro p e s m args below meth c s₁ B hml hv
  obtain ⟨rfl, hsz, hP, hK, hD0⟩ := hv
  have hx := B.exec
  have hb := B.bytes
  have hr := B.returns
  have hts := atoms_spec (ws := Cond.code yX3_shape cX3_shape 3 none :: bg) B.pre
  have hown : s.vm.findClass RX3 = some m.cls := findClass_of_methodNamed B.named
  have hlocks := B.notSynchronized
  subst hsz
  have hD := hD0.self (sz := s.heap.size)
  generalize hAe : va_A (dw ad tc dg pl vl th cu mx us so rr fw ff) s.heap.size = A at hD ⊢
  have hA : ∀ q : Nat, s.heap.size ≤ q → A q := fun q h => by rw [← hAe]; exact Or.inr h
  have hS : va_S A s.heap s.heap [] := va_S.rf
  have hl := lv_entry ([.ref (ad (14 + 3 * q)), .int (nI t), .int (nI n)]) (n := 3) (Nat.le_of_ble_eq_true rfl)
  rw [lg_entry_eq]
  generalize (lg_sl ([.ref (ad (14 + 3 * q)), .int (nI t), .int (nI n)]) ++ List.replicate (3 - (lg_sl ([.ref (ad (14 + 3 * q)), .int (nI t), .int (nI n)])).length) Slot.unset).toArray = ls at hl ⊢
  replace hl : lv_has ls 3 [(0, .ref (ad (14 + 3 * q))), (1, .int (nI t)), (2, .int (nI n))] := hl
  refine lv_aload_n hx hb dX3_shape_0 rfl (lv_at hl 0 rfl) ?_
  refine lv_iload_n hx hb dX3_shape_1 rfl (lv_at hl 1 rfl) ?_
  refine sd_put (ci := 3) (C := RX3) (T := TX3) (N := 4) hx hb hts (fun w h => mm (inX3 w h)) tyX3 tyX3_ok nmX3 hown hK hP hD hS (14 + 3 * q) (dw_sp hq) rfl 2 (by decide) (hts _ (mm wf_X3_19)) rfl rfl rfl rfl (Nat.le_of_ble_eq_true rfl) rfl (ws2 := dw ad tc (sd_up dg q t) pl vl th cu mx us so rr fw ff) (dws_dg hq _) dX3_shape_2 (fun H locs hP hD hS => ?_)
  refine lv_aload_n hx hb dX3_shape_5 rfl (lv_at hl 0 rfl) ?_
  refine lv_iload_n hx hb dX3_shape_6 rfl (lv_at hl 2 rfl) ?_
  refine sd_put (ci := 3) (C := RX3) (T := TX3) (N := 4) hx hb hts (fun w h => mm (inX3 w h)) tyX3 tyX3_ok nmX3 hown hK hP hD hS (14 + 3 * q) (dw_sp hq) rfl 3 (by decide) (hts _ (mm wf_X3_23)) rfl rfl rfl rfl (Nat.le_of_ble_eq_true rfl) rfl (ws2 := dw ad tc (sd_up dg q t) (sd_up pl q n) vl th cu mx us so rr fw ff) (dws_pl hq _) dX3_shape_7 (fun H locs hP hD hS => ?_)
  exact W.vret hx hb hr (fun t ht hW => ⟨⟨(), rfl, trivial, by rw [ht]; exact hP, va_K.moved hW.alike hK, hD⟩, hS.F ht⟩) hS.2.2 dX3_shape_10

set_option maxHeartbeats 4000000 in
set_option maxRecDepth 100000 in
theorem k_X3_hasPlace (l : Launch) (D : va_G) {ad : Nat → Nat} {tc : Nat → ClassId} {dg pl : Nat → Nat} {vl : Nat → Nat → FP} {th : Nat → Nat → Bool} {cu mx : Nat → Nat → FP} {us : Nat → Bool} {so : Nat → FP} {rr : Nat → Int32} {fw : Nat → Bool} {ff : Int32} (q : Nat) (x : Int32) (hq : q < 8) (hpl : pl q ≤ 16) : Met l yX3_hasPlace (Cond.code yX3_hasPlace cX3_hasPlace 2 (some .boolean) :: bg) { frames := 0, cells := 0, slots := 0, locals := 0 } (sd_R D vwCl (ty5 tc) (dw ad tc dg pl vl th cu mx us so rr fw ff) [.ref (ad (14 + 3 * q)), .int x]) (vp_Si (fun r => r = bI (sd_hp (pl q) x))) 0 0 (fun _ => False) := by
  refine Met.ofW (cc := cX3_hasPlace) (maxL := 2) (ret := some .boolean) (by decide) rfl ?_
  intro p e s m args below meth c s₁ B hml hv
  obtain ⟨rfl, hP, hK⟩ := hv
  have hx := B.exec
  have hb := B.bytes
  have hr := B.returns
  have hts := atoms_spec (ws := Cond.code yX3_hasPlace cX3_hasPlace 2 (some .boolean) :: bg) B.pre
  have hown : s.vm.findClass RX3 = some m.cls := findClass_of_methodNamed B.named
  have hlocks := B.notSynchronized
  have hl := lv_entry ([.ref (ad (14 + 3 * q)), .int x]) (n := 2) (Nat.le_of_ble_eq_true rfl)
  rw [lg_entry_eq]
  generalize (lg_sl ([.ref (ad (14 + 3 * q)), .int x]) ++ List.replicate (2 - (lg_sl ([.ref (ad (14 + 3 * q)), .int x])).length) Slot.unset).toArray = ls at hl ⊢
  replace hl : lv_has ls 2 [(0, .ref (ad (14 + 3 * q))), (1, .int x)] := hl
  refine lv_iload_n hx hb dX3_hasPlace_0 rfl (lv_at hl 1 rfl) ?_
  refine lv_iconst (v := nI 1) hx hb dX3_hasPlace_1 (by decide) ?_
  refine lv_icmp_lt (tgt := 17) hx hb dX3_hasPlace_2 (by decide) (fun c1 => ?_) (fun c1 => ?_)
  · refine lv_iconst (v := nI 0) hx hb dX3_hasPlace_17 (by decide) ?_
    exact W.zret hx hb hr rfl (fun t ht hW => ⟨_, rfl, by rw [sd_hp_lt _ c1]; rfl, ht⟩) (fun q h => nomatch h) dX3_hasPlace_18
  · refine lv_iload_n hx hb dX3_hasPlace_5 rfl (lv_at hl 1 rfl) ?_
    refine lv_aload_n hx hb dX3_hasPlace_6 rfl (lv_at hl 0 rfl) ?_
    refine va_get (D := D) (ci := 3) (v := .int (nI (pl q))) (C := RX3) (T := TX3) (N := 4) hx hb hts (fun w h => mm (inX3 w h)) hown hK hP (14 + 3 * q) (dw_sp hq) rfl 3 (by decide) (hts _ (mm wf_X3_23)) (fun _ h9 => h9) rfl dX3_hasPlace_7 ?_
    refine lv_icmp_gt (tgt := 17) hx hb dX3_hasPlace_10 (by decide) (fun c2 => ?_) (fun c2 => ?_)
    · refine lv_iconst (v := nI 0) hx hb dX3_hasPlace_17 (by decide) ?_
      exact W.zret hx hb hr rfl (fun t ht hW => ⟨_, rfl, by rw [sd_hp_gt (by omega) c2]; rfl, ht⟩) (fun q h => nomatch h) dX3_hasPlace_18
    · refine lv_iconst (v := nI 1) hx hb dX3_hasPlace_13 (by decide) ?_
      refine lv_goto (tgt := 18) hx hb dX3_hasPlace_14 (by decide) ?_
      exact W.zret hx hb hr rfl (fun t ht hW => ⟨_, rfl, by rw [sd_hp_in (by omega) c1 c2]; rfl, ht⟩) (fun q h => nomatch h) dX3_hasPlace_18

set_option maxHeartbeats 4000000 in
set_option maxRecDepth 100000 in
theorem k_X3_hasShare (l : Launch) (D : va_G) {ad : Nat → Nat} {tc : Nat → ClassId} {dg pl : Nat → Nat} {vl : Nat → Nat → FP} {th : Nat → Nat → Bool} {cu mx : Nat → Nat → FP} {us : Nat → Bool} {so : Nat → FP} {rr : Nat → Int32} {fw : Nat → Bool} {ff : Int32} (q : Nat) (x : Int32) (hq : q < 8) (hpl : pl q ≤ 16) : Met l yX3_hasShare (Cond.code yX3_hasShare cX3_hasShare 2 (some .boolean) :: bg) { frames := 1, cells := 0, slots := 0, locals := 21 } (sd_R D vwCl (ty5 tc) (dw ad tc dg pl vl th cu mx us so rr fw ff) [.ref (ad (14 + 3 * q)), .int x]) (vp_Si (fun r => r = bI (sd_hs (pl q) (th q) x))) 0 0 (fun _ => False) := by
  refine Met.ofW (cc := cX3_hasShare) (maxL := 2) (ret := some .boolean) (by decide) rfl ?_
  intro p e s m args below meth c s₁ B hml hv
  obtain ⟨rfl, hP, hK⟩ := hv
  have hx := B.exec
  have hb := B.bytes
  have hr := B.returns
  have hts := atoms_spec (ws := Cond.code yX3_hasShare cX3_hasShare 2 (some .boolean) :: bg) B.pre
  have hown : s.vm.findClass RX3 = some m.cls := findClass_of_methodNamed B.named
  have hlocks := B.notSynchronized
  have hl := lv_entry ([.ref (ad (14 + 3 * q)), .int x]) (n := 2) (Nat.le_of_ble_eq_true rfl)
  rw [lg_entry_eq]
  generalize (lg_sl ([.ref (ad (14 + 3 * q)), .int x]) ++ List.replicate (2 - (lg_sl ([.ref (ad (14 + 3 * q)), .int x])).length) Slot.unset).toArray = ls at hl ⊢
  replace hl : lv_has ls 2 [(0, .ref (ad (14 + 3 * q))), (1, .int x)] := hl
  refine lv_aload_n hx hb dX3_hasShare_0 rfl (lv_at hl 0 rfl) ?_
  refine lv_iload_n hx hb dX3_hasShare_1 rfl (lv_at hl 1 rfl) ?_
  refine sd_ri (va_runV (As := [.int x]) (rest := []) ⟨hx, hb, hml, hown, hts⟩ (k_X3_hasPlace l D q x hq hpl) (sd_cwV hts wd_X3_hasPlace wn_X3 wm_X3_26 wi_X3_hasPlace ws_X3_hasPlace nq_X3_hasPlace rfl rfl ⟨Nat.le_of_ble_eq_true rfl, Nat.le_of_ble_eq_true rfl⟩) (sd_preVR hP hK (ci := 3) (q0 := (14 + 3 * q)) rfl rfl (dw_sp hq)) rfl rfl hl.1 rfl (lv_room (Nat.le_of_ble_eq_true rfl)) dX3_hasShare_2 ⟨Nat.zero_le _, Nat.zero_le _⟩) (fun r1 hr1 => ?_)
  subst hr1
  refine sd_if_eqB (tgt := 21) hx hb dX3_hasShare_5 (by decide) (fun c1 => ?_) (fun c1 => ?_)
  · refine lv_iconst (v := nI 0) hx hb dX3_hasShare_21 (by decide) ?_
    exact W.zret hx hb hr rfl (fun t ht hW => ⟨_, rfl, by rw [sd_hs_f _ c1]; rfl, ht⟩) (fun q h => nomatch h) dX3_hasShare_22
  · obtain ⟨j, hj1, hj2, rfl⟩ := sd_hp_of (by omega) c1
    refine lv_aload_n hx hb dX3_hasShare_8 rfl (lv_at hl 0 rfl) ?_
    refine va_get (D := D) (ci := 3) (v := .ref (ad (16 + 3 * q))) (C := RX3) (T := TX3) (N := 4) hx hb hts (fun w h => mm (inX3 w h)) hown hK hP (14 + 3 * q) (dw_sp hq) rfl 1 (by decide) (hts _ (mm wf_X3_15)) (fun _ h9 => h9) rfl dX3_hasShare_9 ?_
    refine lv_iload_n hx hb dX3_hasShare_12 rfl (lv_at hl 1 rfl) ?_
    refine sd_zald hx hb hK hP (16 + 3 * q) 1 (dw_th hq) rfl (k := j) (by omega) (by decide) dX3_hasShare_13 ?_
    refine sd_if_eqB (tgt := 21) hx hb dX3_hasShare_14 (by decide) (fun c2 => ?_) (fun c2 => ?_)
    · refine lv_iconst (v := nI 0) hx hb dX3_hasShare_21 (by decide) ?_
      exact W.zret hx hb hr rfl (fun t ht hW => ⟨_, rfl, by rw [sd_hs_nI _ (by omega) hj1 hj2, c2]; rfl, ht⟩) (fun q h => nomatch h) dX3_hasShare_22
    · refine lv_iconst (v := nI 1) hx hb dX3_hasShare_17 (by decide) ?_
      refine lv_goto (tgt := 22) hx hb dX3_hasShare_18 (by decide) ?_
      exact W.zret hx hb hr rfl (fun t ht hW => ⟨_, rfl, by rw [sd_hs_nI _ (by omega) hj1 hj2, c2]; rfl, ht⟩) (fun q h => nomatch h) dX3_hasShare_22

set_option maxHeartbeats 4000000 in
set_option maxRecDepth 100000 in
theorem k_X3_keep (l : Launch) (D : va_G) {ad : Nat → Nat} {tc : Nat → ClassId} {dg pl : Nat → Nat} {vl : Nat → Nat → FP} {th : Nat → Nat → Bool} {cu mx : Nat → Nat → FP} {us : Nat → Bool} {so : Nat → FP} {rr : Nat → Int32} {fw : Nat → Bool} {ff : Int32} (sz : Nat) (q k : Nat) (v : FP) (hq : q < 8) (hk : k < 17) : Met l yX3_keep (Cond.code yX3_keep cX3_keep 4 none :: bg) { frames := 0, cells := 0, slots := 0, locals := 0 } (sd_Wr D vwCl (ty5 tc) (dw ad tc dg pl vl th cu mx us so rr fw ff) sz [.ref (ad (14 + 3 * q)), .int (nI k), .long (sd_L v)]) (va_Qv (S := Unit) (fun _ : Unit => True) (sd_B D vwCl (ty5 tc) (va_A (dw ad tc dg pl vl th cu mx us so rr fw ff) sz) (fun _ => dw ad tc dg pl (sd_up vl q (sd_up (vl q) k v)) (sd_up th q (sd_up (th q) k true)) cu mx us so rr fw ff)) (va_A (dw ad tc dg pl vl th cu mx us so rr fw ff) sz)) 0 0 (va_A (dw ad tc dg pl vl th cu mx us so rr fw ff) sz) := by
  refine Met.ofW (cc := cX3_keep) (maxL := 4) (ret := none) (by decide) rfl ?_
  intro p e s m args below meth c s₁ B hml hv
  obtain ⟨rfl, hsz, hP, hK, hD0⟩ := hv
  have hx := B.exec
  have hb := B.bytes
  have hr := B.returns
  have hts := atoms_spec (ws := Cond.code yX3_keep cX3_keep 4 none :: bg) B.pre
  have hown : s.vm.findClass RX3 = some m.cls := findClass_of_methodNamed B.named
  have hlocks := B.notSynchronized
  subst hsz
  have hD := hD0.self (sz := s.heap.size)
  generalize hAe : va_A (dw ad tc dg pl vl th cu mx us so rr fw ff) s.heap.size = A at hD ⊢
  have hA : ∀ q : Nat, s.heap.size ≤ q → A q := fun q h => by rw [← hAe]; exact Or.inr h
  have hS : va_S A s.heap s.heap [] := va_S.rf
  have hl := lv_entry ([.ref (ad (14 + 3 * q)), .int (nI k), .long (sd_L v)]) (n := 4) (Nat.le_of_ble_eq_true rfl)
  rw [lg_entry_eq]
  generalize (lg_sl ([.ref (ad (14 + 3 * q)), .int (nI k), .long (sd_L v)]) ++ List.replicate (4 - (lg_sl ([.ref (ad (14 + 3 * q)), .int (nI k), .long (sd_L v)])).length) Slot.unset).toArray = ls at hl ⊢
  replace hl : lv_has ls 4 [(0, .ref (ad (14 + 3 * q))), (1, .int (nI k)), (2, .long (sd_L v))] := hl
  refine lv_aload_n hx hb dX3_keep_0 rfl (lv_at hl 0 rfl) ?_
  refine va_get (D := D) (ci := 3) (v := .ref (ad (15 + 3 * q))) (C := RX3) (T := TX3) (N := 4) hx hb hts (fun w h => mm (inX3 w h)) hown hK hP (14 + 3 * q) (dw_sp hq) rfl 0 (by decide) (hts _ (mm wf_X3_9)) (fun _ h9 => h9) rfl dX3_keep_1 ?_
  refine lv_iload_n hx hb dX3_keep_4 rfl (lv_at hl 1 rfl) ?_
  refine lv_lload_n hx hb dX3_keep_5 rfl (lv_at hl 2 rfl) ?_
  refine sd_last hx hb hK hP hD hS (15 + 3 * q) 0 (dw_vl hq) rfl (k := k) (by omega) (by decide) (ws2 := dw ad tc dg pl (sd_up vl q (sd_up (vl q) k v)) th cu mx us so rr fw ff) (by rw [sd_stL]; exact dws_vl hq _) dX3_keep_6 (fun H locs hP hD hS => ?_)
  refine lv_aload_n hx hb dX3_keep_7 rfl (lv_at hl 0 rfl) ?_
  refine va_get (D := D) (ci := 3) (v := .ref (ad (16 + 3 * q))) (C := RX3) (T := TX3) (N := 4) hx hb hts (fun w h => mm (inX3 w h)) hown hK hP (14 + 3 * q) (dw_sp hq) rfl 1 (by decide) (hts _ (mm wf_X3_15)) (fun _ h9 => h9) rfl dX3_keep_8 ?_
  refine lv_iload_n hx hb dX3_keep_11 rfl (lv_at hl 1 rfl) ?_
  refine lv_iconst (v := nI 1) hx hb dX3_keep_12 (by decide) ?_
  refine sd_tob (b := true) rfl ?_
  refine sd_zast hx hb hK hP hD hS (16 + 3 * q) 1 (dw_th hq) rfl (k := k) (by omega) (by decide) (ws2 := dw ad tc dg pl (sd_up vl q (sd_up (vl q) k v)) (sd_up th q (sd_up (th q) k true)) cu mx us so rr fw ff) (by rw [sd_stZ]; exact dws_th hq _) dX3_keep_13 (fun H locs hP hD hS => ?_)
  exact W.vret hx hb hr (fun t ht hW => ⟨⟨(), rfl, trivial, by rw [ht]; exact hP, va_K.moved hW.alike hK, hD⟩, hS.F ht⟩) hS.2.2 dX3_keep_14

set_option maxHeartbeats 4000000 in
set_option maxRecDepth 100000 in
theorem k_X3_drop (l : Launch) (D : va_G) {ad : Nat → Nat} {tc : Nat → ClassId} {dg pl : Nat → Nat} {vl : Nat → Nat → FP} {th : Nat → Nat → Bool} {cu mx : Nat → Nat → FP} {us : Nat → Bool} {so : Nat → FP} {rr : Nat → Int32} {fw : Nat → Bool} {ff : Int32} (sz : Nat) (q k : Nat) (hq : q < 8) (hk : k < 17) : Met l yX3_drop (Cond.code yX3_drop cX3_drop 2 none :: bg) { frames := 0, cells := 0, slots := 0, locals := 0 } (sd_Wr D vwCl (ty5 tc) (dw ad tc dg pl vl th cu mx us so rr fw ff) sz [.ref (ad (14 + 3 * q)), .int (nI k)]) (va_Qv (S := Unit) (fun _ : Unit => True) (sd_B D vwCl (ty5 tc) (va_A (dw ad tc dg pl vl th cu mx us so rr fw ff) sz) (fun _ => dw ad tc dg pl vl (sd_up th q (sd_up (th q) k false)) cu mx us so rr fw ff)) (va_A (dw ad tc dg pl vl th cu mx us so rr fw ff) sz)) 0 0 (va_A (dw ad tc dg pl vl th cu mx us so rr fw ff) sz) := by
  refine Met.ofW (cc := cX3_drop) (maxL := 2) (ret := none) (by decide) rfl ?_
  intro p e s m args below meth c s₁ B hml hv
  obtain ⟨rfl, hsz, hP, hK, hD0⟩ := hv
  have hx := B.exec
  have hb := B.bytes
  have hr := B.returns
  have hts := atoms_spec (ws := Cond.code yX3_drop cX3_drop 2 none :: bg) B.pre
  have hown : s.vm.findClass RX3 = some m.cls := findClass_of_methodNamed B.named
  have hlocks := B.notSynchronized
  subst hsz
  have hD := hD0.self (sz := s.heap.size)
  generalize hAe : va_A (dw ad tc dg pl vl th cu mx us so rr fw ff) s.heap.size = A at hD ⊢
  have hA : ∀ q : Nat, s.heap.size ≤ q → A q := fun q h => by rw [← hAe]; exact Or.inr h
  have hS : va_S A s.heap s.heap [] := va_S.rf
  have hl := lv_entry ([.ref (ad (14 + 3 * q)), .int (nI k)]) (n := 2) (Nat.le_of_ble_eq_true rfl)
  rw [lg_entry_eq]
  generalize (lg_sl ([.ref (ad (14 + 3 * q)), .int (nI k)]) ++ List.replicate (2 - (lg_sl ([.ref (ad (14 + 3 * q)), .int (nI k)])).length) Slot.unset).toArray = ls at hl ⊢
  replace hl : lv_has ls 2 [(0, .ref (ad (14 + 3 * q))), (1, .int (nI k))] := hl
  refine lv_aload_n hx hb dX3_drop_0 rfl (lv_at hl 0 rfl) ?_
  refine va_get (D := D) (ci := 3) (v := .ref (ad (16 + 3 * q))) (C := RX3) (T := TX3) (N := 4) hx hb hts (fun w h => mm (inX3 w h)) hown hK hP (14 + 3 * q) (dw_sp hq) rfl 1 (by decide) (hts _ (mm wf_X3_15)) (fun _ h9 => h9) rfl dX3_drop_1 ?_
  refine lv_iload_n hx hb dX3_drop_4 rfl (lv_at hl 1 rfl) ?_
  refine lv_iconst (v := nI 0) hx hb dX3_drop_5 (by decide) ?_
  refine sd_tob (b := false) rfl ?_
  refine sd_zast hx hb hK hP hD hS (16 + 3 * q) 1 (dw_th hq) rfl (k := k) (by omega) (by decide) (ws2 := dw ad tc dg pl vl (sd_up th q (sd_up (th q) k false)) cu mx us so rr fw ff) (by rw [sd_stZ]; exact dws_th hq _) dX3_drop_6 (fun H locs hP hD hS => ?_)
  exact W.vret hx hb hr (fun t ht hW => ⟨⟨(), rfl, trivial, by rw [ht]; exact hP, va_K.moved hW.alike hK, hD⟩, hS.F ht⟩) hS.2.2 dX3_drop_7
end
section
/-! a share that is there and that the curve misses, of a place at most 16 -/
def sd_mk (n : Nat) (th : Nat → Bool) (v f : Nat → FP) (k : Nat) : Bool := decide (k ≤ n) && sd_ms th v f k
theorem sd_mk_in {n k : Nat} (th : Nat → Bool) (v f : Nat → FP) (h : k ≤ n) : sd_mk n th v f k = sd_ms th v f k := by
  unfold sd_mk
  rw [decide_eq_true h, Bool.true_and]
theorem sd_mk_f {n k : Nat} {th : Nat → Bool} (v f : Nat → FP) (h1 : 1 ≤ k) (hk : k < 2 ^ 31) (h : sd_hs n th (nI k) = false) : sd_mk n th v f k = false := by
  unfold sd_mk sd_ms
  by_cases h2 : k ≤ n
  · rw [sd_hs_nI th hk h1 h2] at h
    rw [h, Bool.false_and, Bool.and_false]
  · rw [decide_eq_false h2, Bool.false_and]
theorem sd_mk_t {n k : Nat} {th : Nat → Bool} {v f : Nat → FP} (h2 : k ≤ n) (ht : th k = true) (h : ¬ v k = sd_ev f (sd_N k)) : sd_mk n th v f k = true := by
  rw [sd_mk_in _ _ _ h2]
  unfold sd_ms
  rw [ht, decide_eq_true h, Bool.true_and]
theorem sd_mk_e {n k : Nat} {th : Nat → Bool} {v f : Nat → FP} (h : v k = sd_ev f (sd_N k)) : sd_mk n th v f k = false := by
  unfold sd_mk sd_ms
  rw [decide_eq_false (p := ¬ v k = sd_ev f (sd_N k)) (fun z => z h), Bool.and_false, Bool.and_false]
theorem sd_cpf (f g : Nat → FP) : va_cpy (fun j => sd_L (f j)) (fun j => sd_L (g j)) 0 0 9 = fun j => sd_L ((fun k => if k < 9 then f k else g k) j) := by
  funext j
  simp only [va_cpy]
  by_cases h : j < 9
  · rw [if_pos (by omega), if_pos h, Nat.zero_add, Nat.sub_zero]
  · rw [if_neg (by omega), if_neg h]
theorem w9_1 : Cond.methodLink RX0 30 arraycopyName ∈ bg := bg_2 137 rfl rfl
theorem w9_2 : Cond.static arraycopyName ∈ bg := bg_2 138 rfl rfl
theorem w9_3 : Cond.native arraycopyName ∈ bg := bg_2 139 rfl rfl

set_option maxHeartbeats 4000000 in
set_option maxRecDepth 100000 in
theorem k_X3_fill (l : Launch) (D : va_G) {ad : Nat → Nat} {tc : Nat → ClassId} {dg pl : Nat → Nat} {vl : Nat → Nat → FP} {th : Nat → Nat → Bool} {cu mx : Nat → Nat → FP} {us : Nat → Bool} {so : Nat → FP} {rr : Nat → Int32} {fw : Nat → Bool} {ff : Int32} (sz : Nat) (q cv : Nat) (hq : q < 8) (hcv : cv < 3) (hpl : pl q ≤ 16) : Met l yX3_fill (Cond.code yX3_fill cX3_fill 3 none :: bg) { frames := 2, cells := 0, slots := 0, locals := 60 } (sd_Wr D vwCl (ty5 tc) (dw ad tc dg pl vl th cu mx us so rr fw ff) sz [.ref (ad (14 + 3 * q)), .ref (ad (2 + 2 * cv))]) (va_Qv (S := (Nat → Nat → FP) × (Nat → Nat → Bool)) (fun u : (Nat → Nat → FP) × (Nat → Nat → Bool) => ∀ i j, u.1 i j = (if i = q ∧ 1 ≤ j ∧ j ≤ pl q then sd_ev (cu cv) (sd_N j) else vl i j) ∧ u.2 i j = (if i = q ∧ 1 ≤ j ∧ j ≤ pl q then true else th i j)) (sd_B D vwCl (ty5 tc) (va_A (dw ad tc dg pl vl th cu mx us so rr fw ff) sz) (fun u => dw ad tc dg pl u.1 u.2 cu mx us so rr fw ff)) (va_A (dw ad tc dg pl vl th cu mx us so rr fw ff) sz)) 0 0 (va_A (dw ad tc dg pl vl th cu mx us so rr fw ff) sz) := by
  refine Met.ofW (cc := cX3_fill) (maxL := 3) (ret := none) (by decide) rfl ?_
  intro p e s m args below meth c s₁ B hml hv
  obtain ⟨rfl, hsz, hP, hK, hD0⟩ := hv
  have hx := B.exec
  have hb := B.bytes
  have hr := B.returns
  have hts := atoms_spec (ws := Cond.code yX3_fill cX3_fill 3 none :: bg) B.pre
  have hown : s.vm.findClass RX3 = some m.cls := findClass_of_methodNamed B.named
  have hlocks := B.notSynchronized
  subst hsz
  have hD := hD0.self (sz := s.heap.size)
  generalize hAe : va_A (dw ad tc dg pl vl th cu mx us so rr fw ff) s.heap.size = A at hD ⊢
  have hA : ∀ q : Nat, s.heap.size ≤ q → A q := fun q h => by rw [← hAe]; exact Or.inr h
  have hS : va_S A s.heap s.heap [] := va_S.rf
  have hl := lv_entry ([.ref (ad (14 + 3 * q)), .ref (ad (2 + 2 * cv))]) (n := 3) (Nat.le_of_ble_eq_true rfl)
  rw [lg_entry_eq]
  generalize (lg_sl ([.ref (ad (14 + 3 * q)), .ref (ad (2 + 2 * cv))]) ++ List.replicate (3 - (lg_sl ([.ref (ad (14 + 3 * q)), .ref (ad (2 + 2 * cv))])).length) Slot.unset).toArray = ls at hl ⊢
  replace hl : lv_has ls 3 [(0, .ref (ad (14 + 3 * q))), (1, .ref (ad (2 + 2 * cv)))] := hl
  refine lv_iconst (v := nI 1) hx hb dX3_fill_0 (by decide) ?_
  refine lv_istore_n (lv' := [(2, .int (nI 1)), (0, .ref (ad (14 + 3 * q))), (1, .ref (ad (2 + 2 * cv)))]) hx hb dX3_fill_1 rfl hl (by decide) rfl (fun ls hl => ?_)
  obtain ⟨H, hH9⟩ : ∃ H : Heap, H = s.heap := ⟨_, rfl⟩
  obtain ⟨locs, hl9⟩ : ∃ x : List Loc, x = [] := ⟨_, rfl⟩
  rw [← hH9, ← hl9]
  have hS : va_S A s.heap H locs := by rw [hH9, hl9]; exact va_S.rf
  have hP : va_P D vwCl (dw ad tc dg pl vl th cu mx us so rr fw ff) H := by rw [hH9]; exact hP
  clear hH9 hl9
  obtain ⟨k, v1, t1, hk, hI, hP9, hD9, hl9⟩ : ∃ (k : Nat) (v1 : Nat → Nat → FP) (t1 : Nat → Nat → Bool), (1 ≤ k ∧ k ≤ pl q + 1) ∧ (∀ i j, v1 i j = (if i = q ∧ 1 ≤ j ∧ j < k then sd_ev (cu cv) (sd_N j) else vl i j) ∧ t1 i j = (if i = q ∧ 1 ≤ j ∧ j < k then true else th i j)) ∧ va_P D vwCl (dw ad tc dg pl v1 t1 cu mx us so rr fw ff) H ∧ va_D A (dw ad tc dg pl v1 t1 cu mx us so rr fw ff) ∧ lv_has ls 3 [(2, .int (nI k)), (0, .ref (ad (14 + 3 * q))), (1, .ref (ad (2 + 2 * cv)))] := ⟨1, vl, th, ⟨Nat.le_refl 1, by omega⟩, fun i j => ⟨by rw [if_neg (by omega)], by rw [if_neg (by omega)]⟩, hP, hD, (lv_sub hl [0, 1, 2] rfl)⟩
  replace hl := hl9
  clear hl9
  replace hP := hP9
  replace hD := hD9
  clear hP9 hD9
  obtain ⟨k9, hk9⟩ : ∃ k9 : Nat, pl q + 1 < k + k9 := ⟨pl q + 1, by omega⟩
  induction k9 generalizing k v1 t1 ls H locs with
  | zero => exact absurd hk9 (by omega)
  | succ k9 ih =>
    refine lv_iload_n hx hb dX3_fill_2 rfl (lv_at hl 0 rfl) ?_
    refine lv_aload_n hx hb dX3_fill_3 rfl (lv_at hl 1 rfl) ?_
    refine va_get (D := D) (ci := 3) (v := .int (nI (pl q))) (C := RX3) (T := TX3) (N := 4) hx hb hts (fun w h => mm (inX3 w h)) hown hK hP (14 + 3 * q) (dw_sp hq) rfl 3 (by decide) (hts _ (mm wf_X3_23)) (fun _ h9 => h9) rfl dX3_fill_4 ?_
    refine sd_icmp_gt (tgt := 27) hx hb (by omega) (by omega) dX3_fill_7 (by decide) (fun c1 => ?_) (fun c1 => ?_)
    · have ek : k = pl q + 1 := by omega
      have hI9 : ∀ i j, v1 i j = (if i = q ∧ 1 ≤ j ∧ j ≤ pl q then sd_ev (cu cv) (sd_N j) else vl i j) ∧ t1 i j = (if i = q ∧ 1 ≤ j ∧ j ≤ pl q then true else th i j) := by
        intro i j
        have z := hI i j
        rw [ek] at z
        simp only [Nat.lt_succ_iff] at z
        exact z
      exact W.vret hx hb hr (fun t ht hW => ⟨⟨(v1, t1), rfl, hI9, by rw [ht]; exact hP, va_K.moved hW.alike hK, hD⟩, hS.F ht⟩) hS.2.2 dX3_fill_27
    · refine lv_aload_n hx hb dX3_fill_10 rfl (lv_at hl 1 rfl) ?_
      refine lv_iload_n hx hb dX3_fill_11 rfl (lv_at hl 0 rfl) ?_
      refine lv_aload_n hx hb dX3_fill_12 rfl (lv_at hl 2 rfl) ?_
      refine lv_iload_n hx hb dX3_fill_13 rfl (lv_at hl 0 rfl) ?_
      refine lv_i2l (v := lN k) hx hb dX3_fill_14 (nI_l (by omega)) ?_
      refine sd_tol (y := sd_L (sd_N k)) ((sd_N_L (by omega)).symm) ?_
      refine sd_rl (va_runV (As := [.long (sd_L (sd_N k))]) (rest := [.int (nI k), .ref (ad (14 + 3 * q))]) ⟨hx, hb, hml, hown, hts⟩ (k_X0_valueAt l D cv (sd_N k) hcv) (sd_cwV hts wd_X0_valueAt wn_X0 wm_X3_30 wi_X0_valueAt ws_X0_valueAt nq_X0_valueAt rfl rfl ⟨Nat.le_of_ble_eq_true rfl, Nat.le_of_ble_eq_true rfl⟩) (sd_preVR hP hK (ci := 0) (q0 := (2 + 2 * cv)) rfl rfl (dw_curve hcv)) rfl rfl hl.1 rfl (lv_room (Nat.le_of_ble_eq_true rfl)) dX3_fill_15 ⟨Nat.zero_le _, Nat.zero_le _⟩) (fun r1 hr1 => ?_)
      subst hr1
      refine sd_wv (va_runV (As := [.int (nI k), .long (sd_L (sd_ev (cu cv) (sd_N k)))]) (rest := []) ⟨hx, hb, hml, hown, hts⟩ (k_X3_keep l D _ q k (sd_ev (cu cv) (sd_N k)) hq (by omega)) (sd_cwV hts wd_X3_keep wn_X3 wm_X3_36 wi_X3_keep ws_X3_keep nq_X3_keep rfl rfl ⟨Nat.le_of_ble_eq_true rfl, Nat.le_of_ble_eq_true rfl⟩) (sd_preVW hP hK hD (ci := 3) (q0 := (14 + 3 * q)) rfl rfl (dw_sp hq)) rfl rfl hl.1 rfl (lv_room (Nat.le_of_ble_eq_true rfl)) dX3_fill_18 ⟨Nat.zero_le _, Nat.zero_le _⟩) hD hS hA (fun u3 H locs hu3 hP hD hS => ?_)
      replace hP : va_P D vwCl (dw ad tc dg pl (sd_up v1 q (sd_up (v1 q) k (sd_ev (cu cv) (sd_N k)))) (sd_up t1 q (sd_up (t1 q) k true)) cu mx us so rr fw ff) H := hP
      replace hD : va_D A (dw ad tc dg pl (sd_up v1 q (sd_up (v1 q) k (sd_ev (cu cv) (sd_N k)))) (sd_up t1 q (sd_up (t1 q) k true)) cu mx us so rr fw ff) := hD
      refine lv_iinc (v := nI (k + 1)) (lv' := [(2, .int (nI (k + 1))), (0, .ref (ad (14 + 3 * q))), (1, .ref (ad (2 + 2 * cv)))]) hx hb dX3_fill_21 hl (k := 0) rfl (nI_1 _) (by decide) rfl (fun ls hl => ?_)
      refine lv_goto (tgt := 2) hx hb dX3_fill_24 (by decide) ?_
      have hI9 : ∀ i j, sd_up v1 q (sd_up (v1 q) k (sd_ev (cu cv) (sd_N k))) i j = (if i = q ∧ 1 ≤ j ∧ j < k + 1 then sd_ev (cu cv) (sd_N j) else vl i j) ∧ sd_up t1 q (sd_up (t1 q) k true) i j = (if i = q ∧ 1 ≤ j ∧ j < k + 1 then true else th i j) := by
        intro i j
        rw [sd_up2, sd_up2, (hI i j).1, (hI i j).2]
        by_cases e1 : i = q ∧ j = k
        · obtain ⟨rfl, rfl⟩ := e1
          exact ⟨by rw [if_pos ⟨rfl, rfl⟩, if_pos (by omega)], by rw [if_pos ⟨rfl, rfl⟩, if_pos (by omega)]⟩
        · rw [if_neg e1, if_neg e1]
          by_cases e2 : i = q ∧ 1 ≤ j ∧ j < k
          · exact ⟨by rw [if_pos e2, if_pos (by omega)], by rw [if_pos e2, if_pos (by omega)]⟩
          · exact ⟨by rw [if_neg e2, if_neg (by omega)], by rw [if_neg e2, if_neg (by omega)]⟩
      exact ih (k := k + 1) (v1 := sd_up v1 q (sd_up (v1 q) k (sd_ev (cu cv) (sd_N k)))) (t1 := sd_up t1 q (sd_up (t1 q) k true)) (hk := by omega) (hI := hI9) (H := H) (locs := locs) (hP := hP) (hD := hD) (hS := hS) (ls := ls) (hl := (lv_sub hl [0, 1, 2] rfl)) (hk9 := by omega)

set_option maxHeartbeats 4000000 in
set_option maxRecDepth 100000 in
theorem k_X3_countThere (l : Launch) (D : va_G) {ad : Nat → Nat} {tc : Nat → ClassId} {dg pl : Nat → Nat} {vl : Nat → Nat → FP} {th : Nat → Nat → Bool} {cu mx : Nat → Nat → FP} {us : Nat → Bool} {so : Nat → FP} {rr : Nat → Int32} {fw : Nat → Bool} {ff : Int32} (q : Nat) (hq : q < 8) (hpl : pl q ≤ 16) : Met l yX3_countThere (Cond.code yX3_countThere cX3_countThere 3 (some .int) :: bg) { frames := 0, cells := 0, slots := 0, locals := 0 } (sd_R D vwCl (ty5 tc) (dw ad tc dg pl vl th cu mx us so rr fw ff) [.ref (ad (14 + 3 * q))]) (vp_Si (fun r => r = nI (sd_cnt (th q) (pl q)))) 0 0 (fun _ => False) := by
  refine Met.ofW (cc := cX3_countThere) (maxL := 3) (ret := some .int) (by decide) rfl ?_
  intro p e s m args below meth c s₁ B hml hv
  obtain ⟨rfl, hP, hK⟩ := hv
  have hx := B.exec
  have hb := B.bytes
  have hr := B.returns
  have hts := atoms_spec (ws := Cond.code yX3_countThere cX3_countThere 3 (some .int) :: bg) B.pre
  have hown : s.vm.findClass RX3 = some m.cls := findClass_of_methodNamed B.named
  have hlocks := B.notSynchronized
  have hl := lv_entry ([.ref (ad (14 + 3 * q))]) (n := 3) (Nat.le_of_ble_eq_true rfl)
  rw [lg_entry_eq]
  generalize (lg_sl ([.ref (ad (14 + 3 * q))]) ++ List.replicate (3 - (lg_sl ([.ref (ad (14 + 3 * q))])).length) Slot.unset).toArray = ls at hl ⊢
  replace hl : lv_has ls 3 [(0, .ref (ad (14 + 3 * q)))] := hl
  refine lv_iconst (v := nI 0) hx hb dX3_countThere_0 (by decide) ?_
  refine lv_istore_n (lv' := [(1, .int (nI 0)), (0, .ref (ad (14 + 3 * q)))]) hx hb dX3_countThere_1 rfl hl (by decide) rfl (fun ls hl => ?_)
  refine lv_iconst (v := nI 1) hx hb dX3_countThere_2 (by decide) ?_
  refine lv_istore_n (lv' := [(2, .int (nI 1)), (1, .int (nI 0)), (0, .ref (ad (14 + 3 * q)))]) hx hb dX3_countThere_3 rfl hl (by decide) rfl (fun ls hl => ?_)
  obtain ⟨k, hk, hl9⟩ : ∃ (k : Nat), (1 ≤ k ∧ k ≤ pl q + 1) ∧ lv_has ls 3 [(2, .int (nI k)), (1, .int (nI (sd_cnt (th q) (k - 1)))), (0, .ref (ad (14 + 3 * q)))] := ⟨1, ⟨Nat.le_refl 1, by omega⟩, (lv_sub hl [0, 1, 2] rfl)⟩
  replace hl := hl9
  clear hl9
  obtain ⟨k9, hk9⟩ : ∃ k9 : Nat, pl q + 1 < k + k9 := ⟨pl q + 1, by omega⟩
  induction k9 generalizing k ls with
  | zero => exact absurd hk9 (by omega)
  | succ k9 ih =>
    refine lv_iload_n hx hb dX3_countThere_4 rfl (lv_at hl 0 rfl) ?_
    refine lv_aload_n hx hb dX3_countThere_5 rfl (lv_at hl 2 rfl) ?_
    refine va_get (D := D) (ci := 3) (v := .int (nI (pl q))) (C := RX3) (T := TX3) (N := 4) hx hb hts (fun w h => mm (inX3 w h)) hown hK hP (14 + 3 * q) (dw_sp hq) rfl 3 (by decide) (hts _ (mm wf_X3_23)) (fun _ h9 => h9) rfl dX3_countThere_6 ?_
    refine sd_icmp_gt (tgt := 30) hx hb (by omega) (by omega) dX3_countThere_9 (by decide) (fun c1 => ?_) (fun c1 => ?_)
    · refine lv_iload_n hx hb dX3_countThere_30 rfl (lv_at hl 1 rfl) ?_
      exact W.iret hx hb hr (fun t ht hW => ⟨_, rfl, by rw [show pl q = k - 1 by omega], ht⟩) (fun q h => nomatch h) dX3_countThere_31
    · have hc9 := sd_cnt_le (th q) (k - 1)
      obtain ⟨k, rfl⟩ : ∃ z, k = z + 1 := ⟨k - 1, by omega⟩
      rw [Nat.add_sub_cancel] at hl hc9
      refine lv_aload_n hx hb dX3_countThere_12 rfl (lv_at hl 2 rfl) ?_
      refine va_get (D := D) (ci := 3) (v := .ref (ad (16 + 3 * q))) (C := RX3) (T := TX3) (N := 4) hx hb hts (fun w h => mm (inX3 w h)) hown hK hP (14 + 3 * q) (dw_sp hq) rfl 1 (by decide) (hts _ (mm wf_X3_15)) (fun _ h9 => h9) rfl dX3_countThere_13 ?_
      refine lv_iload_n hx hb dX3_countThere_16 rfl (lv_at hl 0 rfl) ?_
      refine sd_zald hx hb hK hP (16 + 3 * q) 1 (dw_th hq) rfl (k := k + 1) (by omega) (by decide) dX3_countThere_17 ?_
      refine sd_if_eqB (tgt := 24) hx hb dX3_countThere_18 (by decide) (fun c2 => ?_) (fun c2 => ?_)
      · refine lv_iinc (v := nI (k + 1 + 1)) (lv' := [(2, .int (nI (k + 1 + 1))), (1, .int (nI (sd_cnt (th q) k))), (0, .ref (ad (14 + 3 * q)))]) hx hb dX3_countThere_24 hl (k := 0) rfl (nI_1 _) (by decide) rfl (fun ls hl => ?_)
        refine lv_goto (tgt := 4) hx hb dX3_countThere_27 (by decide) ?_
        exact ih (k := k + 1 + 1) (hk := by omega) (ls := ls) (hl := by rw [Nat.add_sub_cancel, sd_cnt_f c2]; exact (lv_sub hl [0, 1, 2] rfl)) (hk9 := by omega)
      · refine lv_iinc (v := nI (sd_cnt (th q) k + 1)) (lv' := [(1, .int (nI (sd_cnt (th q) k + 1))), (2, .int (nI (k + 1))), (0, .ref (ad (14 + 3 * q)))]) hx hb dX3_countThere_21 hl (k := 1) rfl (nI_1 _) (by decide) rfl (fun ls hl => ?_)
        refine lv_iinc (v := nI (k + 1 + 1)) (lv' := [(2, .int (nI (k + 1 + 1))), (1, .int (nI (sd_cnt (th q) k + 1))), (0, .ref (ad (14 + 3 * q)))]) hx hb dX3_countThere_24 hl (k := 1) rfl (nI_1 _) (by decide) rfl (fun ls hl => ?_)
        refine lv_goto (tgt := 4) hx hb dX3_countThere_27 (by decide) ?_
        exact ih (k := k + 1 + 1) (hk := by omega) (ls := ls) (hl := by rw [Nat.add_sub_cancel, sd_cnt_t c2]; exact (lv_sub hl [0, 1, 2] rfl)) (hk9 := by omega)

set_option maxHeartbeats 4000000 in
set_option maxRecDepth 100000 in
theorem k_X3_isMissedBy (l : Launch) (D : va_G) {ad : Nat → Nat} {tc : Nat → ClassId} {dg pl : Nat → Nat} {vl : Nat → Nat → FP} {th : Nat → Nat → Bool} {cu mx : Nat → Nat → FP} {us : Nat → Bool} {so : Nat → FP} {rr : Nat → Int32} {fw : Nat → Bool} {ff : Int32} (q cv k : Nat) (hq : q < 8) (hcv : cv < 3) (hpl : pl q ≤ 16) (hk1 : 1 ≤ k) (hk2 : k ≤ 16) : Met l yX3_isMissedBy (Cond.code yX3_isMissedBy cX3_isMissedBy 3 (some .boolean) :: bg) { frames := 2, cells := 0, slots := 0, locals := 60 } (sd_R D vwCl (ty5 tc) (dw ad tc dg pl vl th cu mx us so rr fw ff) [.ref (ad (14 + 3 * q)), .ref (ad (2 + 2 * cv)), .int (nI k)]) (vp_Si (fun r => r = bI (sd_mk (pl q) (th q) (vl q) (cu cv) k))) 0 0 (fun _ => False) := by
  refine Met.ofW (cc := cX3_isMissedBy) (maxL := 3) (ret := some .boolean) (by decide) rfl ?_
  intro p e s m args below meth c s₁ B hml hv
  obtain ⟨rfl, hP, hK⟩ := hv
  have hx := B.exec
  have hb := B.bytes
  have hr := B.returns
  have hts := atoms_spec (ws := Cond.code yX3_isMissedBy cX3_isMissedBy 3 (some .boolean) :: bg) B.pre
  have hown : s.vm.findClass RX3 = some m.cls := findClass_of_methodNamed B.named
  have hlocks := B.notSynchronized
  have hl := lv_entry ([.ref (ad (14 + 3 * q)), .ref (ad (2 + 2 * cv)), .int (nI k)]) (n := 3) (Nat.le_of_ble_eq_true rfl)
  rw [lg_entry_eq]
  generalize (lg_sl ([.ref (ad (14 + 3 * q)), .ref (ad (2 + 2 * cv)), .int (nI k)]) ++ List.replicate (3 - (lg_sl ([.ref (ad (14 + 3 * q)), .ref (ad (2 + 2 * cv)), .int (nI k)])).length) Slot.unset).toArray = ls at hl ⊢
  replace hl : lv_has ls 3 [(0, .ref (ad (14 + 3 * q))), (1, .ref (ad (2 + 2 * cv))), (2, .int (nI k))] := hl
  refine lv_aload_n hx hb dX3_isMissedBy_0 rfl (lv_at hl 0 rfl) ?_
  refine lv_iload_n hx hb dX3_isMissedBy_1 rfl (lv_at hl 2 rfl) ?_
  refine sd_ri (va_runV (As := [.int (nI k)]) (rest := []) ⟨hx, hb, hml, hown, hts⟩ (k_X3_hasShare l D q (nI k) hq hpl) (sd_cwV hts wd_X3_hasShare wn_X3 wm_X3_40 wi_X3_hasShare ws_X3_hasShare nq_X3_hasShare rfl rfl ⟨Nat.le_of_ble_eq_true rfl, Nat.le_of_ble_eq_true rfl⟩) (sd_preVR hP hK (ci := 3) (q0 := (14 + 3 * q)) rfl rfl (dw_sp hq)) rfl rfl hl.1 rfl (lv_room (Nat.le_of_ble_eq_true rfl)) dX3_isMissedBy_2 ⟨Nat.zero_le _, Nat.zero_le _⟩) (fun r1 hr1 => ?_)
  subst hr1
  refine sd_if_eqB (tgt := 28) hx hb dX3_isMissedBy_5 (by decide) (fun c1 => ?_) (fun c1 => ?_)
  · refine lv_iconst (v := nI 0) hx hb dX3_isMissedBy_28 (by decide) ?_
    exact W.zret hx hb hr rfl (fun t ht hW => ⟨_, rfl, by rw [sd_mk_f _ _ hk1 (by omega) c1]; rfl, ht⟩) (fun q h => nomatch h) dX3_isMissedBy_29
  · obtain ⟨j, hj1, hj2, hj3, hj4⟩ := sd_hs_of (by omega) c1
    have ej : k = j := (nI_eq (by omega) (by omega)).mp hj4
    subst ej
    refine lv_aload_n hx hb dX3_isMissedBy_8 rfl (lv_at hl 0 rfl) ?_
    refine va_get (D := D) (ci := 3) (v := .ref (ad (15 + 3 * q))) (C := RX3) (T := TX3) (N := 4) hx hb hts (fun w h => mm (inX3 w h)) hown hK hP (14 + 3 * q) (dw_sp hq) rfl 0 (by decide) (hts _ (mm wf_X3_9)) (fun _ h9 => h9) rfl dX3_isMissedBy_9 ?_
    refine lv_iload_n hx hb dX3_isMissedBy_12 rfl (lv_at hl 2 rfl) ?_
    refine sd_lald hx hb hK hP (15 + 3 * q) 0 (dw_vl hq) rfl (k := k) (by omega) (by decide) dX3_isMissedBy_13 ?_
    refine lv_aload_n hx hb dX3_isMissedBy_14 rfl (lv_at hl 1 rfl) ?_
    refine lv_iload_n hx hb dX3_isMissedBy_15 rfl (lv_at hl 2 rfl) ?_
    refine lv_i2l (v := lN k) hx hb dX3_isMissedBy_16 (nI_l (by omega)) ?_
    refine sd_tol (y := sd_L (sd_N k)) ((sd_N_L (by omega)).symm) ?_
    refine sd_rl (va_runV (As := [.long (sd_L (sd_N k))]) (rest := [.long (sd_L ((vl q) k))]) ⟨hx, hb, hml, hown, hts⟩ (k_X0_valueAt l D cv (sd_N k) hcv) (sd_cwV hts wd_X0_valueAt wn_X0 wm_X3_30 wi_X0_valueAt ws_X0_valueAt nq_X0_valueAt rfl rfl ⟨Nat.le_of_ble_eq_true rfl, Nat.le_of_ble_eq_true rfl⟩) (sd_preVR hP hK (ci := 0) (q0 := (2 + 2 * cv)) rfl rfl (dw_curve hcv)) rfl rfl hl.1 rfl (lv_room (Nat.le_of_ble_eq_true rfl)) dX3_isMissedBy_17 ⟨Nat.zero_le _, Nat.zero_le _⟩) (fun r2 hr2 => ?_)
    subst hr2
    refine W.lcmp hx hb dX3_isMissedBy_20 ?_
    refine lv_if_eq (tgt := 28) hx hb dX3_isMissedBy_21 (by decide) (fun c2 => ?_) (fun c2 => ?_)
    · have c2 : (sd_L ((vl q) k)) = (sd_L (sd_ev (cu cv) (sd_N k))) := (lg_cmp_eq _ _).mp c2
      refine lv_iconst (v := nI 0) hx hb dX3_isMissedBy_28 (by decide) ?_
      exact W.zret hx hb hr rfl (fun t ht hW => ⟨_, rfl, by rw [sd_mk_e (sd_L_inj c2)]; rfl, ht⟩) (fun q h => nomatch h) dX3_isMissedBy_29
    · have c2 : ¬ (sd_L ((vl q) k)) = (sd_L (sd_ev (cu cv) (sd_N k))) := fun q => c2 ((lg_cmp_eq _ _).mpr q)
      refine lv_iconst (v := nI 1) hx hb dX3_isMissedBy_24 (by decide) ?_
      refine lv_goto (tgt := 29) hx hb dX3_isMissedBy_25 (by decide) ?_
      exact W.zret hx hb hr rfl (fun t ht hW => ⟨_, rfl, by rw [sd_mk_t hj2 hj3 (fun z => c2 (by rw [z]))]; rfl, ht⟩) (fun q h => nomatch h) dX3_isMissedBy_29

set_option maxHeartbeats 4000000 in
set_option maxRecDepth 100000 in
theorem k_X3_countMissedBy (l : Launch) (D : va_G) {ad : Nat → Nat} {tc : Nat → ClassId} {dg pl : Nat → Nat} {vl : Nat → Nat → FP} {th : Nat → Nat → Bool} {cu mx : Nat → Nat → FP} {us : Nat → Bool} {so : Nat → FP} {rr : Nat → Int32} {fw : Nat → Bool} {ff : Int32} (q cv : Nat) (hq : q < 8) (hcv : cv < 3) (hpl : pl q ≤ 16) : Met l yX3_countMissedBy (Cond.code yX3_countMissedBy cX3_countMissedBy 4 (some .int) :: bg) { frames := 3, cells := 0, slots := 0, locals := 82 } (sd_R D vwCl (ty5 tc) (dw ad tc dg pl vl th cu mx us so rr fw ff) [.ref (ad (14 + 3 * q)), .ref (ad (2 + 2 * cv))]) (vp_Si (fun r => r = nI (sd_cnt (sd_ms (th q) (vl q) (cu cv)) (pl q)))) 0 0 (fun _ => False) := by
  refine Met.ofW (cc := cX3_countMissedBy) (maxL := 4) (ret := some .int) (by decide) rfl ?_
  intro p e s m args below meth c s₁ B hml hv
  obtain ⟨rfl, hP, hK⟩ := hv
  have hx := B.exec
  have hb := B.bytes
  have hr := B.returns
  have hts := atoms_spec (ws := Cond.code yX3_countMissedBy cX3_countMissedBy 4 (some .int) :: bg) B.pre
  have hown : s.vm.findClass RX3 = some m.cls := findClass_of_methodNamed B.named
  have hlocks := B.notSynchronized
  have hl := lv_entry ([.ref (ad (14 + 3 * q)), .ref (ad (2 + 2 * cv))]) (n := 4) (Nat.le_of_ble_eq_true rfl)
  rw [lg_entry_eq]
  generalize (lg_sl ([.ref (ad (14 + 3 * q)), .ref (ad (2 + 2 * cv))]) ++ List.replicate (4 - (lg_sl ([.ref (ad (14 + 3 * q)), .ref (ad (2 + 2 * cv))])).length) Slot.unset).toArray = ls at hl ⊢
  replace hl : lv_has ls 4 [(0, .ref (ad (14 + 3 * q))), (1, .ref (ad (2 + 2 * cv)))] := hl
  refine lv_iconst (v := nI 0) hx hb dX3_countMissedBy_0 (by decide) ?_
  refine lv_istore_n (lv' := [(2, .int (nI 0)), (0, .ref (ad (14 + 3 * q))), (1, .ref (ad (2 + 2 * cv)))]) hx hb dX3_countMissedBy_1 rfl hl (by decide) rfl (fun ls hl => ?_)
  refine lv_iconst (v := nI 1) hx hb dX3_countMissedBy_2 (by decide) ?_
  refine lv_istore_n (lv' := [(3, .int (nI 1)), (2, .int (nI 0)), (0, .ref (ad (14 + 3 * q))), (1, .ref (ad (2 + 2 * cv)))]) hx hb dX3_countMissedBy_3 rfl hl (by decide) rfl (fun ls hl => ?_)
  obtain ⟨k, hk, hl9⟩ : ∃ (k : Nat), (1 ≤ k ∧ k ≤ pl q + 1) ∧ lv_has ls 4 [(3, .int (nI k)), (2, .int (nI (sd_cnt (sd_ms (th q) (vl q) (cu cv)) (k - 1)))), (0, .ref (ad (14 + 3 * q))), (1, .ref (ad (2 + 2 * cv)))] := ⟨1, ⟨Nat.le_refl 1, by omega⟩, (lv_sub hl [0, 1, 2, 3] rfl)⟩
  replace hl := hl9
  clear hl9
  obtain ⟨k9, hk9⟩ : ∃ k9 : Nat, pl q + 1 < k + k9 := ⟨pl q + 1, by omega⟩
  induction k9 generalizing k ls with
  | zero => exact absurd hk9 (by omega)
  | succ k9 ih =>
    refine lv_iload_n hx hb dX3_countMissedBy_4 rfl (lv_at hl 0 rfl) ?_
    refine lv_aload_n hx hb dX3_countMissedBy_5 rfl (lv_at hl 2 rfl) ?_
    refine va_get (D := D) (ci := 3) (v := .int (nI (pl q))) (C := RX3) (T := TX3) (N := 4) hx hb hts (fun w h => mm (inX3 w h)) hown hK hP (14 + 3 * q) (dw_sp hq) rfl 3 (by decide) (hts _ (mm wf_X3_23)) (fun _ h9 => h9) rfl dX3_countMissedBy_6 ?_
    refine sd_icmp_gt (tgt := 30) hx hb (by omega) (by omega) dX3_countMissedBy_9 (by decide) (fun c1 => ?_) (fun c1 => ?_)
    · refine lv_iload_n hx hb dX3_countMissedBy_30 rfl (lv_at hl 1 rfl) ?_
      exact W.iret hx hb hr (fun t ht hW => ⟨_, rfl, by rw [show pl q = k - 1 by omega], ht⟩) (fun q h => nomatch h) dX3_countMissedBy_31
    · have hc9 := sd_cnt_le (sd_ms (th q) (vl q) (cu cv)) (k - 1)
      obtain ⟨k, rfl⟩ : ∃ z, k = z + 1 := ⟨k - 1, by omega⟩
      rw [Nat.add_sub_cancel] at hl hc9
      refine lv_aload_n hx hb dX3_countMissedBy_12 rfl (lv_at hl 2 rfl) ?_
      refine lv_aload_n hx hb dX3_countMissedBy_13 rfl (lv_at hl 3 rfl) ?_
      refine lv_iload_n hx hb dX3_countMissedBy_14 rfl (lv_at hl 0 rfl) ?_
      refine sd_ri (va_runV (As := [.ref (ad (2 + 2 * cv)), .int (nI (k + 1))]) (rest := []) ⟨hx, hb, hml, hown, hts⟩ (k_X3_isMissedBy l D q cv (k + 1) hq hcv hpl (by omega) (by omega)) (sd_cwV hts wd_X3_isMissedBy wn_X3 wm_X3_43 wi_X3_isMissedBy ws_X3_isMissedBy nq_X3_isMissedBy rfl rfl ⟨Nat.le_of_ble_eq_true rfl, Nat.le_of_ble_eq_true rfl⟩) (sd_preVR hP hK (ci := 3) (q0 := (14 + 3 * q)) rfl rfl (dw_sp hq)) rfl rfl hl.1 rfl (lv_room (Nat.le_of_ble_eq_true rfl)) dX3_countMissedBy_15 ⟨Nat.zero_le _, Nat.zero_le _⟩) (fun r1 hr1 => ?_)
      subst hr1
      refine sd_if_eqB (tgt := 24) hx hb dX3_countMissedBy_18 (by decide) (fun c2 => ?_) (fun c2 => ?_)
      · rw [sd_mk_in _ _ _ (by omega)] at c2
        refine lv_iinc (v := nI (k + 1 + 1)) (lv' := [(3, .int (nI (k + 1 + 1))), (2, .int (nI (sd_cnt (sd_ms (th q) (vl q) (cu cv)) k))), (0, .ref (ad (14 + 3 * q))), (1, .ref (ad (2 + 2 * cv)))]) hx hb dX3_countMissedBy_24 hl (k := 0) rfl (nI_1 _) (by decide) rfl (fun ls hl => ?_)
        refine lv_goto (tgt := 4) hx hb dX3_countMissedBy_27 (by decide) ?_
        exact ih (k := k + 1 + 1) (hk := by omega) (ls := ls) (hl := by rw [Nat.add_sub_cancel, sd_cnt_f c2]; exact (lv_sub hl [0, 1, 2, 3] rfl)) (hk9 := by omega)
      · rw [sd_mk_in _ _ _ (by omega)] at c2
        refine lv_iinc (v := nI (sd_cnt (sd_ms (th q) (vl q) (cu cv)) k + 1)) (lv' := [(2, .int (nI (sd_cnt (sd_ms (th q) (vl q) (cu cv)) k + 1))), (3, .int (nI (k + 1))), (0, .ref (ad (14 + 3 * q))), (1, .ref (ad (2 + 2 * cv)))]) hx hb dX3_countMissedBy_21 hl (k := 1) rfl (nI_1 _) (by decide) rfl (fun ls hl => ?_)
        refine lv_iinc (v := nI (k + 1 + 1)) (lv' := [(3, .int (nI (k + 1 + 1))), (2, .int (nI (sd_cnt (sd_ms (th q) (vl q) (cu cv)) k + 1))), (0, .ref (ad (14 + 3 * q))), (1, .ref (ad (2 + 2 * cv)))]) hx hb dX3_countMissedBy_24 hl (k := 1) rfl (nI_1 _) (by decide) rfl (fun ls hl => ?_)
        refine lv_goto (tgt := 4) hx hb dX3_countMissedBy_27 (by decide) ?_
        exact ih (k := k + 1 + 1) (hk := by omega) (ls := ls) (hl := by rw [Nat.add_sub_cancel, sd_cnt_t c2]; exact (lv_sub hl [0, 1, 2, 3] rfl)) (hk9 := by omega)

set_option maxHeartbeats 4000000 in
set_option maxRecDepth 100000 in
theorem k_X0_copyFrom (l : Launch) (D : va_G) {ad : Nat → Nat} {tc : Nat → ClassId} {dg pl : Nat → Nat} {vl : Nat → Nat → FP} {th : Nat → Nat → Bool} {cu mx : Nat → Nat → FP} {us : Nat → Bool} {so : Nat → FP} {rr : Nat → Int32} {fw : Nat → Bool} {ff : Int32} (sz : Nat) (ca cb : Nat) (hca : ca < 3) (hcb : cb < 3) : Met l yX0_copyFrom (Cond.code yX0_copyFrom cX0_copyFrom 2 none :: bg) { frames := 1, cells := 0, slots := 0, locals := 64 } (sd_Wr D vwCl (ty5 tc) (dw ad tc dg pl vl th cu mx us so rr fw ff) sz [.ref (ad (2 + 2 * ca)), .ref (ad (2 + 2 * cb))]) (va_Qv (S := Unit) (fun _ : Unit => True) (sd_B D vwCl (ty5 tc) (va_A (dw ad tc dg pl vl th cu mx us so rr fw ff) sz) (fun _ => dw ad tc dg pl vl th (sd_up cu ca (fun k => if k < 9 then cu cb k else cu ca k)) mx us so rr fw ff)) (va_A (dw ad tc dg pl vl th cu mx us so rr fw ff) sz)) 0 0 (va_A (dw ad tc dg pl vl th cu mx us so rr fw ff) sz) := by
  refine Met.ofW (cc := cX0_copyFrom) (maxL := 2) (ret := none) (by decide) rfl ?_
  intro p e s m args below meth c s₁ B hml hv
  obtain ⟨rfl, hsz, hP, hK, hD0⟩ := hv
  have hx := B.exec
  have hb := B.bytes
  have hr := B.returns
  have hts := atoms_spec (ws := Cond.code yX0_copyFrom cX0_copyFrom 2 none :: bg) B.pre
  have hown : s.vm.findClass RX0 = some m.cls := findClass_of_methodNamed B.named
  have hlocks := B.notSynchronized
  subst hsz
  have hD := hD0.self (sz := s.heap.size)
  generalize hAe : va_A (dw ad tc dg pl vl th cu mx us so rr fw ff) s.heap.size = A at hD ⊢
  have hA : ∀ q : Nat, s.heap.size ≤ q → A q := fun q h => by rw [← hAe]; exact Or.inr h
  have hS : va_S A s.heap s.heap [] := va_S.rf
  have hl := lv_entry ([.ref (ad (2 + 2 * ca)), .ref (ad (2 + 2 * cb))]) (n := 2) (Nat.le_of_ble_eq_true rfl)
  rw [lg_entry_eq]
  generalize (lg_sl ([.ref (ad (2 + 2 * ca)), .ref (ad (2 + 2 * cb))]) ++ List.replicate (2 - (lg_sl ([.ref (ad (2 + 2 * ca)), .ref (ad (2 + 2 * cb))])).length) Slot.unset).toArray = ls at hl ⊢
  replace hl : lv_has ls 2 [(0, .ref (ad (2 + 2 * ca))), (1, .ref (ad (2 + 2 * cb)))] := hl
  refine lv_aload_n hx hb dX0_copyFrom_0 rfl (lv_at hl 1 rfl) ?_
  refine va_get (D := D) (ci := 0) (v := .ref (ad (3 + 2 * cb))) (C := RX0) (T := TX0) (N := 1) hx hb hts (fun w h => mm (inX0 w h)) hown hK hP (2 + 2 * cb) (dw_curve hcb) rfl 0 (by decide) (hts _ (mm wf_X0_9)) (fun _ h9 => h9) rfl dX0_copyFrom_1 ?_
  refine lv_iconst (v := nI 0) hx hb dX0_copyFrom_4 (by decide) ?_
  refine lv_aload_n hx hb dX0_copyFrom_5 rfl (lv_at hl 0 rfl) ?_
  refine va_get (D := D) (ci := 0) (v := .ref (ad (3 + 2 * ca))) (C := RX0) (T := TX0) (N := 1) hx hb hts (fun w h => mm (inX0 w h)) hown hK hP (2 + 2 * ca) (dw_curve hca) rfl 0 (by decide) (hts _ (mm wf_X0_9)) (fun _ h9 => h9) rfl dX0_copyFrom_6 ?_
  refine lv_iconst (v := nI 0) hx hb dX0_copyFrom_9 (by decide) ?_
  refine lv_aload_n hx hb dX0_copyFrom_10 rfl (lv_at hl 0 rfl) ?_
  refine va_get (D := D) (ci := 0) (v := .ref (ad (3 + 2 * ca))) (C := RX0) (T := TX0) (N := 1) hx hb hts (fun w h => mm (inX0 w h)) hown hK hP (2 + 2 * ca) (dw_curve hca) rfl 0 (by decide) (hts _ (mm wf_X0_9)) (fun _ h9 => h9) rfl dX0_copyFrom_11 ?_
  refine va_alen (v := nI 9) hx hb hK hP (3 + 2 * ca) 0 (dw_parts hca) rfl rfl dX0_copyFrom_14 ?_
  refine va_copyl hx hb (by rw [hml]; exact hl.1.symm) hown (hts _ (mm w9_1)) (hts _ (mm w9_3)) (hts _ (mm w9_2)) (hts _ (mm wn_System)) hK hP hD hS (3 + 2 * cb) (3 + 2 * ca) 0 0 (dw_parts hcb) (dw_parts hca) rfl rfl rfl (by decide) (by decide) (by decide) (by decide) (by decide) (fun i _ => rfl) (Nat.le_of_ble_eq_true rfl) (by decide +kernel) dX0_copyFrom_15 (fun H locs hP hD hS => ?_)
  have ew : (dw ad tc dg pl vl th cu mx us so rr fw ff).set (3 + 2 * ca) (ad (3 + 2 * ca), .inl (tc 0, 9, .inr (.inl (va_cpy (fun j => sd_L (cu cb j)) (fun j => sd_L (cu ca j)) 0 0 9)))) = dw ad tc dg pl vl th (sd_up cu ca (fun k => if k < 9 then cu cb k else cu ca k)) mx us so rr fw ff := by rw [sd_cpf]; exact dws_parts hca _
  replace hP : va_P D vwCl (dw ad tc dg pl vl th (sd_up cu ca (fun k => if k < 9 then cu cb k else cu ca k)) mx us so rr fw ff) H := by rw [← ew]; exact hP
  replace hD : va_D A (dw ad tc dg pl vl th (sd_up cu ca (fun k => if k < 9 then cu cb k else cu ca k)) mx us so rr fw ff) := by rw [← ew]; exact hD
  exact W.vret hx hb hr (fun t ht hW => ⟨⟨(), rfl, trivial, by rw [ht]; exact hP, va_K.moved hW.alike hK, hD⟩, hS.F ht⟩) hS.2.2 dX0_copyFrom_18
end
section
/-! the finder: one equation, one row -/
set_option maxHeartbeats 4000000 in
set_option maxRecDepth 100000 in
theorem k_X1_sharesNeeded (l : Launch)  (t e1 : Nat)  : Met l yX1_sharesNeeded (Cond.code yX1_sharesNeeded cX1_sharesNeeded 2 (some .int) :: bg) { frames := 0, cells := 0, slots := 0, locals := 0 } (sd_N0 [.int (nI t), .int (nI e1)]) (vp_Si (fun r => r = nI (t + 1 + 2 * e1))) 0 0 (fun _ => False) := by
  refine Met.ofW (cc := cX1_sharesNeeded) (maxL := 2) (ret := some .int) (by decide) rfl ?_
  intro p e s m args below meth c s₁ B hml hv
  obtain ⟨rfl, -⟩ := hv
  have hx := B.exec
  have hb := B.bytes
  have hr := B.returns
  have hts := atoms_spec (ws := Cond.code yX1_sharesNeeded cX1_sharesNeeded 2 (some .int) :: bg) B.pre
  have hown : s.vm.findClass RX1 = some m.cls := findClass_of_methodNamed B.named
  have hlocks := B.notSynchronized
  have hl := lv_entry ([.int (nI t), .int (nI e1)]) (n := 2) (Nat.le_of_ble_eq_true rfl)
  rw [lg_entry_eq]
  generalize (lg_sl ([.int (nI t), .int (nI e1)]) ++ List.replicate (2 - (lg_sl ([.int (nI t), .int (nI e1)])).length) Slot.unset).toArray = ls at hl ⊢
  replace hl : lv_has ls 2 [(0, .int (nI t)), (1, .int (nI e1))] := hl
  refine lv_iload_n hx hb dX1_sharesNeeded_0 rfl (lv_at hl 0 rfl) ?_
  refine lv_iconst (v := nI 1) hx hb dX1_sharesNeeded_1 (by decide) ?_
  refine sd_iadd hx hb dX1_sharesNeeded_2 ?_
  refine lv_iconst (v := nI 2) hx hb dX1_sharesNeeded_3 (by decide) ?_
  refine lv_iload_n hx hb dX1_sharesNeeded_4 rfl (lv_at hl 1 rfl) ?_
  refine sd_imul hx hb dX1_sharesNeeded_5 ?_
  refine sd_iadd hx hb dX1_sharesNeeded_6 ?_
  exact W.iret hx hb hr (fun t ht hW => ⟨_, rfl, rfl, ht⟩) (fun q h => nomatch h) dX1_sharesNeeded_7

set_option maxHeartbeats 4000000 in
set_option maxRecDepth 100000 in
theorem k_X1_makeOne (l : Launch) (D : va_G) {ad : Nat → Nat} {tc : Nat → ClassId} {dg pl : Nat → Nat} {vl : Nat → Nat → FP} {th : Nat → Nat → Bool} {cu mx : Nat → Nat → FP} {us : Nat → Bool} {so : Nat → FP} {rr : Nat → Int32} {fw : Nat → Bool} {ff : Int32} (sz : Nat) (r ux nx : Nat) (hrr : r < 16) (hu : ux ≤ nx) (hn : nx ≤ 16) (h0 : mx r ux ≠ 0) : Met l yX1_makeOne (Cond.code yX1_makeOne cX1_makeOne 6 none :: bg) { frames := 3, cells := 0, slots := 0, locals := 82 } (sd_Wr D vwCl (ty5 tc) (dw ad tc dg pl vl th cu mx us so rr fw ff) sz [.ref (ad (38 + r)), .int (nI ux), .int (nI nx)]) (va_Qv (S := Nat → Nat → FP) (fun u : Nat → Nat → FP => ∃ s9 : FP, mx r ux * s9 = 1 ∧ ∀ i j, u i j = (if i = r ∧ ux ≤ j ∧ j ≤ nx then mx r j * s9 else mx i j)) (sd_B D vwCl (ty5 tc) (va_A (dw ad tc dg pl vl th cu mx us so rr fw ff) sz) (fun u => dw ad tc dg pl vl th cu u us so rr fw ff)) (va_A (dw ad tc dg pl vl th cu mx us so rr fw ff) sz)) 0 0 (va_A (dw ad tc dg pl vl th cu mx us so rr fw ff) sz) := by
  refine Met.ofW (cc := cX1_makeOne) (maxL := 6) (ret := none) (by decide) rfl ?_
  intro p e s m args below meth c s₁ B hml hv
  obtain ⟨rfl, hsz, hP, hK, hD0⟩ := hv
  have hx := B.exec
  have hb := B.bytes
  have hret := B.returns
  have hts := atoms_spec (ws := Cond.code yX1_makeOne cX1_makeOne 6 none :: bg) B.pre
  have hown : s.vm.findClass RX1 = some m.cls := findClass_of_methodNamed B.named
  have hlocks := B.notSynchronized
  subst hsz
  have hD := hD0.self (sz := s.heap.size)
  generalize hAe : va_A (dw ad tc dg pl vl th cu mx us so rr fw ff) s.heap.size = A at hD ⊢
  have hA : ∀ q : Nat, s.heap.size ≤ q → A q := fun q h => by rw [← hAe]; exact Or.inr h
  have hS : va_S A s.heap s.heap [] := va_S.rf
  have hl := lv_entry ([.ref (ad (38 + r)), .int (nI ux), .int (nI nx)]) (n := 6) (Nat.le_of_ble_eq_true rfl)
  rw [lg_entry_eq]
  generalize (lg_sl ([.ref (ad (38 + r)), .int (nI ux), .int (nI nx)]) ++ List.replicate (6 - (lg_sl ([.ref (ad (38 + r)), .int (nI ux), .int (nI nx)])).length) Slot.unset).toArray = ls at hl ⊢
  replace hl : lv_has ls 6 [(0, .ref (ad (38 + r))), (1, .int (nI ux)), (2, .int (nI nx))] := hl
  have hr := hrr
  refine lv_aload_n hx hb dX1_makeOne_0 rfl (lv_at hl 0 rfl) ?_
  refine lv_iload_n hx hb dX1_makeOne_1 rfl (lv_at hl 1 rfl) ?_
  refine sd_lald hx hb hK hP (38 + r) 0 (dw_mx hr) rfl (k := ux) (by omega) (by decide) dX1_makeOne_2 ?_
  refine sd_rl (va_runS (As := [.long (sd_L ((mx r) ux))]) (rest := []) ⟨hx, hb, hml, hown, hts⟩ (k_X2_inverse l (mx r ux) h0) (sd_cwS hts wd_X2_inverse wn_X2 wm_X1_91 wi_X2_inverse nq_X2_inverse rfl rfl ⟨Nat.le_of_ble_eq_true rfl, Nat.le_of_ble_eq_true rfl⟩) sd_preN rfl rfl hl.1 rfl (lv_room (Nat.le_of_ble_eq_true rfl)) dX1_makeOne_3 ⟨Nat.zero_le _, Nat.zero_le _⟩) (fun iv hiv => ?_)
  obtain ⟨s9, rfl, hs9⟩ := hiv
  refine lv_lstore_n (lv' := [(3, .long (sd_L s9)), (0, .ref (ad (38 + r))), (1, .int (nI ux)), (2, .int (nI nx))]) hx hb dX1_makeOne_6 rfl hl (by decide) rfl (fun ls hl => ?_)
  refine lv_iload_n hx hb dX1_makeOne_7 rfl (lv_at hl 2 rfl) ?_
  refine lv_istore (lv' := [(5, .int (nI ux)), (3, .long (sd_L s9)), (0, .ref (ad (38 + r))), (1, .int (nI ux)), (2, .int (nI nx))]) hx hb dX1_makeOne_8 hl (by decide) rfl (fun ls hl => ?_)
  obtain ⟨H, hH9⟩ : ∃ H : Heap, H = s.heap := ⟨_, rfl⟩
  obtain ⟨locs, hl9⟩ : ∃ x : List Loc, x = [] := ⟨_, rfl⟩
  rw [← hH9, ← hl9]
  have hS : va_S A s.heap H locs := by rw [hH9, hl9]; exact va_S.rf
  have hP : va_P D vwCl (dw ad tc dg pl vl th cu mx us so rr fw ff) H := by rw [hH9]; exact hP
  clear hH9 hl9
  obtain ⟨k, m1, hk, hI, hP9, hD9, hl9⟩ : ∃ (k : Nat) (m1 : Nat → Nat → FP), (ux ≤ k ∧ k ≤ nx + 1) ∧ (∀ i j, m1 i j = (if i = r ∧ ux ≤ j ∧ j < k then mx r j * s9 else mx i j)) ∧ va_P D vwCl (dw ad tc dg pl vl th cu m1 us so rr fw ff) H ∧ va_D A (dw ad tc dg pl vl th cu m1 us so rr fw ff) ∧ lv_has ls 6 [(5, .int (nI k)), (0, .ref (ad (38 + r))), (2, .int (nI nx)), (3, .long (sd_L s9))] := ⟨ux, mx, ⟨Nat.le_refl _, by omega⟩, fun i j => by rw [if_neg (by omega)], hP, hD, (lv_sub hl [0, 2, 4, 1] rfl)⟩
  replace hl := hl9
  clear hl9
  replace hP := hP9
  replace hD := hD9
  clear hP9 hD9
  obtain ⟨k9, hk9⟩ : ∃ k9 : Nat, nx + 1 < k + k9 := ⟨nx + 2, by omega⟩
  induction k9 generalizing k m1 ls H locs with
  | zero => exact absurd hk9 (by omega)
  | succ k9 ih =>
    refine lv_iload hx hb dX1_makeOne_10 (lv_at hl 0 rfl) ?_
    refine lv_iload_n hx hb dX1_makeOne_12 rfl (lv_at hl 2 rfl) ?_
    refine sd_icmp_gt (tgt := 34) hx hb (by omega) (by omega) dX1_makeOne_13 (by decide) (fun c1 => ?_) (fun c1 => ?_)
    · exact W.vret hx hb hret (fun t ht hW => ⟨⟨m1, rfl, ⟨s9, hs9, fun i j => by rw [hI i j, show k = nx + 1 by omega]; simp only [Nat.lt_succ_iff]⟩, by rw [ht]; exact hP, va_K.moved hW.alike hK, hD⟩, hS.F ht⟩) hS.2.2 dX1_makeOne_34
    · refine lv_aload_n hx hb dX1_makeOne_16 rfl (lv_at hl 1 rfl) ?_
      refine lv_iload hx hb dX1_makeOne_17 (lv_at hl 0 rfl) ?_
      refine lv_aload_n hx hb dX1_makeOne_19 rfl (lv_at hl 1 rfl) ?_
      refine lv_iload hx hb dX1_makeOne_20 (lv_at hl 0 rfl) ?_
      refine sd_lald hx hb hK hP (38 + r) 0 (dw_mx hr) rfl (k := k) (by omega) (by decide) dX1_makeOne_22 ?_
      refine lv_lload_n hx hb dX1_makeOne_23 rfl (lv_at hl 3 rfl) ?_
      refine sd_rl (va_runS (As := [.long (sd_L ((m1 r) k)), .long (sd_L s9)]) (rest := [.int (nI k), .ref (ad (38 + r))]) ⟨hx, hb, hml, hown, hts⟩ (k_X2_times l (m1 r k) s9) (sd_cwS hts wd_X2_times wn_X2 wm_X1_71 wi_X2_times nq_X2_times rfl rfl ⟨Nat.le_of_ble_eq_true rfl, Nat.le_of_ble_eq_true rfl⟩) sd_preN rfl rfl hl.1 rfl (lv_room (Nat.le_of_ble_eq_true rfl)) dX1_makeOne_24 ⟨Nat.zero_le _, Nat.zero_le _⟩) (fun r1 hr1 => ?_)
      subst hr1
      refine sd_last hx hb hK hP hD hS (38 + r) 0 (dw_mx hr) rfl (k := k) (by omega) (by decide) (ws2 := dw ad tc dg pl vl th cu (sd_up m1 r (sd_up (m1 r) k (m1 r k * s9))) us so rr fw ff) (by rw [sd_stL]; exact dws_mx hr _) dX1_makeOne_27 (fun H locs hP hD hS => ?_)
      refine lv_iinc (v := nI (k + 1)) (lv' := [(5, .int (nI (k + 1))), (0, .ref (ad (38 + r))), (2, .int (nI nx)), (3, .long (sd_L s9))]) hx hb dX1_makeOne_28 hl (k := 0) rfl (nI_1 _) (by decide) rfl (fun ls hl => ?_)
      refine lv_goto (tgt := 10) hx hb dX1_makeOne_31 (by decide) ?_
      have hI9 : ∀ i j, sd_up m1 r (sd_up (m1 r) k (m1 r k * s9)) i j = (if i = r ∧ ux ≤ j ∧ j < k + 1 then mx r j * s9 else mx i j) := by
        intro i j
        rw [sd_up2]
        by_cases e1 : i = r ∧ j = k
        · obtain ⟨rfl, rfl⟩ := e1
          rw [if_pos ⟨rfl, rfl⟩, if_pos (by omega), hI, if_neg (by omega)]
        · rw [if_neg e1, hI]
          by_cases e2 : i = r ∧ ux ≤ j ∧ j < k
          · rw [if_pos e2, if_pos (by omega)]
          · rw [if_neg e2, if_neg (by omega)]
      exact ih (k := k + 1) (m1 := sd_up m1 r (sd_up (m1 r) k (m1 r k * s9))) (hk := by omega) (hI := hI9) (H := H) (locs := locs) (hP := hP) (hD := hD) (hS := hS) (ls := ls) (hl := (lv_sub hl [0, 1, 2, 3] rfl)) (hk9 := by omega)

set_option maxHeartbeats 4000000 in
set_option maxRecDepth 100000 in
theorem k_X1_takeTimes (l : Launch) (D : va_G) {ad : Nat → Nat} {tc : Nat → ClassId} {dg pl : Nat → Nat} {vl : Nat → Nat → FP} {th : Nat → Nat → Bool} {cu mx : Nat → Nat → FP} {us : Nat → Bool} {so : Nat → FP} {rr : Nat → Int32} {fw : Nat → Bool} {ff : Int32} (sz : Nat) (r g ux nx : Nat) (hrr : r < 16) (hg : g < 16) (hrg : r ≠ g) (hu : ux ≤ nx) (hn : nx ≤ 16) : Met l yX1_takeTimes (Cond.code yX1_takeTimes cX1_takeTimes 7 none :: bg) { frames := 1, cells := 0, slots := 0, locals := 35 } (sd_Wr D vwCl (ty5 tc) (dw ad tc dg pl vl th cu mx us so rr fw ff) sz [.ref (ad (38 + r)), .ref (ad (38 + g)), .int (nI ux), .int (nI nx)]) (va_Qv (S := Nat → Nat → FP) (fun u : Nat → Nat → FP => ∀ i j, u i j = (if i = r ∧ ux ≤ j ∧ j ≤ nx then mx r j - mx r ux * mx g j else mx i j)) (sd_B D vwCl (ty5 tc) (va_A (dw ad tc dg pl vl th cu mx us so rr fw ff) sz) (fun u => dw ad tc dg pl vl th cu u us so rr fw ff)) (va_A (dw ad tc dg pl vl th cu mx us so rr fw ff) sz)) 0 0 (va_A (dw ad tc dg pl vl th cu mx us so rr fw ff) sz) := by
  refine Met.ofW (cc := cX1_takeTimes) (maxL := 7) (ret := none) (by decide) rfl ?_
  intro p e s m args below meth c s₁ B hml hv
  obtain ⟨rfl, hsz, hP, hK, hD0⟩ := hv
  have hx := B.exec
  have hb := B.bytes
  have hret := B.returns
  have hts := atoms_spec (ws := Cond.code yX1_takeTimes cX1_takeTimes 7 none :: bg) B.pre
  have hown : s.vm.findClass RX1 = some m.cls := findClass_of_methodNamed B.named
  have hlocks := B.notSynchronized
  subst hsz
  have hD := hD0.self (sz := s.heap.size)
  generalize hAe : va_A (dw ad tc dg pl vl th cu mx us so rr fw ff) s.heap.size = A at hD ⊢
  have hA : ∀ q : Nat, s.heap.size ≤ q → A q := fun q h => by rw [← hAe]; exact Or.inr h
  have hS : va_S A s.heap s.heap [] := va_S.rf
  have hl := lv_entry ([.ref (ad (38 + r)), .ref (ad (38 + g)), .int (nI ux), .int (nI nx)]) (n := 7) (Nat.le_of_ble_eq_true rfl)
  rw [lg_entry_eq]
  generalize (lg_sl ([.ref (ad (38 + r)), .ref (ad (38 + g)), .int (nI ux), .int (nI nx)]) ++ List.replicate (7 - (lg_sl ([.ref (ad (38 + r)), .ref (ad (38 + g)), .int (nI ux), .int (nI nx)])).length) Slot.unset).toArray = ls at hl ⊢
  replace hl : lv_has ls 7 [(0, .ref (ad (38 + r))), (1, .ref (ad (38 + g))), (2, .int (nI ux)), (3, .int (nI nx))] := hl
  have hr := hrr
  refine lv_aload_n hx hb dX1_takeTimes_0 rfl (lv_at hl 0 rfl) ?_
  refine lv_iload_n hx hb dX1_takeTimes_1 rfl (lv_at hl 2 rfl) ?_
  refine sd_lald hx hb hK hP (38 + r) 0 (dw_mx hr) rfl (k := ux) (by omega) (by decide) dX1_takeTimes_2 ?_
  refine lv_lstore (lv' := [(4, .long (sd_L ((mx r) ux))), (0, .ref (ad (38 + r))), (1, .ref (ad (38 + g))), (2, .int (nI ux)), (3, .int (nI nx))]) hx hb dX1_takeTimes_3 hl (by decide) rfl (fun ls hl => ?_)
  refine lv_iload_n hx hb dX1_takeTimes_5 rfl (lv_at hl 3 rfl) ?_
  refine lv_istore (lv' := [(6, .int (nI ux)), (4, .long (sd_L ((mx r) ux))), (0, .ref (ad (38 + r))), (1, .ref (ad (38 + g))), (2, .int (nI ux)), (3, .int (nI nx))]) hx hb dX1_takeTimes_6 hl (by decide) rfl (fun ls hl => ?_)
  obtain ⟨H, hH9⟩ : ∃ H : Heap, H = s.heap := ⟨_, rfl⟩
  obtain ⟨locs, hl9⟩ : ∃ x : List Loc, x = [] := ⟨_, rfl⟩
  rw [← hH9, ← hl9]
  have hS : va_S A s.heap H locs := by rw [hH9, hl9]; exact va_S.rf
  have hP : va_P D vwCl (dw ad tc dg pl vl th cu mx us so rr fw ff) H := by rw [hH9]; exact hP
  clear hH9 hl9
  obtain ⟨k, m1, hk, hI, hP9, hD9, hl9⟩ : ∃ (k : Nat) (m1 : Nat → Nat → FP), (ux ≤ k ∧ k ≤ nx + 1) ∧ (∀ i j, m1 i j = (if i = r ∧ ux ≤ j ∧ j < k then mx r j - mx r ux * mx g j else mx i j)) ∧ va_P D vwCl (dw ad tc dg pl vl th cu m1 us so rr fw ff) H ∧ va_D A (dw ad tc dg pl vl th cu m1 us so rr fw ff) ∧ lv_has ls 7 [(6, .int (nI k)), (0, .ref (ad (38 + r))), (1, .ref (ad (38 + g))), (3, .int (nI nx)), (4, .long (sd_L (mx r ux)))] := ⟨ux, mx, ⟨Nat.le_refl _, by omega⟩, fun i j => by rw [if_neg (by omega)], hP, hD, (lv_sub hl [0, 2, 3, 5, 1] rfl)⟩
  replace hl := hl9
  clear hl9
  replace hP := hP9
  replace hD := hD9
  clear hP9 hD9
  obtain ⟨k9, hk9⟩ : ∃ k9 : Nat, nx + 1 < k + k9 := ⟨nx + 2, by omega⟩
  induction k9 generalizing k m1 ls H locs with
  | zero => exact absurd hk9 (by omega)
  | succ k9 ih =>
    refine lv_iload hx hb dX1_takeTimes_8 (lv_at hl 0 rfl) ?_
    refine lv_iload_n hx hb dX1_takeTimes_10 rfl (lv_at hl 3 rfl) ?_
    refine sd_icmp_gt (tgt := 40) hx hb (by omega) (by omega) dX1_takeTimes_11 (by decide) (fun c1 => ?_) (fun c1 => ?_)
    · exact W.vret hx hb hret (fun t ht hW => ⟨⟨m1, rfl, fun i j => by rw [hI i j, show k = nx + 1 by omega]; simp only [Nat.lt_succ_iff], by rw [ht]; exact hP, va_K.moved hW.alike hK, hD⟩, hS.F ht⟩) hS.2.2 dX1_takeTimes_40
    · refine lv_aload_n hx hb dX1_takeTimes_14 rfl (lv_at hl 1 rfl) ?_
      refine lv_iload hx hb dX1_takeTimes_15 (lv_at hl 0 rfl) ?_
      refine lv_aload_n hx hb dX1_takeTimes_17 rfl (lv_at hl 1 rfl) ?_
      refine lv_iload hx hb dX1_takeTimes_18 (lv_at hl 0 rfl) ?_
      refine sd_lald hx hb hK hP (38 + r) 0 (dw_mx hr) rfl (k := k) (by omega) (by decide) dX1_takeTimes_20 ?_
      refine lv_lload hx hb dX1_takeTimes_21 (lv_at hl 4 rfl) ?_
      refine lv_aload_n hx hb dX1_takeTimes_23 rfl (lv_at hl 2 rfl) ?_
      refine lv_iload hx hb dX1_takeTimes_24 (lv_at hl 0 rfl) ?_
      refine sd_lald hx hb hK hP (38 + g) 0 (dw_mx hg) rfl (k := k) (by omega) (by decide) dX1_takeTimes_26 ?_
      refine sd_rl (va_runS (As := [.long (sd_L (mx r ux)), .long (sd_L ((m1 g) k))]) (rest := [.long (sd_L ((m1 r) k)), .int (nI k), .ref (ad (38 + r))]) ⟨hx, hb, hml, hown, hts⟩ (k_X2_times l (mx r ux) (m1 g k)) (sd_cwS hts wd_X2_times wn_X2 wm_X1_71 wi_X2_times nq_X2_times rfl rfl ⟨Nat.le_of_ble_eq_true rfl, Nat.le_of_ble_eq_true rfl⟩) sd_preN rfl rfl hl.1 rfl (lv_room (Nat.le_of_ble_eq_true rfl)) dX1_takeTimes_27 ⟨Nat.zero_le _, Nat.zero_le _⟩) (fun r1 hr1 => ?_)
      subst hr1
      refine sd_rl (va_runS (As := [.long (sd_L ((m1 r) k)), .long (sd_L (mx r ux * m1 g k))]) (rest := [.int (nI k), .ref (ad (38 + r))]) ⟨hx, hb, hml, hown, hts⟩ (k_X2_minus l (m1 r k) (mx r ux * m1 g k)) (sd_cwS hts wd_X2_minus wn_X2 wm_X1_77 wi_X2_minus nq_X2_minus rfl rfl ⟨Nat.le_of_ble_eq_true rfl, Nat.le_of_ble_eq_true rfl⟩) sd_preN rfl rfl hl.1 rfl (lv_room (Nat.le_of_ble_eq_true rfl)) dX1_takeTimes_30 ⟨Nat.zero_le _, Nat.zero_le _⟩) (fun r2 hr2 => ?_)
      subst hr2
      refine sd_last hx hb hK hP hD hS (38 + r) 0 (dw_mx hr) rfl (k := k) (by omega) (by decide) (ws2 := dw ad tc dg pl vl th cu (sd_up m1 r (sd_up (m1 r) k (m1 r k - mx r ux * m1 g k))) us so rr fw ff) (by rw [sd_stL]; exact dws_mx hr _) dX1_takeTimes_33 (fun H locs hP hD hS => ?_)
      refine lv_iinc (v := nI (k + 1)) (lv' := [(6, .int (nI (k + 1))), (0, .ref (ad (38 + r))), (1, .ref (ad (38 + g))), (3, .int (nI nx)), (4, .long (sd_L (mx r ux)))]) hx hb dX1_takeTimes_34 hl (k := 0) rfl (nI_1 _) (by decide) rfl (fun ls hl => ?_)
      refine lv_goto (tgt := 8) hx hb dX1_takeTimes_37 (by decide) ?_
      have hI9 : ∀ i j, sd_up m1 r (sd_up (m1 r) k (m1 r k - mx r ux * m1 g k)) i j = (if i = r ∧ ux ≤ j ∧ j < k + 1 then mx r j - mx r ux * mx g j else mx i j) := by
        intro i j
        rw [sd_up2]
        by_cases e1 : i = r ∧ j = k
        · obtain ⟨rfl, rfl⟩ := e1
          rw [if_pos ⟨rfl, rfl⟩, if_pos (by omega), hI, hI, if_neg (by omega), if_neg (by omega)]
        · rw [if_neg e1, hI]
          by_cases e2 : i = r ∧ ux ≤ j ∧ j < k
          · rw [if_pos e2, if_pos (by omega)]
          · rw [if_neg e2, if_neg (by omega)]
      exact ih (k := k + 1) (m1 := sd_up m1 r (sd_up (m1 r) k (m1 r k - mx r ux * m1 g k))) (hk := by omega) (hI := hI9) (H := H) (locs := locs) (hP := hP) (hD := hD) (hS := hS) (ls := ls) (hl := (lv_sub hl [0, 1, 2, 3, 4] rfl)) (hk9 := by omega)

set_option maxHeartbeats 4000000 in
set_option maxRecDepth 100000 in
theorem k_X1_unusedRowWith (l : Launch) (D : va_G) {ad : Nat → Nat} {tc : Nat → ClassId} {dg pl : Nat → Nat} {vl : Nat → Nat → FP} {th : Nat → Nat → Bool} {cu mx : Nat → Nat → FP} {us : Nat → Bool} {so : Nat → FP} {rr : Nat → Int32} {fw : Nat → Bool} {ff : Int32} (ux nx : Nat) (hu : ux < 17) (hn : nx ≤ 16) : Met l yX1_unusedRowWith (Cond.code yX1_unusedRowWith cX1_unusedRowWith 4 (some .int) :: bg) { frames := 0, cells := 0, slots := 0, locals := 0 } (sd_R D vwCl (ty5 tc) (dw ad tc dg pl vl th cu mx us so rr fw ff) [.ref (ad 8), .int (nI ux), .int (nI nx)]) (vp_Si (fun r => (r = -1 ∧ ∀ i, i < nx → us i = false → mx i ux = 0) ∨ ∃ i, i < nx ∧ r = nI i ∧ us i = false ∧ mx i ux ≠ 0)) 0 0 (fun _ => False) := by
  refine Met.ofW (cc := cX1_unusedRowWith) (maxL := 4) (ret := some .int) (by decide) rfl ?_
  intro p e s m args below meth c s₁ B hml hv
  obtain ⟨rfl, hP, hK⟩ := hv
  have hx := B.exec
  have hb := B.bytes
  have hr := B.returns
  have hts := atoms_spec (ws := Cond.code yX1_unusedRowWith cX1_unusedRowWith 4 (some .int) :: bg) B.pre
  have hown : s.vm.findClass RX1 = some m.cls := findClass_of_methodNamed B.named
  have hlocks := B.notSynchronized
  have hl := lv_entry ([.ref (ad 8), .int (nI ux), .int (nI nx)]) (n := 4) (Nat.le_of_ble_eq_true rfl)
  rw [lg_entry_eq]
  generalize (lg_sl ([.ref (ad 8), .int (nI ux), .int (nI nx)]) ++ List.replicate (4 - (lg_sl ([.ref (ad 8), .int (nI ux), .int (nI nx)])).length) Slot.unset).toArray = ls at hl ⊢
  replace hl : lv_has ls 4 [(0, .ref (ad 8)), (1, .int (nI ux)), (2, .int (nI nx))] := hl
  refine lv_iconst (v := nI 0) hx hb dX1_unusedRowWith_0 (by decide) ?_
  refine lv_istore_n (lv' := [(3, .int (nI 0)), (0, .ref (ad 8)), (1, .int (nI ux)), (2, .int (nI nx))]) hx hb dX1_unusedRowWith_1 rfl hl (by decide) rfl (fun ls hl => ?_)
  obtain ⟨k, hk, hI, hl9⟩ : ∃ (k : Nat), (k ≤ nx) ∧ (∀ i, i < k → us i = false → mx i ux = 0) ∧ lv_has ls 4 [(3, .int (nI k)), (0, .ref (ad 8)), (1, .int (nI ux)), (2, .int (nI nx))] := ⟨0, Nat.zero_le _, fun i hi => absurd hi (Nat.not_lt_zero i), (lv_sub hl [0, 1, 2, 3] rfl)⟩
  replace hl := hl9
  clear hl9
  obtain ⟨k9, hk9⟩ : ∃ k9 : Nat, nx < k + k9 := ⟨nx + 1, by omega⟩
  induction k9 generalizing k ls with
  | zero => exact absurd hk9 (by omega)
  | succ k9 ih =>
    refine lv_iload_n hx hb dX1_unusedRowWith_2 rfl (lv_at hl 0 rfl) ?_
    refine lv_iload_n hx hb dX1_unusedRowWith_3 rfl (lv_at hl 3 rfl) ?_
    refine sd_icmp_ge (tgt := 37) hx hb (by omega) (by omega) dX1_unusedRowWith_4 (by decide) (fun c1 => ?_) (fun c1 => ?_)
    · refine lv_iconst (v := -1) hx hb dX1_unusedRowWith_37 (by decide) ?_
      exact W.iret hx hb hr (fun t ht hW => ⟨_, rfl, Or.inl ⟨rfl, fun i hi => hI i (by omega)⟩, ht⟩) (fun q h => nomatch h) dX1_unusedRowWith_38
    · refine lv_aload_n hx hb dX1_unusedRowWith_7 rfl (lv_at hl 1 rfl) ?_
      refine va_get (D := D) (ci := 1) (v := .ref (ad 10)) (C := RX1) (T := TX1) (N := 5) hx hb hts (fun w h => mm (inX1 w h)) hown hK hP 8 dw_finder rfl 2 (by decide) (hts _ (mm wf_X1_23)) (fun _ h9 => h9) rfl dX1_unusedRowWith_8 ?_
      refine lv_iload_n hx hb dX1_unusedRowWith_11 rfl (lv_at hl 0 rfl) ?_
      refine sd_zald hx hb hK hP 10 1 dw_used rfl (k := k) (by omega) (by decide) dX1_unusedRowWith_12 ?_
      refine sd_if_neB (tgt := 31) hx hb dX1_unusedRowWith_13 (by decide) (fun c2 => ?_) (fun c2 => ?_)
      · refine lv_iinc (v := nI (k + 1)) (lv' := [(3, .int (nI (k + 1))), (0, .ref (ad 8)), (1, .int (nI ux)), (2, .int (nI nx))]) hx hb dX1_unusedRowWith_31 hl (k := 0) rfl (nI_1 _) (by decide) rfl (fun ls hl => ?_)
        refine lv_goto (tgt := 2) hx hb dX1_unusedRowWith_34 (by decide) ?_
        exact ih (k := k + 1) (hk := by omega) (hI := fun i hi hz => (Nat.lt_or_ge i k).elim (fun q => hI i q hz) (fun q => absurd hz (by rw [show i = k by omega, c2]; decide))) (ls := ls) (hl := (lv_sub hl [0, 1, 2, 3] rfl)) (hk9 := by omega)
      · have hk16 : k < 16 := by omega
        refine lv_aload_n hx hb dX1_unusedRowWith_16 rfl (lv_at hl 1 rfl) ?_
        refine va_get (D := D) (ci := 1) (v := .ref (ad 9)) (C := RX1) (T := TX1) (N := 5) hx hb hts (fun w h => mm (inX1 w h)) hown hK hP 8 dw_finder rfl 1 (by decide) (hts _ (mm wf_X1_20)) (fun _ h9 => h9) rfl dX1_unusedRowWith_17 ?_
        refine lv_iload_n hx hb dX1_unusedRowWith_20 rfl (lv_at hl 0 rfl) ?_
        refine sd_aldA hx hb hK hP 9 4 dw_rows rfl (k := k) (by omega) (by decide) rfl dX1_unusedRowWith_21 ?_
        have hk2 := hk
        clear hk
        have hk : k < 16 := by omega
        refine lv_iload_n hx hb dX1_unusedRowWith_22 rfl (lv_at hl 2 rfl) ?_
        refine sd_lald hx hb hK hP (38 + k) 0 (dw_mx hk) rfl (k := ux) (by omega) (by decide) dX1_unusedRowWith_23 ?_
        refine lv_lconst (v := 0) hx hb dX1_unusedRowWith_24 (by decide) ?_
        refine W.lcmp hx hb dX1_unusedRowWith_25 ?_
        refine lv_if_eq (tgt := 31) hx hb dX1_unusedRowWith_26 (by decide) (fun c3 => ?_) (fun c3 => ?_)
        · have c3 : (sd_L ((mx k) ux)) = 0 := (lg_cmp_eq _ _).mp c3
          refine lv_iinc (v := nI (k + 1)) (lv' := [(3, .int (nI (k + 1))), (0, .ref (ad 8)), (1, .int (nI ux)), (2, .int (nI nx))]) hx hb dX1_unusedRowWith_31 hl (k := 0) rfl (nI_1 _) (by decide) rfl (fun ls hl => ?_)
          refine lv_goto (tgt := 2) hx hb dX1_unusedRowWith_34 (by decide) ?_
          exact ih (k := k + 1) (hk := by omega) (hI := fun i hi hz => (Nat.lt_or_ge i k).elim (fun q => hI i q hz) (fun q => by rw [show i = k by omega]; exact sd_L_inj (c3.trans sd_L_0.symm))) (ls := ls) (hl := (lv_sub hl [0, 1, 2, 3] rfl)) (hk9 := by omega)
        · have c3 : ¬ (sd_L ((mx k) ux)) = 0 := fun q => c3 ((lg_cmp_eq _ _).mpr q)
          refine lv_iload_n hx hb dX1_unusedRowWith_29 rfl (lv_at hl 0 rfl) ?_
          exact W.iret hx hb hr (fun t ht hW => ⟨_, rfl, Or.inr ⟨k, by omega, rfl, c2, fun z => c3 (by rw [z]; exact sd_L_0)⟩, ht⟩) (fun q h => nomatch h) dX1_unusedRowWith_30
end
section
/-! the finder: the equations -/
theorem sd_row_a {t e k : Nat} (x y : FP) (h : k < t + e + 1) : sd_row t e x y k = sd_pow x k := by rw [sd_row, if_pos h]
theorem sd_row_b {t e k : Nat} (x y : FP) (h : k < e) : sd_row t e x y (t + e + 1 + k) = 0 - y * sd_pow x k := by rw [sd_row, if_neg (by omega), if_pos (by omega), Nat.add_sub_cancel_left]

set_option maxHeartbeats 4000000 in
set_option maxRecDepth 100000 in
theorem k_X1_writeEquation (l : Launch) (D : va_G) {ad : Nat → Nat} {tc : Nat → ClassId} {dg pl : Nat → Nat} {vl : Nat → Nat → FP} {th : Nat → Nat → Bool} {cu mx : Nat → Nat → FP} {us : Nat → Bool} {so : Nat → FP} {rr : Nat → Int32} {fw : Nat → Bool} {ff : Int32} (sz : Nat) (r pp : Nat) (v : FP) (t e1 : Nat) (hrr : r < 16) (hp : pp ≤ 16) (hn : t + e1 + 1 + e1 ≤ 16) : Met l yX1_writeEquation (Cond.code yX1_writeEquation cX1_writeEquation 9 none :: bg) { frames := 1, cells := 0, slots := 0, locals := 35 } (sd_Wr D vwCl (ty5 tc) (dw ad tc dg pl vl th cu mx us so rr fw ff) sz [.ref (ad (38 + r)), .int (nI pp), .long (sd_L v), .int (nI (t + e1)), .int (nI e1)]) (va_Qv (S := Nat → Nat → FP) (fun u : Nat → Nat → FP => ∀ i j, u i j = (if i = r ∧ j ≤ t + e1 + 1 + e1 then sd_row t e1 (sd_N pp) v j else mx i j)) (sd_B D vwCl (ty5 tc) (va_A (dw ad tc dg pl vl th cu mx us so rr fw ff) sz) (fun u => dw ad tc dg pl vl th cu u us so rr fw ff)) (va_A (dw ad tc dg pl vl th cu mx us so rr fw ff) sz)) 0 0 (va_A (dw ad tc dg pl vl th cu mx us so rr fw ff) sz) := by
  refine Met.ofW (cc := cX1_writeEquation) (maxL := 9) (ret := none) (by decide) rfl ?_
  intro p e s m args below meth c s₁ B hml hv
  obtain ⟨rfl, hsz, hP, hK, hD0⟩ := hv
  have hx := B.exec
  have hb := B.bytes
  have hret := B.returns
  have hts := atoms_spec (ws := Cond.code yX1_writeEquation cX1_writeEquation 9 none :: bg) B.pre
  have hown : s.vm.findClass RX1 = some m.cls := findClass_of_methodNamed B.named
  have hlocks := B.notSynchronized
  subst hsz
  have hD := hD0.self (sz := s.heap.size)
  generalize hAe : va_A (dw ad tc dg pl vl th cu mx us so rr fw ff) s.heap.size = A at hD ⊢
  have hA : ∀ q : Nat, s.heap.size ≤ q → A q := fun q h => by rw [← hAe]; exact Or.inr h
  have hS : va_S A s.heap s.heap [] := va_S.rf
  have hl := lv_entry ([.ref (ad (38 + r)), .int (nI pp), .long (sd_L v), .int (nI (t + e1)), .int (nI e1)]) (n := 9) (Nat.le_of_ble_eq_true rfl)
  rw [lg_entry_eq]
  generalize (lg_sl ([.ref (ad (38 + r)), .int (nI pp), .long (sd_L v), .int (nI (t + e1)), .int (nI e1)]) ++ List.replicate (9 - (lg_sl ([.ref (ad (38 + r)), .int (nI pp), .long (sd_L v), .int (nI (t + e1)), .int (nI e1)])).length) Slot.unset).toArray = ls at hl ⊢
  replace hl : lv_has ls 9 [(0, .ref (ad (38 + r))), (1, .int (nI pp)), (2, .long (sd_L v)), (4, .int (nI (t + e1))), (5, .int (nI e1))] := hl
  have hr := hrr
  refine lv_lconst (v := 1) hx hb dX1_writeEquation_0 (by decide) ?_
  refine sd_tol (y := sd_L (sd_pow (sd_N pp) 0)) (by rw [sd_pow_0]; exact sd_L_1.symm) ?_
  refine lv_lstore (lv' := [(6, .long (sd_L (sd_pow (sd_N pp) 0))), (0, .ref (ad (38 + r))), (1, .int (nI pp)), (2, .long (sd_L v)), (4, .int (nI (t + e1))), (5, .int (nI e1))]) hx hb dX1_writeEquation_1 hl (by decide) rfl (fun ls hl => ?_)
  refine lv_iconst (v := nI 0) hx hb dX1_writeEquation_3 (by decide) ?_
  refine lv_istore (lv' := [(8, .int (nI 0)), (6, .long (sd_L (sd_pow (sd_N pp) 0))), (0, .ref (ad (38 + r))), (1, .int (nI pp)), (2, .long (sd_L v)), (4, .int (nI (t + e1))), (5, .int (nI e1))]) hx hb dX1_writeEquation_4 hl (by decide) rfl (fun ls hl => ?_)
  obtain ⟨H, hH9⟩ : ∃ H : Heap, H = s.heap := ⟨_, rfl⟩
  obtain ⟨locs, hl9⟩ : ∃ x : List Loc, x = [] := ⟨_, rfl⟩
  rw [← hH9, ← hl9]
  have hS : va_S A s.heap H locs := by rw [hH9, hl9]; exact va_S.rf
  have hP : va_P D vwCl (dw ad tc dg pl vl th cu mx us so rr fw ff) H := by rw [hH9]; exact hP
  clear hH9 hl9
  obtain ⟨k, m1, hk, hI, hP9, hD9, hl9⟩ : ∃ (k : Nat) (m1 : Nat → Nat → FP), (k ≤ t + e1 + 1) ∧ (∀ i j, m1 i j = (if i = r ∧ (j < k ∨ (t + e1 + 1 ≤ j ∧ j < t + e1 + 1 + e1 ∧ j < t + e1 + 1 + k) ∨ (j = t + e1 + 1 + e1 ∧ e1 < k)) then sd_row t e1 (sd_N pp) v j else mx i j)) ∧ va_P D vwCl (dw ad tc dg pl vl th cu m1 us so rr fw ff) H ∧ va_D A (dw ad tc dg pl vl th cu m1 us so rr fw ff) ∧ lv_has ls 9 [(8, .int (nI k)), (6, .long (sd_L (sd_pow (sd_N pp) k))), (0, .ref (ad (38 + r))), (1, .int (nI pp)), (2, .long (sd_L v)), (4, .int (nI (t + e1))), (5, .int (nI e1))] := ⟨0, mx, Nat.zero_le _, fun i j => by rw [if_neg (by omega)], hP, hD, (lv_sub hl [0, 1, 2, 3, 4, 5, 6] rfl)⟩
  replace hl := hl9
  clear hl9
  replace hP := hP9
  replace hD := hD9
  clear hP9 hD9
  obtain ⟨k9, hk9⟩ : ∃ k9 : Nat, t + e1 + 1 < k + k9 := ⟨t + e1 + 2, by omega⟩
  induction k9 generalizing k m1 ls H locs with
  | zero => exact absurd hk9 (by omega)
  | succ k9 ih =>
    refine lv_iload hx hb dX1_writeEquation_6 (lv_at hl 0 rfl) ?_
    refine lv_iload hx hb dX1_writeEquation_8 (lv_at hl 5 rfl) ?_
    refine sd_icmp_gt (tgt := 85) hx hb (by omega) (by omega) dX1_writeEquation_10 (by decide) (fun c1 => ?_) (fun c1 => ?_)
    · have hI9 : ∀ i j, m1 i j = (if i = r ∧ j ≤ t + e1 + 1 + e1 then sd_row t e1 (sd_N pp) v j else mx i j) := by
        intro i j
        rw [hI]
        by_cases a1 : i = r ∧ j ≤ t + e1 + 1 + e1
        · rw [if_pos a1, if_pos (by omega)]
        · rw [if_neg a1, if_neg (by omega)]
      exact W.vret hx hb hret (fun t ht hW => ⟨⟨m1, rfl, hI9, by rw [ht]; exact hP, va_K.moved hW.alike hK, hD⟩, hS.F ht⟩) hS.2.2 dX1_writeEquation_85
    · refine lv_aload_n hx hb dX1_writeEquation_13 rfl (lv_at hl 2 rfl) ?_
      refine lv_iload hx hb dX1_writeEquation_14 (lv_at hl 0 rfl) ?_
      refine lv_lload hx hb dX1_writeEquation_16 (lv_at hl 1 rfl) ?_
      refine sd_last hx hb hK hP hD hS (38 + r) 0 (dw_mx hr) rfl (k := k) (by omega) (by decide) (ws2 := dw ad tc dg pl vl th cu (sd_up m1 r (sd_up (m1 r) k (sd_pow (sd_N pp) k))) us so rr fw ff) (by rw [sd_stL]; exact dws_mx hr _) dX1_writeEquation_18 (fun H locs hP hD hS => ?_)
      refine lv_iload hx hb dX1_writeEquation_19 (lv_at hl 0 rfl) ?_
      refine lv_iload hx hb dX1_writeEquation_21 (lv_at hl 6 rfl) ?_
      refine sd_icmp_ge (tgt := 48) hx hb (by omega) (by omega) dX1_writeEquation_23 (by decide) (fun c2 => ?_) (fun c2 => ?_)
      · refine lv_iload hx hb dX1_writeEquation_48 (lv_at hl 0 rfl) ?_
        refine lv_iload hx hb dX1_writeEquation_50 (lv_at hl 6 rfl) ?_
        refine sd_icmp_ne (tgt := 70) hx hb (by omega) (by omega) dX1_writeEquation_52 (by decide) (fun c3 => ?_) (fun c3 => ?_)
        · refine lv_lload hx hb dX1_writeEquation_70 (lv_at hl 1 rfl) ?_
          refine lv_iload_n hx hb dX1_writeEquation_72 rfl (lv_at hl 3 rfl) ?_
          refine lv_i2l (v := lN pp) hx hb dX1_writeEquation_73 (nI_l (by omega)) ?_
          refine sd_tol (y := sd_L (sd_N pp)) ((sd_N_L (by omega)).symm) ?_
          refine sd_rl (va_runS (As := [.long (sd_L (sd_pow (sd_N pp) k)), .long (sd_L (sd_N pp))]) (rest := []) ⟨hx, hb, hml, hown, hts⟩ (k_X2_times l (sd_pow (sd_N pp) k) (sd_N pp)) (sd_cwS hts wd_X2_times wn_X2 wm_X1_71 wi_X2_times nq_X2_times rfl rfl ⟨Nat.le_of_ble_eq_true rfl, Nat.le_of_ble_eq_true rfl⟩) sd_preN rfl rfl hl.1 rfl (lv_room (Nat.le_of_ble_eq_true rfl)) dX1_writeEquation_74 ⟨Nat.zero_le _, Nat.zero_le _⟩) (fun r1 hr1 => ?_)
          subst hr1
          refine sd_tol (y := sd_L (sd_pow (sd_N pp) (k + 1))) (by rw [sd_pow_s]) ?_
          refine lv_lstore (lv' := [(6, .long (sd_L (sd_pow (sd_N pp) (k + 1)))), (8, .int (nI k)), (0, .ref (ad (38 + r))), (1, .int (nI pp)), (2, .long (sd_L v)), (4, .int (nI (t + e1))), (5, .int (nI e1))]) hx hb dX1_writeEquation_77 hl (by decide) rfl (fun ls hl => ?_)
          refine lv_iinc (v := nI (k + 1)) (lv' := [(8, .int (nI (k + 1))), (6, .long (sd_L (sd_pow (sd_N pp) (k + 1)))), (0, .ref (ad (38 + r))), (1, .int (nI pp)), (2, .long (sd_L v)), (4, .int (nI (t + e1))), (5, .int (nI e1))]) hx hb dX1_writeEquation_79 hl (k := 1) rfl (nI_1 _) (by decide) rfl (fun ls hl => ?_)
          refine lv_goto (tgt := 6) hx hb dX1_writeEquation_82 (by decide) ?_
          have hI9 : ∀ i j, (sd_up m1 r (sd_up (m1 r) k (sd_pow (sd_N pp) k))) i j = (if i = r ∧ (j < (k + 1) ∨ (t + e1 + 1 ≤ j ∧ j < t + e1 + 1 + e1 ∧ j < t + e1 + 1 + (k + 1)) ∨ (j = t + e1 + 1 + e1 ∧ e1 < (k + 1))) then sd_row t e1 (sd_N pp) v j else mx i j) := by
            intro i j
            rw [sd_up2, hI]
            by_cases a2 : i = r ∧ j = k
            · obtain ⟨rfl, rfl⟩ := a2
              rw [if_pos ⟨rfl, rfl⟩, if_pos ⟨rfl, by omega⟩, sd_row_a _ _ (by omega)]
            · rw [if_neg a2]
              by_cases a3 : i = r ∧ (j < k ∨ (t + e1 + 1 ≤ j ∧ j < t + e1 + 1 + e1 ∧ j < t + e1 + 1 + k) ∨ (j = t + e1 + 1 + e1 ∧ e1 < k))
              · rw [if_pos a3, if_pos ⟨a3.1, by omega⟩]
              · rw [if_neg a3, if_neg (by omega)]
          exact ih (k := k + 1) (m1 := sd_up m1 r (sd_up (m1 r) k (sd_pow (sd_N pp) k))) (hk := by omega) (hI := hI9) (H := H) (locs := locs) (hP := hP) (hD := hD) (hS := hS) (ls := ls) (hl := (lv_sub hl [0, 1, 2, 3, 4, 5, 6] rfl)) (hk9 := by omega)
        · refine lv_aload_n hx hb dX1_writeEquation_55 rfl (lv_at hl 2 rfl) ?_
          refine lv_iload hx hb dX1_writeEquation_56 (lv_at hl 5 rfl) ?_
          refine lv_iconst (v := nI 1) hx hb dX1_writeEquation_58 (by decide) ?_
          refine sd_iadd hx hb dX1_writeEquation_59 ?_
          refine lv_iload hx hb dX1_writeEquation_60 (lv_at hl 6 rfl) ?_
          refine sd_iadd hx hb dX1_writeEquation_62 ?_
          refine lv_lload_n hx hb dX1_writeEquation_63 rfl (lv_at hl 4 rfl) ?_
          refine lv_lload hx hb dX1_writeEquation_64 (lv_at hl 1 rfl) ?_
          refine sd_rl (va_runS (As := [.long (sd_L v), .long (sd_L (sd_pow (sd_N pp) k))]) (rest := [.int (nI (((t + e1) + 1) + e1)), .ref (ad (38 + r))]) ⟨hx, hb, hml, hown, hts⟩ (k_X2_times l v (sd_pow (sd_N pp) k)) (sd_cwS hts wd_X2_times wn_X2 wm_X1_71 wi_X2_times nq_X2_times rfl rfl ⟨Nat.le_of_ble_eq_true rfl, Nat.le_of_ble_eq_true rfl⟩) sd_preN rfl rfl hl.1 rfl (lv_room (Nat.le_of_ble_eq_true rfl)) dX1_writeEquation_66 ⟨Nat.zero_le _, Nat.zero_le _⟩) (fun r2 hr2 => ?_)
          subst hr2
          refine sd_last hx hb hK hP hD hS (38 + r) 0 (dw_mx hr) rfl (k := ((t + e1) + 1) + e1) (by omega) (by decide) (ws2 := dw ad tc dg pl vl th cu (sd_up (sd_up m1 r (sd_up (m1 r) k (sd_pow (sd_N pp) k))) r (sd_up ((sd_up m1 r (sd_up (m1 r) k (sd_pow (sd_N pp) k))) r) (((t + e1) + 1) + e1) (v * sd_pow (sd_N pp) k))) us so rr fw ff) (by rw [sd_stL]; exact dws_mx hr _) dX1_writeEquation_69 (fun H locs hP hD hS => ?_)
          refine lv_lload hx hb dX1_writeEquation_70 (lv_at hl 1 rfl) ?_
          refine lv_iload_n hx hb dX1_writeEquation_72 rfl (lv_at hl 3 rfl) ?_
          refine lv_i2l (v := lN pp) hx hb dX1_writeEquation_73 (nI_l (by omega)) ?_
          refine sd_tol (y := sd_L (sd_N pp)) ((sd_N_L (by omega)).symm) ?_
          refine sd_rl (va_runS (As := [.long (sd_L (sd_pow (sd_N pp) k)), .long (sd_L (sd_N pp))]) (rest := []) ⟨hx, hb, hml, hown, hts⟩ (k_X2_times l (sd_pow (sd_N pp) k) (sd_N pp)) (sd_cwS hts wd_X2_times wn_X2 wm_X1_71 wi_X2_times nq_X2_times rfl rfl ⟨Nat.le_of_ble_eq_true rfl, Nat.le_of_ble_eq_true rfl⟩) sd_preN rfl rfl hl.1 rfl (lv_room (Nat.le_of_ble_eq_true rfl)) dX1_writeEquation_74 ⟨Nat.zero_le _, Nat.zero_le _⟩) (fun r3 hr3 => ?_)
          subst hr3
          refine sd_tol (y := sd_L (sd_pow (sd_N pp) (k + 1))) (by rw [sd_pow_s]) ?_
          refine lv_lstore (lv' := [(6, .long (sd_L (sd_pow (sd_N pp) (k + 1)))), (8, .int (nI k)), (0, .ref (ad (38 + r))), (1, .int (nI pp)), (2, .long (sd_L v)), (4, .int (nI (t + e1))), (5, .int (nI e1))]) hx hb dX1_writeEquation_77 hl (by decide) rfl (fun ls hl => ?_)
          refine lv_iinc (v := nI (k + 1)) (lv' := [(8, .int (nI (k + 1))), (6, .long (sd_L (sd_pow (sd_N pp) (k + 1)))), (0, .ref (ad (38 + r))), (1, .int (nI pp)), (2, .long (sd_L v)), (4, .int (nI (t + e1))), (5, .int (nI e1))]) hx hb dX1_writeEquation_79 hl (k := 1) rfl (nI_1 _) (by decide) rfl (fun ls hl => ?_)
          refine lv_goto (tgt := 6) hx hb dX1_writeEquation_82 (by decide) ?_
          have hI9 : ∀ i j, (sd_up (sd_up m1 r (sd_up (m1 r) k (sd_pow (sd_N pp) k))) r (sd_up ((sd_up m1 r (sd_up (m1 r) k (sd_pow (sd_N pp) k))) r) (((t + e1) + 1) + e1) (v * sd_pow (sd_N pp) k))) i j = (if i = r ∧ (j < (k + 1) ∨ (t + e1 + 1 ≤ j ∧ j < t + e1 + 1 + e1 ∧ j < t + e1 + 1 + (k + 1)) ∨ (j = t + e1 + 1 + e1 ∧ e1 < (k + 1))) then sd_row t e1 (sd_N pp) v j else mx i j) := by
            intro i j
            rw [sd_up2, sd_up2, hI]
            by_cases a1 : i = r ∧ j = t + e1 + 1 + e1
            · obtain ⟨rfl, rfl⟩ := a1
              rw [if_pos ⟨rfl, rfl⟩, if_pos ⟨rfl, by omega⟩, sd_row_end, c3]
            · rw [if_neg a1]
              by_cases a2 : i = r ∧ j = k
              · obtain ⟨rfl, rfl⟩ := a2
                rw [if_pos ⟨rfl, rfl⟩, if_pos ⟨rfl, by omega⟩, sd_row_a _ _ (by omega)]
              · rw [if_neg a2]
                by_cases a3 : i = r ∧ (j < k ∨ (t + e1 + 1 ≤ j ∧ j < t + e1 + 1 + e1 ∧ j < t + e1 + 1 + k) ∨ (j = t + e1 + 1 + e1 ∧ e1 < k))
                · rw [if_pos a3, if_pos ⟨a3.1, by omega⟩]
                · rw [if_neg a3, if_neg (by omega)]
          exact ih (k := k + 1) (m1 := sd_up (sd_up m1 r (sd_up (m1 r) k (sd_pow (sd_N pp) k))) r (sd_up ((sd_up m1 r (sd_up (m1 r) k (sd_pow (sd_N pp) k))) r) (((t + e1) + 1) + e1) (v * sd_pow (sd_N pp) k))) (hk := by omega) (hI := hI9) (H := H) (locs := locs) (hP := hP) (hD := hD) (hS := hS) (ls := ls) (hl := (lv_sub hl [0, 1, 2, 3, 4, 5, 6] rfl)) (hk9 := by omega)
      · refine lv_aload_n hx hb dX1_writeEquation_26 rfl (lv_at hl 2 rfl) ?_
        refine lv_iload hx hb dX1_writeEquation_27 (lv_at hl 5 rfl) ?_
        refine lv_iconst (v := nI 1) hx hb dX1_writeEquation_29 (by decide) ?_
        refine sd_iadd hx hb dX1_writeEquation_30 ?_
        refine lv_iload hx hb dX1_writeEquation_31 (lv_at hl 0 rfl) ?_
        refine sd_iadd hx hb dX1_writeEquation_33 ?_
        refine lv_lconst (v := 0) hx hb dX1_writeEquation_34 (by decide) ?_
        refine sd_tol (y := sd_L 0) sd_L_0.symm ?_
        refine lv_lload_n hx hb dX1_writeEquation_35 rfl (lv_at hl 4 rfl) ?_
        refine lv_lload hx hb dX1_writeEquation_36 (lv_at hl 1 rfl) ?_
        refine sd_rl (va_runS (As := [.long (sd_L v), .long (sd_L (sd_pow (sd_N pp) k))]) (rest := [.long (sd_L 0), .int (nI (((t + e1) + 1) + k)), .ref (ad (38 + r))]) ⟨hx, hb, hml, hown, hts⟩ (k_X2_times l v (sd_pow (sd_N pp) k)) (sd_cwS hts wd_X2_times wn_X2 wm_X1_71 wi_X2_times nq_X2_times rfl rfl ⟨Nat.le_of_ble_eq_true rfl, Nat.le_of_ble_eq_true rfl⟩) sd_preN rfl rfl hl.1 rfl (lv_room (Nat.le_of_ble_eq_true rfl)) dX1_writeEquation_38 ⟨Nat.zero_le _, Nat.zero_le _⟩) (fun r4 hr4 => ?_)
        subst hr4
        refine sd_rl (va_runS (As := [.long (sd_L 0), .long (sd_L (v * sd_pow (sd_N pp) k))]) (rest := [.int (nI (((t + e1) + 1) + k)), .ref (ad (38 + r))]) ⟨hx, hb, hml, hown, hts⟩ (k_X2_minus l 0 (v * sd_pow (sd_N pp) k)) (sd_cwS hts wd_X2_minus wn_X2 wm_X1_77 wi_X2_minus nq_X2_minus rfl rfl ⟨Nat.le_of_ble_eq_true rfl, Nat.le_of_ble_eq_true rfl⟩) sd_preN rfl rfl hl.1 rfl (lv_room (Nat.le_of_ble_eq_true rfl)) dX1_writeEquation_41 ⟨Nat.zero_le _, Nat.zero_le _⟩) (fun r5 hr5 => ?_)
        subst hr5
        refine sd_last hx hb hK hP hD hS (38 + r) 0 (dw_mx hr) rfl (k := ((t + e1) + 1) + k) (by omega) (by decide) (ws2 := dw ad tc dg pl vl th cu (sd_up (sd_up m1 r (sd_up (m1 r) k (sd_pow (sd_N pp) k))) r (sd_up ((sd_up m1 r (sd_up (m1 r) k (sd_pow (sd_N pp) k))) r) (((t + e1) + 1) + k) (0 - v * sd_pow (sd_N pp) k))) us so rr fw ff) (by rw [sd_stL]; exact dws_mx hr _) dX1_writeEquation_44 (fun H locs hP hD hS => ?_)
        refine lv_goto (tgt := 70) hx hb dX1_writeEquation_45 (by decide) ?_
        refine lv_lload hx hb dX1_writeEquation_70 (lv_at hl 1 rfl) ?_
        refine lv_iload_n hx hb dX1_writeEquation_72 rfl (lv_at hl 3 rfl) ?_
        refine lv_i2l (v := lN pp) hx hb dX1_writeEquation_73 (nI_l (by omega)) ?_
        refine sd_tol (y := sd_L (sd_N pp)) ((sd_N_L (by omega)).symm) ?_
        refine sd_rl (va_runS (As := [.long (sd_L (sd_pow (sd_N pp) k)), .long (sd_L (sd_N pp))]) (rest := []) ⟨hx, hb, hml, hown, hts⟩ (k_X2_times l (sd_pow (sd_N pp) k) (sd_N pp)) (sd_cwS hts wd_X2_times wn_X2 wm_X1_71 wi_X2_times nq_X2_times rfl rfl ⟨Nat.le_of_ble_eq_true rfl, Nat.le_of_ble_eq_true rfl⟩) sd_preN rfl rfl hl.1 rfl (lv_room (Nat.le_of_ble_eq_true rfl)) dX1_writeEquation_74 ⟨Nat.zero_le _, Nat.zero_le _⟩) (fun r6 hr6 => ?_)
        subst hr6
        refine sd_tol (y := sd_L (sd_pow (sd_N pp) (k + 1))) (by rw [sd_pow_s]) ?_
        refine lv_lstore (lv' := [(6, .long (sd_L (sd_pow (sd_N pp) (k + 1)))), (8, .int (nI k)), (0, .ref (ad (38 + r))), (1, .int (nI pp)), (2, .long (sd_L v)), (4, .int (nI (t + e1))), (5, .int (nI e1))]) hx hb dX1_writeEquation_77 hl (by decide) rfl (fun ls hl => ?_)
        refine lv_iinc (v := nI (k + 1)) (lv' := [(8, .int (nI (k + 1))), (6, .long (sd_L (sd_pow (sd_N pp) (k + 1)))), (0, .ref (ad (38 + r))), (1, .int (nI pp)), (2, .long (sd_L v)), (4, .int (nI (t + e1))), (5, .int (nI e1))]) hx hb dX1_writeEquation_79 hl (k := 1) rfl (nI_1 _) (by decide) rfl (fun ls hl => ?_)
        refine lv_goto (tgt := 6) hx hb dX1_writeEquation_82 (by decide) ?_
        have hI9 : ∀ i j, (sd_up (sd_up m1 r (sd_up (m1 r) k (sd_pow (sd_N pp) k))) r (sd_up ((sd_up m1 r (sd_up (m1 r) k (sd_pow (sd_N pp) k))) r) (((t + e1) + 1) + k) (0 - v * sd_pow (sd_N pp) k))) i j = (if i = r ∧ (j < (k + 1) ∨ (t + e1 + 1 ≤ j ∧ j < t + e1 + 1 + e1 ∧ j < t + e1 + 1 + (k + 1)) ∨ (j = t + e1 + 1 + e1 ∧ e1 < (k + 1))) then sd_row t e1 (sd_N pp) v j else mx i j) := by
          intro i j
          rw [sd_up2, sd_up2, hI]
          by_cases a1 : i = r ∧ j = t + e1 + 1 + k
          · obtain ⟨rfl, rfl⟩ := a1
            rw [if_pos ⟨rfl, rfl⟩, if_pos ⟨rfl, by omega⟩, sd_row_b _ _ (by omega)]
          · rw [if_neg a1]
            by_cases a2 : i = r ∧ j = k
            · obtain ⟨rfl, rfl⟩ := a2
              rw [if_pos ⟨rfl, rfl⟩, if_pos ⟨rfl, by omega⟩, sd_row_a _ _ (by omega)]
            · rw [if_neg a2]
              by_cases a3 : i = r ∧ (j < k ∨ (t + e1 + 1 ≤ j ∧ j < t + e1 + 1 + e1 ∧ j < t + e1 + 1 + k) ∨ (j = t + e1 + 1 + e1 ∧ e1 < k))
              · rw [if_pos a3, if_pos ⟨a3.1, by omega⟩]
              · rw [if_neg a3, if_neg (by omega)]
        exact ih (k := k + 1) (m1 := sd_up (sd_up m1 r (sd_up (m1 r) k (sd_pow (sd_N pp) k))) r (sd_up ((sd_up m1 r (sd_up (m1 r) k (sd_pow (sd_N pp) k))) r) (((t + e1) + 1) + k) (0 - v * sd_pow (sd_N pp) k))) (hk := by omega) (hI := hI9) (H := H) (locs := locs) (hP := hP) (hD := hD) (hS := hS) (ls := ls) (hl := (lv_sub hl [0, 1, 2, 3, 4, 5, 6] rfl)) (hk9 := by omega)

set_option maxHeartbeats 4000000 in
set_option maxRecDepth 100000 in
theorem k_X1_writeEquations (l : Launch) (D : va_G) {ad : Nat → Nat} {tc : Nat → ClassId} {dg pl : Nat → Nat} {vl : Nat → Nat → FP} {th : Nat → Nat → Bool} {cu mx : Nat → Nat → FP} {us : Nat → Bool} {so : Nat → FP} {rr : Nat → Int32} {fw : Nat → Bool} {ff : Int32} (sz : Nat) (q e1 nx : Nat) (hq : q < 8) (hpl : pl q ≤ 16) (hN : nx = dg q + e1 + 1 + e1) (hn : nx ≤ 16) : Met l yX1_writeEquations (Cond.code yX1_writeEquations cX1_writeEquations 6 none :: bg) { frames := 2, cells := 0, slots := 0, locals := 63 } (sd_Wr D vwCl (ty5 tc) (dw ad tc dg pl vl th cu mx us so rr fw ff) sz [.ref (ad 8), .ref (ad (14 + 3 * q)), .int (nI e1), .int (nI nx)]) (va_Qv (S := Nat → Nat → FP) (fun u : Nat → Nat → FP => ∀ p9, 1 ≤ p9 → p9 ≤ pl q → th q p9 = true → sd_cnt (th q) (p9 - 1) < nx → ∀ j, j ≤ nx → u (sd_cnt (th q) (p9 - 1)) j = sd_row (dg q) e1 (sd_N p9) (vl q p9) j) (sd_B D vwCl (ty5 tc) (va_A (dw ad tc dg pl vl th cu mx us so rr fw ff) sz) (fun u => dw ad tc dg pl vl th cu u us so rr fw ff)) (va_A (dw ad tc dg pl vl th cu mx us so rr fw ff) sz)) 0 0 (va_A (dw ad tc dg pl vl th cu mx us so rr fw ff) sz) := by
  refine Met.ofW (cc := cX1_writeEquations) (maxL := 6) (ret := none) (by decide) rfl ?_
  intro p e s m args below meth c s₁ B hml hv
  obtain ⟨rfl, hsz, hP, hK, hD0⟩ := hv
  have hx := B.exec
  have hb := B.bytes
  have hr := B.returns
  have hts := atoms_spec (ws := Cond.code yX1_writeEquations cX1_writeEquations 6 none :: bg) B.pre
  have hown : s.vm.findClass RX1 = some m.cls := findClass_of_methodNamed B.named
  have hlocks := B.notSynchronized
  subst hsz
  have hD := hD0.self (sz := s.heap.size)
  generalize hAe : va_A (dw ad tc dg pl vl th cu mx us so rr fw ff) s.heap.size = A at hD ⊢
  have hA : ∀ q : Nat, s.heap.size ≤ q → A q := fun q h => by rw [← hAe]; exact Or.inr h
  have hS : va_S A s.heap s.heap [] := va_S.rf
  have hl := lv_entry ([.ref (ad 8), .ref (ad (14 + 3 * q)), .int (nI e1), .int (nI nx)]) (n := 6) (Nat.le_of_ble_eq_true rfl)
  rw [lg_entry_eq]
  generalize (lg_sl ([.ref (ad 8), .ref (ad (14 + 3 * q)), .int (nI e1), .int (nI nx)]) ++ List.replicate (6 - (lg_sl ([.ref (ad 8), .ref (ad (14 + 3 * q)), .int (nI e1), .int (nI nx)])).length) Slot.unset).toArray = ls at hl ⊢
  replace hl : lv_has ls 6 [(0, .ref (ad 8)), (1, .ref (ad (14 + 3 * q))), (2, .int (nI e1)), (3, .int (nI nx))] := hl
  refine lv_iconst (v := nI 0) hx hb dX1_writeEquations_0 (by decide) ?_
  refine lv_istore (lv' := [(4, .int (nI 0)), (0, .ref (ad 8)), (1, .ref (ad (14 + 3 * q))), (2, .int (nI e1)), (3, .int (nI nx))]) hx hb dX1_writeEquations_1 hl (by decide) rfl (fun ls hl => ?_)
  refine lv_iconst (v := nI 1) hx hb dX1_writeEquations_3 (by decide) ?_
  refine lv_istore (lv' := [(5, .int (nI 1)), (4, .int (nI 0)), (0, .ref (ad 8)), (1, .ref (ad (14 + 3 * q))), (2, .int (nI e1)), (3, .int (nI nx))]) hx hb dX1_writeEquations_4 hl (by decide) rfl (fun ls hl => ?_)
  obtain ⟨H, hH9⟩ : ∃ H : Heap, H = s.heap := ⟨_, rfl⟩
  obtain ⟨locs, hl9⟩ : ∃ x : List Loc, x = [] := ⟨_, rfl⟩
  rw [← hH9, ← hl9]
  have hS : va_S A s.heap H locs := by rw [hH9, hl9]; exact va_S.rf
  have hP : va_P D vwCl (dw ad tc dg pl vl th cu mx us so rr fw ff) H := by rw [hH9]; exact hP
  clear hH9 hl9
  obtain ⟨k, c, m1, hk, hc9, hcn, hI, hP9, hD9, hl9⟩ : ∃ (k : Nat) (c : Nat) (m1 : Nat → Nat → FP), (1 ≤ k ∧ k ≤ pl q + 1) ∧ (c = sd_cnt (th q) (k - 1)) ∧ (c ≤ nx) ∧ (∀ p9, 1 ≤ p9 → p9 < k → th q p9 = true → sd_cnt (th q) (p9 - 1) < nx → ∀ j, j ≤ nx → m1 (sd_cnt (th q) (p9 - 1)) j = sd_row (dg q) e1 (sd_N p9) (vl q p9) j) ∧ va_P D vwCl (dw ad tc dg pl vl th cu m1 us so rr fw ff) H ∧ va_D A (dw ad tc dg pl vl th cu m1 us so rr fw ff) ∧ lv_has ls 6 [(5, .int (nI k)), (4, .int (nI c)), (0, .ref (ad 8)), (1, .ref (ad (14 + 3 * q))), (2, .int (nI e1)), (3, .int (nI nx))] := ⟨1, 0, mx, ⟨Nat.le_refl 1, by omega⟩, rfl, Nat.zero_le _, fun p9 h1 h2 => absurd h2 (by omega), hP, hD, (lv_sub hl [0, 1, 2, 3, 4, 5] rfl)⟩
  replace hl := hl9
  clear hl9
  replace hP := hP9
  replace hD := hD9
  clear hP9 hD9
  obtain ⟨k9, hk9⟩ : ∃ k9 : Nat, pl q + 1 < k + k9 := ⟨pl q + 1, by omega⟩
  induction k9 generalizing k c m1 ls H locs with
  | zero => exact absurd hk9 (by omega)
  | succ k9 ih =>
    refine lv_iload hx hb dX1_writeEquations_6 (lv_at hl 0 rfl) ?_
    refine lv_aload_n hx hb dX1_writeEquations_8 rfl (lv_at hl 3 rfl) ?_
    refine va_get (D := D) (ci := 3) (v := .int (nI (pl q))) (C := RX3) (T := TX3) (N := 4) hx hb hts (fun w h => mm (inX3 w h)) hown hK hP (14 + 3 * q) (dw_sp hq) rfl 3 (by decide) (hts _ (mm wf_X1_57)) (fun _ h9 => h9) rfl dX1_writeEquations_9 ?_
    refine sd_icmp_gt (tgt := 65) hx hb (by omega) (by omega) dX1_writeEquations_12 (by decide) (fun c1 => ?_) (fun c1 => ?_)
    · exact W.vret hx hb hr (fun t ht hW => ⟨⟨m1, rfl, fun p9 h1 h2 h3 h4 => hI p9 h1 (by omega) h3 h4, by rw [ht]; exact hP, va_K.moved hW.alike hK, hD⟩, hS.F ht⟩) hS.2.2 dX1_writeEquations_65
    · refine lv_iload hx hb dX1_writeEquations_15 (lv_at hl 1 rfl) ?_
      refine lv_iload_n hx hb dX1_writeEquations_17 rfl (lv_at hl 5 rfl) ?_
      refine sd_icmp_ge (tgt := 65) hx hb (by omega) (by omega) dX1_writeEquations_18 (by decide) (fun c2 => ?_) (fun c2 => ?_)
      · have hI9 : ∀ p9, 1 ≤ p9 → p9 ≤ pl q → th q p9 = true → sd_cnt (th q) (p9 - 1) < nx → ∀ j, j ≤ nx → m1 (sd_cnt (th q) (p9 - 1)) j = sd_row (dg q) e1 (sd_N p9) (vl q p9) j := by
          intro p9 h1 h2 h3 h4
          refine hI p9 h1 ?_ h3 h4
          rcases Nat.lt_or_ge p9 k with z | z
          · exact z
          · have := sd_cnt_mono (th q) (show k - 1 ≤ p9 - 1 by omega)
            omega
        exact W.vret hx hb hr (fun t ht hW => ⟨⟨m1, rfl, hI9, by rw [ht]; exact hP, va_K.moved hW.alike hK, hD⟩, hS.F ht⟩) hS.2.2 dX1_writeEquations_65
      · refine lv_aload_n hx hb dX1_writeEquations_21 rfl (lv_at hl 3 rfl) ?_
        refine lv_iload hx hb dX1_writeEquations_22 (lv_at hl 0 rfl) ?_
        refine sd_ri (va_runV (As := [.int (nI k)]) (rest := []) ⟨hx, hb, hml, hown, hts⟩ (k_X3_hasShare l D q (nI k) hq hpl) (sd_cwV hts wd_X3_hasShare wn_X3 wm_X1_60 wi_X3_hasShare ws_X3_hasShare nq_X3_hasShare rfl rfl ⟨Nat.le_of_ble_eq_true rfl, Nat.le_of_ble_eq_true rfl⟩) (sd_preVR hP hK (ci := 3) (q0 := (14 + 3 * q)) rfl rfl (dw_sp hq)) rfl rfl hl.1 rfl (lv_room (Nat.le_of_ble_eq_true rfl)) dX1_writeEquations_24 ⟨Nat.zero_le _, Nat.zero_le _⟩) (fun r1 hr1 => ?_)
        subst hr1
        refine sd_if_eqB (tgt := 59) hx hb dX1_writeEquations_27 (by decide) (fun c3 => ?_) (fun c3 => ?_)
        · rw [sd_hs_nI _ (by omega) (by omega) (by omega)] at c3
          refine lv_iinc (v := nI (k + 1)) (lv' := [(5, .int (nI (k + 1))), (4, .int (nI c)), (0, .ref (ad 8)), (1, .ref (ad (14 + 3 * q))), (2, .int (nI e1)), (3, .int (nI nx))]) hx hb dX1_writeEquations_59 hl (k := 0) rfl (nI_1 _) (by decide) rfl (fun ls hl => ?_)
          refine lv_goto (tgt := 6) hx hb dX1_writeEquations_62 (by decide) ?_
          exact ih (k := k + 1) (c := c) (m1 := m1) (hk := by omega) (hc9 := by rw [Nat.add_sub_cancel, hc9]; have z := sd_cnt_f (b := th q) (n := k - 1) (by rw [Nat.sub_add_cancel hk.1]; exact c3); rw [Nat.sub_add_cancel hk.1] at z; exact z.symm) (hcn := hcn) (hI := fun p9 h1 h2 h3 h4 => (Nat.lt_or_ge p9 k).elim (fun z => hI p9 h1 z h3 h4) (fun z => absurd h3 (by rw [show p9 = k by omega, c3]; decide))) (H := H) (locs := locs) (hP := hP) (hD := hD) (hS := hS) (ls := ls) (hl := (lv_sub hl [0, 1, 2, 3, 4, 5] rfl)) (hk9 := by omega)
        · rw [sd_hs_nI _ (by omega) (by omega) (by omega)] at c3
          have hc : c < 16 := by omega
          refine lv_aload_n hx hb dX1_writeEquations_30 rfl (lv_at hl 2 rfl) ?_
          refine va_get (D := D) (ci := 1) (v := .ref (ad 9)) (C := RX1) (T := TX1) (N := 5) hx hb hts (fun w h => mm (inX1 w h)) hown hK hP 8 dw_finder rfl 1 (by decide) (hts _ (mm wf_X1_20)) (fun _ h9 => h9) rfl dX1_writeEquations_31 ?_
          refine lv_iload hx hb dX1_writeEquations_34 (lv_at hl 1 rfl) ?_
          refine sd_aldA hx hb hK hP 9 4 dw_rows rfl (k := c) (by omega) (by decide) rfl dX1_writeEquations_36 ?_
          refine lv_iload hx hb dX1_writeEquations_37 (lv_at hl 0 rfl) ?_
          refine lv_aload_n hx hb dX1_writeEquations_39 rfl (lv_at hl 3 rfl) ?_
          refine va_get (D := D) (ci := 3) (v := .ref (ad (15 + 3 * q))) (C := RX3) (T := TX3) (N := 4) hx hb hts (fun w h => mm (inX3 w h)) hown hK hP (14 + 3 * q) (dw_sp hq) rfl 0 (by decide) (hts _ (mm wf_X1_64)) (fun _ h9 => h9) rfl dX1_writeEquations_40 ?_
          refine lv_iload hx hb dX1_writeEquations_43 (lv_at hl 0 rfl) ?_
          refine sd_lald hx hb hK hP (15 + 3 * q) 0 (dw_vl hq) rfl (k := k) (by omega) (by decide) dX1_writeEquations_45 ?_
          refine lv_aload_n hx hb dX1_writeEquations_46 rfl (lv_at hl 3 rfl) ?_
          refine va_get (D := D) (ci := 3) (v := .int (nI (dg q))) (C := RX3) (T := TX3) (N := 4) hx hb hts (fun w h => mm (inX3 w h)) hown hK hP (14 + 3 * q) (dw_sp hq) rfl 2 (by decide) (hts _ (mm wf_X1_35)) (fun _ h9 => h9) rfl dX1_writeEquations_47 ?_
          refine lv_iload_n hx hb dX1_writeEquations_50 rfl (lv_at hl 4 rfl) ?_
          refine sd_iadd hx hb dX1_writeEquations_51 ?_
          refine lv_iload_n hx hb dX1_writeEquations_52 rfl (lv_at hl 4 rfl) ?_
          refine sd_wv (va_runS (As := [.ref (ad (38 + c)), .int (nI k), .long (sd_L ((vl q) k)), .int (nI ((dg q) + e1)), .int (nI e1)]) (rest := []) ⟨hx, hb, hml, hown, hts⟩ (k_X1_writeEquation l D _ c k (vl q k) (dg q) e1 hc (by omega) (by omega)) (sd_cwS hts wd_X1_writeEquation wn_X1 wm_X1_67 wi_X1_writeEquation nq_X1_writeEquation rfl rfl ⟨Nat.le_of_ble_eq_true rfl, Nat.le_of_ble_eq_true rfl⟩) (sd_preW hP hK hD) rfl rfl hl.1 rfl (lv_room (Nat.le_of_ble_eq_true rfl)) dX1_writeEquations_53 ⟨Nat.zero_le _, Nat.zero_le _⟩) hD hS hA (fun m2 H locs hm2 hP hD hS => ?_)
          replace hP : va_P D vwCl (dw ad tc dg pl vl th cu m2 us so rr fw ff) H := hP
          replace hD : va_D A (dw ad tc dg pl vl th cu m2 us so rr fw ff) := hD
          refine lv_iinc (v := nI (c + 1)) (lv' := [(4, .int (nI (c + 1))), (5, .int (nI k)), (0, .ref (ad 8)), (1, .ref (ad (14 + 3 * q))), (2, .int (nI e1)), (3, .int (nI nx))]) hx hb dX1_writeEquations_56 hl (k := 1) rfl (nI_1 _) (by decide) rfl (fun ls hl => ?_)
          refine lv_iinc (v := nI (k + 1)) (lv' := [(5, .int (nI (k + 1))), (4, .int (nI (c + 1))), (0, .ref (ad 8)), (1, .ref (ad (14 + 3 * q))), (2, .int (nI e1)), (3, .int (nI nx))]) hx hb dX1_writeEquations_59 hl (k := 1) rfl (nI_1 _) (by decide) rfl (fun ls hl => ?_)
          refine lv_goto (tgt := 6) hx hb dX1_writeEquations_62 (by decide) ?_
          have hI9 : ∀ p9, 1 ≤ p9 → p9 < k + 1 → th q p9 = true → sd_cnt (th q) (p9 - 1) < nx → ∀ j, j ≤ nx → m2 (sd_cnt (th q) (p9 - 1)) j = sd_row (dg q) e1 (sd_N p9) (vl q p9) j := by
            intro p9 h1 h2 h3 h4 j hj
            rw [hm2]
            rcases Nat.lt_or_ge p9 k with z | z
            · have a1 := sd_cnt_mono (th q) (show p9 ≤ k - 1 by omega)
              have a2 := sd_cnt_t (b := th q) (n := p9 - 1) (by rw [Nat.sub_add_cancel h1]; exact h3)
              rw [Nat.sub_add_cancel h1] at a2
              rw [if_neg (by omega)]
              exact hI p9 h1 z h3 h4 j hj
            · have ep : p9 = k := by omega
              subst ep
              rw [if_pos (by omega)]
          exact ih (k := k + 1) (c := c + 1) (m1 := m2) (hk := by omega) (hc9 := by rw [Nat.add_sub_cancel, hc9]; have z := sd_cnt_t (b := th q) (n := k - 1) (by rw [Nat.sub_add_cancel hk.1]; exact c3); rw [Nat.sub_add_cancel hk.1] at z; exact z.symm) (hcn := by omega) (hI := hI9) (H := H) (locs := locs) (hP := hP) (hD := hD) (hS := hS) (ls := ls) (hl := (lv_sub hl [0, 1, 2, 3, 4, 5] rfl)) (hk9 := by omega)

set_option maxHeartbeats 4000000 in
set_option maxRecDepth 100000 in
theorem k_X1_clearElsewhere (l : Launch) (D : va_G) {ad : Nat → Nat} {tc : Nat → ClassId} {dg pl : Nat → Nat} {vl : Nat → Nat → FP} {th : Nat → Nat → Bool} {cu mx : Nat → Nat → FP} {us : Nat → Bool} {so : Nat → FP} {rr : Nat → Int32} {fw : Nat → Bool} {ff : Int32} (sz : Nat) (g ux nx : Nat) (hg : g < 16) (hu : ux < nx) (hn : nx ≤ 16) : Met l yX1_clearElsewhere (Cond.code yX1_clearElsewhere cX1_clearElsewhere 5 none :: bg) { frames := 2, cells := 0, slots := 0, locals := 62 } (sd_Wr D vwCl (ty5 tc) (dw ad tc dg pl vl th cu mx us so rr fw ff) sz [.ref (ad 8), .int (nI g), .int (nI ux), .int (nI nx)]) (va_Qv (S := Nat → Nat → FP) (fun u : Nat → Nat → FP => ∀ i j, u i j = (if i < nx ∧ i ≠ g ∧ ux ≤ j ∧ j ≤ nx then mx i j - mx i ux * mx g j else mx i j)) (sd_B D vwCl (ty5 tc) (va_A (dw ad tc dg pl vl th cu mx us so rr fw ff) sz) (fun u => dw ad tc dg pl vl th cu u us so rr fw ff)) (va_A (dw ad tc dg pl vl th cu mx us so rr fw ff) sz)) 0 0 (va_A (dw ad tc dg pl vl th cu mx us so rr fw ff) sz) := by
  refine Met.ofW (cc := cX1_clearElsewhere) (maxL := 5) (ret := none) (by decide) rfl ?_
  intro p e s m args below meth c s₁ B hml hv
  obtain ⟨rfl, hsz, hP, hK, hD0⟩ := hv
  have hx := B.exec
  have hb := B.bytes
  have hr := B.returns
  have hts := atoms_spec (ws := Cond.code yX1_clearElsewhere cX1_clearElsewhere 5 none :: bg) B.pre
  have hown : s.vm.findClass RX1 = some m.cls := findClass_of_methodNamed B.named
  have hlocks := B.notSynchronized
  subst hsz
  have hD := hD0.self (sz := s.heap.size)
  generalize hAe : va_A (dw ad tc dg pl vl th cu mx us so rr fw ff) s.heap.size = A at hD ⊢
  have hA : ∀ q : Nat, s.heap.size ≤ q → A q := fun q h => by rw [← hAe]; exact Or.inr h
  have hS : va_S A s.heap s.heap [] := va_S.rf
  have hl := lv_entry ([.ref (ad 8), .int (nI g), .int (nI ux), .int (nI nx)]) (n := 5) (Nat.le_of_ble_eq_true rfl)
  rw [lg_entry_eq]
  generalize (lg_sl ([.ref (ad 8), .int (nI g), .int (nI ux), .int (nI nx)]) ++ List.replicate (5 - (lg_sl ([.ref (ad 8), .int (nI g), .int (nI ux), .int (nI nx)])).length) Slot.unset).toArray = ls at hl ⊢
  replace hl : lv_has ls 5 [(0, .ref (ad 8)), (1, .int (nI g)), (2, .int (nI ux)), (3, .int (nI nx))] := hl
  refine lv_iconst (v := nI 0) hx hb dX1_clearElsewhere_0 (by decide) ?_
  refine lv_istore (lv' := [(4, .int (nI 0)), (0, .ref (ad 8)), (1, .int (nI g)), (2, .int (nI ux)), (3, .int (nI nx))]) hx hb dX1_clearElsewhere_1 hl (by decide) rfl (fun ls hl => ?_)
  obtain ⟨H, hH9⟩ : ∃ H : Heap, H = s.heap := ⟨_, rfl⟩
  obtain ⟨locs, hl9⟩ : ∃ x : List Loc, x = [] := ⟨_, rfl⟩
  rw [← hH9, ← hl9]
  have hS : va_S A s.heap H locs := by rw [hH9, hl9]; exact va_S.rf
  have hP : va_P D vwCl (dw ad tc dg pl vl th cu mx us so rr fw ff) H := by rw [hH9]; exact hP
  clear hH9 hl9
  obtain ⟨k, m1, hk9b, hI, hP9, hD9, hl9⟩ : ∃ (k : Nat) (m1 : Nat → Nat → FP), (k ≤ nx) ∧ (∀ i j, m1 i j = (if i < k ∧ i ≠ g ∧ ux ≤ j ∧ j ≤ nx then mx i j - mx i ux * mx g j else mx i j)) ∧ va_P D vwCl (dw ad tc dg pl vl th cu m1 us so rr fw ff) H ∧ va_D A (dw ad tc dg pl vl th cu m1 us so rr fw ff) ∧ lv_has ls 5 [(4, .int (nI k)), (0, .ref (ad 8)), (1, .int (nI g)), (2, .int (nI ux)), (3, .int (nI nx))] := ⟨0, mx, Nat.zero_le _, fun i j => by rw [if_neg (by omega)], hP, hD, (lv_sub hl [0, 1, 2, 3, 4] rfl)⟩
  replace hl := hl9
  clear hl9
  replace hP := hP9
  replace hD := hD9
  clear hP9 hD9
  obtain ⟨k9, hk9⟩ : ∃ k9 : Nat, nx < k + k9 := ⟨nx + 1, by omega⟩
  induction k9 generalizing k m1 ls H locs with
  | zero => exact absurd hk9 (by omega)
  | succ k9 ih =>
    refine lv_iload hx hb dX1_clearElsewhere_3 (lv_at hl 0 rfl) ?_
    refine lv_iload_n hx hb dX1_clearElsewhere_5 rfl (lv_at hl 4 rfl) ?_
    refine sd_icmp_ge (tgt := 53) hx hb (by omega) (by omega) dX1_clearElsewhere_6 (by decide) (fun c1 => ?_) (fun c1 => ?_)
    · have ek : k = nx := by omega
      subst ek
      exact W.vret hx hb hr (fun t ht hW => ⟨⟨m1, rfl, hI, by rw [ht]; exact hP, va_K.moved hW.alike hK, hD⟩, hS.F ht⟩) hS.2.2 dX1_clearElsewhere_53
    · have hk : k < 16 := by omega
      refine lv_iload hx hb dX1_clearElsewhere_9 (lv_at hl 0 rfl) ?_
      refine lv_iload_n hx hb dX1_clearElsewhere_11 rfl (lv_at hl 2 rfl) ?_
      refine sd_icmp_eq (tgt := 47) hx hb (by omega) (by omega) dX1_clearElsewhere_12 (by decide) (fun c2 => ?_) (fun c2 => ?_)
      · refine lv_iinc (v := nI (k + 1)) (lv' := [(4, .int (nI (k + 1))), (0, .ref (ad 8)), (1, .int (nI g)), (2, .int (nI ux)), (3, .int (nI nx))]) hx hb dX1_clearElsewhere_47 hl (k := 0) rfl (nI_1 _) (by decide) rfl (fun ls hl => ?_)
        refine lv_goto (tgt := 3) hx hb dX1_clearElsewhere_50 (by decide) ?_
        have hI9 : ∀ i j, m1 i j = (if i < k + 1 ∧ i ≠ g ∧ ux ≤ j ∧ j ≤ nx then mx i j - mx i ux * mx g j else mx i j) := by
          intro i j
          rw [hI]
          by_cases a1 : i < k ∧ i ≠ g ∧ ux ≤ j ∧ j ≤ nx
          · rw [if_pos a1, if_pos (by omega)]
          · rw [if_neg a1, if_neg (by omega)]
        exact ih (k := k + 1) (m1 := m1) (hk9b := by omega) (hI := hI9) (H := H) (locs := locs) (hP := hP) (hD := hD) (hS := hS) (ls := ls) (hl := (lv_sub hl [0, 1, 2, 3, 4] rfl)) (hk9 := by omega)
      · refine lv_aload_n hx hb dX1_clearElsewhere_15 rfl (lv_at hl 1 rfl) ?_
        refine va_get (D := D) (ci := 1) (v := .ref (ad 9)) (C := RX1) (T := TX1) (N := 5) hx hb hts (fun w h => mm (inX1 w h)) hown hK hP 8 dw_finder rfl 1 (by decide) (hts _ (mm wf_X1_20)) (fun _ h9 => h9) rfl dX1_clearElsewhere_16 ?_
        refine lv_iload hx hb dX1_clearElsewhere_19 (lv_at hl 0 rfl) ?_
        refine sd_aldA hx hb hK hP 9 4 dw_rows rfl (k := k) (by omega) (by decide) rfl dX1_clearElsewhere_21 ?_
        refine lv_iload_n hx hb dX1_clearElsewhere_22 rfl (lv_at hl 3 rfl) ?_
        refine sd_lald hx hb hK hP (38 + k) 0 (dw_mx hk) rfl (k := ux) (by omega) (by decide) dX1_clearElsewhere_23 ?_
        refine lv_lconst (v := 0) hx hb dX1_clearElsewhere_24 (by decide) ?_
        refine W.lcmp hx hb dX1_clearElsewhere_25 ?_
        refine lv_if_eq (tgt := 47) hx hb dX1_clearElsewhere_26 (by decide) (fun c3 => ?_) (fun c3 => ?_)
        · have c3 : (sd_L ((m1 k) ux)) = 0 := (lg_cmp_eq _ _).mp c3
          refine lv_iinc (v := nI (k + 1)) (lv' := [(4, .int (nI (k + 1))), (0, .ref (ad 8)), (1, .int (nI g)), (2, .int (nI ux)), (3, .int (nI nx))]) hx hb dX1_clearElsewhere_47 hl (k := 0) rfl (nI_1 _) (by decide) rfl (fun ls hl => ?_)
          refine lv_goto (tgt := 3) hx hb dX1_clearElsewhere_50 (by decide) ?_
          have c4 : mx k ux = 0 := by
            have z := sd_L_inj (c3.trans sd_L_0.symm)
            rw [hI, if_neg (by omega)] at z
            exact z
          have hI9 : ∀ i j, m1 i j = (if i < k + 1 ∧ i ≠ g ∧ ux ≤ j ∧ j ≤ nx then mx i j - mx i ux * mx g j else mx i j) := by
            intro i j
            rw [hI]
            by_cases a1 : i < k ∧ i ≠ g ∧ ux ≤ j ∧ j ≤ nx
            · rw [if_pos a1, if_pos (by omega)]
            · rw [if_neg a1]
              by_cases a2 : i < k + 1 ∧ i ≠ g ∧ ux ≤ j ∧ j ≤ nx
              · rw [if_pos a2, show i = k by omega, c4]
                grind
              · rw [if_neg a2]
          exact ih (k := k + 1) (m1 := m1) (hk9b := by omega) (hI := hI9) (H := H) (locs := locs) (hP := hP) (hD := hD) (hS := hS) (ls := ls) (hl := (lv_sub hl [0, 1, 2, 3, 4] rfl)) (hk9 := by omega)
        · have c3 : ¬ (sd_L ((m1 k) ux)) = 0 := fun q => c3 ((lg_cmp_eq _ _).mpr q)
          refine lv_aload_n hx hb dX1_clearElsewhere_29 rfl (lv_at hl 1 rfl) ?_
          refine va_get (D := D) (ci := 1) (v := .ref (ad 9)) (C := RX1) (T := TX1) (N := 5) hx hb hts (fun w h => mm (inX1 w h)) hown hK hP 8 dw_finder rfl 1 (by decide) (hts _ (mm wf_X1_20)) (fun _ h9 => h9) rfl dX1_clearElsewhere_30 ?_
          refine lv_iload hx hb dX1_clearElsewhere_33 (lv_at hl 0 rfl) ?_
          refine sd_aldA hx hb hK hP 9 4 dw_rows rfl (k := k) (by omega) (by decide) rfl dX1_clearElsewhere_35 ?_
          refine lv_aload_n hx hb dX1_clearElsewhere_36 rfl (lv_at hl 1 rfl) ?_
          refine va_get (D := D) (ci := 1) (v := .ref (ad 9)) (C := RX1) (T := TX1) (N := 5) hx hb hts (fun w h => mm (inX1 w h)) hown hK hP 8 dw_finder rfl 1 (by decide) (hts _ (mm wf_X1_20)) (fun _ h9 => h9) rfl dX1_clearElsewhere_37 ?_
          refine lv_iload_n hx hb dX1_clearElsewhere_40 rfl (lv_at hl 2 rfl) ?_
          refine sd_aldA hx hb hK hP 9 4 dw_rows rfl (k := g) (by omega) (by decide) rfl dX1_clearElsewhere_41 ?_
          refine lv_iload_n hx hb dX1_clearElsewhere_42 rfl (lv_at hl 3 rfl) ?_
          refine lv_iload_n hx hb dX1_clearElsewhere_43 rfl (lv_at hl 4 rfl) ?_
          refine sd_wv (va_runS (As := [.ref (ad (38 + k)), .ref (ad (38 + g)), .int (nI ux), .int (nI nx)]) (rest := []) ⟨hx, hb, hml, hown, hts⟩ (k_X1_takeTimes l D _ k g ux nx hk hg c2 (by omega) hn) (sd_cwS hts wd_X1_takeTimes wn_X1 wm_X1_95 wi_X1_takeTimes nq_X1_takeTimes rfl rfl ⟨Nat.le_of_ble_eq_true rfl, Nat.le_of_ble_eq_true rfl⟩) (sd_preW hP hK hD) rfl rfl hl.1 rfl (lv_room (Nat.le_of_ble_eq_true rfl)) dX1_clearElsewhere_44 ⟨Nat.zero_le _, Nat.zero_le _⟩) hD hS hA (fun m2 H locs hm2 hP hD hS => ?_)
          replace hP : va_P D vwCl (dw ad tc dg pl vl th cu m2 us so rr fw ff) H := hP
          replace hD : va_D A (dw ad tc dg pl vl th cu m2 us so rr fw ff) := hD
          refine lv_iinc (v := nI (k + 1)) (lv' := [(4, .int (nI (k + 1))), (0, .ref (ad 8)), (1, .int (nI g)), (2, .int (nI ux)), (3, .int (nI nx))]) hx hb dX1_clearElsewhere_47 hl (k := 0) rfl (nI_1 _) (by decide) rfl (fun ls hl => ?_)
          refine lv_goto (tgt := 3) hx hb dX1_clearElsewhere_50 (by decide) ?_
          have hI9 : ∀ i j, m2 i j = (if i < k + 1 ∧ i ≠ g ∧ ux ≤ j ∧ j ≤ nx then mx i j - mx i ux * mx g j else mx i j) := by
            intro i j
            rw [hm2]
            by_cases a1 : i = k ∧ ux ≤ j ∧ j ≤ nx
            · rw [if_pos a1, if_pos (by omega), hI, hI, hI, if_neg (by omega), if_neg (by omega), if_neg (by omega), a1.1]
            · rw [if_neg a1, hI]
              by_cases a2 : i < k ∧ i ≠ g ∧ ux ≤ j ∧ j ≤ nx
              · rw [if_pos a2, if_pos (by omega)]
              · rw [if_neg a2, if_neg (by omega)]
          exact ih (k := k + 1) (m1 := m2) (hk9b := by omega) (hI := hI9) (H := H) (locs := locs) (hP := hP) (hD := hD) (hS := hS) (ls := ls) (hl := (lv_sub hl [0, 1, 2, 3, 4] rfl)) (hk9 := by omega)
end
section
/-! the finder: the equations solved, the division, the whole -/
def sd_enc : Option Nat → Int32
  | none => -1
  | some r => nI r
theorem sd_m1_ne {i : Nat} (h : i < 2 ^ 31) : nI i ≠ -1 := by
  intro q
  have a := nI_toInt h
  rw [q] at a
  have b : (-1 : Int32).toInt = -1 := by decide
  omega
theorem sd_GI_step {nx ux i : Nat} {M0 m1 m2 m3 : Nat → Nat → FP} {u1 : Nat → Bool} {ro : Nat → Option Nat} {s9 : FP} (hG : sd_GI nx M0 m1 u1 ro ux) (hux : ux < nx) (hi : i < nx) (hui : u1 i = false) (hs : m1 i ux * s9 = 1)
    (h2 : ∀ a j, m2 a j = (if a = i ∧ ux ≤ j ∧ j ≤ nx then m1 i j * s9 else m1 a j)) (h3 : ∀ a j, m3 a j = (if a < nx ∧ a ≠ i ∧ ux ≤ j ∧ j ≤ nx then m2 a j - m2 a ux * m2 i j else m2 a j)) : sd_GI nx M0 m3 (sd_up u1 i true) (sd_up ro ux (some i)) (ux + 1) := by
  have hz := hG.2.1 i hi hui
  refine sd_GI_congr (by omega) (sd_GI_some hG hi hui hs) (fun a j ha hj => ?_) (fun _ _ => rfl) (fun _ _ => rfl)
  by_cases e : a = i
  · subst e
    rw [h3, if_neg (by omega), h2, sd_elim_self]
    by_cases e2 : ux ≤ j
    · rw [if_pos (by omega)]
    · rw [if_neg (by omega), hz j (by omega)]
      grind
  · rw [h3, sd_elim_ne m1 s9 j e]
    by_cases e2 : ux ≤ j
    · rw [if_pos (by omega), h2, h2, h2, if_neg (by omega), if_neg (by omega), if_pos (by omega)]
    · rw [if_neg (by omega), h2, if_neg (by omega), hz j (by omega)]
      grind

set_option maxHeartbeats 4000000 in
set_option maxRecDepth 100000 in
theorem k_X1_solveEquations (l : Launch) (D : va_G) {ad : Nat → Nat} {tc : Nat → ClassId} {dg pl : Nat → Nat} {vl : Nat → Nat → FP} {th : Nat → Nat → Bool} {cu mx : Nat → Nat → FP} {us : Nat → Bool} {so : Nat → FP} {rr : Nat → Int32} {fw : Nat → Bool} {ff : Int32} (sz : Nat) (nx : Nat) (hn : nx ≤ 16) : Met l yX1_solveEquations (Cond.code yX1_solveEquations cX1_solveEquations 4 none :: bg) { frames := 4, cells := 0, slots := 0, locals := 107 } (sd_Wr D vwCl (ty5 tc) (dw ad tc dg pl vl th cu mx us so rr fw ff) sz [.ref (ad 8), .int (nI nx)]) (va_Qv (S := (Nat → Nat → FP) × (Nat → Bool) × (Nat → FP) × (Nat → Int32)) (fun u : (Nat → Nat → FP) × (Nat → Bool) × (Nat → FP) × (Nat → Int32) => ∃ (used : Nat → Bool) (ro : Nat → Option Nat), sd_GI nx mx u.1 used ro nx ∧ ∀ v, v < nx → u.2.2.1 v = sd_sol u.1 nx ro v) (sd_B D vwCl (ty5 tc) (va_A (dw ad tc dg pl vl th cu mx us so rr fw ff) sz) (fun u => dw ad tc dg pl vl th cu u.1 u.2.1 u.2.2.1 u.2.2.2 fw ff)) (va_A (dw ad tc dg pl vl th cu mx us so rr fw ff) sz)) 0 0 (va_A (dw ad tc dg pl vl th cu mx us so rr fw ff) sz) := by
  refine Met.ofW (cc := cX1_solveEquations) (maxL := 4) (ret := none) (by decide) rfl ?_
  intro p e s m args below meth c s₁ B hml hv
  obtain ⟨rfl, hsz, hP, hK, hD0⟩ := hv
  have hx := B.exec
  have hb := B.bytes
  have hr := B.returns
  have hts := atoms_spec (ws := Cond.code yX1_solveEquations cX1_solveEquations 4 none :: bg) B.pre
  have hown : s.vm.findClass RX1 = some m.cls := findClass_of_methodNamed B.named
  have hlocks := B.notSynchronized
  subst hsz
  have hD := hD0.self (sz := s.heap.size)
  generalize hAe : va_A (dw ad tc dg pl vl th cu mx us so rr fw ff) s.heap.size = A at hD ⊢
  have hA : ∀ q : Nat, s.heap.size ≤ q → A q := fun q h => by rw [← hAe]; exact Or.inr h
  have hS : va_S A s.heap s.heap [] := va_S.rf
  have hl := lv_entry ([.ref (ad 8), .int (nI nx)]) (n := 4) (Nat.le_of_ble_eq_true rfl)
  rw [lg_entry_eq]
  generalize (lg_sl ([.ref (ad 8), .int (nI nx)]) ++ List.replicate (4 - (lg_sl ([.ref (ad 8), .int (nI nx)])).length) Slot.unset).toArray = ls at hl ⊢
  replace hl : lv_has ls 4 [(0, .ref (ad 8)), (1, .int (nI nx))] := hl
  refine lv_iconst (v := nI 0) hx hb dX1_solveEquations_0 (by decide) ?_
  refine lv_istore_n (lv' := [(2, .int (nI 0)), (0, .ref (ad 8)), (1, .int (nI nx))]) hx hb dX1_solveEquations_1 rfl hl (by decide) rfl (fun ls hl => ?_)
  obtain ⟨H, hH9⟩ : ∃ H : Heap, H = s.heap := ⟨_, rfl⟩
  obtain ⟨locs, hl9⟩ : ∃ x : List Loc, x = [] := ⟨_, rfl⟩
  rw [← hH9, ← hl9]
  have hS : va_S A s.heap H locs := by rw [hH9, hl9]; exact va_S.rf
  have hP : va_P D vwCl (dw ad tc dg pl vl th cu mx us so rr fw ff) H := by rw [hH9]; exact hP
  clear hH9 hl9
  obtain ⟨k, u1, hk, hI, hP9, hD9, hl9⟩ : ∃ (k : Nat) (u1 : Nat → Bool), (k ≤ nx) ∧ (∀ i, u1 i = (if i < k then false else us i)) ∧ va_P D vwCl (dw ad tc dg pl vl th cu mx u1 so rr fw ff) H ∧ va_D A (dw ad tc dg pl vl th cu mx u1 so rr fw ff) ∧ lv_has ls 4 [(2, .int (nI k)), (0, .ref (ad 8)), (1, .int (nI nx))] := ⟨0, us, Nat.zero_le _, fun i => by rw [if_neg (Nat.not_lt_zero i)], hP, hD, (lv_sub hl [0, 1, 2] rfl)⟩
  replace hl := hl9
  clear hl9
  replace hP := hP9
  replace hD := hD9
  clear hP9 hD9
  obtain ⟨k9, hk9⟩ : ∃ k9 : Nat, nx < k + k9 := ⟨nx + 1, by omega⟩
  induction k9 generalizing k u1 ls H locs with
  | zero => exact absurd hk9 (by omega)
  | succ k9 ih =>
    refine lv_iload_n hx hb dX1_solveEquations_2 rfl (lv_at hl 0 rfl) ?_
    refine lv_iload_n hx hb dX1_solveEquations_3 rfl (lv_at hl 2 rfl) ?_
    refine sd_icmp_ge (tgt := 20) hx hb (by omega) (by omega) dX1_solveEquations_4 (by decide) (fun c1 => ?_) (fun c1 => ?_)
    · have hU : ∀ i, i < nx → u1 i = false := fun i hi => by rw [hI, if_pos (by omega)]
      refine lv_iconst (v := nI 0) hx hb dX1_solveEquations_20 (by decide) ?_
      refine lv_istore_n (lv' := [(2, .int (nI 0)), (0, .ref (ad 8)), (1, .int (nI nx))]) hx hb dX1_solveEquations_21 rfl hl (by decide) rfl (fun ls hl => ?_)
      obtain ⟨ux, m1, u2, r1, ro, hux, hG, hro, hP9, hD9, hl9⟩ : ∃ (ux : Nat) (m1 : Nat → Nat → FP) (u2 : Nat → Bool) (r1 : Nat → Int32) (ro : Nat → Option Nat), (ux ≤ nx) ∧ (sd_GI nx mx m1 u2 ro ux) ∧ (∀ v, v < ux → r1 v = sd_enc (ro v)) ∧ va_P D vwCl (dw ad tc dg pl vl th cu m1 u2 so r1 fw ff) H ∧ va_D A (dw ad tc dg pl vl th cu m1 u2 so r1 fw ff) ∧ lv_has ls 4 [(2, .int (nI ux)), (0, .ref (ad 8)), (1, .int (nI nx))] := ⟨0, mx, u1, rr, fun _ => none, Nat.zero_le _, sd_GI_0 nx mx u1 _ hU, fun v hv => absurd hv (Nat.not_lt_zero v), hP, hD, (lv_sub hl [0, 1, 2] rfl)⟩
      replace hl := hl9
      clear hl9
      replace hP := hP9
      replace hD := hD9
      clear hP9 hD9
      obtain ⟨k9, hk9⟩ : ∃ k9 : Nat, nx < ux + k9 := ⟨nx + 1, by omega⟩
      induction k9 generalizing ux m1 u2 r1 ro ls H locs with
      | zero => exact absurd hk9 (by omega)
      | succ k9 ih =>
        refine lv_iload_n hx hb dX1_solveEquations_22 rfl (lv_at hl 0 rfl) ?_
        refine lv_iload_n hx hb dX1_solveEquations_23 rfl (lv_at hl 2 rfl) ?_
        refine sd_icmp_ge (tgt := 77) hx hb (by omega) (by omega) dX1_solveEquations_24 (by decide) (fun c2 => ?_) (fun c2 => ?_)
        · refine lv_iconst (v := nI 0) hx hb dX1_solveEquations_77 (by decide) ?_
          refine lv_istore_n (lv' := [(2, .int (nI 0)), (0, .ref (ad 8)), (1, .int (nI nx))]) hx hb dX1_solveEquations_78 rfl hl (by decide) rfl (fun ls hl => ?_)
          have eux : ux = nx := by omega
          subst eux
          skip
          obtain ⟨k, s1, hk2, hso, hP9, hD9, hl9⟩ : ∃ (k : Nat) (s1 : Nat → FP), (k ≤ ux) ∧ (∀ v, v < k → s1 v = sd_sol m1 ux ro v) ∧ va_P D vwCl (dw ad tc dg pl vl th cu m1 u2 s1 r1 fw ff) H ∧ va_D A (dw ad tc dg pl vl th cu m1 u2 s1 r1 fw ff) ∧ lv_has ls 4 [(2, .int (nI k)), (0, .ref (ad 8)), (1, .int (nI ux))] := ⟨0, so, Nat.zero_le _, fun v hv => absurd hv (Nat.not_lt_zero v), hP, hD, (lv_sub hl [0, 1, 2] rfl)⟩
          replace hl := hl9
          clear hl9
          replace hP := hP9
          replace hD := hD9
          clear hP9 hD9
          obtain ⟨k9, hk9⟩ : ∃ k9 : Nat, ux < k + k9 := ⟨ux + 1, by omega⟩
          induction k9 generalizing k s1 ls H locs with
          | zero => exact absurd hk9 (by omega)
          | succ k9 ih =>
            refine lv_iload_n hx hb dX1_solveEquations_79 rfl (lv_at hl 0 rfl) ?_
            refine lv_iload_n hx hb dX1_solveEquations_80 rfl (lv_at hl 2 rfl) ?_
            refine sd_icmp_ge (tgt := 120) hx hb (by omega) (by omega) dX1_solveEquations_81 (by decide) (fun c3 => ?_) (fun c3 => ?_)
            · exact W.vret hx hb hr (fun t ht hW => ⟨⟨(m1, u2, s1, r1), rfl, ⟨u2, ro, hG, fun v hv => hso v (by omega)⟩, by rw [ht]; exact hP, va_K.moved hW.alike hK, hD⟩, hS.F ht⟩) hS.2.2 dX1_solveEquations_120
            · refine lv_aload_n hx hb dX1_solveEquations_84 rfl (lv_at hl 1 rfl) ?_
              refine va_get (D := D) (ci := 1) (v := .ref (ad 12)) (C := RX1) (T := TX1) (N := 5) hx hb hts (fun w h => mm (inX1 w h)) hown hK hP 8 dw_finder rfl 4 (by decide) (hts _ (mm wf_X1_31)) (fun _ h9 => h9) rfl dX1_solveEquations_85 ?_
              refine lv_iload_n hx hb dX1_solveEquations_88 rfl (lv_at hl 0 rfl) ?_
              refine sd_iald hx hb hK hP 12 2 dw_rou rfl (k := k) (by omega) (by decide) dX1_solveEquations_89 ?_
              refine sd_toi (y := sd_enc (ro k)) (hro k (by omega)) ?_
              have hsd : sd_sol m1 ux ro k = (match ro k with | none => 0 | some r => m1 r ux) := rfl
              have hrg := fun r => hG.2.2.2.1 k r (by omega)
              generalize ro k = rk at hsd hrg ⊢
              rcases rk with _ | i
              · replace hsd : sd_sol m1 ux ro k = 0 := hsd
                refine sd_toi (y := -1) rfl ?_
                refine lv_istore_n (lv' := [(3, .int (-1)), (2, .int (nI k)), (0, .ref (ad 8)), (1, .int (nI ux))]) hx hb dX1_solveEquations_90 rfl hl (by decide) rfl (fun ls hl => ?_)
                refine lv_aload_n hx hb dX1_solveEquations_91 rfl (lv_at hl 2 rfl) ?_
                refine va_get (D := D) (ci := 1) (v := .ref (ad 11)) (C := RX1) (T := TX1) (N := 5) hx hb hts (fun w h => mm (inX1 w h)) hown hK hP 8 dw_finder rfl 3 (by decide) (hts _ (mm wf_X1_27)) (fun _ h9 => h9) rfl dX1_solveEquations_92 ?_
                refine lv_iload_n hx hb dX1_solveEquations_95 rfl (lv_at hl 1 rfl) ?_
                refine lv_iload_n hx hb dX1_solveEquations_96 rfl (lv_at hl 0 rfl) ?_
                refine lv_iconst (v := -1) hx hb dX1_solveEquations_97 (by decide) ?_
                refine lv_icmp_ne (tgt := 105) hx hb dX1_solveEquations_98 (by decide) (fun c4 => ?_) (fun c4 => ?_)
                · exact absurd rfl c4
                · refine lv_lconst (v := 0) hx hb dX1_solveEquations_101 (by decide) ?_
                  refine sd_tol (y := sd_L 0) sd_L_0.symm ?_
                  refine lv_goto (tgt := 113) hx hb dX1_solveEquations_102 (by decide) ?_
                  refine sd_last hx hb hK hP hD hS 11 0 dw_sol rfl (k := k) (by omega) (by decide) (ws2 := dw ad tc dg pl vl th cu m1 u2 (sd_up s1 k 0) r1 fw ff) (by rw [sd_stL]; exact dws_sol _) dX1_solveEquations_113 (fun H locs hP hD hS => ?_)
                  have hI9 : ∀ v, v < k + 1 → (sd_up s1 k 0) v = sd_sol m1 ux ro v := by
                    intro v hv
                    by_cases ev : v = k
                    · rw [ev, sd_up_s, hsd]
                    · rw [sd_up_n _ _ ev]; exact hso v (by omega)
                  refine lv_iinc (v := nI (k + 1)) (lv' := [(2, .int (nI (k + 1))), (3, .int (-1)), (0, .ref (ad 8)), (1, .int (nI ux))]) hx hb dX1_solveEquations_114 hl (k := 1) rfl (nI_1 _) (by decide) rfl (fun ls hl => ?_)
                  refine lv_goto (tgt := 79) hx hb dX1_solveEquations_117 (by decide) ?_
                  exact ih (k := k + 1) (s1 := sd_up s1 k 0) (hk2 := by omega) (hso := hI9) (H := H) (locs := locs) (hP := hP) (hD := hD) (hS := hS) (ls := ls) (hl := (lv_sub hl [0, 2, 3] rfl)) (hk9 := by omega)
              · replace hsd : sd_sol m1 ux ro k = m1 i ux := hsd
                have hi : i < 16 := by have := (hrg i rfl).1; omega
                refine sd_toi (y := nI i) rfl ?_
                refine lv_istore_n (lv' := [(3, .int (nI i)), (2, .int (nI k)), (0, .ref (ad 8)), (1, .int (nI ux))]) hx hb dX1_solveEquations_90 rfl hl (by decide) rfl (fun ls hl => ?_)
                refine lv_aload_n hx hb dX1_solveEquations_91 rfl (lv_at hl 2 rfl) ?_
                refine va_get (D := D) (ci := 1) (v := .ref (ad 11)) (C := RX1) (T := TX1) (N := 5) hx hb hts (fun w h => mm (inX1 w h)) hown hK hP 8 dw_finder rfl 3 (by decide) (hts _ (mm wf_X1_27)) (fun _ h9 => h9) rfl dX1_solveEquations_92 ?_
                refine lv_iload_n hx hb dX1_solveEquations_95 rfl (lv_at hl 1 rfl) ?_
                refine lv_iload_n hx hb dX1_solveEquations_96 rfl (lv_at hl 0 rfl) ?_
                refine lv_iconst (v := -1) hx hb dX1_solveEquations_97 (by decide) ?_
                refine lv_icmp_ne (tgt := 105) hx hb dX1_solveEquations_98 (by decide) (fun c4 => ?_) (fun c4 => ?_)
                · refine lv_aload_n hx hb dX1_solveEquations_105 rfl (lv_at hl 2 rfl) ?_
                  refine va_get (D := D) (ci := 1) (v := .ref (ad 9)) (C := RX1) (T := TX1) (N := 5) hx hb hts (fun w h => mm (inX1 w h)) hown hK hP 8 dw_finder rfl 1 (by decide) (hts _ (mm wf_X1_20)) (fun _ h9 => h9) rfl dX1_solveEquations_106 ?_
                  refine lv_iload_n hx hb dX1_solveEquations_109 rfl (lv_at hl 0 rfl) ?_
                  refine sd_aldA hx hb hK hP 9 4 dw_rows rfl (k := i) (by omega) (by decide) rfl dX1_solveEquations_110 ?_
                  refine lv_iload_n hx hb dX1_solveEquations_111 rfl (lv_at hl 3 rfl) ?_
                  refine sd_lald hx hb hK hP (38 + i) 0 (dw_mx hi) rfl (k := ux) (by omega) (by decide) dX1_solveEquations_112 ?_
                  refine sd_last hx hb hK hP hD hS 11 0 dw_sol rfl (k := k) (by omega) (by decide) (ws2 := dw ad tc dg pl vl th cu m1 u2 (sd_up s1 k ((m1 i) ux)) r1 fw ff) (by rw [sd_stL]; exact dws_sol _) dX1_solveEquations_113 (fun H locs hP hD hS => ?_)
                  have hI9 : ∀ v, v < k + 1 → (sd_up s1 k ((m1 i) ux)) v = sd_sol m1 ux ro v := by
                    intro v hv
                    by_cases ev : v = k
                    · rw [ev, sd_up_s, hsd]
                    · rw [sd_up_n _ _ ev]; exact hso v (by omega)
                  refine lv_iinc (v := nI (k + 1)) (lv' := [(2, .int (nI (k + 1))), (3, .int (nI i)), (0, .ref (ad 8)), (1, .int (nI ux))]) hx hb dX1_solveEquations_114 hl (k := 1) rfl (nI_1 _) (by decide) rfl (fun ls hl => ?_)
                  refine lv_goto (tgt := 79) hx hb dX1_solveEquations_117 (by decide) ?_
                  exact ih (k := k + 1) (s1 := sd_up s1 k ((m1 i) ux)) (hk2 := by omega) (hso := hI9) (H := H) (locs := locs) (hP := hP) (hD := hD) (hS := hS) (ls := ls) (hl := (lv_sub hl [0, 2, 3] rfl)) (hk9 := by omega)
                · exact absurd c4 (sd_m1_ne (by omega))
        · refine lv_aload_n hx hb dX1_solveEquations_27 rfl (lv_at hl 1 rfl) ?_
          refine lv_iload_n hx hb dX1_solveEquations_28 rfl (lv_at hl 0 rfl) ?_
          refine lv_iload_n hx hb dX1_solveEquations_29 rfl (lv_at hl 2 rfl) ?_
          refine sd_ri (va_runV (As := [.int (nI ux), .int (nI nx)]) (rest := []) ⟨hx, hb, hml, hown, hts⟩ (k_X1_unusedRowWith l D ux nx (by omega) hn) (sd_cwV hts wd_X1_unusedRowWith wn_X1 wm_X1_80 wi_X1_unusedRowWith ws_X1_unusedRowWith nq_X1_unusedRowWith rfl rfl ⟨Nat.le_of_ble_eq_true rfl, Nat.le_of_ble_eq_true rfl⟩) (sd_preVR hP hK (ci := 1) (q0 := 8) rfl rfl dw_finder) rfl rfl hl.1 rfl (lv_room (Nat.le_of_ble_eq_true rfl)) dX1_solveEquations_30 ⟨Nat.zero_le _, Nat.zero_le _⟩) (fun rw9 hrw9 => ?_)
          refine lv_istore_n (lv' := [(3, .int rw9), (2, .int (nI ux)), (0, .ref (ad 8)), (1, .int (nI nx))]) hx hb dX1_solveEquations_33 rfl hl (by decide) rfl (fun ls hl => ?_)
          refine lv_aload_n hx hb dX1_solveEquations_34 rfl (lv_at hl 2 rfl) ?_
          refine va_get (D := D) (ci := 1) (v := .ref (ad 12)) (C := RX1) (T := TX1) (N := 5) hx hb hts (fun w h => mm (inX1 w h)) hown hK hP 8 dw_finder rfl 4 (by decide) (hts _ (mm wf_X1_31)) (fun _ h9 => h9) rfl dX1_solveEquations_35 ?_
          refine lv_iload_n hx hb dX1_solveEquations_38 rfl (lv_at hl 1 rfl) ?_
          refine lv_iload_n hx hb dX1_solveEquations_39 rfl (lv_at hl 0 rfl) ?_
          refine sd_iast hx hb hK hP hD hS 12 2 dw_rou rfl (k := ux) (by omega) (by decide) (ws2 := dw ad tc dg pl vl th cu m1 u2 so (sd_up r1 ux rw9) fw ff) (by rw [sd_stI]; exact dws_rou _) dX1_solveEquations_40 (fun H locs hP hD hS => ?_)
          refine lv_iload_n hx hb dX1_solveEquations_41 rfl (lv_at hl 0 rfl) ?_
          refine lv_iconst (v := -1) hx hb dX1_solveEquations_42 (by decide) ?_
          refine lv_icmp_eq (tgt := 71) hx hb dX1_solveEquations_43 (by decide) (fun c3 => ?_) (fun c3 => ?_)
          · have hz : ∀ i, i < nx → u2 i = false → m1 i ux = 0 := by
              rcases hrw9 with h9 | ⟨i, h1, h2, -⟩
              · exact h9.2
              · exact absurd (h2.symm.trans c3) (sd_m1_ne (by omega))
            refine lv_iinc (v := nI (ux + 1)) (lv' := [(2, .int (nI (ux + 1))), (3, .int rw9), (0, .ref (ad 8)), (1, .int (nI nx))]) hx hb dX1_solveEquations_71 hl (k := 1) rfl (nI_1 _) (by decide) rfl (fun ls hl => ?_)
            refine lv_goto (tgt := 22) hx hb dX1_solveEquations_74 (by decide) ?_
            exact ih (ux := ux + 1) (m1 := m1) (u2 := u2) (r1 := sd_up r1 ux rw9) (ro := sd_up ro ux none) (hux := by omega) (hG := sd_GI_none hG hz) (hro := fun v hv => (Classical.em (v = ux)).elim (fun ev => by rw [ev, sd_up_s, sd_up_s, c3]; rfl) (fun ev => by rw [sd_up_n _ _ ev, sd_up_n _ _ ev]; exact hro v (by omega))) (H := H) (locs := locs) (hP := hP) (hD := hD) (hS := hS) (ls := ls) (hl := (lv_sub hl [0, 2, 3] rfl)) (hk9 := by omega)
          · obtain ⟨i, hin, rfl, hui, hmi⟩ : ∃ i, i < nx ∧ rw9 = nI i ∧ u2 i = false ∧ m1 i ux ≠ 0 := hrw9.resolve_left (fun z => c3 z.1)
            have hi : i < 16 := by omega
            refine lv_aload_n hx hb dX1_solveEquations_46 rfl (lv_at hl 2 rfl) ?_
            refine va_get (D := D) (ci := 1) (v := .ref (ad 10)) (C := RX1) (T := TX1) (N := 5) hx hb hts (fun w h => mm (inX1 w h)) hown hK hP 8 dw_finder rfl 2 (by decide) (hts _ (mm wf_X1_23)) (fun _ h9 => h9) rfl dX1_solveEquations_47 ?_
            refine lv_iload_n hx hb dX1_solveEquations_50 rfl (lv_at hl 0 rfl) ?_
            refine lv_iconst (v := nI 1) hx hb dX1_solveEquations_51 (by decide) ?_
            refine sd_tob (b := true) rfl ?_
            refine sd_zast hx hb hK hP hD hS 10 1 dw_used rfl (k := i) (by omega) (by decide) (ws2 := dw ad tc dg pl vl th cu m1 (sd_up u2 i true) so (sd_up r1 ux (nI i)) fw ff) (by rw [sd_stZ]; exact dws_used _) dX1_solveEquations_52 (fun H locs hP hD hS => ?_)
            refine lv_aload_n hx hb dX1_solveEquations_53 rfl (lv_at hl 2 rfl) ?_
            refine va_get (D := D) (ci := 1) (v := .ref (ad 9)) (C := RX1) (T := TX1) (N := 5) hx hb hts (fun w h => mm (inX1 w h)) hown hK hP 8 dw_finder rfl 1 (by decide) (hts _ (mm wf_X1_20)) (fun _ h9 => h9) rfl dX1_solveEquations_54 ?_
            refine lv_iload_n hx hb dX1_solveEquations_57 rfl (lv_at hl 0 rfl) ?_
            refine sd_aldA hx hb hK hP 9 4 dw_rows rfl (k := i) (by omega) (by decide) rfl dX1_solveEquations_58 ?_
            refine lv_iload_n hx hb dX1_solveEquations_59 rfl (lv_at hl 1 rfl) ?_
            refine lv_iload_n hx hb dX1_solveEquations_60 rfl (lv_at hl 3 rfl) ?_
            refine sd_wv (va_runS (As := [.ref (ad (38 + i)), .int (nI ux), .int (nI nx)]) (rest := []) ⟨hx, hb, hml, hown, hts⟩ (k_X1_makeOne l D _ i ux nx hi (by omega) hn hmi) (sd_cwS hts wd_X1_makeOne wn_X1 wm_X1_83 wi_X1_makeOne nq_X1_makeOne rfl rfl ⟨Nat.le_of_ble_eq_true rfl, Nat.le_of_ble_eq_true rfl⟩) (sd_preW hP hK hD) rfl rfl hl.1 rfl (lv_room (Nat.le_of_ble_eq_true rfl)) dX1_solveEquations_61 ⟨Nat.zero_le _, Nat.zero_le _⟩) hD hS hA (fun m2 H locs hm2 hP hD hS => ?_)
            replace hP : va_P D vwCl (dw ad tc dg pl vl th cu m2 (sd_up u2 i true) so (sd_up r1 ux (nI i)) fw ff) H := hP
            replace hD : va_D A (dw ad tc dg pl vl th cu m2 (sd_up u2 i true) so (sd_up r1 ux (nI i)) fw ff) := hD
            obtain ⟨s9, hs9, hm2⟩ := hm2
            refine lv_aload_n hx hb dX1_solveEquations_64 rfl (lv_at hl 2 rfl) ?_
            refine lv_iload_n hx hb dX1_solveEquations_65 rfl (lv_at hl 0 rfl) ?_
            refine lv_iload_n hx hb dX1_solveEquations_66 rfl (lv_at hl 1 rfl) ?_
            refine lv_iload_n hx hb dX1_solveEquations_67 rfl (lv_at hl 3 rfl) ?_
            refine sd_wv (va_runV (As := [.int (nI i), .int (nI ux), .int (nI nx)]) (rest := []) ⟨hx, hb, hml, hown, hts⟩ (k_X1_clearElsewhere l D _ i ux nx hi (by omega) hn) (sd_cwV hts wd_X1_clearElsewhere wn_X1 wm_X1_87 wi_X1_clearElsewhere ws_X1_clearElsewhere nq_X1_clearElsewhere rfl rfl ⟨Nat.le_of_ble_eq_true rfl, Nat.le_of_ble_eq_true rfl⟩) (sd_preVW hP hK hD (ci := 1) (q0 := 8) rfl rfl dw_finder) rfl rfl hl.1 rfl (lv_room (Nat.le_of_ble_eq_true rfl)) dX1_solveEquations_68 ⟨Nat.zero_le _, Nat.zero_le _⟩) hD hS hA (fun m3 H locs hm3 hP hD hS => ?_)
            replace hP : va_P D vwCl (dw ad tc dg pl vl th cu m3 (sd_up u2 i true) so (sd_up r1 ux (nI i)) fw ff) H := hP
            replace hD : va_D A (dw ad tc dg pl vl th cu m3 (sd_up u2 i true) so (sd_up r1 ux (nI i)) fw ff) := hD
            refine lv_iinc (v := nI (ux + 1)) (lv' := [(2, .int (nI (ux + 1))), (3, .int (nI i)), (0, .ref (ad 8)), (1, .int (nI nx))]) hx hb dX1_solveEquations_71 hl (k := 1) rfl (nI_1 _) (by decide) rfl (fun ls hl => ?_)
            refine lv_goto (tgt := 22) hx hb dX1_solveEquations_74 (by decide) ?_
            exact ih (ux := ux + 1) (m1 := m3) (u2 := sd_up u2 i true) (r1 := sd_up r1 ux (nI i)) (ro := sd_up ro ux (some i)) (hux := by omega) (hG := sd_GI_step hG (by omega) hin hui hs9 hm2 hm3) (hro := fun v hv => (Classical.em (v = ux)).elim (fun ev => by rw [ev, sd_up_s, sd_up_s]; rfl) (fun ev => by rw [sd_up_n _ _ ev, sd_up_n _ _ ev]; exact hro v (by omega))) (H := H) (locs := locs) (hP := hP) (hD := hD) (hS := hS) (ls := ls) (hl := (lv_sub hl [0, 2, 3] rfl)) (hk9 := by omega)
    · refine lv_aload_n hx hb dX1_solveEquations_7 rfl (lv_at hl 1 rfl) ?_
      refine va_get (D := D) (ci := 1) (v := .ref (ad 10)) (C := RX1) (T := TX1) (N := 5) hx hb hts (fun w h => mm (inX1 w h)) hown hK hP 8 dw_finder rfl 2 (by decide) (hts _ (mm wf_X1_23)) (fun _ h9 => h9) rfl dX1_solveEquations_8 ?_
      refine lv_iload_n hx hb dX1_solveEquations_11 rfl (lv_at hl 0 rfl) ?_
      refine lv_iconst (v := nI 0) hx hb dX1_solveEquations_12 (by decide) ?_
      refine sd_tob (b := false) rfl ?_
      refine sd_zast hx hb hK hP hD hS 10 1 dw_used rfl (k := k) (by omega) (by decide) (ws2 := dw ad tc dg pl vl th cu mx (sd_up u1 k false) so rr fw ff) (by rw [sd_stZ]; exact dws_used _) dX1_solveEquations_13 (fun H locs hP hD hS => ?_)
      refine lv_iinc (v := nI (k + 1)) (lv' := [(2, .int (nI (k + 1))), (0, .ref (ad 8)), (1, .int (nI nx))]) hx hb dX1_solveEquations_14 hl (k := 0) rfl (nI_1 _) (by decide) rfl (fun ls hl => ?_)
      refine lv_goto (tgt := 2) hx hb dX1_solveEquations_17 (by decide) ?_
      exact ih (k := k + 1) (u1 := sd_up u1 k false) (hk := by omega) (hI := fun i => by unfold sd_up; rw [hI]; by_cases a1 : i = k <;> by_cases a2 : i < k <;> simp [a1, a2] <;> omega) (H := H) (locs := locs) (hP := hP) (hD := hD) (hS := hS) (ls := ls) (hl := (lv_sub hl [0, 1, 2] rfl)) (hk9 := by omega)
end
section
/-! the finder: the division, the whole -/
set_option maxHeartbeats 4000000 in
set_option maxRecDepth 100000 in
theorem k_X1_divide (l : Launch) (D : va_G) {ad : Nat → Nat} {tc : Nat → ClassId} {dg pl : Nat → Nat} {vl : Nat → Nat → FP} {th : Nat → Nat → Bool} {cu mx : Nat → Nat → FP} {us : Nat → Bool} {so : Nat → FP} {rr : Nat → Int32} {fw : Nat → Bool} {ff : Int32} (sz : Nat) (t e1 : Nat) (ht8 : t ≤ 8) (hn : t + e1 + 1 + e1 ≤ 16) : Met l yX1_divide (Cond.code yX1_divide cX1_divide 8 none :: bg) { frames := 1, cells := 0, slots := 0, locals := 35 } (sd_Wr D vwCl (ty5 tc) (dw ad tc dg pl vl th cu mx us so rr fw ff) sz [.ref (ad 8), .int (nI t), .int (nI e1)]) (va_Qv (S := (Nat → Nat → FP) × (Nat → FP)) (fun u : (Nat → Nat → FP) × (Nat → FP) => (∀ i, i ≠ 1 → u.1 i = cu i) ∧ (∀ k, t < k → k ≤ 8 → u.1 1 k = 0) ∧ ∀ f : Nat → FP, (∀ m9, m9 < t + e1 + 1 → so m9 = sd_cv f (sd_E so t e1) (t + 1) m9) → ∀ k, k ≤ t → u.1 1 k = f k) (sd_B D vwCl (ty5 tc) (va_A (dw ad tc dg pl vl th cu mx us so rr fw ff) sz) (fun u => dw ad tc dg pl vl th u.1 mx us u.2 rr fw ff)) (va_A (dw ad tc dg pl vl th cu mx us so rr fw ff) sz)) 0 0 (va_A (dw ad tc dg pl vl th cu mx us so rr fw ff) sz) := by
  refine Met.ofW (cc := cX1_divide) (maxL := 8) (ret := none) (by decide) rfl ?_
  intro p e s m args below meth c s₁ B hml hv
  obtain ⟨rfl, hsz, hP, hK, hD0⟩ := hv
  have hx := B.exec
  have hb := B.bytes
  have hr := B.returns
  have hts := atoms_spec (ws := Cond.code yX1_divide cX1_divide 8 none :: bg) B.pre
  have hown : s.vm.findClass RX1 = some m.cls := findClass_of_methodNamed B.named
  have hlocks := B.notSynchronized
  subst hsz
  have hD := hD0.self (sz := s.heap.size)
  generalize hAe : va_A (dw ad tc dg pl vl th cu mx us so rr fw ff) s.heap.size = A at hD ⊢
  have hA : ∀ q : Nat, s.heap.size ≤ q → A q := fun q h => by rw [← hAe]; exact Or.inr h
  have hS : va_S A s.heap s.heap [] := va_S.rf
  have hl := lv_entry ([.ref (ad 8), .int (nI t), .int (nI e1)]) (n := 8) (Nat.le_of_ble_eq_true rfl)
  rw [lg_entry_eq]
  generalize (lg_sl ([.ref (ad 8), .int (nI t), .int (nI e1)]) ++ List.replicate (8 - (lg_sl ([.ref (ad 8), .int (nI t), .int (nI e1)])).length) Slot.unset).toArray = ls at hl ⊢
  replace hl : lv_has ls 8 [(0, .ref (ad 8)), (1, .int (nI t)), (2, .int (nI e1))] := hl
  refine lv_iload_n hx hb dX1_divide_0 rfl (lv_at hl 1 rfl) ?_
  refine lv_iload_n hx hb dX1_divide_1 rfl (lv_at hl 2 rfl) ?_
  refine sd_iadd hx hb dX1_divide_2 ?_
  refine lv_iconst (v := nI 1) hx hb dX1_divide_3 (by decide) ?_
  refine sd_iadd hx hb dX1_divide_4 ?_
  refine lv_istore_n (lv' := [(3, .int (nI ((t + e1) + 1))), (0, .ref (ad 8)), (1, .int (nI t)), (2, .int (nI e1))]) hx hb dX1_divide_5 rfl hl (by decide) rfl (fun ls hl => ?_)
  refine lv_bipush (v := nI 8) hx hb dX1_divide_6 (by decide) ?_
  refine lv_istore (lv' := [(4, .int (nI 8)), (3, .int (nI ((t + e1) + 1))), (0, .ref (ad 8)), (1, .int (nI t)), (2, .int (nI e1))]) hx hb dX1_divide_8 hl (by decide) rfl (fun ls hl => ?_)
  obtain ⟨H, hH9⟩ : ∃ H : Heap, H = s.heap := ⟨_, rfl⟩
  obtain ⟨locs, hl9⟩ : ∃ x : List Loc, x = [] := ⟨_, rfl⟩
  rw [← hH9, ← hl9]
  have hS : va_S A s.heap H locs := by rw [hH9, hl9]; exact va_S.rf
  have hP : va_P D vwCl (dw ad tc dg pl vl th cu mx us so rr fw ff) H := by rw [hH9]; exact hP
  clear hH9 hl9
  obtain ⟨K, c1, hK9, hZ, hP9, hD9, hl9⟩ : ∃ (K : Nat) (c1 : Nat → Nat → FP), (t ≤ K ∧ K ≤ 8) ∧ ((∀ i, i ≠ 1 → c1 i = cu i) ∧ ∀ k, K < k → k ≤ 8 → c1 1 k = 0) ∧ va_P D vwCl (dw ad tc dg pl vl th c1 mx us so rr fw ff) H ∧ va_D A (dw ad tc dg pl vl th c1 mx us so rr fw ff) ∧ lv_has ls 8 [(4, .int (nI K)), (0, .ref (ad 8)), (1, .int (nI t)), (2, .int (nI e1)), (3, .int (nI (t + e1 + 1)))] := ⟨8, cu, ⟨ht8, Nat.le_refl 8⟩, ⟨fun _ _ => rfl, fun k h1 h2 => absurd h1 (by omega)⟩, hP, hD, (lv_sub hl [0, 2, 3, 4, 1] rfl)⟩
  replace hl := hl9
  clear hl9
  replace hP := hP9
  replace hD := hD9
  clear hP9 hD9
  obtain ⟨k9, hk9⟩ : ∃ k9 : Nat, K < k9 := ⟨9, by omega⟩
  induction k9 generalizing K c1 ls H locs with
  | zero => exact absurd hk9 (by omega)
  | succ k9 ih =>
    refine lv_iload hx hb dX1_divide_10 (lv_at hl 0 rfl) ?_
    refine lv_iload_n hx hb dX1_divide_12 rfl (lv_at hl 2 rfl) ?_
    refine sd_icmp_le (tgt := 33) hx hb (by omega) (by omega) dX1_divide_13 (by decide) (fun b1 => ?_) (fun b1 => ?_)
    · have eK : K = t := by omega
      subst eK
      refine lv_iload_n hx hb dX1_divide_33 rfl (lv_at hl 2 rfl) ?_
      refine lv_istore (lv' := [(4, .int (nI K)), (0, .ref (ad 8)), (1, .int (nI K)), (2, .int (nI e1)), (3, .int (nI (K + e1 + 1)))]) hx hb dX1_divide_34 hl (by decide) rfl (fun ls hl => ?_)
      replace hl : lv_has ls 8 [(4, .int (nI (K + 1) + (-1))), (0, .ref (ad 8)), (1, .int (nI K)), (2, .int (nI e1)), (3, .int (nI (K + e1 + 1)))] := by rw [pk_m1]; exact (lv_sub hl [0, 1, 2, 3, 4] rfl)
      obtain ⟨J, c2, s1, hJ, hZ2, hS1, hF, hP9, hD9, hl9⟩ : ∃ (J : Nat) (c2 : Nat → Nat → FP) (s1 : Nat → FP), (J ≤ K + 1) ∧ ((∀ i, i ≠ 1 → c2 i = cu i) ∧ ∀ k, K < k → k ≤ 8 → c2 1 k = 0) ∧ (∀ m9, K + e1 + 1 ≤ m9 → s1 m9 = so m9) ∧ (∀ f : Nat → FP, (∀ m9, m9 < K + e1 + 1 → so m9 = sd_cv f (sd_E so K e1) (K + 1) m9) → (∀ m9, m9 < J + e1 → s1 m9 = sd_cv f (sd_E so K e1) J m9) ∧ ∀ k, J ≤ k → k ≤ K → c2 1 k = f k) ∧ va_P D vwCl (dw ad tc dg pl vl th c2 mx us s1 rr fw ff) H ∧ va_D A (dw ad tc dg pl vl th c2 mx us s1 rr fw ff) ∧ lv_has ls 8 [(4, .int (nI J + (-1))), (0, .ref (ad 8)), (1, .int (nI K)), (2, .int (nI e1)), (3, .int (nI (K + e1 + 1)))] := ⟨K + 1, c1, so, Nat.le_refl _, hZ, fun _ _ => rfl, fun f hf => ⟨fun m9 h9 => hf m9 (by omega), fun k h1 h2 => absurd h1 (by omega)⟩, hP, hD, (lv_sub hl [0, 1, 2, 3, 4] rfl)⟩
      replace hl := hl9
      clear hl9
      replace hP := hP9
      replace hD := hD9
      clear hP9 hD9
      obtain ⟨k9, hk9⟩ : ∃ k9 : Nat, J < k9 := ⟨K + 2, by omega⟩
      induction k9 generalizing J c2 s1 ls H locs with
      | zero => exact absurd hk9 (by omega)
      | succ k9 ihO =>
        rcases J with _ | J
        · rw [sd_m1] at hl
          refine lv_iload hx hb dX1_divide_36 (lv_at hl 0 rfl) ?_
          refine lv_if_lt (tgt := 122) hx hb dX1_divide_38 (by decide) (fun b2 => ?_) (fun b2 => ?_)
          · exact W.vret hx hb hr (fun t ht hW => ⟨⟨(c2, s1), rfl, ⟨hZ2.1, hZ2.2, fun f hf k hk => (hF f hf).2 k (Nat.zero_le k) hk⟩, by rw [ht]; exact hP, va_K.moved hW.alike hK, hD⟩, hS.F ht⟩) hS.2.2 dX1_divide_122
          · exact absurd (by decide) b2
        · rw [pk_m1] at hl
          refine lv_iload hx hb dX1_divide_36 (lv_at hl 0 rfl) ?_
          refine lv_if_lt (tgt := 122) hx hb dX1_divide_38 (by decide) (fun b2 => ?_) (fun b2 => ?_)
          · exact absurd b2 (nI_pos (by omega))
          · refine lv_aload_n hx hb dX1_divide_41 rfl (lv_at hl 1 rfl) ?_
            refine va_get (D := D) (ci := 1) (v := .ref (ad 11)) (C := RX1) (T := TX1) (N := 5) hx hb hts (fun w h => mm (inX1 w h)) hown hK hP 8 dw_finder rfl 3 (by decide) (hts _ (mm wf_X1_27)) (fun _ h9 => h9) rfl dX1_divide_42 ?_
            refine lv_iload hx hb dX1_divide_45 (lv_at hl 0 rfl) ?_
            refine lv_iload_n hx hb dX1_divide_47 rfl (lv_at hl 3 rfl) ?_
            refine sd_iadd hx hb dX1_divide_48 ?_
            refine sd_lald hx hb hK hP 11 0 dw_sol rfl (k := J + e1) (by omega) (by decide) dX1_divide_49 ?_
            refine lv_lstore (lv' := [(5, .long (sd_L (s1 (J + e1)))), (4, .int (nI J)), (0, .ref (ad 8)), (1, .int (nI K)), (2, .int (nI e1)), (3, .int (nI (K + e1 + 1)))]) hx hb dX1_divide_50 hl (by decide) rfl (fun ls hl => ?_)
            refine lv_aload_n hx hb dX1_divide_52 rfl (lv_at hl 2 rfl) ?_
            refine va_get (D := D) (ci := 1) (v := .ref (ad 4)) (C := RX1) (T := TX1) (N := 5) hx hb hts (fun w h => mm (inX1 w h)) hown hK hP 8 dw_finder rfl 0 (by decide) (hts _ (mm wf_X1_12)) (fun _ h9 => h9) rfl dX1_divide_53 ?_
            refine va_get (D := D) (ci := 0) (v := .ref (ad 5)) (C := RX0) (T := TX0) (N := 1) hx hb hts (fun w h => mm (inX0 w h)) hown hK hP 4 (dw_curve (c := 1) (by decide)) rfl 0 (by decide) (hts _ (mm wf_X1_99)) (fun _ h9 => h9) rfl dX1_divide_56 ?_
            refine lv_iload hx hb dX1_divide_59 (lv_at hl 1 rfl) ?_
            refine lv_lload hx hb dX1_divide_61 (lv_at hl 0 rfl) ?_
            refine sd_last hx hb hK hP hD hS 5 0 (dw_parts (c := 1) (by decide)) rfl (k := J) (by omega) (by decide) (ws2 := dw ad tc dg pl vl th (sd_up c2 1 (sd_up (c2 1) J (s1 (J + e1)))) mx us s1 rr fw ff) (by rw [sd_stL]; exact dws_parts (c := 1) (by decide) _) dX1_divide_63 (fun H locs hP hD hS => ?_)
            refine lv_iconst (v := nI 0) hx hb dX1_divide_64 (by decide) ?_
            refine lv_istore (lv' := [(7, .int (nI 0)), (5, .long (sd_L (s1 (J + e1)))), (4, .int (nI J)), (0, .ref (ad 8)), (1, .int (nI K)), (2, .int (nI e1)), (3, .int (nI (K + e1 + 1)))]) hx hb dX1_divide_65 hl (by decide) rfl (fun ls hl => ?_)
            obtain ⟨j, s2, hj, hI, hP9, hD9, hl9⟩ : ∃ (j : Nat) (s2 : Nat → FP), (j ≤ e1) ∧ (∀ m9, s2 m9 = (if J ≤ m9 ∧ m9 < J + j then s1 m9 - s1 (J + e1) * so (K + e1 + 1 + (m9 - J)) else s1 m9)) ∧ va_P D vwCl (dw ad tc dg pl vl th (sd_up c2 1 (sd_up (c2 1) J (s1 (J + e1)))) mx us s2 rr fw ff) H ∧ va_D A (dw ad tc dg pl vl th (sd_up c2 1 (sd_up (c2 1) J (s1 (J + e1)))) mx us s2 rr fw ff) ∧ lv_has ls 8 [(7, .int (nI j)), (5, .long (sd_L (s1 (J + e1)))), (4, .int (nI J)), (0, .ref (ad 8)), (1, .int (nI K)), (2, .int (nI e1)), (3, .int (nI (K + e1 + 1)))] := ⟨0, s1, Nat.zero_le _, fun m9 => by rw [if_neg (by omega)], hP, hD, (lv_sub hl [0, 1, 2, 3, 4, 5, 6] rfl)⟩
            replace hl := hl9
            clear hl9
            replace hP := hP9
            replace hD := hD9
            clear hP9 hD9
            obtain ⟨k9, hk9⟩ : ∃ k9 : Nat, e1 < j + k9 := ⟨e1 + 1, by omega⟩
            induction k9 generalizing j s2 ls H locs with
            | zero => exact absurd hk9 (by omega)
            | succ k9 ih =>
              refine lv_iload hx hb dX1_divide_67 (lv_at hl 0 rfl) ?_
              refine lv_iload_n hx hb dX1_divide_69 rfl (lv_at hl 5 rfl) ?_
              refine sd_icmp_ge (tgt := 116) hx hb (by omega) (by omega) dX1_divide_70 (by decide) (fun b3 => ?_) (fun b3 => ?_)
              · have ej : j = e1 := by omega
                subst ej
                refine lv_iinc (v := nI J + (-1)) (lv' := [(4, .int (nI J + (-1))), (7, .int (nI j)), (5, .long (sd_L (s1 (J + j)))), (0, .ref (ad 8)), (1, .int (nI K)), (2, .int (nI j)), (3, .int (nI (K + j + 1)))]) hx hb dX1_divide_116 hl (k := 2) rfl (by rw [show Int32.ofInt (-1) = -1 by decide]) (by decide) rfl (fun ls hl => ?_)
                refine lv_goto (tgt := 36) hx hb dX1_divide_119 (by decide) ?_
                have hF9 : ∀ f : Nat → FP, (∀ m9, m9 < K + j + 1 → so m9 = sd_cv f (sd_E so K j) (K + 1) m9) → (∀ m9, m9 < J + j → s2 m9 = sd_cv f (sd_E so K j) J m9) ∧ ∀ k, J ≤ k → k ≤ K → (sd_up c2 1 (sd_up (c2 1) J (s1 (J + j)))) 1 k = f k := by
                  intro f hf
                  obtain ⟨g1, g2⟩ := hF f hf
                  obtain ⟨d1, d2⟩ := sd_div_step f (sd_E so K j) s1 j J (sd_E_hi so K j) (sd_E_top so K j) (fun m9 h9 => g1 m9 (by omega))
                  refine ⟨d2 s2 (fun m9 h1 h2 => ?_) (fun m9 h1 => ?_), fun k h1 h2 => ?_⟩
                  · rw [hI, if_pos ⟨h1, h2⟩, d1, sd_E, if_pos (by omega)]
                  · rw [hI, if_neg (by omega)]
                  · rw [sd_up2]
                    by_cases ek : k = J
                    · rw [if_pos ⟨rfl, ek⟩, d1, ek]
                    · rw [if_neg (fun z => ek z.2)]; exact g2 k (by omega) h2
                exact ihO (J := J) (c2 := sd_up c2 1 (sd_up (c2 1) J (s1 (J + j)))) (s1 := s2) (hJ := by omega) (hZ2 := ⟨fun i hi => by rw [sd_up_n _ _ hi]; exact hZ2.1 i hi, fun k h1 h2 => by rw [sd_up2, if_neg (by omega)]; exact hZ2.2 k h1 h2⟩) (hS1 := fun m9 h9 => by rw [hI, if_neg (by omega)]; exact hS1 m9 h9) (hF := hF9) (H := H) (locs := locs) (hP := hP) (hD := hD) (hS := hS) (ls := ls) (hl := (lv_sub hl [0, 3, 4, 5, 6] rfl)) (hk9 := by omega)
              · refine lv_aload_n hx hb dX1_divide_73 rfl (lv_at hl 3 rfl) ?_
                refine va_get (D := D) (ci := 1) (v := .ref (ad 11)) (C := RX1) (T := TX1) (N := 5) hx hb hts (fun w h => mm (inX1 w h)) hown hK hP 8 dw_finder rfl 3 (by decide) (hts _ (mm wf_X1_27)) (fun _ h9 => h9) rfl dX1_divide_74 ?_
                refine lv_iload hx hb dX1_divide_77 (lv_at hl 2 rfl) ?_
                refine lv_iload hx hb dX1_divide_79 (lv_at hl 0 rfl) ?_
                refine sd_iadd hx hb dX1_divide_81 ?_
                refine lv_aload_n hx hb dX1_divide_82 rfl (lv_at hl 3 rfl) ?_
                refine va_get (D := D) (ci := 1) (v := .ref (ad 11)) (C := RX1) (T := TX1) (N := 5) hx hb hts (fun w h => mm (inX1 w h)) hown hK hP 8 dw_finder rfl 3 (by decide) (hts _ (mm wf_X1_27)) (fun _ h9 => h9) rfl dX1_divide_83 ?_
                refine lv_iload hx hb dX1_divide_86 (lv_at hl 2 rfl) ?_
                refine lv_iload hx hb dX1_divide_88 (lv_at hl 0 rfl) ?_
                refine sd_iadd hx hb dX1_divide_90 ?_
                refine sd_lald hx hb hK hP 11 0 dw_sol rfl (k := J + j) (by omega) (by decide) dX1_divide_91 ?_
                refine lv_lload hx hb dX1_divide_92 (lv_at hl 1 rfl) ?_
                refine lv_aload_n hx hb dX1_divide_94 rfl (lv_at hl 3 rfl) ?_
                refine va_get (D := D) (ci := 1) (v := .ref (ad 11)) (C := RX1) (T := TX1) (N := 5) hx hb hts (fun w h => mm (inX1 w h)) hown hK hP 8 dw_finder rfl 3 (by decide) (hts _ (mm wf_X1_27)) (fun _ h9 => h9) rfl dX1_divide_95 ?_
                refine lv_iload_n hx hb dX1_divide_98 rfl (lv_at hl 6 rfl) ?_
                refine lv_iload hx hb dX1_divide_99 (lv_at hl 0 rfl) ?_
                refine sd_iadd hx hb dX1_divide_101 ?_
                refine sd_lald hx hb hK hP 11 0 dw_sol rfl (k := (K + e1 + 1) + j) (by omega) (by decide) dX1_divide_102 ?_
                refine sd_rl (va_runS (As := [.long (sd_L (s1 (J + e1))), .long (sd_L (s2 ((K + e1 + 1) + j)))]) (rest := [.long (sd_L (s2 (J + j))), .int (nI (J + j)), .ref (ad 11)]) ⟨hx, hb, hml, hown, hts⟩ (k_X2_times l (s1 (J + e1)) (s2 (K + e1 + 1 + j))) (sd_cwS hts wd_X2_times wn_X2 wm_X1_71 wi_X2_times nq_X2_times rfl rfl ⟨Nat.le_of_ble_eq_true rfl, Nat.le_of_ble_eq_true rfl⟩) sd_preN rfl rfl hl.1 rfl (lv_room (Nat.le_of_ble_eq_true rfl)) dX1_divide_103 ⟨Nat.zero_le _, Nat.zero_le _⟩) (fun r1 hr1 => ?_)
                subst hr1
                refine sd_rl (va_runS (As := [.long (sd_L (s2 (J + j))), .long (sd_L (s1 (J + e1) * s2 (K + e1 + 1 + j)))]) (rest := [.int (nI (J + j)), .ref (ad 11)]) ⟨hx, hb, hml, hown, hts⟩ (k_X2_minus l (s2 (J + j)) (s1 (J + e1) * s2 (K + e1 + 1 + j))) (sd_cwS hts wd_X2_minus wn_X2 wm_X1_77 wi_X2_minus nq_X2_minus rfl rfl ⟨Nat.le_of_ble_eq_true rfl, Nat.le_of_ble_eq_true rfl⟩) sd_preN rfl rfl hl.1 rfl (lv_room (Nat.le_of_ble_eq_true rfl)) dX1_divide_106 ⟨Nat.zero_le _, Nat.zero_le _⟩) (fun r2 hr2 => ?_)
                subst hr2
                refine sd_last hx hb hK hP hD hS 11 0 dw_sol rfl (k := J + j) (by omega) (by decide) (ws2 := dw ad tc dg pl vl th (sd_up c2 1 (sd_up (c2 1) J (s1 (J + e1)))) mx us (sd_up s2 (J + j) (s2 (J + j) - s1 (J + e1) * s2 (K + e1 + 1 + j))) rr fw ff) (by rw [sd_stL]; exact dws_sol _) dX1_divide_109 (fun H locs hP hD hS => ?_)
                refine lv_iinc (v := nI (j + 1)) (lv' := [(7, .int (nI (j + 1))), (5, .long (sd_L (s1 (J + e1)))), (4, .int (nI J)), (0, .ref (ad 8)), (1, .int (nI K)), (2, .int (nI e1)), (3, .int (nI (K + e1 + 1)))]) hx hb dX1_divide_110 hl (k := 0) rfl (nI_1 _) (by decide) rfl (fun ls hl => ?_)
                refine lv_goto (tgt := 67) hx hb dX1_divide_113 (by decide) ?_
                have hI9 : ∀ m9, (sd_up s2 (J + j) (s2 (J + j) - s1 (J + e1) * s2 (K + e1 + 1 + j))) m9 = (if J ≤ m9 ∧ m9 < J + (j + 1) then s1 m9 - s1 (J + e1) * so (K + e1 + 1 + (m9 - J)) else s1 m9) := by
                  intro m9
                  by_cases em : m9 = J + j
                  · rw [em, sd_up_s, if_pos (by omega), hI, hI, if_neg (by omega), if_neg (by omega), hS1 (K + e1 + 1 + j) (by omega), Nat.add_sub_cancel_left]
                  · rw [sd_up_n _ _ em, hI]
                    by_cases e2 : J ≤ m9 ∧ m9 < J + j
                    · rw [if_pos e2, if_pos (by omega)]
                    · rw [if_neg e2, if_neg (by omega)]
                exact ih (j := j + 1) (s2 := sd_up s2 (J + j) (s2 (J + j) - s1 (J + e1) * s2 (K + e1 + 1 + j))) (hj := by omega) (hI := hI9) (H := H) (locs := locs) (hP := hP) (hD := hD) (hS := hS) (ls := ls) (hl := (lv_sub hl [0, 1, 2, 3, 4, 5, 6] rfl)) (hk9 := by omega)
    · obtain ⟨K, rfl⟩ : ∃ z, K = z + 1 := ⟨K - 1, by omega⟩
      refine lv_aload_n hx hb dX1_divide_16 rfl (lv_at hl 1 rfl) ?_
      refine va_get (D := D) (ci := 1) (v := .ref (ad 4)) (C := RX1) (T := TX1) (N := 5) hx hb hts (fun w h => mm (inX1 w h)) hown hK hP 8 dw_finder rfl 0 (by decide) (hts _ (mm wf_X1_12)) (fun _ h9 => h9) rfl dX1_divide_17 ?_
      refine va_get (D := D) (ci := 0) (v := .ref (ad 5)) (C := RX0) (T := TX0) (N := 1) hx hb hts (fun w h => mm (inX0 w h)) hown hK hP 4 (dw_curve (c := 1) (by decide)) rfl 0 (by decide) (hts _ (mm wf_X1_99)) (fun _ h9 => h9) rfl dX1_divide_20 ?_
      refine lv_iload hx hb dX1_divide_23 (lv_at hl 0 rfl) ?_
      refine lv_lconst (v := 0) hx hb dX1_divide_25 (by decide) ?_
      refine sd_tol (y := sd_L 0) sd_L_0.symm ?_
      refine sd_last hx hb hK hP hD hS 5 0 (dw_parts (c := 1) (by decide)) rfl (k := K + 1) (by omega) (by decide) (ws2 := dw ad tc dg pl vl th (sd_up c1 1 (sd_up (c1 1) (K + 1) 0)) mx us so rr fw ff) (by rw [sd_stL]; exact dws_parts (c := 1) (by decide) _) dX1_divide_26 (fun H locs hP hD hS => ?_)
      refine lv_iinc (v := nI K) (lv' := [(4, .int (nI K)), (0, .ref (ad 8)), (1, .int (nI t)), (2, .int (nI e1)), (3, .int (nI (t + e1 + 1)))]) hx hb dX1_divide_27 hl (k := 0) rfl (by rw [show Int32.ofInt (-1) = -1 by decide]; exact pk_m1 _) (by decide) rfl (fun ls hl => ?_)
      refine lv_goto (tgt := 10) hx hb dX1_divide_30 (by decide) ?_
      exact ih (K := K) (c1 := sd_up c1 1 (sd_up (c1 1) (K + 1) 0)) (hK9 := by omega) (hZ := ⟨fun i hi => by rw [sd_up_n _ _ hi]; exact hZ.1 i hi, fun k h1 h2 => by rw [sd_up2]; exact (Classical.em (k = K + 1)).elim (fun ek => by rw [if_pos ⟨rfl, ek⟩]) (fun ek => by rw [if_neg (fun z => ek z.2)]; exact hZ.2 k (by omega) h2)⟩) (H := H) (locs := locs) (hP := hP) (hD := hD) (hS := hS) (ls := ls) (hl := (lv_sub hl [0, 1, 2, 3, 4] rfl)) (hk9 := by omega)

set_option maxHeartbeats 4000000 in
set_option maxRecDepth 100000 in
theorem k_X1_seek (l : Launch) (D : va_G) {ad : Nat → Nat} {tc : Nat → ClassId} {dg pl : Nat → Nat} {vl : Nat → Nat → FP} {th : Nat → Nat → Bool} {cu mx : Nat → Nat → FP} {us : Nat → Bool} {so : Nat → FP} {rr : Nat → Int32} {fw : Nat → Bool} {ff : Int32} (sz : Nat) (q e1 : Nat) (hq : q < 8) (hpl : pl q ≤ 16) (hdg : dg q ≤ 8) (hm : dg q + 1 + 2 * e1 ≤ sd_cnt (th q) (pl q)) : Met l yX1_seek (Cond.code yX1_seek cX1_seek 4 none :: bg) { frames := 5, cells := 0, slots := 0, locals := 130 } (sd_Wr D vwCl (ty5 tc) (dw ad tc dg pl vl th cu mx us so rr fw ff) sz [.ref (ad 8), .ref (ad (14 + 3 * q)), .int (nI e1)]) (va_Qv (S := (Nat → Nat → FP) × (Nat → Bool) × (Nat → FP) × (Nat → Int32) × (Nat → Nat → FP)) (fun u : (Nat → Nat → FP) × (Nat → Bool) × (Nat → FP) × (Nat → Int32) × (Nat → Nat → FP) => (∀ i, i ≠ 1 → u.2.2.2.2 i = cu i) ∧ (∀ k, dg q < k → k ≤ 8 → u.2.2.2.2 1 k = 0) ∧ ∀ f : Nat → FP, sd_Fd (dg q) (pl q) e1 (th q) (vl q) f → ∀ k, k ≤ dg q → u.2.2.2.2 1 k = f k) (sd_B D vwCl (ty5 tc) (va_A (dw ad tc dg pl vl th cu mx us so rr fw ff) sz) (fun u => dw ad tc dg pl vl th u.2.2.2.2 u.1 u.2.1 u.2.2.1 u.2.2.2.1 fw ff)) (va_A (dw ad tc dg pl vl th cu mx us so rr fw ff) sz)) 0 0 (va_A (dw ad tc dg pl vl th cu mx us so rr fw ff) sz) := by
  refine Met.ofW (cc := cX1_seek) (maxL := 4) (ret := none) (by decide) rfl ?_
  intro p e s m args below meth c s₁ B hml hv
  obtain ⟨rfl, hsz, hP, hK, hD0⟩ := hv
  have hx := B.exec
  have hb := B.bytes
  have hr := B.returns
  have hts := atoms_spec (ws := Cond.code yX1_seek cX1_seek 4 none :: bg) B.pre
  have hown : s.vm.findClass RX1 = some m.cls := findClass_of_methodNamed B.named
  have hlocks := B.notSynchronized
  subst hsz
  have hD := hD0.self (sz := s.heap.size)
  generalize hAe : va_A (dw ad tc dg pl vl th cu mx us so rr fw ff) s.heap.size = A at hD ⊢
  have hA : ∀ q : Nat, s.heap.size ≤ q → A q := fun q h => by rw [← hAe]; exact Or.inr h
  have hS : va_S A s.heap s.heap [] := va_S.rf
  have hl := lv_entry ([.ref (ad 8), .ref (ad (14 + 3 * q)), .int (nI e1)]) (n := 4) (Nat.le_of_ble_eq_true rfl)
  rw [lg_entry_eq]
  generalize (lg_sl ([.ref (ad 8), .ref (ad (14 + 3 * q)), .int (nI e1)]) ++ List.replicate (4 - (lg_sl ([.ref (ad 8), .ref (ad (14 + 3 * q)), .int (nI e1)])).length) Slot.unset).toArray = ls at hl ⊢
  replace hl : lv_has ls 4 [(0, .ref (ad 8)), (1, .ref (ad (14 + 3 * q))), (2, .int (nI e1))] := hl
  have hcl := sd_cnt_le (th q) (pl q)
  refine lv_aload_n hx hb dX1_seek_0 rfl (lv_at hl 1 rfl) ?_
  refine va_get (D := D) (ci := 3) (v := .int (nI (dg q))) (C := RX3) (T := TX3) (N := 4) hx hb hts (fun w h => mm (inX3 w h)) hown hK hP (14 + 3 * q) (dw_sp hq) rfl 2 (by decide) (hts _ (mm wf_X1_35)) (fun _ h9 => h9) rfl dX1_seek_1 ?_
  refine lv_iload_n hx hb dX1_seek_4 rfl (lv_at hl 2 rfl) ?_
  refine sd_ri (va_runS (As := [.int (nI (dg q)), .int (nI e1)]) (rest := []) ⟨hx, hb, hml, hown, hts⟩ (k_X1_sharesNeeded l (dg q) e1) (sd_cwS hts wd_X1_sharesNeeded wn_X1 wm_X1_41 wi_X1_sharesNeeded nq_X1_sharesNeeded rfl rfl ⟨Nat.le_of_ble_eq_true rfl, Nat.le_of_ble_eq_true rfl⟩) sd_preN rfl rfl hl.1 rfl (lv_room (Nat.le_of_ble_eq_true rfl)) dX1_seek_5 ⟨Nat.zero_le _, Nat.zero_le _⟩) (fun r1 hr1 => ?_)
  subst hr1
  refine lv_istore_n (lv' := [(3, .int (nI (dg q + 1 + 2 * e1))), (0, .ref (ad 8)), (1, .ref (ad (14 + 3 * q))), (2, .int (nI e1))]) hx hb dX1_seek_8 rfl hl (by decide) rfl (fun ls hl => ?_)
  refine lv_aload_n hx hb dX1_seek_9 rfl (lv_at hl 1 rfl) ?_
  refine lv_aload_n hx hb dX1_seek_10 rfl (lv_at hl 2 rfl) ?_
  refine lv_iload_n hx hb dX1_seek_11 rfl (lv_at hl 3 rfl) ?_
  refine lv_iload_n hx hb dX1_seek_12 rfl (lv_at hl 0 rfl) ?_
  refine sd_wv (va_runV (As := [.ref (ad (14 + 3 * q)), .int (nI e1), .int (nI (dg q + 1 + 2 * e1))]) (rest := []) ⟨hx, hb, hml, hown, hts⟩ (k_X1_writeEquations l D _ q e1 (dg q + 1 + 2 * e1) hq hpl (by omega) (by omega)) (sd_cwV hts wd_X1_writeEquations wn_X1 wm_X1_45 wi_X1_writeEquations ws_X1_writeEquations nq_X1_writeEquations rfl rfl ⟨Nat.le_of_ble_eq_true rfl, Nat.le_of_ble_eq_true rfl⟩) (sd_preVW hP hK hD (ci := 1) (q0 := 8) rfl rfl dw_finder) rfl rfl hl.1 rfl (lv_room (Nat.le_of_ble_eq_true rfl)) dX1_seek_13 ⟨Nat.zero_le _, Nat.zero_le _⟩) hD hS hA (fun m1 H locs hm1 hP hD hS => ?_)
  replace hP : va_P D vwCl (dw ad tc dg pl vl th cu m1 us so rr fw ff) H := hP
  replace hD : va_D A (dw ad tc dg pl vl th cu m1 us so rr fw ff) := hD
  refine lv_aload_n hx hb dX1_seek_16 rfl (lv_at hl 1 rfl) ?_
  refine lv_iload_n hx hb dX1_seek_17 rfl (lv_at hl 0 rfl) ?_
  refine sd_wv (va_runV (As := [.int (nI (dg q + 1 + 2 * e1))]) (rest := []) ⟨hx, hb, hml, hown, hts⟩ (k_X1_solveEquations l D _ (dg q + 1 + 2 * e1) (by omega)) (sd_cwV hts wd_X1_solveEquations wn_X1 wm_X1_49 wi_X1_solveEquations ws_X1_solveEquations nq_X1_solveEquations rfl rfl ⟨Nat.le_of_ble_eq_true rfl, Nat.le_of_ble_eq_true rfl⟩) (sd_preVW hP hK hD (ci := 1) (q0 := 8) rfl rfl dw_finder) rfl rfl hl.1 rfl (lv_room (Nat.le_of_ble_eq_true rfl)) dX1_seek_18 ⟨Nat.zero_le _, Nat.zero_le _⟩) hD hS hA (fun us9 H locs hus9 hP hD hS => ?_)
  obtain ⟨m2, u2, s2, r2⟩ := us9
  replace hP : va_P D vwCl (dw ad tc dg pl vl th cu m2 u2 s2 r2 fw ff) H := hP
  replace hD : va_D A (dw ad tc dg pl vl th cu m2 u2 s2 r2 fw ff) := hD
  obtain ⟨used, ro, hG, hso⟩ := hus9
  replace hso : ∀ v, v < dg q + 1 + 2 * e1 → s2 v = sd_sol m2 (dg q + 1 + 2 * e1) ro v := hso
  replace hG : sd_GI (dg q + 1 + 2 * e1) m1 m2 used ro (dg q + 1 + 2 * e1) := hG
  refine lv_aload_n hx hb dX1_seek_21 rfl (lv_at hl 1 rfl) ?_
  refine lv_aload_n hx hb dX1_seek_22 rfl (lv_at hl 2 rfl) ?_
  refine va_get (D := D) (ci := 3) (v := .int (nI (dg q))) (C := RX3) (T := TX3) (N := 4) hx hb hts (fun w h => mm (inX3 w h)) hown hK hP (14 + 3 * q) (dw_sp hq) rfl 2 (by decide) (hts _ (mm wf_X1_35)) (fun _ h9 => h9) rfl dX1_seek_23 ?_
  refine lv_iload_n hx hb dX1_seek_26 rfl (lv_at hl 3 rfl) ?_
  refine sd_wv (va_runV (As := [.int (nI (dg q)), .int (nI e1)]) (rest := []) ⟨hx, hb, hml, hown, hts⟩ (k_X1_divide l D _ (dg q) e1 hdg (by omega)) (sd_cwV hts wd_X1_divide wn_X1 wm_X1_53 wi_X1_divide ws_X1_divide nq_X1_divide rfl rfl ⟨Nat.le_of_ble_eq_true rfl, Nat.le_of_ble_eq_true rfl⟩) (sd_preVW hP hK hD (ci := 1) (q0 := 8) rfl rfl dw_finder) rfl rfl hl.1 rfl (lv_room (Nat.le_of_ble_eq_true rfl)) dX1_seek_27 ⟨Nat.zero_le _, Nat.zero_le _⟩) hD hS hA (fun ud9 H locs hud9 hP hD hS => ?_)
  obtain ⟨c3, s3⟩ := ud9
  replace hP : va_P D vwCl (dw ad tc dg pl vl th c3 m2 u2 s3 r2 fw ff) H := hP
  replace hD : va_D A (dw ad tc dg pl vl th c3 m2 u2 s3 r2 fw ff) := hD
  obtain ⟨g1, g2, g3⟩ := hud9
  have hfin : ∀ f : Nat → FP, sd_Fd (dg q) (pl q) e1 (th q) (vl q) f → ∀ k, k ≤ dg q → c3 1 k = f k := by
    intro f hf
    refine g3 f (fun m9 h9 => ?_)
    have hsk := sd_seek (N := dg q + 1 + 2 * e1) hdg hpl (by omega) hm hm1 hG hf
    have hE : sd_E s2 (dg q) e1 = sd_E (sd_sol m2 (dg q + 1 + 2 * e1) ro) (dg q) e1 := by
      funext j
      unfold sd_E
      by_cases ej : j < e1
      · rw [if_pos ej, if_pos ej, hso _ (by omega)]
      · rw [if_neg ej, if_neg ej]
    rw [hE, hso m9 (by omega)]
    exact hsk m9 h9
  exact W.vret hx hb hr (fun t ht hW => ⟨⟨(m2, u2, s3, r2, c3), rfl, ⟨g1, g2, hfin⟩, by rw [ht]; exact hP, va_K.moved hW.alike hK, hD⟩, hS.F ht⟩) hS.2.2 dX1_seek_30
end
section
/-! the desk's methods: what each does, in words for the state -/
abbrev DS : Type := (Nat → Nat) × (Nat → Nat) × (Nat → Nat → FP) × (Nat → Nat → Bool) × (Nat → Nat → FP) × (Nat → Nat → FP) × (Nat → Bool) × (Nat → FP) × (Nat → Int32) × (Nat → Bool) × Int32
abbrev sdg (u : DS) : Nat → Nat := u.1
abbrev spl (u : DS) : Nat → Nat := u.2.1
abbrev svl (u : DS) : Nat → Nat → FP := u.2.2.1
abbrev sth (u : DS) : Nat → Nat → Bool := u.2.2.2.1
abbrev scu (u : DS) : Nat → Nat → FP := u.2.2.2.2.1
abbrev sfw (u : DS) : Nat → Bool := u.2.2.2.2.2.2.2.2.2.1
abbrev sff (u : DS) : Int32 := u.2.2.2.2.2.2.2.2.2.2
abbrev dwt (ad : Nat → Nat) (tc : Nat → ClassId) (u : DS) : va_W := dw ad tc u.1 u.2.1 u.2.2.1 u.2.2.2.1 u.2.2.2.2.1 u.2.2.2.2.2.1 u.2.2.2.2.2.2.1 u.2.2.2.2.2.2.2.1 u.2.2.2.2.2.2.2.2.1 u.2.2.2.2.2.2.2.2.2.1 u.2.2.2.2.2.2.2.2.2.2
/-- what was FOUND stays -/
def sd_fs (v u : DS) : Prop := scu u 2 = scu v 2 ∧ sfw u = sfw v ∧ sff u = sff v
def sd_same (v u : DS) : Prop := sdg u = sdg v ∧ spl u = spl v ∧ svl u = svl v ∧ sth u = sth v ∧ sd_fs v u
def sd_OK (v : DS) : Prop := ∀ q, q < 8 → sdg v q ≤ 8 ∧ spl v q ≤ 16
/-- a number of a split -/
def sd_ix (x : Int32) : Option Nat := if 0 ≤ x.toInt ∧ x.toInt < 8 then some x.toInt.toNat else none
theorem sd_ix_some {x : Int32} {q : Nat} (h : sd_ix x = some q) : q < 8 ∧ x = nI q := by
  unfold sd_ix at h
  by_cases c : 0 ≤ x.toInt ∧ x.toInt < 8
  · rw [if_pos c] at h
    have e := Option.some.inj h
    refine ⟨by omega, Int32.toInt_inj.mp ?_⟩
    rw [nI_toInt (by omega)]
    omega
  · rw [if_neg c] at h
    cases h
theorem sd_ix_none {x : Int32} (h : sd_ix x = none) {q : Nat} (hq : q < 8) : x ≠ nI q := by
  intro e
  unfold sd_ix at h
  rw [e, nI_toInt (by omega), if_pos (by omega)] at h
  cases h
theorem sd_ix_lt {x : Int32} (h : x < 0) : sd_ix x = none := by
  rw [Int32.lt_iff_toInt_lt, Int32.toInt_zero] at h
  exact if_neg (by omega)
theorem sd_ix_ge {x : Int32} (h : nI 8 ≤ x) : sd_ix x = none := by
  rw [Int32.le_iff_toInt_le, nI_toInt (by decide)] at h
  exact if_neg (by omega)
theorem sd_ix_in {x : Int32} (h1 : ¬ x < 0) (h2 : ¬ nI 8 ≤ x) : ∃ j, j < 8 ∧ x = nI j ∧ sd_ix x = some j := by
  rw [Int32.lt_iff_toInt_lt, Int32.toInt_zero] at h1
  rw [Int32.le_iff_toInt_le, nI_toInt (by decide)] at h2
  have h : sd_ix x = some x.toInt.toNat := if_pos (by omega)
  exact ⟨x.toInt.toNat, (sd_ix_some h).1, (sd_ix_some h).2, h⟩
theorem sd_nI_inj {a b : Nat} (ha : a < 2 ^ 31) (hb : b < 2 ^ 31) (h : nI a = nI b) : a = b := (nI_eq ha hb).mp h
/-- the curve that a generator draws -/
def sd_dr (c0 : FP) (t : Nat) (seed : Int64) (k : Nat) : FP := if k = 0 then c0 else if k ≤ t then sd_nx (sd_gs seed k) else 0
theorem sd_dr_ev {c0 : FP} {t : Nat} {seed : Int64} {f : Nat → FP} (h0 : f 0 = c0) (h : ∀ k, 1 ≤ k → k ≤ 8 → f k = (if k ≤ t then sd_nx (sd_gs seed k) else 0)) (x : FP) : sd_ev f x = sd_ev (sd_dr c0 t seed) x := by
  refine sd_pv_congr x 9 0 (fun j _ hj => ?_)
  unfold sd_dr
  by_cases e : j = 0
  · rw [if_pos e, e, h0]
  · rw [if_neg e, h j (by omega) (by omega)]
def sd_jn (h : Nat) (x y : FP) : FP := if h = 0 then x + y else if h = 1 then x - y else x * y
section
variable {p : Program} {l : Launch} {e : Env} {R : Room} {s : State} {m : MethodId} {args : Array Value} {below : List Frame} {meth : Method} {c : Code} {H : Heap} {locs : List Loc} {cells slots : Nat} {Q : State → Prop} {pc : Nat} {ls : Array Slot} {rest : List Value}
theorem sd_top {v v2 : Value} (h : v = v2) (kk : W p l e R s m args below meth c H locs cells slots Q (F0 m pc ls (v2 :: rest))) : W p l e R s m args below meth c H locs cells slots Q (F0 m pc ls (v :: rest)) := h ▸ kk
end
def P_put (x y : Int32) (v : Int64) (a : DS) (r : Int32) (u : DS) : Prop :=
  (∃ q k, q < 8 ∧ x = nI q ∧ 1 ≤ k ∧ k ≤ spl a q ∧ y = nI k ∧ r = nI 1 ∧ sdg u = sdg a ∧ spl u = spl a ∧ svl u = sd_up (svl a) q (sd_up (svl a q) k (sd_of v)) ∧ sth u = sd_up (sth a) q (sd_up (sth a q) k true) ∧ sd_fs a u) ∨
  ((¬ ∃ q k, q < 8 ∧ x = nI q ∧ 1 ≤ k ∧ k ≤ spl a q ∧ y = nI k) ∧ r = nI 0 ∧ sd_same a u)
def P_lose (x y : Int32) (a : DS) (r : Int32) (u : DS) : Prop :=
  (∃ q k, q < 8 ∧ x = nI q ∧ 1 ≤ k ∧ k ≤ spl a q ∧ y = nI k ∧ sth a q k = true ∧ r = nI 1 ∧ sdg u = sdg a ∧ spl u = spl a ∧ svl u = svl a ∧ sth u = sd_up (sth a) q (sd_up (sth a q) k false) ∧ sd_fs a u) ∨
  ((¬ ∃ q k, q < 8 ∧ x = nI q ∧ 1 ≤ k ∧ k ≤ spl a q ∧ y = nI k ∧ sth a q k = true) ∧ r = nI 0 ∧ sd_same a u)
def P_scale (x : Int32) (v w : Int64) (a : DS) (r : Int32) (u : DS) : Prop :=
  (∃ q, q < 8 ∧ x = nI q ∧ r = nI 1 ∧ sdg u = sdg a ∧ spl u = spl a ∧ sth u = sth a ∧ sd_fs a u ∧ (∀ i j, i ≠ q → svl u i j = svl a i j) ∧ ∀ j, 1 ≤ j → j ≤ spl a q → sth a q j = true → svl u q j = svl a q j * sd_of v + sd_of w) ∨
  ((¬ ∃ q, q < 8 ∧ x = nI q) ∧ r = nI 0 ∧ sd_same a u)
def P_renew (x : Int32) (seed : Int64) (a : DS) (r : Int32) (u : DS) : Prop :=
  (∃ q, q < 8 ∧ x = nI q ∧ r = nI 1 ∧ sdg u = sdg a ∧ spl u = spl a ∧ sth u = sth a ∧ sd_fs a u ∧ (∀ i j, i ≠ q → svl u i j = svl a i j) ∧ ∀ j, 1 ≤ j → j ≤ spl a q → sth a q j = true → svl u q j = svl a q j + sd_ev (sd_dr 0 (sdg a q) seed) (sd_N j)) ∨
  ((¬ ∃ q, q < 8 ∧ x = nI q) ∧ r = nI 0 ∧ sd_same a u)
def sd_dv (x y z : Int32) (q t n : Nat) : Prop := q < 8 ∧ x = nI q ∧ t ≤ 8 ∧ y = nI t ∧ t + 1 ≤ n ∧ n ≤ 16 ∧ z = nI n
def P_deal (x y z : Int32) (v seed : Int64) (a : DS) (r : Int32) (u : DS) : Prop :=
  (∃ q t n, sd_dv x y z q t n ∧ r = nI 1 ∧ sdg u = sd_up (sdg a) q t ∧ spl u = sd_up (spl a) q n ∧ sd_fs a u ∧ ∀ i j, svl u i j = (if i = q ∧ 1 ≤ j ∧ j ≤ n then sd_ev (sd_dr (sd_of v) t seed) (sd_N j) else svl a i j) ∧ sth u i j = (if i = q ∧ 1 ≤ j ∧ j ≤ n then true else sth a i j)) ∨
  ((¬ ∃ q t n, sd_dv x y z q t n) ∧ r = nI 0 ∧ sd_same a u)
def sd_jd (a : DS) (qa qb h : Nat) : Nat := if h = 2 then sdg a qa + sdg a qb else max (sdg a qa) (sdg a qb)
def sd_jv (a : DS) (x y z w : Int32) (q qa qb h : Nat) : Prop := q < 8 ∧ x = nI q ∧ qa < 8 ∧ y = nI qa ∧ qb < 8 ∧ z = nI qb ∧ h ≤ 2 ∧ w = nI h ∧ sd_jd a qa qb h ≤ 8
def P_join (x y z w : Int32) (a : DS) (r : Int32) (u : DS) : Prop :=
  (∃ q qa qb h, sd_jv a x y z w q qa qb h ∧ r = nI 1 ∧ sdg u = sd_up (sdg a) q (sd_jd a qa qb h) ∧ spl u = sd_up (spl a) q (min (spl a qa) (spl a qb)) ∧ sd_fs a u ∧ (∀ i j, i ≠ q → svl u i j = svl a i j ∧ sth u i j = sth a i j) ∧
    ∀ j, 1 ≤ j → j ≤ min (spl a qa) (spl a qb) → sth u q j = (sth a qa j && sth a qb j) ∧ (sth a qa j = true → sth a qb j = true → svl u q j = sd_jn h (svl a qa j) (svl a qb j))) ∨
  ((¬ ∃ q qa qb h, sd_jv a x y z w q qa qb h) ∧ r = nI 0 ∧ sd_same a u)
def P_mend (a : DS) (r : Int32) (u : DS) : Prop :=
  (∃ q, q < 8 ∧ sff a = nI q ∧ r = nI 1 ∧ sdg u = sdg a ∧ spl u = spl a ∧ sd_fs a u ∧ ∀ i j, svl u i j = (if i = q ∧ 1 ≤ j ∧ j ≤ spl a q then sd_ev (scu a 2) (sd_N j) else svl a i j) ∧ sth u i j = (if i = q ∧ 1 ≤ j ∧ j ≤ spl a q then true else sth a i j)) ∨
  ((¬ ∃ q, q < 8 ∧ sff a = nI q) ∧ r = nI 0 ∧ sd_same a u)
def P_split (x y : Int32) (a : DS) (r : Int32) : Prop :=
  (∃ q, q < 8 ∧ x = nI q ∧ r = (if y = nI 0 then nI (sdg a q) else if y = nI 1 then nI (spl a q) else if y = nI 2 then nI (sd_cnt (sth a q) (spl a q)) else -1)) ∨ ((¬ ∃ q, q < 8 ∧ x = nI q) ∧ r = -1)

set_option maxHeartbeats 1000000 in
set_option maxRecDepth 100000 in
theorem k_X4_splitOrNull (l : Launch) (D : va_G) {ad : Nat → Nat} {tc : Nat → ClassId} {dg pl : Nat → Nat} {vl : Nat → Nat → FP} {th : Nat → Nat → Bool} {cu mx : Nat → Nat → FP} {us : Nat → Bool} {so : Nat → FP} {rr : Nat → Int32} {fw : Nat → Bool} {ff : Int32} (x : Int32)  : Met l yX4_splitOrNull (Cond.code yX4_splitOrNull cX4_splitOrNull 2 (some (.object "SplitDesk$Split")) :: bg) { frames := 0, cells := 0, slots := 0, locals := 0 } (sd_R D vwCl (ty5 tc) (dw ad tc dg pl vl th cu mx us so rr fw ff) [.ref (ad 0), .int x]) (va_Sq (fun r => r = (sd_ix x).map (fun j => ad (14 + 3 * j)))) 0 0 (fun _ => False) := by
  refine Met.ofW (cc := cX4_splitOrNull) (maxL := 2) (ret := some (.object "SplitDesk$Split")) (by decide) rfl ?_
  intro p e s m args below meth c s₁ B hml hv
  obtain ⟨rfl, hP, hK⟩ := hv
  have hx := B.exec
  have hb := B.bytes
  have hr := B.returns
  have hts := atoms_spec (ws := Cond.code yX4_splitOrNull cX4_splitOrNull 2 (some (.object "SplitDesk$Split")) :: bg) B.pre
  have hown : s.vm.findClass RX4 = some m.cls := findClass_of_methodNamed B.named
  have hlocks := B.notSynchronized
  have hl := lv_entry ([.ref (ad 0), .int x]) (n := 2) (Nat.le_of_ble_eq_true rfl)
  rw [lg_entry_eq]
  generalize (lg_sl ([.ref (ad 0), .int x]) ++ List.replicate (2 - (lg_sl ([.ref (ad 0), .int x])).length) Slot.unset).toArray = ls at hl ⊢
  replace hl : lv_has ls 2 [(0, .ref (ad 0)), (1, .int x)] := hl
  refine lv_iload_n hx hb dX4_splitOrNull_0 rfl (lv_at hl 1 rfl) ?_
  refine lv_if_lt (tgt := 19) hx hb dX4_splitOrNull_1 (by decide) (fun c1 => ?_) (fun c1 => ?_)
  · refine lv_null hx hb dX4_splitOrNull_19 ?_
    exact W.aret hx hb hr (Or.inl ⟨_, rfl⟩) (Or.inl rfl) (fun T9 hT9 hW => ⟨none, rfl, by rw [sd_ix_lt c1]; rfl, hT9⟩) (fun q h => nomatch h) dX4_splitOrNull_20
  · refine lv_iload_n hx hb dX4_splitOrNull_4 rfl (lv_at hl 1 rfl) ?_
    refine lv_bipush (v := nI 8) hx hb dX4_splitOrNull_5 (by decide) ?_
    refine lv_icmp_ge (tgt := 19) hx hb dX4_splitOrNull_7 (by decide) (fun c2 => ?_) (fun c2 => ?_)
    · refine lv_null hx hb dX4_splitOrNull_19 ?_
      exact W.aret hx hb hr (Or.inl ⟨_, rfl⟩) (Or.inl rfl) (fun T9 hT9 hW => ⟨none, rfl, by rw [sd_ix_ge c2]; rfl, hT9⟩) (fun q h => nomatch h) dX4_splitOrNull_20
    · obtain ⟨j, hj, rfl, hix⟩ := sd_ix_in c1 c2
      refine lv_aload_n hx hb dX4_splitOrNull_10 rfl (lv_at hl 0 rfl) ?_
      refine va_get (D := D) (ci := 4) (v := .ref (ad 1)) (C := RX4) (T := TX4) (N := 6) hx hb hts (fun w h => mm (inX4 w h)) hown hK hP 0 dw_desk rfl 0 (by decide) (hts _ (mm wf_X4_11)) (fun _ h9 => h9) rfl dX4_splitOrNull_11 ?_
      refine lv_iload_n hx hb dX4_splitOrNull_14 rfl (lv_at hl 1 rfl) ?_
      refine sd_aldq hx hb hK hP 1 3 dw_splits rfl (k := j) (by omega) (by decide) rfl dX4_splitOrNull_15 ?_
      refine lv_goto (tgt := 20) hx hb dX4_splitOrNull_16 (by decide) ?_
      exact W.aret hx hb hr (Or.inl ⟨_, rfl⟩) (Or.inr ⟨_, rfl⟩) (fun T9 hT9 hW => ⟨some (ad (14 + 3 * j)), rfl, by rw [hix]; rfl, hT9⟩) (fun q h => nomatch h) dX4_splitOrNull_20

set_option maxHeartbeats 1000000 in
set_option maxRecDepth 100000 in
theorem k_X4_put (l : Launch) (D : va_G) {ad : Nat → Nat} {tc : Nat → ClassId} {dg pl : Nat → Nat} {vl : Nat → Nat → FP} {th : Nat → Nat → Bool} {cu mx : Nat → Nat → FP} {us : Nat → Bool} {so : Nat → FP} {rr : Nat → Int32} {fw : Nat → Bool} {ff : Int32} (sz : Nat) (x y : Int32) (v : Int64) (hok : ∀ q, q < 8 → dg q ≤ 8 ∧ pl q ≤ 16) : Met l yX4_put (Cond.code yX4_put cX4_put 6 (some .boolean) :: bg) { frames := 2, cells := 0, slots := 0, locals := 46 } (sd_Wr D vwCl (ty5 tc) (dw ad tc dg pl vl th cu mx us so rr fw ff) sz [.ref (ad 0), .int x, .int y, .long v]) (va_Qi (S := DS) (fun r u => P_put x y v (dg, pl, vl, th, cu, mx, us, so, rr, fw, ff) r u) (sd_B D vwCl (ty5 tc) (va_A (dw ad tc dg pl vl th cu mx us so rr fw ff) sz) (fun u => dwt ad tc u)) (va_A (dw ad tc dg pl vl th cu mx us so rr fw ff) sz)) 0 0 (va_A (dw ad tc dg pl vl th cu mx us so rr fw ff) sz) := by
  refine Met.ofW (cc := cX4_put) (maxL := 6) (ret := some .boolean) (by decide) rfl ?_
  intro p e s m args below meth c s₁ B hml hv
  obtain ⟨rfl, hsz, hP, hK, hD0⟩ := hv
  have hx := B.exec
  have hb := B.bytes
  have hr := B.returns
  have hts := atoms_spec (ws := Cond.code yX4_put cX4_put 6 (some .boolean) :: bg) B.pre
  have hown : s.vm.findClass RX4 = some m.cls := findClass_of_methodNamed B.named
  have hlocks := B.notSynchronized
  subst hsz
  have hD := hD0.self (sz := s.heap.size)
  generalize hAe : va_A (dw ad tc dg pl vl th cu mx us so rr fw ff) s.heap.size = A at hD ⊢
  have hA : ∀ q : Nat, s.heap.size ≤ q → A q := fun q h => by rw [← hAe]; exact Or.inr h
  have hS : va_S A s.heap s.heap [] := va_S.rf
  have hl := lv_entry ([.ref (ad 0), .int x, .int y, .long v]) (n := 6) (Nat.le_of_ble_eq_true rfl)
  rw [lg_entry_eq]
  generalize (lg_sl ([.ref (ad 0), .int x, .int y, .long v]) ++ List.replicate (6 - (lg_sl ([.ref (ad 0), .int x, .int y, .long v])).length) Slot.unset).toArray = ls at hl ⊢
  replace hl : lv_has ls 6 [(0, .ref (ad 0)), (1, .int x), (2, .int y), (3, .long v)] := hl
  refine lv_aload_n hx hb dX4_put_0 rfl (lv_at hl 0 rfl) ?_
  refine lv_iload_n hx hb dX4_put_1 rfl (lv_at hl 1 rfl) ?_
  refine va_csq (va_runV (As := [.int x]) (rest := []) ⟨hx, hb, hml, hown, hts⟩ (k_X4_splitOrNull l D x) (sd_cwV hts wd_X4_splitOrNull wn_X4 wm_X4_41 wi_X4_splitOrNull ws_X4_splitOrNull nq_X4_splitOrNull rfl rfl ⟨Nat.le_of_ble_eq_true rfl, Nat.le_of_ble_eq_true rfl⟩) (sd_preVR hP hK (ci := 4) (q0 := 0) rfl rfl dw_desk) rfl rfl hl.1 rfl (lv_room (Nat.le_of_ble_eq_true rfl)) dX4_put_2 ⟨Nat.zero_le _, Nat.zero_le _⟩).run (fun r1 hr1 => ?_)
  subst hr1
  rcases hixq : sd_ix x with _ | q
  · refine sd_top (v2 := .null) rfl ?_
    refine lv_astoreN (lv' := [(5, .null), (0, .ref (ad 0)), (1, .int x), (2, .int y), (3, .long v)]) hx hb dX4_put_5 hl (by decide) rfl (fun ls hl => ?_)
    refine lv_aloadN hx hb dX4_put_7 (lv_at hl 0 rfl) ?_
    refine lv_ifnullN (tgt := 21) hx hb dX4_put_9 (by decide) ?_
    refine lv_iconst (v := nI 0) hx hb dX4_put_21 (by decide) ?_
    exact W.zret hx hb hr rfl (fun T9 hT9 hW => ⟨⟨_, (dg, pl, vl, th, cu, mx, us, so, rr, fw, ff), rfl, Or.inr ⟨fun ⟨q, k, h1, h2, _⟩ => sd_ix_none hixq h1 h2, rfl, ⟨rfl, rfl, rfl, rfl, rfl, rfl, rfl⟩⟩, by rw [hT9]; exact hP, va_K.moved hW.alike hK, hD⟩, hS.F hT9⟩) hS.2.2 dX4_put_22
  · obtain ⟨hq, hxq⟩ := sd_ix_some hixq
    refine sd_top (v2 := .ref (ad (14 + 3 * q))) rfl ?_
    refine lv_astore (lv' := [(5, .ref (ad (14 + 3 * q))), (0, .ref (ad 0)), (1, .int x), (2, .int y), (3, .long v)]) hx hb dX4_put_5 hl (by decide) rfl (fun ls hl => ?_)
    refine lv_aload hx hb dX4_put_7 (lv_at hl 0 rfl) ?_
    refine lv_ifnull hx hb dX4_put_9 ?_
    refine lv_aload hx hb dX4_put_12 (lv_at hl 0 rfl) ?_
    refine lv_iload_n hx hb dX4_put_14 rfl (lv_at hl 3 rfl) ?_
    refine sd_ri (va_runV (As := [.int y]) (rest := []) ⟨hx, hb, hml, hown, hts⟩ (k_X3_hasPlace l D q y hq (hok q hq).2) (sd_cwV hts wd_X3_hasPlace wn_X3 wm_X4_63 wi_X3_hasPlace ws_X3_hasPlace nq_X3_hasPlace rfl rfl ⟨Nat.le_of_ble_eq_true rfl, Nat.le_of_ble_eq_true rfl⟩) (sd_preVR hP hK (ci := 3) (q0 := (14 + 3 * q)) rfl rfl (dw_sp hq)) rfl rfl hl.1 rfl (lv_room (Nat.le_of_ble_eq_true rfl)) dX4_put_15 ⟨Nat.zero_le _, Nat.zero_le _⟩) (fun r4 hr4 => ?_)
    subst hr4
    refine sd_if_neB (tgt := 23) hx hb dX4_put_18 (by decide) (fun c1 => ?_) (fun c1 => ?_)
    · have hokq := hok q hq
      obtain ⟨k, hk1, hk2, rfl⟩ := sd_hp_of (by omega) c1
      refine lv_aload hx hb dX4_put_23 (lv_at hl 0 rfl) ?_
      refine lv_iload_n hx hb dX4_put_25 rfl (lv_at hl 3 rfl) ?_
      refine lv_lload_n hx hb dX4_put_26 rfl (lv_at hl 4 rfl) ?_
      refine sd_rl (va_runS (As := [.long v]) (rest := [.int (nI k), .ref (ad (14 + 3 * q))]) ⟨hx, hb, hml, hown, hts⟩ (k_X2_of l v) (sd_cwS hts wd_X2_of wn_X2 wm_X4_45 wi_X2_of nq_X2_of rfl rfl ⟨Nat.le_of_ble_eq_true rfl, Nat.le_of_ble_eq_true rfl⟩) sd_preN rfl rfl hl.1 rfl (lv_room (Nat.le_of_ble_eq_true rfl)) dX4_put_27 ⟨Nat.zero_le _, Nat.zero_le _⟩) (fun r5 hr5 => ?_)
      subst hr5
      refine sd_wv (va_runV (As := [.int (nI k), .long (sd_L (sd_of v))]) (rest := []) ⟨hx, hb, hml, hown, hts⟩ (k_X3_keep l D _ q k (sd_of v) hq (by omega)) (sd_cwV hts wd_X3_keep wn_X3 wm_X4_67 wi_X3_keep ws_X3_keep nq_X3_keep rfl rfl ⟨Nat.le_of_ble_eq_true rfl, Nat.le_of_ble_eq_true rfl⟩) (sd_preVW hP hK hD (ci := 3) (q0 := (14 + 3 * q)) rfl rfl (dw_sp hq)) rfl rfl hl.1 rfl (lv_room (Nat.le_of_ble_eq_true rfl)) dX4_put_30 ⟨Nat.zero_le _, Nat.zero_le _⟩) hD hS hA (fun u7 H locs hu7 hP hD hS => ?_)
      replace hP : va_P D vwCl (dw ad tc dg pl (sd_up vl q (sd_up (vl q) k (sd_of v))) (sd_up th q (sd_up (th q) k true)) cu mx us so rr fw ff) H := hP
      replace hD : va_D A (dw ad tc dg pl (sd_up vl q (sd_up (vl q) k (sd_of v))) (sd_up th q (sd_up (th q) k true)) cu mx us so rr fw ff) := hD
      refine lv_iconst (v := nI 1) hx hb dX4_put_33 (by decide) ?_
      exact W.zret hx hb hr rfl (fun T9 hT9 hW => ⟨⟨_, (dg, pl, sd_up vl q (sd_up (vl q) k (sd_of v)), sd_up th q (sd_up (th q) k true), cu, mx, us, so, rr, fw, ff), rfl, Or.inl ⟨q, k, hq, hxq, hk1, hk2, rfl, rfl, rfl, rfl, rfl, rfl, rfl, rfl, rfl⟩, by rw [hT9]; exact hP, va_K.moved hW.alike hK, hD⟩, hS.F hT9⟩) hS.2.2 dX4_put_34
    · refine lv_iconst (v := nI 0) hx hb dX4_put_21 (by decide) ?_
      exact W.zret hx hb hr rfl (fun T9 hT9 hW => ⟨⟨_, (dg, pl, vl, th, cu, mx, us, so, rr, fw, ff), rfl, Or.inr ⟨fun ⟨q2, k, h1, h2, h3, h4, h5⟩ => (by have e9 := sd_nI_inj (by omega) (by omega) (hxq.symm.trans h2); subst e9; have hokq := (hok q hq).2; have h4 : k ≤ pl q := h4; rw [h5, sd_hp_nI (by omega), decide_eq_true ⟨h3, h4⟩] at c1; cases c1), rfl, ⟨rfl, rfl, rfl, rfl, rfl, rfl, rfl⟩⟩, by rw [hT9]; exact hP, va_K.moved hW.alike hK, hD⟩, hS.F hT9⟩) hS.2.2 dX4_put_22

set_option maxHeartbeats 1000000 in
set_option maxRecDepth 100000 in
theorem k_X4_lose (l : Launch) (D : va_G) {ad : Nat → Nat} {tc : Nat → ClassId} {dg pl : Nat → Nat} {vl : Nat → Nat → FP} {th : Nat → Nat → Bool} {cu mx : Nat → Nat → FP} {us : Nat → Bool} {so : Nat → FP} {rr : Nat → Int32} {fw : Nat → Bool} {ff : Int32} (sz : Nat) (x y : Int32) (hok : ∀ q, q < 8 → dg q ≤ 8 ∧ pl q ≤ 16) : Met l yX4_lose (Cond.code yX4_lose cX4_lose 4 (some .boolean) :: bg) { frames := 2, cells := 0, slots := 0, locals := 42 } (sd_Wr D vwCl (ty5 tc) (dw ad tc dg pl vl th cu mx us so rr fw ff) sz [.ref (ad 0), .int x, .int y]) (va_Qi (S := DS) (fun r u => P_lose x y (dg, pl, vl, th, cu, mx, us, so, rr, fw, ff) r u) (sd_B D vwCl (ty5 tc) (va_A (dw ad tc dg pl vl th cu mx us so rr fw ff) sz) (fun u => dwt ad tc u)) (va_A (dw ad tc dg pl vl th cu mx us so rr fw ff) sz)) 0 0 (va_A (dw ad tc dg pl vl th cu mx us so rr fw ff) sz) := by
  refine Met.ofW (cc := cX4_lose) (maxL := 4) (ret := some .boolean) (by decide) rfl ?_
  intro p e s m args below meth c s₁ B hml hv
  obtain ⟨rfl, hsz, hP, hK, hD0⟩ := hv
  have hx := B.exec
  have hb := B.bytes
  have hr := B.returns
  have hts := atoms_spec (ws := Cond.code yX4_lose cX4_lose 4 (some .boolean) :: bg) B.pre
  have hown : s.vm.findClass RX4 = some m.cls := findClass_of_methodNamed B.named
  have hlocks := B.notSynchronized
  subst hsz
  have hD := hD0.self (sz := s.heap.size)
  generalize hAe : va_A (dw ad tc dg pl vl th cu mx us so rr fw ff) s.heap.size = A at hD ⊢
  have hA : ∀ q : Nat, s.heap.size ≤ q → A q := fun q h => by rw [← hAe]; exact Or.inr h
  have hS : va_S A s.heap s.heap [] := va_S.rf
  have hl := lv_entry ([.ref (ad 0), .int x, .int y]) (n := 4) (Nat.le_of_ble_eq_true rfl)
  rw [lg_entry_eq]
  generalize (lg_sl ([.ref (ad 0), .int x, .int y]) ++ List.replicate (4 - (lg_sl ([.ref (ad 0), .int x, .int y])).length) Slot.unset).toArray = ls at hl ⊢
  replace hl : lv_has ls 4 [(0, .ref (ad 0)), (1, .int x), (2, .int y)] := hl
  refine lv_aload_n hx hb dX4_lose_0 rfl (lv_at hl 0 rfl) ?_
  refine lv_iload_n hx hb dX4_lose_1 rfl (lv_at hl 1 rfl) ?_
  refine va_csq (va_runV (As := [.int x]) (rest := []) ⟨hx, hb, hml, hown, hts⟩ (k_X4_splitOrNull l D x) (sd_cwV hts wd_X4_splitOrNull wn_X4 wm_X4_41 wi_X4_splitOrNull ws_X4_splitOrNull nq_X4_splitOrNull rfl rfl ⟨Nat.le_of_ble_eq_true rfl, Nat.le_of_ble_eq_true rfl⟩) (sd_preVR hP hK (ci := 4) (q0 := 0) rfl rfl dw_desk) rfl rfl hl.1 rfl (lv_room (Nat.le_of_ble_eq_true rfl)) dX4_lose_2 ⟨Nat.zero_le _, Nat.zero_le _⟩).run (fun r1 hr1 => ?_)
  subst hr1
  rcases hixq : sd_ix x with _ | q
  · refine sd_top (v2 := .null) rfl ?_
    refine lv_astore_nN (lv' := [(3, .null), (0, .ref (ad 0)), (1, .int x), (2, .int y)]) hx hb dX4_lose_5 rfl hl (by decide) rfl (fun ls hl => ?_)
    refine lv_aload_nN hx hb dX4_lose_6 rfl (lv_at hl 0 rfl) ?_
    refine lv_ifnullN (tgt := 18) hx hb dX4_lose_7 (by decide) ?_
    refine lv_iconst (v := nI 0) hx hb dX4_lose_18 (by decide) ?_
    exact W.zret hx hb hr rfl (fun T9 hT9 hW => ⟨⟨_, (dg, pl, vl, th, cu, mx, us, so, rr, fw, ff), rfl, Or.inr ⟨fun ⟨q, k, h1, h2, _⟩ => sd_ix_none hixq h1 h2, rfl, ⟨rfl, rfl, rfl, rfl, rfl, rfl, rfl⟩⟩, by rw [hT9]; exact hP, va_K.moved hW.alike hK, hD⟩, hS.F hT9⟩) hS.2.2 dX4_lose_19
  · obtain ⟨hq, hxq⟩ := sd_ix_some hixq
    refine sd_top (v2 := .ref (ad (14 + 3 * q))) rfl ?_
    refine lv_astore_n (lv' := [(3, .ref (ad (14 + 3 * q))), (0, .ref (ad 0)), (1, .int x), (2, .int y)]) hx hb dX4_lose_5 rfl hl (by decide) rfl (fun ls hl => ?_)
    refine lv_aload_n hx hb dX4_lose_6 rfl (lv_at hl 0 rfl) ?_
    refine lv_ifnull hx hb dX4_lose_7 ?_
    refine lv_aload_n hx hb dX4_lose_10 rfl (lv_at hl 0 rfl) ?_
    refine lv_iload_n hx hb dX4_lose_11 rfl (lv_at hl 3 rfl) ?_
    refine sd_ri (va_runV (As := [.int y]) (rest := []) ⟨hx, hb, hml, hown, hts⟩ (k_X3_hasShare l D q y hq (hok q hq).2) (sd_cwV hts wd_X3_hasShare wn_X3 wm_X4_71 wi_X3_hasShare ws_X3_hasShare nq_X3_hasShare rfl rfl ⟨Nat.le_of_ble_eq_true rfl, Nat.le_of_ble_eq_true rfl⟩) (sd_preVR hP hK (ci := 3) (q0 := (14 + 3 * q)) rfl rfl (dw_sp hq)) rfl rfl hl.1 rfl (lv_room (Nat.le_of_ble_eq_true rfl)) dX4_lose_12 ⟨Nat.zero_le _, Nat.zero_le _⟩) (fun r4 hr4 => ?_)
    subst hr4
    refine sd_if_neB (tgt := 20) hx hb dX4_lose_15 (by decide) (fun c1 => ?_) (fun c1 => ?_)
    · have hokq := hok q hq
      obtain ⟨k, hk1, hk2, hk3, rfl⟩ := sd_hs_of (by omega) c1
      refine lv_aload_n hx hb dX4_lose_20 rfl (lv_at hl 0 rfl) ?_
      refine lv_iload_n hx hb dX4_lose_21 rfl (lv_at hl 3 rfl) ?_
      refine sd_wv (va_runV (As := [.int (nI k)]) (rest := []) ⟨hx, hb, hml, hown, hts⟩ (k_X3_drop l D _ q k hq (by omega)) (sd_cwV hts wd_X3_drop wn_X3 wm_X4_74 wi_X3_drop ws_X3_drop nq_X3_drop rfl rfl ⟨Nat.le_of_ble_eq_true rfl, Nat.le_of_ble_eq_true rfl⟩) (sd_preVW hP hK hD (ci := 3) (q0 := (14 + 3 * q)) rfl rfl (dw_sp hq)) rfl rfl hl.1 rfl (lv_room (Nat.le_of_ble_eq_true rfl)) dX4_lose_22 ⟨Nat.zero_le _, Nat.zero_le _⟩) hD hS hA (fun u6 H locs hu6 hP hD hS => ?_)
      replace hP : va_P D vwCl (dw ad tc dg pl vl (sd_up th q (sd_up (th q) k false)) cu mx us so rr fw ff) H := hP
      replace hD : va_D A (dw ad tc dg pl vl (sd_up th q (sd_up (th q) k false)) cu mx us so rr fw ff) := hD
      refine lv_iconst (v := nI 1) hx hb dX4_lose_25 (by decide) ?_
      exact W.zret hx hb hr rfl (fun T9 hT9 hW => ⟨⟨_, (dg, pl, vl, sd_up th q (sd_up (th q) k false), cu, mx, us, so, rr, fw, ff), rfl, Or.inl ⟨q, k, hq, hxq, hk1, hk2, rfl, hk3, rfl, rfl, rfl, rfl, rfl, rfl, rfl, rfl⟩, by rw [hT9]; exact hP, va_K.moved hW.alike hK, hD⟩, hS.F hT9⟩) hS.2.2 dX4_lose_26
    · refine lv_iconst (v := nI 0) hx hb dX4_lose_18 (by decide) ?_
      exact W.zret hx hb hr rfl (fun T9 hT9 hW => ⟨⟨_, (dg, pl, vl, th, cu, mx, us, so, rr, fw, ff), rfl, Or.inr ⟨fun ⟨q2, k, h1, h2, h3, h4, h5, h6⟩ => (by have e9 := sd_nI_inj (by omega) (by omega) (hxq.symm.trans h2); subst e9; have hokq := (hok q hq).2; have h4 : k ≤ pl q := h4; have h6 : th q k = true := h6; rw [h5, sd_hs_nI _ (by omega) h3 h4, h6] at c1; cases c1), rfl, ⟨rfl, rfl, rfl, rfl, rfl, rfl, rfl⟩⟩, by rw [hT9]; exact hP, va_K.moved hW.alike hK, hD⟩, hS.F hT9⟩) hS.2.2 dX4_lose_19

set_option maxHeartbeats 1000000 in
set_option maxRecDepth 100000 in
theorem k_X4_wrong (l : Launch) (D : va_G) {ad : Nat → Nat} {tc : Nat → ClassId} {dg pl : Nat → Nat} {vl : Nat → Nat → FP} {th : Nat → Nat → Bool} {cu mx : Nat → Nat → FP} {us : Nat → Bool} {so : Nat → FP} {rr : Nat → Int32} {fw : Nat → Bool} {ff : Int32} (x : Int32)  : Met l yX4_wrong (Cond.code yX4_wrong cX4_wrong 2 (some .boolean) :: bg) { frames := 0, cells := 0, slots := 0, locals := 0 } (sd_R D vwCl (ty5 tc) (dw ad tc dg pl vl th cu mx us so rr fw ff) [.ref (ad 0), .int x]) (vp_Si (fun r => r = bI (sd_hs 16 fw x))) 0 0 (fun _ => False) := by
  refine Met.ofW (cc := cX4_wrong) (maxL := 2) (ret := some .boolean) (by decide) rfl ?_
  intro p e s m args below meth c s₁ B hml hv
  obtain ⟨rfl, hP, hK⟩ := hv
  have hx := B.exec
  have hb := B.bytes
  have hr := B.returns
  have hts := atoms_spec (ws := Cond.code yX4_wrong cX4_wrong 2 (some .boolean) :: bg) B.pre
  have hown : s.vm.findClass RX4 = some m.cls := findClass_of_methodNamed B.named
  have hlocks := B.notSynchronized
  have hl := lv_entry ([.ref (ad 0), .int x]) (n := 2) (Nat.le_of_ble_eq_true rfl)
  rw [lg_entry_eq]
  generalize (lg_sl ([.ref (ad 0), .int x]) ++ List.replicate (2 - (lg_sl ([.ref (ad 0), .int x])).length) Slot.unset).toArray = ls at hl ⊢
  replace hl : lv_has ls 2 [(0, .ref (ad 0)), (1, .int x)] := hl
  refine lv_iload_n hx hb dX4_wrong_0 rfl (lv_at hl 1 rfl) ?_
  refine lv_iconst (v := nI 1) hx hb dX4_wrong_1 (by decide) ?_
  refine lv_icmp_lt (tgt := 24) hx hb dX4_wrong_2 (by decide) (fun c1 => ?_) (fun c1 => ?_)
  · refine lv_iconst (v := nI 0) hx hb dX4_wrong_24 (by decide) ?_
    exact W.zret hx hb hr rfl (fun T9 hT9 hW => ⟨_, rfl, by rw [sd_hs_f _ (sd_hp_lt _ c1)]; rfl, hT9⟩) (fun q h => nomatch h) dX4_wrong_25
  · refine lv_iload_n hx hb dX4_wrong_5 rfl (lv_at hl 1 rfl) ?_
    refine lv_bipush (v := nI 16) hx hb dX4_wrong_6 (by decide) ?_
    refine lv_icmp_gt (tgt := 24) hx hb dX4_wrong_8 (by decide) (fun c2 => ?_) (fun c2 => ?_)
    · refine lv_iconst (v := nI 0) hx hb dX4_wrong_24 (by decide) ?_
      exact W.zret hx hb hr rfl (fun T9 hT9 hW => ⟨_, rfl, by rw [sd_hs_f _ (sd_hp_gt (by omega) c2)]; rfl, hT9⟩) (fun q h => nomatch h) dX4_wrong_25
    · obtain ⟨j, hj1, hj2, rfl⟩ := sd_hp_of (by omega) (sd_hp_in (n := 16) (by omega) c1 c2)
      refine lv_aload_n hx hb dX4_wrong_11 rfl (lv_at hl 0 rfl) ?_
      refine va_get (D := D) (ci := 4) (v := .ref (ad 13)) (C := RX4) (T := TX4) (N := 6) hx hb hts (fun w h => mm (inX4 w h)) hown hK hP 0 dw_desk rfl 4 (by decide) (hts _ (mm wf_X4_32)) (fun _ h9 => h9) rfl dX4_wrong_12 ?_
      refine lv_iload_n hx hb dX4_wrong_15 rfl (lv_at hl 1 rfl) ?_
      refine sd_zald hx hb hK hP 13 1 dw_fw rfl (k := j) (by omega) (by decide) dX4_wrong_16 ?_
      refine sd_if_eqB (tgt := 24) hx hb dX4_wrong_17 (by decide) (fun c3 => ?_) (fun c3 => ?_)
      · refine lv_iconst (v := nI 0) hx hb dX4_wrong_24 (by decide) ?_
        exact W.zret hx hb hr rfl (fun T9 hT9 hW => ⟨_, rfl, by rw [sd_hs_nI _ (by omega) hj1 hj2, c3]; rfl, hT9⟩) (fun q h => nomatch h) dX4_wrong_25
      · refine lv_iconst (v := nI 1) hx hb dX4_wrong_20 (by decide) ?_
        refine lv_goto (tgt := 25) hx hb dX4_wrong_21 (by decide) ?_
        exact W.zret hx hb hr rfl (fun T9 hT9 hW => ⟨_, rfl, by rw [sd_hs_nI _ (by omega) hj1 hj2, c3]; rfl, hT9⟩) (fun q h => nomatch h) dX4_wrong_25
end
section
/-! the desk: scale, renew, deal, join, mend, split -/
set_option maxHeartbeats 1000000 in
set_option maxRecDepth 100000 in
theorem k_X4_scale (l : Launch) (D : va_G) {ad : Nat → Nat} {tc : Nat → ClassId} {dg pl : Nat → Nat} {vl : Nat → Nat → FP} {th : Nat → Nat → Bool} {cu mx : Nat → Nat → FP} {us : Nat → Bool} {so : Nat → FP} {rr : Nat → Int32} {fw : Nat → Bool} {ff : Int32} (sz : Nat) (x : Int32) (v v2 : Int64) (hok : ∀ q, q < 8 → dg q ≤ 8 ∧ pl q ≤ 16) : Met l yX4_scale (Cond.code yX4_scale cX4_scale 12 (some .boolean) :: bg) { frames := 2, cells := 0, slots := 0, locals := 46 } (sd_Wr D vwCl (ty5 tc) (dw ad tc dg pl vl th cu mx us so rr fw ff) sz [.ref (ad 0), .int x, .long v, .long v2]) (va_Qi (S := DS) (fun r u => P_scale x v v2 (dg, pl, vl, th, cu, mx, us, so, rr, fw, ff) r u) (sd_B D vwCl (ty5 tc) (va_A (dw ad tc dg pl vl th cu mx us so rr fw ff) sz) (fun u => dwt ad tc u)) (va_A (dw ad tc dg pl vl th cu mx us so rr fw ff) sz)) 0 0 (va_A (dw ad tc dg pl vl th cu mx us so rr fw ff) sz) := by
  refine Met.ofW (cc := cX4_scale) (maxL := 12) (ret := some .boolean) (by decide) rfl ?_
  intro p e s m args below meth c s₁ B hml hv
  obtain ⟨rfl, hsz, hP, hK, hD0⟩ := hv
  have hx := B.exec
  have hb := B.bytes
  have hr := B.returns
  have hts := atoms_spec (ws := Cond.code yX4_scale cX4_scale 12 (some .boolean) :: bg) B.pre
  have hown : s.vm.findClass RX4 = some m.cls := findClass_of_methodNamed B.named
  have hlocks := B.notSynchronized
  subst hsz
  have hD := hD0.self (sz := s.heap.size)
  generalize hAe : va_A (dw ad tc dg pl vl th cu mx us so rr fw ff) s.heap.size = A at hD ⊢
  have hA : ∀ q : Nat, s.heap.size ≤ q → A q := fun q h => by rw [← hAe]; exact Or.inr h
  have hS : va_S A s.heap s.heap [] := va_S.rf
  have hl := lv_entry ([.ref (ad 0), .int x, .long v, .long v2]) (n := 12) (Nat.le_of_ble_eq_true rfl)
  rw [lg_entry_eq]
  generalize (lg_sl ([.ref (ad 0), .int x, .long v, .long v2]) ++ List.replicate (12 - (lg_sl ([.ref (ad 0), .int x, .long v, .long v2])).length) Slot.unset).toArray = ls at hl ⊢
  replace hl : lv_has ls 12 [(0, .ref (ad 0)), (1, .int x), (2, .long v), (4, .long v2)] := hl
  refine lv_aload_n hx hb dX4_scale_0 rfl (lv_at hl 0 rfl) ?_
  refine lv_iload_n hx hb dX4_scale_1 rfl (lv_at hl 1 rfl) ?_
  refine va_csq (va_runV (As := [.int x]) (rest := []) ⟨hx, hb, hml, hown, hts⟩ (k_X4_splitOrNull l D x) (sd_cwV hts wd_X4_splitOrNull wn_X4 wm_X4_41 wi_X4_splitOrNull ws_X4_splitOrNull nq_X4_splitOrNull rfl rfl ⟨Nat.le_of_ble_eq_true rfl, Nat.le_of_ble_eq_true rfl⟩) (sd_preVR hP hK (ci := 4) (q0 := 0) rfl rfl dw_desk) rfl rfl hl.1 rfl (lv_room (Nat.le_of_ble_eq_true rfl)) dX4_scale_2 ⟨Nat.zero_le _, Nat.zero_le _⟩).run (fun r1 hr1 => ?_)
  subst hr1
  rcases hixq : sd_ix x with _ | q
  · refine sd_top (v2 := .null) rfl ?_
    refine lv_astoreN (lv' := [(6, .null), (0, .ref (ad 0)), (1, .int x), (2, .long v), (4, .long v2)]) hx hb dX4_scale_5 hl (by decide) rfl (fun ls hl => ?_)
    refine lv_aloadN hx hb dX4_scale_7 (lv_at hl 0 rfl) ?_
    refine lv_ifnonnullN hx hb dX4_scale_9 ?_
    refine lv_iconst (v := nI 0) hx hb dX4_scale_12 (by decide) ?_
    exact W.zret hx hb hr rfl (fun T9 hT9 hW => ⟨⟨_, (dg, pl, vl, th, cu, mx, us, so, rr, fw, ff), rfl, Or.inr ⟨fun ⟨q, h1, h2⟩ => sd_ix_none hixq h1 h2, rfl, ⟨rfl, rfl, rfl, rfl, rfl, rfl, rfl⟩⟩, by rw [hT9]; exact hP, va_K.moved hW.alike hK, hD⟩, hS.F hT9⟩) hS.2.2 dX4_scale_13
  · obtain ⟨hq, hxq⟩ := sd_ix_some hixq
    refine sd_top (v2 := .ref (ad (14 + 3 * q))) rfl ?_
    refine lv_astore (lv' := [(6, .ref (ad (14 + 3 * q))), (0, .ref (ad 0)), (1, .int x), (2, .long v), (4, .long v2)]) hx hb dX4_scale_5 hl (by decide) rfl (fun ls hl => ?_)
    refine lv_aload hx hb dX4_scale_7 (lv_at hl 0 rfl) ?_
    refine lv_ifnonnull (tgt := 14) hx hb dX4_scale_9 (by decide) ?_
    refine lv_lload_n hx hb dX4_scale_14 rfl (lv_at hl 3 rfl) ?_
    refine sd_rl (va_runS (As := [.long v]) (rest := []) ⟨hx, hb, hml, hown, hts⟩ (k_X2_of l v) (sd_cwS hts wd_X2_of wn_X2 wm_X4_45 wi_X2_of nq_X2_of rfl rfl ⟨Nat.le_of_ble_eq_true rfl, Nat.le_of_ble_eq_true rfl⟩) sd_preN rfl rfl hl.1 rfl (lv_room (Nat.le_of_ble_eq_true rfl)) dX4_scale_15 ⟨Nat.zero_le _, Nat.zero_le _⟩) (fun r4 hr4 => ?_)
    subst hr4
    refine lv_lstore (lv' := [(7, .long (sd_L (sd_of v))), (6, .ref (ad (14 + 3 * q))), (0, .ref (ad 0)), (1, .int x), (2, .long v), (4, .long v2)]) hx hb dX4_scale_18 hl (by decide) rfl (fun ls hl => ?_)
    refine lv_lload hx hb dX4_scale_20 (lv_at hl 5 rfl) ?_
    refine sd_rl (va_runS (As := [.long v2]) (rest := []) ⟨hx, hb, hml, hown, hts⟩ (k_X2_of l v2) (sd_cwS hts wd_X2_of wn_X2 wm_X4_45 wi_X2_of nq_X2_of rfl rfl ⟨Nat.le_of_ble_eq_true rfl, Nat.le_of_ble_eq_true rfl⟩) sd_preN rfl rfl hl.1 rfl (lv_room (Nat.le_of_ble_eq_true rfl)) dX4_scale_22 ⟨Nat.zero_le _, Nat.zero_le _⟩) (fun r5 hr5 => ?_)
    subst hr5
    have hokq := hok q hq
    refine lv_lstore (lv' := [(9, .long (sd_L (sd_of v2))), (7, .long (sd_L (sd_of v))), (6, .ref (ad (14 + 3 * q))), (0, .ref (ad 0)), (1, .int x), (2, .long v), (4, .long v2)]) hx hb dX4_scale_25 hl (by decide) rfl (fun ls hl => ?_)
    refine lv_iconst (v := nI 1) hx hb dX4_scale_27 (by decide) ?_
    refine lv_istore (lv' := [(11, .int (nI 1)), (9, .long (sd_L (sd_of v2))), (7, .long (sd_L (sd_of v))), (6, .ref (ad (14 + 3 * q))), (0, .ref (ad 0)), (1, .int x), (2, .long v), (4, .long v2)]) hx hb dX4_scale_28 hl (by decide) rfl (fun ls hl => ?_)
    obtain ⟨H, hH9⟩ : ∃ H : Heap, H = s.heap := ⟨_, rfl⟩
    obtain ⟨locs, hl9⟩ : ∃ x : List Loc, x = [] := ⟨_, rfl⟩
    rw [← hH9, ← hl9]
    have hS : va_S A s.heap H locs := by rw [hH9, hl9]; exact va_S.rf
    have hP : va_P D vwCl (dw ad tc dg pl vl th cu mx us so rr fw ff) H := by rw [hH9]; exact hP
    clear hH9 hl9
    obtain ⟨k, v1, t1, hk, hI, hP9, hD9, hl9⟩ : ∃ (k : Nat) (v1 : Nat → Nat → FP) (t1 : Nat → Nat → Bool), (1 ≤ k ∧ k ≤ pl q + 1) ∧ ((∀ i j, i ≠ q → v1 i j = vl i j) ∧ (∀ j, k ≤ j → v1 q j = vl q j) ∧ (∀ i j, t1 i j = th i j) ∧ ∀ j, 1 ≤ j → j < k → th q j = true → v1 q j = vl q j * sd_of v + sd_of v2) ∧ va_P D vwCl (dw ad tc dg pl v1 t1 cu mx us so rr fw ff) H ∧ va_D A (dw ad tc dg pl v1 t1 cu mx us so rr fw ff) ∧ lv_has ls 12 [(11, .int (nI k)), (6, .ref (ad (14 + 3 * q))), (7, .long (sd_L (sd_of v))), (9, .long (sd_L (sd_of v2)))] := ⟨1, vl, th, ⟨Nat.le_refl 1, by omega⟩, ⟨fun _ _ _ => rfl, fun _ _ => rfl, fun _ _ => rfl, fun j h1 h2 => absurd h2 (by omega)⟩, hP, hD, (lv_sub hl [0, 3, 2, 1] rfl)⟩
    replace hl := hl9
    clear hl9
    replace hP := hP9
    replace hD := hD9
    clear hP9 hD9
    obtain ⟨k9, hk9⟩ : ∃ k9 : Nat, pl q + 1 < k + k9 := ⟨pl q + 1, by omega⟩
    induction k9 generalizing k v1 t1 ls H locs with
    | zero => exact absurd hk9 (by omega)
    | succ k9 ih =>
      refine lv_iload hx hb dX4_scale_30 (lv_at hl 0 rfl) ?_
      refine lv_aload hx hb dX4_scale_32 (lv_at hl 1 rfl) ?_
      refine va_get (D := D) (ci := 3) (v := .int (nI (pl q))) (C := RX3) (T := TX3) (N := 4) hx hb hts (fun w h => mm (inX3 w h)) hown hK hP (14 + 3 * q) (dw_sp hq) rfl 3 (by decide) (hts _ (mm wf_X4_87)) (fun _ h9 => h9) rfl dX4_scale_34 ?_
      refine sd_icmp_gt (tgt := 81) hx hb (by omega) (by omega) dX4_scale_37 (by decide) (fun c1 => ?_) (fun c1 => ?_)
      · refine lv_iconst (v := nI 1) hx hb dX4_scale_81 (by decide) ?_
        exact W.zret hx hb hr rfl (fun T9 hT9 hW => ⟨⟨_, (dg, pl, v1, t1, cu, mx, us, so, rr, fw, ff), rfl, Or.inl ⟨q, hq, hxq, rfl, rfl, rfl, funext fun i => funext fun j => hI.2.2.1 i j, ⟨rfl, rfl, rfl⟩, hI.1, fun j h1 h2 h3 => hI.2.2.2 j h1 (by have h2 : j ≤ pl q := h2; omega) h3⟩, by rw [hT9]; exact hP, va_K.moved hW.alike hK, hD⟩, hS.F hT9⟩) hS.2.2 dX4_scale_82
      · refine lv_aload hx hb dX4_scale_40 (lv_at hl 1 rfl) ?_
        refine lv_iload hx hb dX4_scale_42 (lv_at hl 0 rfl) ?_
        refine sd_ri (va_runV (As := [.int (nI k)]) (rest := []) ⟨hx, hb, hml, hown, hts⟩ (k_X3_hasShare l D q (nI k) hq hokq.2) (sd_cwV hts wd_X3_hasShare wn_X3 wm_X4_71 wi_X3_hasShare ws_X3_hasShare nq_X3_hasShare rfl rfl ⟨Nat.le_of_ble_eq_true rfl, Nat.le_of_ble_eq_true rfl⟩) (sd_preVR hP hK (ci := 3) (q0 := (14 + 3 * q)) rfl rfl (dw_sp hq)) rfl rfl hl.1 rfl (lv_room (Nat.le_of_ble_eq_true rfl)) dX4_scale_44 ⟨Nat.zero_le _, Nat.zero_le _⟩) (fun r6 hr6 => ?_)
        subst hr6
        refine sd_if_eqB (tgt := 75) hx hb dX4_scale_47 (by decide) (fun c2 => ?_) (fun c2 => ?_)
        · rw [sd_hs_nI _ (by omega) hk.1 (by omega), hI.2.2.1] at c2
          refine lv_iinc (v := nI (k + 1)) (lv' := [(11, .int (nI (k + 1))), (6, .ref (ad (14 + 3 * q))), (7, .long (sd_L (sd_of v))), (9, .long (sd_L (sd_of v2)))]) hx hb dX4_scale_75 hl (k := 0) rfl (nI_1 _) (by decide) rfl (fun ls hl => ?_)
          refine lv_goto (tgt := 30) hx hb dX4_scale_78 (by decide) ?_
          exact ih (k := k + 1) (v1 := v1) (t1 := t1) (hk := by omega) (hI := ⟨hI.1, fun j h1 => hI.2.1 j (by omega), hI.2.2.1, fun j h1 h2 h3 => (Classical.em (j = k)).elim (fun ej => absurd h3 (by rw [ej, c2]; decide)) (fun ej => hI.2.2.2 j h1 (by omega) h3)⟩) (H := H) (locs := locs) (hP := hP) (hD := hD) (hS := hS) (ls := ls) (hl := (lv_sub hl [0, 1, 2, 3] rfl)) (hk9 := by omega)
        · rw [sd_hs_nI _ (by omega) hk.1 (by omega), hI.2.2.1] at c2
          refine lv_aload hx hb dX4_scale_50 (lv_at hl 1 rfl) ?_
          refine lv_iload hx hb dX4_scale_52 (lv_at hl 0 rfl) ?_
          refine lv_aload hx hb dX4_scale_54 (lv_at hl 1 rfl) ?_
          refine va_get (D := D) (ci := 3) (v := .ref (ad (15 + 3 * q))) (C := RX3) (T := TX3) (N := 4) hx hb hts (fun w h => mm (inX3 w h)) hown hK hP (14 + 3 * q) (dw_sp hq) rfl 0 (by decide) (hts _ (mm wf_X4_93)) (fun _ h9 => h9) rfl dX4_scale_56 ?_
          refine lv_iload hx hb dX4_scale_59 (lv_at hl 0 rfl) ?_
          refine sd_lald hx hb hK hP (15 + 3 * q) 0 (dw_vl hq) rfl (k := k) (by omega) (by decide) dX4_scale_61 ?_
          refine lv_lload hx hb dX4_scale_62 (lv_at hl 2 rfl) ?_
          refine sd_rl (va_runS (As := [.long (sd_L ((v1 q) k)), .long (sd_L (sd_of v))]) (rest := [.int (nI k), .ref (ad (14 + 3 * q))]) ⟨hx, hb, hml, hown, hts⟩ (k_X2_times l (v1 q k) (sd_of v)) (sd_cwS hts wd_X2_times wn_X2 wm_X4_101 wi_X2_times nq_X2_times rfl rfl ⟨Nat.le_of_ble_eq_true rfl, Nat.le_of_ble_eq_true rfl⟩) sd_preN rfl rfl hl.1 rfl (lv_room (Nat.le_of_ble_eq_true rfl)) dX4_scale_64 ⟨Nat.zero_le _, Nat.zero_le _⟩) (fun r7 hr7 => ?_)
          subst hr7
          refine lv_lload hx hb dX4_scale_67 (lv_at hl 3 rfl) ?_
          refine sd_rl (va_runS (As := [.long (sd_L (v1 q k * sd_of v)), .long (sd_L (sd_of v2))]) (rest := [.int (nI k), .ref (ad (14 + 3 * q))]) ⟨hx, hb, hml, hown, hts⟩ (k_X2_plus l (v1 q k * sd_of v) (sd_of v2)) (sd_cwS hts wd_X2_plus wn_X2 wm_X4_105 wi_X2_plus nq_X2_plus rfl rfl ⟨Nat.le_of_ble_eq_true rfl, Nat.le_of_ble_eq_true rfl⟩) sd_preN rfl rfl hl.1 rfl (lv_room (Nat.le_of_ble_eq_true rfl)) dX4_scale_69 ⟨Nat.zero_le _, Nat.zero_le _⟩) (fun r8 hr8 => ?_)
          subst hr8
          refine sd_wv (va_runV (As := [.int (nI k), .long (sd_L (v1 q k * sd_of v + sd_of v2))]) (rest := []) ⟨hx, hb, hml, hown, hts⟩ (k_X3_keep l D _ q k (v1 q k * sd_of v + sd_of v2) hq (by omega)) (sd_cwV hts wd_X3_keep wn_X3 wm_X4_67 wi_X3_keep ws_X3_keep nq_X3_keep rfl rfl ⟨Nat.le_of_ble_eq_true rfl, Nat.le_of_ble_eq_true rfl⟩) (sd_preVW hP hK hD (ci := 3) (q0 := (14 + 3 * q)) rfl rfl (dw_sp hq)) rfl rfl hl.1 rfl (lv_room (Nat.le_of_ble_eq_true rfl)) dX4_scale_72 ⟨Nat.zero_le _, Nat.zero_le _⟩) hD hS hA (fun u10 H locs hu10 hP hD hS => ?_)
          replace hP : va_P D vwCl (dw ad tc dg pl (sd_up v1 q (sd_up (v1 q) k (v1 q k * sd_of v + sd_of v2))) (sd_up t1 q (sd_up (t1 q) k true)) cu mx us so rr fw ff) H := hP
          replace hD : va_D A (dw ad tc dg pl (sd_up v1 q (sd_up (v1 q) k (v1 q k * sd_of v + sd_of v2))) (sd_up t1 q (sd_up (t1 q) k true)) cu mx us so rr fw ff) := hD
          refine lv_iinc (v := nI (k + 1)) (lv' := [(11, .int (nI (k + 1))), (6, .ref (ad (14 + 3 * q))), (7, .long (sd_L (sd_of v))), (9, .long (sd_L (sd_of v2)))]) hx hb dX4_scale_75 hl (k := 0) rfl (nI_1 _) (by decide) rfl (fun ls hl => ?_)
          refine lv_goto (tgt := 30) hx hb dX4_scale_78 (by decide) ?_
          exact ih (k := k + 1) (v1 := sd_up v1 q (sd_up (v1 q) k (v1 q k * sd_of v + sd_of v2))) (t1 := sd_up t1 q (sd_up (t1 q) k true)) (hk := by omega) (hI := ⟨fun i j hi => by rw [sd_up_n _ _ hi]; exact hI.1 i j hi, fun j h1 => by rw [sd_up2, if_neg (by omega)]; exact hI.2.1 j (by omega), fun i j => by rw [sd_up2, hI.2.2.1]; exact (Classical.em (i = q ∧ j = k)).elim (fun z => by rw [if_pos z, z.1, z.2, c2]) (fun z => by rw [if_neg z]), fun j h1 h2 h3 => by rw [sd_up2]; exact (Classical.em (j = k)).elim (fun ej => by rw [if_pos ⟨rfl, ej⟩, hI.2.1 k (Nat.le_refl k), ej]) (fun ej => by rw [if_neg (fun z => ej z.2)]; exact hI.2.2.2 j h1 (by omega) h3)⟩) (H := H) (locs := locs) (hP := hP) (hD := hD) (hS := hS) (ls := ls) (hl := (lv_sub hl [0, 1, 2, 3] rfl)) (hk9 := by omega)

set_option maxHeartbeats 1000000 in
set_option maxRecDepth 100000 in
theorem k_X4_renew (l : Launch) (D : va_G) {ad : Nat → Nat} {tc : Nat → ClassId} {dg pl : Nat → Nat} {vl : Nat → Nat → FP} {th : Nat → Nat → Bool} {cu mx : Nat → Nat → FP} {us : Nat → Bool} {so : Nat → FP} {rr : Nat → Int32} {fw : Nat → Bool} {ff : Int32} (sz : Nat) (x : Int32) (seed : Int64) (hok : ∀ q, q < 8 → dg q ≤ 8 ∧ pl q ≤ 16) : Met l yX4_renew (Cond.code yX4_renew cX4_renew 6 (some .boolean) :: bg) { frames := 2, cells := 0, slots := 0, locals := 60 } (sd_Wr D vwCl (ty5 tc) (dw ad tc dg pl vl th cu mx us so rr fw ff) sz [.ref (ad 0), .int x, .long seed]) (va_Qi (S := DS) (fun r u => P_renew x seed (dg, pl, vl, th, cu, mx, us, so, rr, fw, ff) r u) (sd_B D vwCl (ty5 tc) (va_A (dw ad tc dg pl vl th cu mx us so rr fw ff) sz) (fun u => dwt ad tc u)) (va_A (dw ad tc dg pl vl th cu mx us so rr fw ff) sz)) 0 0 (va_A (dw ad tc dg pl vl th cu mx us so rr fw ff) sz) := by
  refine Met.ofW (cc := cX4_renew) (maxL := 6) (ret := some .boolean) (by decide) rfl ?_
  intro p e s m args below meth c s₁ B hml hv
  obtain ⟨rfl, hsz, hP, hK, hD0⟩ := hv
  have hx := B.exec
  have hb := B.bytes
  have hr := B.returns
  have hts := atoms_spec (ws := Cond.code yX4_renew cX4_renew 6 (some .boolean) :: bg) B.pre
  have hown : s.vm.findClass RX4 = some m.cls := findClass_of_methodNamed B.named
  have hlocks := B.notSynchronized
  subst hsz
  have hD := hD0.self (sz := s.heap.size)
  generalize hAe : va_A (dw ad tc dg pl vl th cu mx us so rr fw ff) s.heap.size = A at hD ⊢
  have hA : ∀ q : Nat, s.heap.size ≤ q → A q := fun q h => by rw [← hAe]; exact Or.inr h
  have hS : va_S A s.heap s.heap [] := va_S.rf
  have hl := lv_entry ([.ref (ad 0), .int x, .long seed]) (n := 6) (Nat.le_of_ble_eq_true rfl)
  rw [lg_entry_eq]
  generalize (lg_sl ([.ref (ad 0), .int x, .long seed]) ++ List.replicate (6 - (lg_sl ([.ref (ad 0), .int x, .long seed])).length) Slot.unset).toArray = ls at hl ⊢
  replace hl : lv_has ls 6 [(0, .ref (ad 0)), (1, .int x), (2, .long seed)] := hl
  refine lv_aload_n hx hb dX4_renew_0 rfl (lv_at hl 0 rfl) ?_
  refine lv_iload_n hx hb dX4_renew_1 rfl (lv_at hl 1 rfl) ?_
  refine va_csq (va_runV (As := [.int x]) (rest := []) ⟨hx, hb, hml, hown, hts⟩ (k_X4_splitOrNull l D x) (sd_cwV hts wd_X4_splitOrNull wn_X4 wm_X4_41 wi_X4_splitOrNull ws_X4_splitOrNull nq_X4_splitOrNull rfl rfl ⟨Nat.le_of_ble_eq_true rfl, Nat.le_of_ble_eq_true rfl⟩) (sd_preVR hP hK (ci := 4) (q0 := 0) rfl rfl dw_desk) rfl rfl hl.1 rfl (lv_room (Nat.le_of_ble_eq_true rfl)) dX4_renew_2 ⟨Nat.zero_le _, Nat.zero_le _⟩).run (fun r1 hr1 => ?_)
  subst hr1
  rcases hixq : sd_ix x with _ | q
  · refine sd_top (v2 := .null) rfl ?_
    refine lv_astoreN (lv' := [(4, .null), (0, .ref (ad 0)), (1, .int x), (2, .long seed)]) hx hb dX4_renew_5 hl (by decide) rfl (fun ls hl => ?_)
    refine lv_aloadN hx hb dX4_renew_7 (lv_at hl 0 rfl) ?_
    refine lv_ifnonnullN hx hb dX4_renew_9 ?_
    refine lv_iconst (v := nI 0) hx hb dX4_renew_12 (by decide) ?_
    exact W.zret hx hb hr rfl (fun T9 hT9 hW => ⟨⟨_, (dg, pl, vl, th, cu, mx, us, so, rr, fw, ff), rfl, Or.inr ⟨fun ⟨q, h1, h2⟩ => sd_ix_none hixq h1 h2, rfl, ⟨rfl, rfl, rfl, rfl, rfl, rfl, rfl⟩⟩, by rw [hT9]; exact hP, va_K.moved hW.alike hK, hD⟩, hS.F hT9⟩) hS.2.2 dX4_renew_13
  · obtain ⟨hq, hxq⟩ := sd_ix_some hixq
    refine sd_top (v2 := .ref (ad (14 + 3 * q))) rfl ?_
    have hokq := hok q hq
    refine lv_astore (lv' := [(4, .ref (ad (14 + 3 * q))), (0, .ref (ad 0)), (1, .int x), (2, .long seed)]) hx hb dX4_renew_5 hl (by decide) rfl (fun ls hl => ?_)
    refine lv_aload hx hb dX4_renew_7 (lv_at hl 0 rfl) ?_
    refine lv_ifnonnull (tgt := 14) hx hb dX4_renew_9 (by decide) ?_
    refine lv_aload_n hx hb dX4_renew_14 rfl (lv_at hl 1 rfl) ?_
    refine va_get (D := D) (ci := 4) (v := .ref (ad 2)) (C := RX4) (T := TX4) (N := 6) hx hb hts (fun w h => mm (inX4 w h)) hown hK hP 0 dw_desk rfl 1 (by decide) (hts _ (mm wf_X4_18)) (fun _ h9 => h9) rfl dX4_renew_15 ?_
    refine lv_lconst (v := 0) hx hb dX4_renew_18 (by decide) ?_
    refine sd_tol (y := sd_L 0) sd_L_0.symm ?_
    refine lv_aload hx hb dX4_renew_19 (lv_at hl 0 rfl) ?_
    refine va_get (D := D) (ci := 3) (v := .int (nI (dg q))) (C := RX3) (T := TX3) (N := 4) hx hb hts (fun w h => mm (inX3 w h)) hown hK hP (14 + 3 * q) (dw_sp hq) rfl 2 (by decide) (hts _ (mm wf_X4_78)) (fun _ h9 => h9) rfl dX4_renew_21 ?_
    refine lv_lload_n hx hb dX4_renew_24 rfl (lv_at hl 3 rfl) ?_
    refine sd_wv (va_runV (As := [.long (sd_L 0), .int (nI (dg q)), .long seed]) (rest := []) ⟨hx, hb, hml, hown, hts⟩ (k_X0_draw l D _ 0 0 (dg q) seed (by decide) hokq.1) (sd_cwV hts wd_X0_draw wn_X0 wm_X4_51 wi_X0_draw ws_X0_draw nq_X0_draw rfl rfl ⟨Nat.le_of_ble_eq_true rfl, Nat.le_of_ble_eq_true rfl⟩) (sd_preVW hP hK hD (ci := 0) (q0 := 2) rfl rfl (dw_curve (c := 0) (by decide))) rfl rfl hl.1 rfl (lv_room (Nat.le_of_ble_eq_true rfl)) dX4_renew_25 ⟨Nat.zero_le _, Nat.zero_le _⟩) hD hS hA (fun c1 H locs hc1 hP hD hS => ?_)
    replace hP : va_P D vwCl (dw ad tc dg pl vl th c1 mx us so rr fw ff) H := hP
    replace hD : va_D A (dw ad tc dg pl vl th c1 mx us so rr fw ff) := hD
    have hev := sd_dr_ev hc1.2.1 hc1.2.2
    refine lv_iconst (v := nI 1) hx hb dX4_renew_28 (by decide) ?_
    refine lv_istore (lv' := [(5, .int (nI 1)), (4, .ref (ad (14 + 3 * q))), (0, .ref (ad 0)), (1, .int x), (2, .long seed)]) hx hb dX4_renew_29 hl (by decide) rfl (fun ls hl => ?_)
    obtain ⟨k, v1, t1, hk, hI, hP9, hD9, hl9⟩ : ∃ (k : Nat) (v1 : Nat → Nat → FP) (t1 : Nat → Nat → Bool), (1 ≤ k ∧ k ≤ pl q + 1) ∧ ((∀ i j, i ≠ q → v1 i j = vl i j) ∧ (∀ j, k ≤ j → v1 q j = vl q j) ∧ (∀ i j, t1 i j = th i j) ∧ ∀ j, 1 ≤ j → j < k → th q j = true → v1 q j = vl q j + sd_ev (sd_dr 0 (dg q) seed) (sd_N j)) ∧ va_P D vwCl (dw ad tc dg pl v1 t1 c1 mx us so rr fw ff) H ∧ va_D A (dw ad tc dg pl v1 t1 c1 mx us so rr fw ff) ∧ lv_has ls 6 [(5, .int (nI k)), (4, .ref (ad (14 + 3 * q))), (0, .ref (ad 0))] := ⟨1, vl, th, ⟨Nat.le_refl 1, by omega⟩, ⟨fun _ _ _ => rfl, fun _ _ => rfl, fun _ _ => rfl, fun j h1 h2 => absurd h2 (by omega)⟩, hP, hD, (lv_sub hl [0, 1, 2] rfl)⟩
    replace hl := hl9
    clear hl9
    replace hP := hP9
    replace hD := hD9
    clear hP9 hD9
    obtain ⟨k9, hk9⟩ : ∃ k9 : Nat, pl q + 1 < k + k9 := ⟨pl q + 1, by omega⟩
    induction k9 generalizing k v1 t1 ls H locs with
    | zero => exact absurd hk9 (by omega)
    | succ k9 ih =>
      refine lv_iload hx hb dX4_renew_31 (lv_at hl 0 rfl) ?_
      refine lv_aload hx hb dX4_renew_33 (lv_at hl 1 rfl) ?_
      refine va_get (D := D) (ci := 3) (v := .int (nI (pl q))) (C := RX3) (T := TX3) (N := 4) hx hb hts (fun w h => mm (inX3 w h)) hown hK hP (14 + 3 * q) (dw_sp hq) rfl 3 (by decide) (hts _ (mm wf_X4_87)) (fun _ h9 => h9) rfl dX4_renew_35 ?_
      refine sd_icmp_gt (tgt := 85) hx hb (by omega) (by omega) dX4_renew_38 (by decide) (fun b1 => ?_) (fun b1 => ?_)
      · refine lv_iconst (v := nI 1) hx hb dX4_renew_85 (by decide) ?_
        exact W.zret hx hb hr rfl (fun T9 hT9 hW => ⟨⟨_, (dg, pl, v1, t1, c1, mx, us, so, rr, fw, ff), rfl, Or.inl ⟨q, hq, hxq, rfl, rfl, rfl, funext fun i => funext fun j => hI.2.2.1 i j, ⟨hc1.1 2 (by decide), rfl, rfl⟩, hI.1, fun j h1 h2 h3 => hI.2.2.2 j h1 (by have h2 : j ≤ pl q := h2; omega) h3⟩, by rw [hT9]; exact hP, va_K.moved hW.alike hK, hD⟩, hS.F hT9⟩) hS.2.2 dX4_renew_86
      · refine lv_aload hx hb dX4_renew_41 (lv_at hl 1 rfl) ?_
        refine lv_iload hx hb dX4_renew_43 (lv_at hl 0 rfl) ?_
        refine sd_ri (va_runV (As := [.int (nI k)]) (rest := []) ⟨hx, hb, hml, hown, hts⟩ (k_X3_hasShare l D q (nI k) hq hokq.2) (sd_cwV hts wd_X3_hasShare wn_X3 wm_X4_71 wi_X3_hasShare ws_X3_hasShare nq_X3_hasShare rfl rfl ⟨Nat.le_of_ble_eq_true rfl, Nat.le_of_ble_eq_true rfl⟩) (sd_preVR hP hK (ci := 3) (q0 := (14 + 3 * q)) rfl rfl (dw_sp hq)) rfl rfl hl.1 rfl (lv_room (Nat.le_of_ble_eq_true rfl)) dX4_renew_45 ⟨Nat.zero_le _, Nat.zero_le _⟩) (fun r5 hr5 => ?_)
        subst hr5
        refine sd_if_eqB (tgt := 79) hx hb dX4_renew_48 (by decide) (fun b2 => ?_) (fun b2 => ?_)
        · rw [sd_hs_nI _ (by omega) hk.1 (by omega), hI.2.2.1] at b2
          refine lv_iinc (v := nI (k + 1)) (lv' := [(5, .int (nI (k + 1))), (4, .ref (ad (14 + 3 * q))), (0, .ref (ad 0))]) hx hb dX4_renew_79 hl (k := 0) rfl (nI_1 _) (by decide) rfl (fun ls hl => ?_)
          refine lv_goto (tgt := 31) hx hb dX4_renew_82 (by decide) ?_
          exact ih (k := k + 1) (v1 := v1) (t1 := t1) (hk := by omega) (hI := ⟨hI.1, fun j h1 => hI.2.1 j (by omega), hI.2.2.1, fun j h1 h2 h3 => (Classical.em (j = k)).elim (fun ej => absurd h3 (by rw [ej, b2]; decide)) (fun ej => hI.2.2.2 j h1 (by omega) h3)⟩) (H := H) (locs := locs) (hP := hP) (hD := hD) (hS := hS) (ls := ls) (hl := (lv_sub hl [0, 1, 2] rfl)) (hk9 := by omega)
        · rw [sd_hs_nI _ (by omega) hk.1 (by omega), hI.2.2.1] at b2
          refine lv_aload hx hb dX4_renew_51 (lv_at hl 1 rfl) ?_
          refine lv_iload hx hb dX4_renew_53 (lv_at hl 0 rfl) ?_
          refine lv_aload hx hb dX4_renew_55 (lv_at hl 1 rfl) ?_
          refine va_get (D := D) (ci := 3) (v := .ref (ad (15 + 3 * q))) (C := RX3) (T := TX3) (N := 4) hx hb hts (fun w h => mm (inX3 w h)) hown hK hP (14 + 3 * q) (dw_sp hq) rfl 0 (by decide) (hts _ (mm wf_X4_93)) (fun _ h9 => h9) rfl dX4_renew_57 ?_
          refine lv_iload hx hb dX4_renew_60 (lv_at hl 0 rfl) ?_
          refine sd_lald hx hb hK hP (15 + 3 * q) 0 (dw_vl hq) rfl (k := k) (by omega) (by decide) dX4_renew_62 ?_
          refine lv_aload_n hx hb dX4_renew_63 rfl (lv_at hl 2 rfl) ?_
          refine va_get (D := D) (ci := 4) (v := .ref (ad 2)) (C := RX4) (T := TX4) (N := 6) hx hb hts (fun w h => mm (inX4 w h)) hown hK hP 0 dw_desk rfl 1 (by decide) (hts _ (mm wf_X4_18)) (fun _ h9 => h9) rfl dX4_renew_64 ?_
          refine lv_iload hx hb dX4_renew_67 (lv_at hl 0 rfl) ?_
          refine lv_i2l (v := lN k) hx hb dX4_renew_69 (nI_l (by omega)) ?_
          refine sd_tol (y := sd_L (sd_N k)) ((sd_N_L (by omega)).symm) ?_
          refine sd_rl (va_runV (As := [.long (sd_L (sd_N k))]) (rest := [.long (sd_L ((v1 q) k)), .int (nI k), .ref (ad (14 + 3 * q))]) ⟨hx, hb, hml, hown, hts⟩ (k_X0_valueAt l D 0 (sd_N k) (by decide)) (sd_cwV hts wd_X0_valueAt wn_X0 wm_X4_108 wi_X0_valueAt ws_X0_valueAt nq_X0_valueAt rfl rfl ⟨Nat.le_of_ble_eq_true rfl, Nat.le_of_ble_eq_true rfl⟩) (sd_preVR hP hK (ci := 0) (q0 := 2) rfl rfl (dw_curve (c := 0) (by decide))) rfl rfl hl.1 rfl (lv_room (Nat.le_of_ble_eq_true rfl)) dX4_renew_70 ⟨Nat.zero_le _, Nat.zero_le _⟩) (fun r6 hr6 => ?_)
          subst hr6
          refine sd_rl (va_runS (As := [.long (sd_L ((v1 q) k)), .long (sd_L (sd_ev (c1 0) (sd_N k)))]) (rest := [.int (nI k), .ref (ad (14 + 3 * q))]) ⟨hx, hb, hml, hown, hts⟩ (k_X2_plus l (v1 q k) (sd_ev (c1 0) (sd_N k))) (sd_cwS hts wd_X2_plus wn_X2 wm_X4_105 wi_X2_plus nq_X2_plus rfl rfl ⟨Nat.le_of_ble_eq_true rfl, Nat.le_of_ble_eq_true rfl⟩) sd_preN rfl rfl hl.1 rfl (lv_room (Nat.le_of_ble_eq_true rfl)) dX4_renew_73 ⟨Nat.zero_le _, Nat.zero_le _⟩) (fun r7 hr7 => ?_)
          subst hr7
          refine sd_wv (va_runV (As := [.int (nI k), .long (sd_L (v1 q k + sd_ev (c1 0) (sd_N k)))]) (rest := []) ⟨hx, hb, hml, hown, hts⟩ (k_X3_keep l D _ q k (v1 q k + sd_ev (c1 0) (sd_N k)) hq (by omega)) (sd_cwV hts wd_X3_keep wn_X3 wm_X4_67 wi_X3_keep ws_X3_keep nq_X3_keep rfl rfl ⟨Nat.le_of_ble_eq_true rfl, Nat.le_of_ble_eq_true rfl⟩) (sd_preVW hP hK hD (ci := 3) (q0 := (14 + 3 * q)) rfl rfl (dw_sp hq)) rfl rfl hl.1 rfl (lv_room (Nat.le_of_ble_eq_true rfl)) dX4_renew_76 ⟨Nat.zero_le _, Nat.zero_le _⟩) hD hS hA (fun u9 H locs hu9 hP hD hS => ?_)
          replace hP : va_P D vwCl (dw ad tc dg pl (sd_up v1 q (sd_up (v1 q) k (v1 q k + sd_ev (c1 0) (sd_N k)))) (sd_up t1 q (sd_up (t1 q) k true)) c1 mx us so rr fw ff) H := hP
          replace hD : va_D A (dw ad tc dg pl (sd_up v1 q (sd_up (v1 q) k (v1 q k + sd_ev (c1 0) (sd_N k)))) (sd_up t1 q (sd_up (t1 q) k true)) c1 mx us so rr fw ff) := hD
          refine lv_iinc (v := nI (k + 1)) (lv' := [(5, .int (nI (k + 1))), (4, .ref (ad (14 + 3 * q))), (0, .ref (ad 0))]) hx hb dX4_renew_79 hl (k := 0) rfl (nI_1 _) (by decide) rfl (fun ls hl => ?_)
          refine lv_goto (tgt := 31) hx hb dX4_renew_82 (by decide) ?_
          exact ih (k := k + 1) (v1 := sd_up v1 q (sd_up (v1 q) k (v1 q k + sd_ev (c1 0) (sd_N k)))) (t1 := sd_up t1 q (sd_up (t1 q) k true)) (hk := by omega) (hI := ⟨fun i j hi => by rw [sd_up_n _ _ hi]; exact hI.1 i j hi, fun j h1 => by rw [sd_up2, if_neg (by omega)]; exact hI.2.1 j (by omega), fun i j => by rw [sd_up2, hI.2.2.1]; exact (Classical.em (i = q ∧ j = k)).elim (fun z => by rw [if_pos z, z.1, z.2, b2]) (fun z => by rw [if_neg z]), fun j h1 h2 h3 => by rw [sd_up2]; exact (Classical.em (j = k)).elim (fun ej => by rw [if_pos ⟨rfl, ej⟩, hI.2.1 k (Nat.le_refl k), ej, hev]) (fun ej => by rw [if_neg (fun z => ej z.2)]; exact hI.2.2.2 j h1 (by omega) h3)⟩) (H := H) (locs := locs) (hP := hP) (hD := hD) (hS := hS) (ls := ls) (hl := (lv_sub hl [0, 1, 2] rfl)) (hk9 := by omega)

set_option maxHeartbeats 1000000 in
set_option maxRecDepth 100000 in
theorem k_X4_deal (l : Launch) (D : va_G) {ad : Nat → Nat} {tc : Nat → ClassId} {dg pl : Nat → Nat} {vl : Nat → Nat → FP} {th : Nat → Nat → Bool} {cu mx : Nat → Nat → FP} {us : Nat → Bool} {so : Nat → FP} {rr : Nat → Int32} {fw : Nat → Bool} {ff : Int32} (sz : Nat) (x y z : Int32) (v seed : Int64) (hok : ∀ q, q < 8 → dg q ≤ 8 ∧ pl q ≤ 16) : Met l yX4_deal (Cond.code yX4_deal cX4_deal 9 (some .boolean) :: bg) { frames := 3, cells := 0, slots := 0, locals := 82 } (sd_Wr D vwCl (ty5 tc) (dw ad tc dg pl vl th cu mx us so rr fw ff) sz [.ref (ad 0), .int x, .int y, .int z, .long v, .long seed]) (va_Qi (S := DS) (fun r u => P_deal x y z v seed (dg, pl, vl, th, cu, mx, us, so, rr, fw, ff) r u) (sd_B D vwCl (ty5 tc) (va_A (dw ad tc dg pl vl th cu mx us so rr fw ff) sz) (fun u => dwt ad tc u)) (va_A (dw ad tc dg pl vl th cu mx us so rr fw ff) sz)) 0 0 (va_A (dw ad tc dg pl vl th cu mx us so rr fw ff) sz) := by
  refine Met.ofW (cc := cX4_deal) (maxL := 9) (ret := some .boolean) (by decide) rfl ?_
  intro p e s m args below meth c s₁ B hml hv
  obtain ⟨rfl, hsz, hP, hK, hD0⟩ := hv
  have hx := B.exec
  have hb := B.bytes
  have hr := B.returns
  have hts := atoms_spec (ws := Cond.code yX4_deal cX4_deal 9 (some .boolean) :: bg) B.pre
  have hown : s.vm.findClass RX4 = some m.cls := findClass_of_methodNamed B.named
  have hlocks := B.notSynchronized
  subst hsz
  have hD := hD0.self (sz := s.heap.size)
  generalize hAe : va_A (dw ad tc dg pl vl th cu mx us so rr fw ff) s.heap.size = A at hD ⊢
  have hA : ∀ q : Nat, s.heap.size ≤ q → A q := fun q h => by rw [← hAe]; exact Or.inr h
  have hS : va_S A s.heap s.heap [] := va_S.rf
  have hl := lv_entry ([.ref (ad 0), .int x, .int y, .int z, .long v, .long seed]) (n := 9) (Nat.le_of_ble_eq_true rfl)
  rw [lg_entry_eq]
  generalize (lg_sl ([.ref (ad 0), .int x, .int y, .int z, .long v, .long seed]) ++ List.replicate (9 - (lg_sl ([.ref (ad 0), .int x, .int y, .int z, .long v, .long seed])).length) Slot.unset).toArray = ls at hl ⊢
  replace hl : lv_has ls 9 [(0, .ref (ad 0)), (1, .int x), (2, .int y), (3, .int z), (4, .long v), (6, .long seed)] := hl
  refine lv_aload_n hx hb dX4_deal_0 rfl (lv_at hl 0 rfl) ?_
  refine lv_iload_n hx hb dX4_deal_1 rfl (lv_at hl 1 rfl) ?_
  refine va_csq (va_runV (As := [.int x]) (rest := []) ⟨hx, hb, hml, hown, hts⟩ (k_X4_splitOrNull l D x) (sd_cwV hts wd_X4_splitOrNull wn_X4 wm_X4_41 wi_X4_splitOrNull ws_X4_splitOrNull nq_X4_splitOrNull rfl rfl ⟨Nat.le_of_ble_eq_true rfl, Nat.le_of_ble_eq_true rfl⟩) (sd_preVR hP hK (ci := 4) (q0 := 0) rfl rfl dw_desk) rfl rfl hl.1 rfl (lv_room (Nat.le_of_ble_eq_true rfl)) dX4_deal_2 ⟨Nat.zero_le _, Nat.zero_le _⟩).run (fun r1 hr1 => ?_)
  subst hr1
  rcases hixq : sd_ix x with _ | q
  · refine sd_top (v2 := .null) rfl ?_
    refine lv_astoreN (lv' := [(8, .null), (0, .ref (ad 0)), (1, .int x), (2, .int y), (3, .int z), (4, .long v), (6, .long seed)]) hx hb dX4_deal_5 hl (by decide) rfl (fun ls hl => ?_)
    refine lv_aloadN hx hb dX4_deal_7 (lv_at hl 0 rfl) ?_
    refine lv_ifnullN (tgt := 35) hx hb dX4_deal_9 (by decide) ?_
    refine lv_iconst (v := nI 0) hx hb dX4_deal_35 (by decide) ?_
    exact W.zret hx hb hr rfl (fun T9 hT9 hW => ⟨⟨_, (dg, pl, vl, th, cu, mx, us, so, rr, fw, ff), rfl, Or.inr ⟨fun ⟨q2, t2, n2, h1, h2, h3, h4, h5, h6, h7⟩ => sd_ix_none hixq h1 h2, rfl, ⟨rfl, rfl, rfl, rfl, rfl, rfl, rfl⟩⟩, by rw [hT9]; exact hP, va_K.moved hW.alike hK, hD⟩, hS.F hT9⟩) hS.2.2 dX4_deal_36
  · obtain ⟨hq, hxq⟩ := sd_ix_some hixq
    refine sd_top (v2 := .ref (ad (14 + 3 * q))) rfl ?_
    refine lv_astore (lv' := [(8, .ref (ad (14 + 3 * q))), (0, .ref (ad 0)), (1, .int x), (2, .int y), (3, .int z), (4, .long v), (6, .long seed)]) hx hb dX4_deal_5 hl (by decide) rfl (fun ls hl => ?_)
    refine lv_aload hx hb dX4_deal_7 (lv_at hl 0 rfl) ?_
    refine lv_ifnull hx hb dX4_deal_9 ?_
    refine lv_iload_n hx hb dX4_deal_12 rfl (lv_at hl 3 rfl) ?_
    refine lv_if_lt (tgt := 35) hx hb dX4_deal_13 (by decide) (fun c1 => ?_) (fun c1 => ?_)
    · refine lv_iconst (v := nI 0) hx hb dX4_deal_35 (by decide) ?_
      exact W.zret hx hb hr rfl (fun T9 hT9 hW => ⟨⟨_, (dg, pl, vl, th, cu, mx, us, so, rr, fw, ff), rfl, Or.inr ⟨fun ⟨q2, t2, n2, h1, h2, h3, h4, h5, h6, h7⟩ => absurd c1 (by rw [h4]; exact nI_pos (by omega)), rfl, ⟨rfl, rfl, rfl, rfl, rfl, rfl, rfl⟩⟩, by rw [hT9]; exact hP, va_K.moved hW.alike hK, hD⟩, hS.F hT9⟩) hS.2.2 dX4_deal_36
    · obtain ⟨t, ht9, rfl⟩ := nI_of c1
      refine lv_iload_n hx hb dX4_deal_16 rfl (lv_at hl 3 rfl) ?_
      refine lv_bipush (v := nI 8) hx hb dX4_deal_17 (by decide) ?_
      refine sd_icmp_gt (tgt := 35) hx hb (by omega) (by omega) dX4_deal_19 (by decide) (fun c2 => ?_) (fun c2 => ?_)
      · refine lv_iconst (v := nI 0) hx hb dX4_deal_35 (by decide) ?_
        exact W.zret hx hb hr rfl (fun T9 hT9 hW => ⟨⟨_, (dg, pl, vl, th, cu, mx, us, so, rr, fw, ff), rfl, Or.inr ⟨fun ⟨q2, t2, n2, h1, h2, h3, h4, h5, h6, h7⟩ => (by have e9 := sd_nI_inj ht9 (by omega) h4; omega), rfl, ⟨rfl, rfl, rfl, rfl, rfl, rfl, rfl⟩⟩, by rw [hT9]; exact hP, va_K.moved hW.alike hK, hD⟩, hS.F hT9⟩) hS.2.2 dX4_deal_36
      · refine lv_iload_n hx hb dX4_deal_22 rfl (lv_at hl 4 rfl) ?_
        refine lv_iload_n hx hb dX4_deal_23 rfl (lv_at hl 3 rfl) ?_
        refine lv_iconst (v := nI 1) hx hb dX4_deal_24 (by decide) ?_
        refine sd_iadd hx hb dX4_deal_25 ?_
        refine lv_icmp_lt (tgt := 35) hx hb dX4_deal_26 (by decide) (fun c3 => ?_) (fun c3 => ?_)
        · refine lv_iconst (v := nI 0) hx hb dX4_deal_35 (by decide) ?_
          exact W.zret hx hb hr rfl (fun T9 hT9 hW => ⟨⟨_, (dg, pl, vl, th, cu, mx, us, so, rr, fw, ff), rfl, Or.inr ⟨fun ⟨q2, t2, n2, h1, h2, h3, h4, h5, h6, h7⟩ => (by have e9 := sd_nI_inj ht9 (by omega) h4; rw [h7] at c3; exact absurd c3 (nI_nlt (by omega) (by omega))), rfl, ⟨rfl, rfl, rfl, rfl, rfl, rfl, rfl⟩⟩, by rw [hT9]; exact hP, va_K.moved hW.alike hK, hD⟩, hS.F hT9⟩) hS.2.2 dX4_deal_36
        · have hz0 : ¬ z < 0 := fun q9 => c3 (Int32.lt_iff_toInt_lt.mpr (by rw [Int32.lt_iff_toInt_lt, Int32.toInt_zero] at q9; rw [nI_toInt (by omega)]; omega))
          obtain ⟨n, hn9, rfl⟩ := nI_of hz0
          have c3 : t + 1 ≤ n := Nat.not_lt.mp (fun q9 => c3 (nI_lt q9 (by omega)))
          refine lv_iload_n hx hb dX4_deal_29 rfl (lv_at hl 4 rfl) ?_
          refine lv_bipush (v := nI 16) hx hb dX4_deal_30 (by decide) ?_
          refine sd_icmp_le (tgt := 37) hx hb (by omega) (by omega) dX4_deal_32 (by decide) (fun c4 => ?_) (fun c4 => ?_)
          · refine lv_aload_n hx hb dX4_deal_37 rfl (lv_at hl 1 rfl) ?_
            refine va_get (D := D) (ci := 4) (v := .ref (ad 2)) (C := RX4) (T := TX4) (N := 6) hx hb hts (fun w h => mm (inX4 w h)) hown hK hP 0 dw_desk rfl 1 (by decide) (hts _ (mm wf_X4_18)) (fun _ h9 => h9) rfl dX4_deal_38 ?_
            refine lv_lload hx hb dX4_deal_41 (lv_at hl 5 rfl) ?_
            refine sd_rl (va_runS (As := [.long v]) (rest := [.ref (ad 2)]) ⟨hx, hb, hml, hown, hts⟩ (k_X2_of l v) (sd_cwS hts wd_X2_of wn_X2 wm_X4_45 wi_X2_of nq_X2_of rfl rfl ⟨Nat.le_of_ble_eq_true rfl, Nat.le_of_ble_eq_true rfl⟩) sd_preN rfl rfl hl.1 rfl (lv_room (Nat.le_of_ble_eq_true rfl)) dX4_deal_43 ⟨Nat.zero_le _, Nat.zero_le _⟩) (fun r4 hr4 => ?_)
            subst hr4
            refine lv_iload_n hx hb dX4_deal_46 rfl (lv_at hl 3 rfl) ?_
            refine lv_lload hx hb dX4_deal_47 (lv_at hl 6 rfl) ?_
            refine sd_wv (va_runV (As := [.long (sd_L (sd_of v)), .int (nI t), .long seed]) (rest := []) ⟨hx, hb, hml, hown, hts⟩ (k_X0_draw l D _ 0 (sd_of v) t seed (by decide) c2) (sd_cwV hts wd_X0_draw wn_X0 wm_X4_51 wi_X0_draw ws_X0_draw nq_X0_draw rfl rfl ⟨Nat.le_of_ble_eq_true rfl, Nat.le_of_ble_eq_true rfl⟩) (sd_preVW hP hK hD (ci := 0) (q0 := 2) rfl rfl (dw_curve (c := 0) (by decide))) rfl rfl hl.1 rfl (lv_room (Nat.le_of_ble_eq_true rfl)) dX4_deal_49 ⟨Nat.zero_le _, Nat.zero_le _⟩) hD hS hA (fun cA H locs hcA hP hD hS => ?_)
            replace hP : va_P D vwCl (dw ad tc dg pl vl th cA mx us so rr fw ff) H := hP
            replace hD : va_D A (dw ad tc dg pl vl th cA mx us so rr fw ff) := hD
            have hev := sd_dr_ev hcA.2.1 hcA.2.2
            refine lv_aload hx hb dX4_deal_52 (lv_at hl 0 rfl) ?_
            refine lv_iload_n hx hb dX4_deal_54 rfl (lv_at hl 3 rfl) ?_
            refine lv_iload_n hx hb dX4_deal_55 rfl (lv_at hl 4 rfl) ?_
            refine sd_wv (va_runV (As := [.int (nI t), .int (nI n)]) (rest := []) ⟨hx, hb, hml, hown, hts⟩ (k_X3_shape l D _ q t n hq) (sd_cwV hts wd_X3_shape wn_X3 wm_X4_55 wi_X3_shape ws_X3_shape nq_X3_shape rfl rfl ⟨Nat.le_of_ble_eq_true rfl, Nat.le_of_ble_eq_true rfl⟩) (sd_preVW hP hK hD (ci := 3) (q0 := (14 + 3 * q)) rfl rfl (dw_sp hq)) rfl rfl hl.1 rfl (lv_room (Nat.le_of_ble_eq_true rfl)) dX4_deal_56 ⟨Nat.zero_le _, Nat.zero_le _⟩) hD hS hA (fun u7 H locs hu7 hP hD hS => ?_)
            replace hP : va_P D vwCl (dw ad tc (sd_up dg q t) (sd_up pl q n) vl th cA mx us so rr fw ff) H := hP
            replace hD : va_D A (dw ad tc (sd_up dg q t) (sd_up pl q n) vl th cA mx us so rr fw ff) := hD
            refine lv_aload hx hb dX4_deal_59 (lv_at hl 0 rfl) ?_
            refine lv_aload_n hx hb dX4_deal_61 rfl (lv_at hl 1 rfl) ?_
            refine va_get (D := D) (ci := 4) (v := .ref (ad 2)) (C := RX4) (T := TX4) (N := 6) hx hb hts (fun w h => mm (inX4 w h)) hown hK hP 0 dw_desk rfl 1 (by decide) (hts _ (mm wf_X4_18)) (fun _ h9 => h9) rfl dX4_deal_62 ?_
            refine sd_wv (va_runV (As := [.ref (ad 2)]) (rest := []) ⟨hx, hb, hml, hown, hts⟩ (k_X3_fill l D _ q 0 hq (by decide) (by rw [sd_up_s]; exact c4)) (sd_cwV hts wd_X3_fill wn_X3 wm_X4_59 wi_X3_fill ws_X3_fill nq_X3_fill rfl rfl ⟨Nat.le_of_ble_eq_true rfl, Nat.le_of_ble_eq_true rfl⟩) (sd_preVW hP hK hD (ci := 3) (q0 := (14 + 3 * q)) rfl rfl (dw_sp hq)) rfl rfl hl.1 rfl (lv_room (Nat.le_of_ble_eq_true rfl)) dX4_deal_65 ⟨Nat.zero_le _, Nat.zero_le _⟩) hD hS hA (fun uf H locs huf hP hD hS => ?_)
            replace hP : va_P D vwCl (dw ad tc (sd_up dg q t) (sd_up pl q n) uf.1 uf.2 cA mx us so rr fw ff) H := hP
            replace hD : va_D A (dw ad tc (sd_up dg q t) (sd_up pl q n) uf.1 uf.2 cA mx us so rr fw ff) := hD
            refine lv_iconst (v := nI 1) hx hb dX4_deal_68 (by decide) ?_
            simp only [sd_up_s, hev] at huf
            exact W.zret hx hb hr rfl (fun T9 hT9 hW => ⟨⟨_, (sd_up dg q t, sd_up pl q n, uf.1, uf.2, cA, mx, us, so, rr, fw, ff), rfl, Or.inl ⟨q, t, n, ⟨hq, hxq, c2, rfl, c3, c4, rfl⟩, rfl, rfl, rfl, ⟨hcA.1 2 (by decide), rfl, rfl⟩, huf⟩, by rw [hT9]; exact hP, va_K.moved hW.alike hK, hD⟩, hS.F hT9⟩) hS.2.2 dX4_deal_69
          · refine lv_iconst (v := nI 0) hx hb dX4_deal_35 (by decide) ?_
            exact W.zret hx hb hr rfl (fun T9 hT9 hW => ⟨⟨_, (dg, pl, vl, th, cu, mx, us, so, rr, fw, ff), rfl, Or.inr ⟨fun ⟨q2, t2, n2, h1, h2, h3, h4, h5, h6, h7⟩ => (by have e9 := sd_nI_inj hn9 (by omega) h7; omega), rfl, ⟨rfl, rfl, rfl, rfl, rfl, rfl, rfl⟩⟩, by rw [hT9]; exact hP, va_K.moved hW.alike hK, hD⟩, hS.F hT9⟩) hS.2.2 dX4_deal_36

set_option maxHeartbeats 1000000 in
set_option maxRecDepth 100000 in
theorem k_X4_mend (l : Launch) (D : va_G) {ad : Nat → Nat} {tc : Nat → ClassId} {dg pl : Nat → Nat} {vl : Nat → Nat → FP} {th : Nat → Nat → Bool} {cu mx : Nat → Nat → FP} {us : Nat → Bool} {so : Nat → FP} {rr : Nat → Int32} {fw : Nat → Bool} {ff : Int32} (sz : Nat)  (hok : ∀ q, q < 8 → dg q ≤ 8 ∧ pl q ≤ 16) : Met l yX4_mend (Cond.code yX4_mend cX4_mend 2 (some .boolean) :: bg) { frames := 3, cells := 0, slots := 0, locals := 82 } (sd_Wr D vwCl (ty5 tc) (dw ad tc dg pl vl th cu mx us so rr fw ff) sz [.ref (ad 0)]) (va_Qi (S := DS) (fun r u => P_mend (dg, pl, vl, th, cu, mx, us, so, rr, fw, ff) r u) (sd_B D vwCl (ty5 tc) (va_A (dw ad tc dg pl vl th cu mx us so rr fw ff) sz) (fun u => dwt ad tc u)) (va_A (dw ad tc dg pl vl th cu mx us so rr fw ff) sz)) 0 0 (va_A (dw ad tc dg pl vl th cu mx us so rr fw ff) sz) := by
  refine Met.ofW (cc := cX4_mend) (maxL := 2) (ret := some .boolean) (by decide) rfl ?_
  intro p e s m args below meth c s₁ B hml hv
  obtain ⟨rfl, hsz, hP, hK, hD0⟩ := hv
  have hx := B.exec
  have hb := B.bytes
  have hr := B.returns
  have hts := atoms_spec (ws := Cond.code yX4_mend cX4_mend 2 (some .boolean) :: bg) B.pre
  have hown : s.vm.findClass RX4 = some m.cls := findClass_of_methodNamed B.named
  have hlocks := B.notSynchronized
  subst hsz
  have hD := hD0.self (sz := s.heap.size)
  generalize hAe : va_A (dw ad tc dg pl vl th cu mx us so rr fw ff) s.heap.size = A at hD ⊢
  have hA : ∀ q : Nat, s.heap.size ≤ q → A q := fun q h => by rw [← hAe]; exact Or.inr h
  have hS : va_S A s.heap s.heap [] := va_S.rf
  have hl := lv_entry ([.ref (ad 0)]) (n := 2) (Nat.le_of_ble_eq_true rfl)
  rw [lg_entry_eq]
  generalize (lg_sl ([.ref (ad 0)]) ++ List.replicate (2 - (lg_sl ([.ref (ad 0)])).length) Slot.unset).toArray = ls at hl ⊢
  replace hl : lv_has ls 2 [(0, .ref (ad 0))] := hl
  refine lv_aload_n hx hb dX4_mend_0 rfl (lv_at hl 0 rfl) ?_
  refine lv_aload_n hx hb dX4_mend_1 rfl (lv_at hl 0 rfl) ?_
  refine va_get (D := D) (ci := 4) (v := .int ff) (C := RX4) (T := TX4) (N := 6) hx hb hts (fun w h => mm (inX4 w h)) hown hK hP 0 dw_desk rfl 5 (by decide) (hts _ (mm wf_X4_36)) (fun _ h9 => h9) rfl dX4_mend_2 ?_
  refine va_csq (va_runV (As := [.int ff]) (rest := []) ⟨hx, hb, hml, hown, hts⟩ (k_X4_splitOrNull l D ff) (sd_cwV hts wd_X4_splitOrNull wn_X4 wm_X4_41 wi_X4_splitOrNull ws_X4_splitOrNull nq_X4_splitOrNull rfl rfl ⟨Nat.le_of_ble_eq_true rfl, Nat.le_of_ble_eq_true rfl⟩) (sd_preVR hP hK (ci := 4) (q0 := 0) rfl rfl dw_desk) rfl rfl hl.1 rfl (lv_room (Nat.le_of_ble_eq_true rfl)) dX4_mend_5 ⟨Nat.zero_le _, Nat.zero_le _⟩).run (fun r1 hr1 => ?_)
  subst hr1
  rcases hixq : sd_ix ff with _ | q
  · refine sd_top (v2 := .null) rfl ?_
    refine lv_astore_nN (lv' := [(1, .null), (0, .ref (ad 0))]) hx hb dX4_mend_8 rfl hl (by decide) rfl (fun ls hl => ?_)
    refine lv_aload_nN hx hb dX4_mend_9 rfl (lv_at hl 0 rfl) ?_
    refine lv_ifnonnullN hx hb dX4_mend_10 ?_
    refine lv_iconst (v := nI 0) hx hb dX4_mend_13 (by decide) ?_
    exact W.zret hx hb hr rfl (fun T9 hT9 hW => ⟨⟨_, (dg, pl, vl, th, cu, mx, us, so, rr, fw, ff), rfl, Or.inr ⟨fun ⟨q, h1, h2⟩ => sd_ix_none hixq h1 h2, rfl, ⟨rfl, rfl, rfl, rfl, rfl, rfl, rfl⟩⟩, by rw [hT9]; exact hP, va_K.moved hW.alike hK, hD⟩, hS.F hT9⟩) hS.2.2 dX4_mend_14
  · obtain ⟨hq, hxq⟩ := sd_ix_some hixq
    refine sd_top (v2 := .ref (ad (14 + 3 * q))) rfl ?_
    refine lv_astore_n (lv' := [(1, .ref (ad (14 + 3 * q))), (0, .ref (ad 0))]) hx hb dX4_mend_8 rfl hl (by decide) rfl (fun ls hl => ?_)
    refine lv_aload_n hx hb dX4_mend_9 rfl (lv_at hl 0 rfl) ?_
    refine lv_ifnonnull (tgt := 15) hx hb dX4_mend_10 (by decide) ?_
    refine lv_aload_n hx hb dX4_mend_15 rfl (lv_at hl 0 rfl) ?_
    refine lv_aload_n hx hb dX4_mend_16 rfl (lv_at hl 1 rfl) ?_
    refine va_get (D := D) (ci := 4) (v := .ref (ad 6)) (C := RX4) (T := TX4) (N := 6) hx hb hts (fun w h => mm (inX4 w h)) hown hK hP 0 dw_desk rfl 3 (by decide) (hts _ (mm wf_X4_29)) (fun _ h9 => h9) rfl dX4_mend_17 ?_
    refine sd_wv (va_runV (As := [.ref (ad 6)]) (rest := []) ⟨hx, hb, hml, hown, hts⟩ (k_X3_fill l D _ q 2 hq (by decide) (hok q hq).2) (sd_cwV hts wd_X3_fill wn_X3 wm_X4_59 wi_X3_fill ws_X3_fill nq_X3_fill rfl rfl ⟨Nat.le_of_ble_eq_true rfl, Nat.le_of_ble_eq_true rfl⟩) (sd_preVW hP hK hD (ci := 3) (q0 := (14 + 3 * q)) rfl rfl (dw_sp hq)) rfl rfl hl.1 rfl (lv_room (Nat.le_of_ble_eq_true rfl)) dX4_mend_20 ⟨Nat.zero_le _, Nat.zero_le _⟩) hD hS hA (fun uf H locs huf hP hD hS => ?_)
    replace hP : va_P D vwCl (dw ad tc dg pl uf.1 uf.2 cu mx us so rr fw ff) H := hP
    replace hD : va_D A (dw ad tc dg pl uf.1 uf.2 cu mx us so rr fw ff) := hD
    refine lv_iconst (v := nI 1) hx hb dX4_mend_23 (by decide) ?_
    exact W.zret hx hb hr rfl (fun T9 hT9 hW => ⟨⟨_, (dg, pl, uf.1, uf.2, cu, mx, us, so, rr, fw, ff), rfl, Or.inl ⟨q, hq, hxq, rfl, rfl, rfl, ⟨rfl, rfl, rfl⟩, huf⟩, by rw [hT9]; exact hP, va_K.moved hW.alike hK, hD⟩, hS.F hT9⟩) hS.2.2 dX4_mend_24
end
section
/-! the desk: joined, join, split, keepFound -/
theorem sd_max {a b : Nat} (ha : a < 2 ^ 31) (hb : b < 2 ^ 31) : (if nI a < nI b then nI b else nI a) = nI (max a b) := by
  by_cases h : a < b
  · rw [if_pos (nI_lt h hb), Nat.max_eq_right (by omega)]
  · rw [if_neg (nI_nlt (by omega) ha), Nat.max_eq_left (by omega)]
theorem sd_min {a b : Nat} (ha : a < 2 ^ 31) (hb : b < 2 ^ 31) : (if nI b < nI a then nI b else nI a) = nI (min a b) := by
  by_cases h : b < a
  · rw [if_pos (nI_lt h ha), Nat.min_eq_right (by omega)]
  · rw [if_neg (nI_nlt (by omega) hb), Nat.min_eq_left (by omega)]
theorem sd_ne_toInt {y : Int32} {k : Nat} (hk : k < 2 ^ 31) (h : ¬ y = nI k) : y.toInt ≠ (k : Int) := fun z => h (Int32.toInt_inj.mp (by rw [nI_toInt hk]; exact z))

set_option maxHeartbeats 1000000 in
set_option maxRecDepth 100000 in
theorem k_X4_joined (l : Launch)  (a b : FP) (h : Nat) (hh : h ≤ 2) : Met l yX4_joined (Cond.code yX4_joined cX4_joined 5 (some .long) :: bg) { frames := 1, cells := 0, slots := 0, locals := 35 } (sd_N0 [.long (sd_L a), .long (sd_L b), .int (nI h)]) (vp_Sl (fun r => r = sd_L (sd_jn h a b))) 0 0 (fun _ => False) := by
  refine Met.ofW (cc := cX4_joined) (maxL := 5) (ret := some .long) (by decide) rfl ?_
  intro p e s m args below meth c s₁ B hml hv
  obtain ⟨rfl, -⟩ := hv
  have hx := B.exec
  have hb := B.bytes
  have hr := B.returns
  have hts := atoms_spec (ws := Cond.code yX4_joined cX4_joined 5 (some .long) :: bg) B.pre
  have hown : s.vm.findClass RX4 = some m.cls := findClass_of_methodNamed B.named
  have hlocks := B.notSynchronized
  have hl := lv_entry ([.long (sd_L a), .long (sd_L b), .int (nI h)]) (n := 5) (Nat.le_of_ble_eq_true rfl)
  rw [lg_entry_eq]
  generalize (lg_sl ([.long (sd_L a), .long (sd_L b), .int (nI h)]) ++ List.replicate (5 - (lg_sl ([.long (sd_L a), .long (sd_L b), .int (nI h)])).length) Slot.unset).toArray = ls at hl ⊢
  replace hl : lv_has ls 5 [(0, .long (sd_L a)), (2, .long (sd_L b)), (4, .int (nI h))] := hl
  refine lv_iload hx hb dX4_joined_0 (lv_at hl 2 rfl) ?_
  rcases (show h = 0 ∨ h = 1 ∨ h = 2 by omega) with rfl | rfl | rfl
  · refine lv_lookup (off := 26) (tgt := 28) hx hb dX4_joined_2 (by decide) (by decide +kernel) (by decide) ?_
    refine lv_lload_n hx hb dX4_joined_28 rfl (lv_at hl 0 rfl) ?_
    refine lv_lload_n hx hb dX4_joined_29 rfl (lv_at hl 1 rfl) ?_
    refine sd_rl (va_runS (As := [.long (sd_L a), .long (sd_L b)]) (rest := []) ⟨hx, hb, hml, hown, hts⟩ (k_X2_plus l a b) (sd_cwS hts wd_X2_plus wn_X2 wm_X4_105 wi_X2_plus nq_X2_plus rfl rfl ⟨Nat.le_of_ble_eq_true rfl, Nat.le_of_ble_eq_true rfl⟩) sd_preN rfl rfl hl.1 rfl (lv_room (Nat.le_of_ble_eq_true rfl)) dX4_joined_30 ⟨Nat.zero_le _, Nat.zero_le _⟩) (fun r1 hr1 => ?_)
    subst hr1
    exact W.lret hx hb hr (fun T9 hT9 hW => ⟨_, rfl, rfl, hT9⟩) (fun q h => nomatch h) dX4_joined_33
  · refine lv_lookup (off := 32) (tgt := 34) hx hb dX4_joined_2 (by decide) (by decide +kernel) (by decide) ?_
    refine lv_lload_n hx hb dX4_joined_34 rfl (lv_at hl 0 rfl) ?_
    refine lv_lload_n hx hb dX4_joined_35 rfl (lv_at hl 1 rfl) ?_
    refine sd_rl (va_runS (As := [.long (sd_L a), .long (sd_L b)]) (rest := []) ⟨hx, hb, hml, hown, hts⟩ (k_X2_minus l a b) (sd_cwS hts wd_X2_minus wn_X2 wm_X4_159 wi_X2_minus nq_X2_minus rfl rfl ⟨Nat.le_of_ble_eq_true rfl, Nat.le_of_ble_eq_true rfl⟩) sd_preN rfl rfl hl.1 rfl (lv_room (Nat.le_of_ble_eq_true rfl)) dX4_joined_36 ⟨Nat.zero_le _, Nat.zero_le _⟩) (fun r2 hr2 => ?_)
    subst hr2
    exact W.lret hx hb hr (fun T9 hT9 hW => ⟨_, rfl, rfl, hT9⟩) (fun q h => nomatch h) dX4_joined_39
  · refine lv_lookup (off := 38) (tgt := 40) hx hb dX4_joined_2 (by decide) (by decide +kernel) (by decide) ?_
    refine lv_lload_n hx hb dX4_joined_40 rfl (lv_at hl 0 rfl) ?_
    refine lv_lload_n hx hb dX4_joined_41 rfl (lv_at hl 1 rfl) ?_
    refine sd_rl (va_runS (As := [.long (sd_L a), .long (sd_L b)]) (rest := []) ⟨hx, hb, hml, hown, hts⟩ (k_X2_times l a b) (sd_cwS hts wd_X2_times wn_X2 wm_X4_101 wi_X2_times nq_X2_times rfl rfl ⟨Nat.le_of_ble_eq_true rfl, Nat.le_of_ble_eq_true rfl⟩) sd_preN rfl rfl hl.1 rfl (lv_room (Nat.le_of_ble_eq_true rfl)) dX4_joined_42 ⟨Nat.zero_le _, Nat.zero_le _⟩) (fun r3 hr3 => ?_)
    subst hr3
    exact W.lret hx hb hr (fun T9 hT9 hW => ⟨_, rfl, rfl, hT9⟩) (fun q h => nomatch h) dX4_joined_45

set_option maxHeartbeats 1000000 in
set_option maxRecDepth 100000 in
theorem k_X4_join (l : Launch) (D : va_G) {ad : Nat → Nat} {tc : Nat → ClassId} {dg pl : Nat → Nat} {vl : Nat → Nat → FP} {th : Nat → Nat → Bool} {cu mx : Nat → Nat → FP} {us : Nat → Bool} {so : Nat → FP} {rr : Nat → Int32} {fw : Nat → Bool} {ff : Int32} (sz : Nat) (x y z v : Int32) (hok : ∀ q, q < 8 → dg q ≤ 8 ∧ pl q ≤ 16) : Met l yX4_join (Cond.code yX4_join cX4_join 11 (some .boolean) :: bg) { frames := 2, cells := 0, slots := 0, locals := 59 } (sd_Wr D vwCl (ty5 tc) (dw ad tc dg pl vl th cu mx us so rr fw ff) sz [.ref (ad 0), .int x, .int y, .int z, .int v]) (va_Qi (S := DS) (fun r u => P_join x y z v (dg, pl, vl, th, cu, mx, us, so, rr, fw, ff) r u) (sd_B D vwCl (ty5 tc) (va_A (dw ad tc dg pl vl th cu mx us so rr fw ff) sz) (fun u => dwt ad tc u)) (va_A (dw ad tc dg pl vl th cu mx us so rr fw ff) sz)) 0 0 (va_A (dw ad tc dg pl vl th cu mx us so rr fw ff) sz) := by
  refine Met.ofW (cc := cX4_join) (maxL := 11) (ret := some .boolean) (by decide) rfl ?_
  intro p e s m args below meth c s₁ B hml hv
  obtain ⟨rfl, hsz, hP, hK, hD0⟩ := hv
  have hx := B.exec
  have hb := B.bytes
  have hr := B.returns
  have hts := atoms_spec (ws := Cond.code yX4_join cX4_join 11 (some .boolean) :: bg) B.pre
  have hown : s.vm.findClass RX4 = some m.cls := findClass_of_methodNamed B.named
  have hlocks := B.notSynchronized
  subst hsz
  have hD := hD0.self (sz := s.heap.size)
  generalize hAe : va_A (dw ad tc dg pl vl th cu mx us so rr fw ff) s.heap.size = A at hD ⊢
  have hA : ∀ q : Nat, s.heap.size ≤ q → A q := fun q h => by rw [← hAe]; exact Or.inr h
  have hS : va_S A s.heap s.heap [] := va_S.rf
  have hl := lv_entry ([.ref (ad 0), .int x, .int y, .int z, .int v]) (n := 11) (Nat.le_of_ble_eq_true rfl)
  rw [lg_entry_eq]
  generalize (lg_sl ([.ref (ad 0), .int x, .int y, .int z, .int v]) ++ List.replicate (11 - (lg_sl ([.ref (ad 0), .int x, .int y, .int z, .int v])).length) Slot.unset).toArray = ls at hl ⊢
  replace hl : lv_has ls 11 [(0, .ref (ad 0)), (1, .int x), (2, .int y), (3, .int z), (4, .int v)] := hl
  refine lv_aload_n hx hb dX4_join_0 rfl (lv_at hl 0 rfl) ?_
  refine lv_iload_n hx hb dX4_join_1 rfl (lv_at hl 1 rfl) ?_
  refine va_csq (va_runV (As := [.int x]) (rest := []) ⟨hx, hb, hml, hown, hts⟩ (k_X4_splitOrNull l D x) (sd_cwV hts wd_X4_splitOrNull wn_X4 wm_X4_41 wi_X4_splitOrNull ws_X4_splitOrNull nq_X4_splitOrNull rfl rfl ⟨Nat.le_of_ble_eq_true rfl, Nat.le_of_ble_eq_true rfl⟩) (sd_preVR hP hK (ci := 4) (q0 := 0) rfl rfl dw_desk) rfl rfl hl.1 rfl (lv_room (Nat.le_of_ble_eq_true rfl)) dX4_join_2 ⟨Nat.zero_le _, Nat.zero_le _⟩).run (fun r1 hr1 => ?_)
  subst hr1
  rcases hixq : sd_ix x with _ | q
  · refine sd_top (v2 := .null) rfl ?_
    refine lv_astoreN (lv' := [(5, .null), (0, .ref (ad 0)), (1, .int x), (2, .int y), (3, .int z), (4, .int v)]) hx hb dX4_join_5 hl (by decide) rfl (fun ls hl => ?_)
    refine lv_aload_n hx hb dX4_join_7 rfl (lv_at hl 1 rfl) ?_
    refine lv_iload_n hx hb dX4_join_8 rfl (lv_at hl 3 rfl) ?_
    refine va_csq (va_runV (As := [.int y]) (rest := []) ⟨hx, hb, hml, hown, hts⟩ (k_X4_splitOrNull l D y) (sd_cwV hts wd_X4_splitOrNull wn_X4 wm_X4_41 wi_X4_splitOrNull ws_X4_splitOrNull nq_X4_splitOrNull rfl rfl ⟨Nat.le_of_ble_eq_true rfl, Nat.le_of_ble_eq_true rfl⟩) (sd_preVR hP hK (ci := 4) (q0 := 0) rfl rfl dw_desk) rfl rfl hl.1 rfl (lv_room (Nat.le_of_ble_eq_true rfl)) dX4_join_9 ⟨Nat.zero_le _, Nat.zero_le _⟩).run (fun r2 hr2 => ?_)
    subst hr2
    rcases hixqa : sd_ix y with _ | qa
    · refine sd_top (v2 := .null) rfl ?_
      refine lv_astoreN (lv' := [(6, .null), (5, .null), (0, .ref (ad 0)), (1, .int x), (2, .int y), (3, .int z), (4, .int v)]) hx hb dX4_join_12 hl (by decide) rfl (fun ls hl => ?_)
      refine lv_aload_n hx hb dX4_join_14 rfl (lv_at hl 2 rfl) ?_
      refine lv_iload_n hx hb dX4_join_15 rfl (lv_at hl 5 rfl) ?_
      refine va_csq (va_runV (As := [.int z]) (rest := []) ⟨hx, hb, hml, hown, hts⟩ (k_X4_splitOrNull l D z) (sd_cwV hts wd_X4_splitOrNull wn_X4 wm_X4_41 wi_X4_splitOrNull ws_X4_splitOrNull nq_X4_splitOrNull rfl rfl ⟨Nat.le_of_ble_eq_true rfl, Nat.le_of_ble_eq_true rfl⟩) (sd_preVR hP hK (ci := 4) (q0 := 0) rfl rfl dw_desk) rfl rfl hl.1 rfl (lv_room (Nat.le_of_ble_eq_true rfl)) dX4_join_16 ⟨Nat.zero_le _, Nat.zero_le _⟩).run (fun r3 hr3 => ?_)
      subst hr3
      rcases hixqb : sd_ix z with _ | qb
      · refine sd_top (v2 := .null) rfl ?_
        refine lv_astoreN (lv' := [(7, .null), (6, .null), (5, .null), (0, .ref (ad 0)), (1, .int x), (2, .int y), (3, .int z), (4, .int v)]) hx hb dX4_join_19 hl (by decide) rfl (fun ls hl => ?_)
        refine lv_aloadN hx hb dX4_join_21 (lv_at hl 2 rfl) ?_
        refine lv_ifnullN (tgt := 47) hx hb dX4_join_23 (by decide) ?_
        refine lv_iconst (v := nI 0) hx hb dX4_join_47 (by decide) ?_
        exact W.zret hx hb hr rfl (fun T9 hT9 hW => ⟨⟨_, (dg, pl, vl, th, cu, mx, us, so, rr, fw, ff), rfl, Or.inr ⟨fun ⟨q2, a2, b2, h2, hv⟩ => sd_ix_none hixq hv.1 hv.2.1, rfl, ⟨rfl, rfl, rfl, rfl, rfl, rfl, rfl⟩⟩, by rw [hT9]; exact hP, va_K.moved hW.alike hK, hD⟩, hS.F hT9⟩) hS.2.2 dX4_join_48
      · obtain ⟨hqb, hxqb⟩ := sd_ix_some hixqb
        refine sd_top (v2 := .ref (ad (14 + 3 * qb))) rfl ?_
        refine lv_astore (lv' := [(7, .ref (ad (14 + 3 * qb))), (6, .null), (5, .null), (0, .ref (ad 0)), (1, .int x), (2, .int y), (3, .int z), (4, .int v)]) hx hb dX4_join_19 hl (by decide) rfl (fun ls hl => ?_)
        refine lv_aloadN hx hb dX4_join_21 (lv_at hl 2 rfl) ?_
        refine lv_ifnullN (tgt := 47) hx hb dX4_join_23 (by decide) ?_
        refine lv_iconst (v := nI 0) hx hb dX4_join_47 (by decide) ?_
        exact W.zret hx hb hr rfl (fun T9 hT9 hW => ⟨⟨_, (dg, pl, vl, th, cu, mx, us, so, rr, fw, ff), rfl, Or.inr ⟨fun ⟨q2, a2, b2, h2, hv⟩ => sd_ix_none hixq hv.1 hv.2.1, rfl, ⟨rfl, rfl, rfl, rfl, rfl, rfl, rfl⟩⟩, by rw [hT9]; exact hP, va_K.moved hW.alike hK, hD⟩, hS.F hT9⟩) hS.2.2 dX4_join_48
    · obtain ⟨hqa, hxqa⟩ := sd_ix_some hixqa
      refine sd_top (v2 := .ref (ad (14 + 3 * qa))) rfl ?_
      refine lv_astore (lv' := [(6, .ref (ad (14 + 3 * qa))), (5, .null), (0, .ref (ad 0)), (1, .int x), (2, .int y), (3, .int z), (4, .int v)]) hx hb dX4_join_12 hl (by decide) rfl (fun ls hl => ?_)
      refine lv_aload_n hx hb dX4_join_14 rfl (lv_at hl 2 rfl) ?_
      refine lv_iload_n hx hb dX4_join_15 rfl (lv_at hl 5 rfl) ?_
      refine va_csq (va_runV (As := [.int z]) (rest := []) ⟨hx, hb, hml, hown, hts⟩ (k_X4_splitOrNull l D z) (sd_cwV hts wd_X4_splitOrNull wn_X4 wm_X4_41 wi_X4_splitOrNull ws_X4_splitOrNull nq_X4_splitOrNull rfl rfl ⟨Nat.le_of_ble_eq_true rfl, Nat.le_of_ble_eq_true rfl⟩) (sd_preVR hP hK (ci := 4) (q0 := 0) rfl rfl dw_desk) rfl rfl hl.1 rfl (lv_room (Nat.le_of_ble_eq_true rfl)) dX4_join_16 ⟨Nat.zero_le _, Nat.zero_le _⟩).run (fun r6 hr6 => ?_)
      subst hr6
      rcases hixqb : sd_ix z with _ | qb
      · refine sd_top (v2 := .null) rfl ?_
        refine lv_astoreN (lv' := [(7, .null), (6, .ref (ad (14 + 3 * qa))), (5, .null), (0, .ref (ad 0)), (1, .int x), (2, .int y), (3, .int z), (4, .int v)]) hx hb dX4_join_19 hl (by decide) rfl (fun ls hl => ?_)
        refine lv_aloadN hx hb dX4_join_21 (lv_at hl 2 rfl) ?_
        refine lv_ifnullN (tgt := 47) hx hb dX4_join_23 (by decide) ?_
        refine lv_iconst (v := nI 0) hx hb dX4_join_47 (by decide) ?_
        exact W.zret hx hb hr rfl (fun T9 hT9 hW => ⟨⟨_, (dg, pl, vl, th, cu, mx, us, so, rr, fw, ff), rfl, Or.inr ⟨fun ⟨q2, a2, b2, h2, hv⟩ => sd_ix_none hixq hv.1 hv.2.1, rfl, ⟨rfl, rfl, rfl, rfl, rfl, rfl, rfl⟩⟩, by rw [hT9]; exact hP, va_K.moved hW.alike hK, hD⟩, hS.F hT9⟩) hS.2.2 dX4_join_48
      · obtain ⟨hqb, hxqb⟩ := sd_ix_some hixqb
        refine sd_top (v2 := .ref (ad (14 + 3 * qb))) rfl ?_
        refine lv_astore (lv' := [(7, .ref (ad (14 + 3 * qb))), (6, .ref (ad (14 + 3 * qa))), (5, .null), (0, .ref (ad 0)), (1, .int x), (2, .int y), (3, .int z), (4, .int v)]) hx hb dX4_join_19 hl (by decide) rfl (fun ls hl => ?_)
        refine lv_aloadN hx hb dX4_join_21 (lv_at hl 2 rfl) ?_
        refine lv_ifnullN (tgt := 47) hx hb dX4_join_23 (by decide) ?_
        refine lv_iconst (v := nI 0) hx hb dX4_join_47 (by decide) ?_
        exact W.zret hx hb hr rfl (fun T9 hT9 hW => ⟨⟨_, (dg, pl, vl, th, cu, mx, us, so, rr, fw, ff), rfl, Or.inr ⟨fun ⟨q2, a2, b2, h2, hv⟩ => sd_ix_none hixq hv.1 hv.2.1, rfl, ⟨rfl, rfl, rfl, rfl, rfl, rfl, rfl⟩⟩, by rw [hT9]; exact hP, va_K.moved hW.alike hK, hD⟩, hS.F hT9⟩) hS.2.2 dX4_join_48
  · obtain ⟨hq, hxq⟩ := sd_ix_some hixq
    refine sd_top (v2 := .ref (ad (14 + 3 * q))) rfl ?_
    refine lv_astore (lv' := [(5, .ref (ad (14 + 3 * q))), (0, .ref (ad 0)), (1, .int x), (2, .int y), (3, .int z), (4, .int v)]) hx hb dX4_join_5 hl (by decide) rfl (fun ls hl => ?_)
    refine lv_aload_n hx hb dX4_join_7 rfl (lv_at hl 1 rfl) ?_
    refine lv_iload_n hx hb dX4_join_8 rfl (lv_at hl 3 rfl) ?_
    refine va_csq (va_runV (As := [.int y]) (rest := []) ⟨hx, hb, hml, hown, hts⟩ (k_X4_splitOrNull l D y) (sd_cwV hts wd_X4_splitOrNull wn_X4 wm_X4_41 wi_X4_splitOrNull ws_X4_splitOrNull nq_X4_splitOrNull rfl rfl ⟨Nat.le_of_ble_eq_true rfl, Nat.le_of_ble_eq_true rfl⟩) (sd_preVR hP hK (ci := 4) (q0 := 0) rfl rfl dw_desk) rfl rfl hl.1 rfl (lv_room (Nat.le_of_ble_eq_true rfl)) dX4_join_9 ⟨Nat.zero_le _, Nat.zero_le _⟩).run (fun r9 hr9 => ?_)
    subst hr9
    rcases hixqa : sd_ix y with _ | qa
    · refine sd_top (v2 := .null) rfl ?_
      refine lv_astoreN (lv' := [(6, .null), (5, .ref (ad (14 + 3 * q))), (0, .ref (ad 0)), (1, .int x), (2, .int y), (3, .int z), (4, .int v)]) hx hb dX4_join_12 hl (by decide) rfl (fun ls hl => ?_)
      refine lv_aload_n hx hb dX4_join_14 rfl (lv_at hl 2 rfl) ?_
      refine lv_iload_n hx hb dX4_join_15 rfl (lv_at hl 5 rfl) ?_
      refine va_csq (va_runV (As := [.int z]) (rest := []) ⟨hx, hb, hml, hown, hts⟩ (k_X4_splitOrNull l D z) (sd_cwV hts wd_X4_splitOrNull wn_X4 wm_X4_41 wi_X4_splitOrNull ws_X4_splitOrNull nq_X4_splitOrNull rfl rfl ⟨Nat.le_of_ble_eq_true rfl, Nat.le_of_ble_eq_true rfl⟩) (sd_preVR hP hK (ci := 4) (q0 := 0) rfl rfl dw_desk) rfl rfl hl.1 rfl (lv_room (Nat.le_of_ble_eq_true rfl)) dX4_join_16 ⟨Nat.zero_le _, Nat.zero_le _⟩).run (fun r10 hr10 => ?_)
      subst hr10
      rcases hixqb : sd_ix z with _ | qb
      · refine sd_top (v2 := .null) rfl ?_
        refine lv_astoreN (lv' := [(7, .null), (6, .null), (5, .ref (ad (14 + 3 * q))), (0, .ref (ad 0)), (1, .int x), (2, .int y), (3, .int z), (4, .int v)]) hx hb dX4_join_19 hl (by decide) rfl (fun ls hl => ?_)
        refine lv_aload hx hb dX4_join_21 (lv_at hl 2 rfl) ?_
        refine lv_ifnull hx hb dX4_join_23 ?_
        refine lv_aloadN hx hb dX4_join_26 (lv_at hl 1 rfl) ?_
        refine lv_ifnullN (tgt := 47) hx hb dX4_join_28 (by decide) ?_
        refine lv_iconst (v := nI 0) hx hb dX4_join_47 (by decide) ?_
        exact W.zret hx hb hr rfl (fun T9 hT9 hW => ⟨⟨_, (dg, pl, vl, th, cu, mx, us, so, rr, fw, ff), rfl, Or.inr ⟨fun ⟨q2, a2, b2, h2, hv⟩ => sd_ix_none hixqa hv.2.2.1 hv.2.2.2.1, rfl, ⟨rfl, rfl, rfl, rfl, rfl, rfl, rfl⟩⟩, by rw [hT9]; exact hP, va_K.moved hW.alike hK, hD⟩, hS.F hT9⟩) hS.2.2 dX4_join_48
      · obtain ⟨hqb, hxqb⟩ := sd_ix_some hixqb
        refine sd_top (v2 := .ref (ad (14 + 3 * qb))) rfl ?_
        refine lv_astore (lv' := [(7, .ref (ad (14 + 3 * qb))), (6, .null), (5, .ref (ad (14 + 3 * q))), (0, .ref (ad 0)), (1, .int x), (2, .int y), (3, .int z), (4, .int v)]) hx hb dX4_join_19 hl (by decide) rfl (fun ls hl => ?_)
        refine lv_aload hx hb dX4_join_21 (lv_at hl 2 rfl) ?_
        refine lv_ifnull hx hb dX4_join_23 ?_
        refine lv_aloadN hx hb dX4_join_26 (lv_at hl 1 rfl) ?_
        refine lv_ifnullN (tgt := 47) hx hb dX4_join_28 (by decide) ?_
        refine lv_iconst (v := nI 0) hx hb dX4_join_47 (by decide) ?_
        exact W.zret hx hb hr rfl (fun T9 hT9 hW => ⟨⟨_, (dg, pl, vl, th, cu, mx, us, so, rr, fw, ff), rfl, Or.inr ⟨fun ⟨q2, a2, b2, h2, hv⟩ => sd_ix_none hixqa hv.2.2.1 hv.2.2.2.1, rfl, ⟨rfl, rfl, rfl, rfl, rfl, rfl, rfl⟩⟩, by rw [hT9]; exact hP, va_K.moved hW.alike hK, hD⟩, hS.F hT9⟩) hS.2.2 dX4_join_48
    · obtain ⟨hqa, hxqa⟩ := sd_ix_some hixqa
      refine sd_top (v2 := .ref (ad (14 + 3 * qa))) rfl ?_
      refine lv_astore (lv' := [(6, .ref (ad (14 + 3 * qa))), (5, .ref (ad (14 + 3 * q))), (0, .ref (ad 0)), (1, .int x), (2, .int y), (3, .int z), (4, .int v)]) hx hb dX4_join_12 hl (by decide) rfl (fun ls hl => ?_)
      refine lv_aload_n hx hb dX4_join_14 rfl (lv_at hl 2 rfl) ?_
      refine lv_iload_n hx hb dX4_join_15 rfl (lv_at hl 5 rfl) ?_
      refine va_csq (va_runV (As := [.int z]) (rest := []) ⟨hx, hb, hml, hown, hts⟩ (k_X4_splitOrNull l D z) (sd_cwV hts wd_X4_splitOrNull wn_X4 wm_X4_41 wi_X4_splitOrNull ws_X4_splitOrNull nq_X4_splitOrNull rfl rfl ⟨Nat.le_of_ble_eq_true rfl, Nat.le_of_ble_eq_true rfl⟩) (sd_preVR hP hK (ci := 4) (q0 := 0) rfl rfl dw_desk) rfl rfl hl.1 rfl (lv_room (Nat.le_of_ble_eq_true rfl)) dX4_join_16 ⟨Nat.zero_le _, Nat.zero_le _⟩).run (fun r15 hr15 => ?_)
      subst hr15
      rcases hixqb : sd_ix z with _ | qb
      · refine sd_top (v2 := .null) rfl ?_
        refine lv_astoreN (lv' := [(7, .null), (6, .ref (ad (14 + 3 * qa))), (5, .ref (ad (14 + 3 * q))), (0, .ref (ad 0)), (1, .int x), (2, .int y), (3, .int z), (4, .int v)]) hx hb dX4_join_19 hl (by decide) rfl (fun ls hl => ?_)
        refine lv_aload hx hb dX4_join_21 (lv_at hl 2 rfl) ?_
        refine lv_ifnull hx hb dX4_join_23 ?_
        refine lv_aload hx hb dX4_join_26 (lv_at hl 1 rfl) ?_
        refine lv_ifnull hx hb dX4_join_28 ?_
        refine lv_aloadN hx hb dX4_join_31 (lv_at hl 0 rfl) ?_
        refine lv_ifnullN (tgt := 47) hx hb dX4_join_33 (by decide) ?_
        refine lv_iconst (v := nI 0) hx hb dX4_join_47 (by decide) ?_
        exact W.zret hx hb hr rfl (fun T9 hT9 hW => ⟨⟨_, (dg, pl, vl, th, cu, mx, us, so, rr, fw, ff), rfl, Or.inr ⟨fun ⟨q2, a2, b2, h2, hv⟩ => sd_ix_none hixqb hv.2.2.2.2.1 hv.2.2.2.2.2.1, rfl, ⟨rfl, rfl, rfl, rfl, rfl, rfl, rfl⟩⟩, by rw [hT9]; exact hP, va_K.moved hW.alike hK, hD⟩, hS.F hT9⟩) hS.2.2 dX4_join_48
      · obtain ⟨hqb, hxqb⟩ := sd_ix_some hixqb
        refine sd_top (v2 := .ref (ad (14 + 3 * qb))) rfl ?_
        refine lv_astore (lv' := [(7, .ref (ad (14 + 3 * qb))), (6, .ref (ad (14 + 3 * qa))), (5, .ref (ad (14 + 3 * q))), (0, .ref (ad 0)), (1, .int x), (2, .int y), (3, .int z), (4, .int v)]) hx hb dX4_join_19 hl (by decide) rfl (fun ls hl => ?_)
        have hokb := hok qb hqb
        have hoka := hok qa hqa
        refine lv_aload hx hb dX4_join_21 (lv_at hl 2 rfl) ?_
        refine lv_ifnull hx hb dX4_join_23 ?_
        refine lv_aload hx hb dX4_join_26 (lv_at hl 1 rfl) ?_
        refine lv_ifnull hx hb dX4_join_28 ?_
        refine lv_aload hx hb dX4_join_31 (lv_at hl 0 rfl) ?_
        refine lv_ifnull hx hb dX4_join_33 ?_
        refine lv_iload hx hb dX4_join_36 (lv_at hl 7 rfl) ?_
        refine lv_if_lt (tgt := 47) hx hb dX4_join_38 (by decide) (fun c1 => ?_) (fun c1 => ?_)
        · refine lv_iconst (v := nI 0) hx hb dX4_join_47 (by decide) ?_
          exact W.zret hx hb hr rfl (fun T9 hT9 hW => ⟨⟨_, (dg, pl, vl, th, cu, mx, us, so, rr, fw, ff), rfl, Or.inr ⟨fun ⟨q2, a2, b2, h2, hv⟩ => absurd c1 (by obtain ⟨g1, g2, g3, g4, g5, g6, g7, g8, g9⟩ := hv; rw [g8]; exact nI_pos (by omega)), rfl, ⟨rfl, rfl, rfl, rfl, rfl, rfl, rfl⟩⟩, by rw [hT9]; exact hP, va_K.moved hW.alike hK, hD⟩, hS.F hT9⟩) hS.2.2 dX4_join_48
        · obtain ⟨h, hh9, rfl⟩ := nI_of c1
          refine lv_iload hx hb dX4_join_41 (lv_at hl 7 rfl) ?_
          refine lv_iconst (v := nI 2) hx hb dX4_join_43 (by decide) ?_
          refine sd_icmp_le (tgt := 49) hx hb (by omega) (by omega) dX4_join_44 (by decide) (fun ch => ?_) (fun ch => ?_)
          · refine lv_iload hx hb dX4_join_49 (lv_at hl 7 rfl) ?_
            refine lv_iconst (v := nI 2) hx hb dX4_join_51 (by decide) ?_
            refine sd_icmp_ne (tgt := 69) hx hb (by omega) (by omega) dX4_join_52 (by decide) (fun c4 => ?_) (fun c4 => ?_)
            · refine lv_aload hx hb dX4_join_69 (lv_at hl 1 rfl) ?_
              refine va_get (D := D) (ci := 3) (v := .int (nI (dg qa))) (C := RX3) (T := TX3) (N := 4) hx hb hts (fun w h => mm (inX3 w h)) hown hK hP (14 + 3 * qa) (dw_sp hqa) rfl 2 (by decide) (hts _ (mm wf_X4_78)) (fun _ h9 => h9) rfl dX4_join_71 ?_
              refine lv_aload hx hb dX4_join_74 (lv_at hl 0 rfl) ?_
              refine va_get (D := D) (ci := 3) (v := .int (nI (dg qb))) (C := RX3) (T := TX3) (N := 4) hx hb hts (fun w h => mm (inX3 w h)) hown hK hP (14 + 3 * qb) (dw_sp hqb) rfl 2 (by decide) (hts _ (mm wf_X4_78)) (fun _ h9 => h9) rfl dX4_join_76 ?_
              refine va_mmax hx hb (by rw [hml]; exact hl.1.symm) hown (hts _ (mm wm_X4_81)) (hts _ (mm wi_J9_max)) (hts _ (mm wn_J9)) (hts _ (mm wd_J9_max)) (Nat.le_of_ble_eq_true rfl) (Nat.le_of_ble_eq_true rfl) (Nat.zero_le _) (Nat.zero_le _) dX4_join_79 ?_
              refine sd_toi (y := nI (max (dg qa) (dg qb))) (sd_max (by omega) (by omega)) ?_
              obtain ⟨dd, hdd⟩ : ∃ dd, dd = sd_jd (dg, pl, vl, th, cu, mx, us, so, rr, fw, ff) qa qb h := ⟨_, rfl⟩
              have e9 : max (dg qa) (dg qb) = dd := by rw [hdd, sd_jd, if_neg c4]
              have e8 : max (dg qa) (dg qb) ≤ 8 := by omega
              rw [e9] at e8 ⊢
              refine lv_istore (lv' := [(8, .int (nI dd)), (7, .ref (ad (14 + 3 * qb))), (6, .ref (ad (14 + 3 * qa))), (5, .ref (ad (14 + 3 * q))), (0, .ref (ad 0)), (1, .int x), (2, .int y), (3, .int z), (4, .int (nI h))]) hx hb dX4_join_82 hl (by decide) rfl (fun ls hl => ?_)
              refine lv_iload hx hb dX4_join_84 (lv_at hl 0 rfl) ?_
              refine lv_bipush (v := nI 8) hx hb dX4_join_86 (by decide) ?_
              refine sd_icmp_le (tgt := 93) hx hb (by omega) (by omega) dX4_join_88 (by decide) (fun c5 => ?_) (fun c5 => ?_)
              · refine lv_aload hx hb dX4_join_93 (lv_at hl 2 rfl) ?_
                refine va_get (D := D) (ci := 3) (v := .int (nI (pl qa))) (C := RX3) (T := TX3) (N := 4) hx hb hts (fun w h => mm (inX3 w h)) hown hK hP (14 + 3 * qa) (dw_sp hqa) rfl 3 (by decide) (hts _ (mm wf_X4_87)) (fun _ h9 => h9) rfl dX4_join_95 ?_
                refine lv_aload hx hb dX4_join_98 (lv_at hl 1 rfl) ?_
                refine va_get (D := D) (ci := 3) (v := .int (nI (pl qb))) (C := RX3) (T := TX3) (N := 4) hx hb hts (fun w h => mm (inX3 w h)) hown hK hP (14 + 3 * qb) (dw_sp hqb) rfl 3 (by decide) (hts _ (mm wf_X4_87)) (fun _ h9 => h9) rfl dX4_join_100 ?_
                refine va_mmin hx hb (by rw [hml]; exact hl.1.symm) hown (hts _ (mm wm_X4_90)) (hts _ (mm wi_J9_min)) (hts _ (mm wn_J9)) (hts _ (mm wd_J9_min)) (Nat.le_of_ble_eq_true rfl) (Nat.le_of_ble_eq_true rfl) (Nat.zero_le _) (Nat.zero_le _) dX4_join_103 ?_
                refine sd_toi (y := nI (min (pl qa) (pl qb))) (sd_min (by omega) (by omega)) ?_
                obtain ⟨nn, hnn⟩ : ∃ nn, nn = min (pl qa) (pl qb) := ⟨_, rfl⟩
                rw [← hnn]
                refine lv_istore (lv' := [(9, .int (nI nn)), (8, .int (nI dd)), (7, .ref (ad (14 + 3 * qb))), (6, .ref (ad (14 + 3 * qa))), (5, .ref (ad (14 + 3 * q))), (0, .ref (ad 0)), (1, .int x), (2, .int y), (3, .int z), (4, .int (nI h))]) hx hb dX4_join_106 hl (by decide) rfl (fun ls hl => ?_)
                refine lv_iconst (v := nI 1) hx hb dX4_join_108 (by decide) ?_
                refine lv_istore (lv' := [(10, .int (nI 1)), (9, .int (nI nn)), (8, .int (nI dd)), (7, .ref (ad (14 + 3 * qb))), (6, .ref (ad (14 + 3 * qa))), (5, .ref (ad (14 + 3 * q))), (0, .ref (ad 0)), (1, .int x), (2, .int y), (3, .int z), (4, .int (nI h))]) hx hb dX4_join_109 hl (by decide) rfl (fun ls hl => ?_)
                obtain ⟨H, hH9⟩ : ∃ H : Heap, H = s.heap := ⟨_, rfl⟩
                obtain ⟨locs, hl9⟩ : ∃ x : List Loc, x = [] := ⟨_, rfl⟩
                rw [← hH9, ← hl9]
                have hS : va_S A s.heap H locs := by rw [hH9, hl9]; exact va_S.rf
                have hP : va_P D vwCl (dw ad tc dg pl vl th cu mx us so rr fw ff) H := by rw [hH9]; exact hP
                clear hH9 hl9
                obtain ⟨k, v1, t1, hk, hI, hP9, hD9, hl9⟩ : ∃ (k : Nat) (v1 : Nat → Nat → FP) (t1 : Nat → Nat → Bool), (1 ≤ k ∧ k ≤ nn + 1) ∧ ((∀ i j, i ≠ q → v1 i j = vl i j ∧ t1 i j = th i j) ∧ (∀ j, k ≤ j → v1 q j = vl q j ∧ t1 q j = th q j) ∧ ∀ j, 1 ≤ j → j < k → t1 q j = (th qa j && th qb j) ∧ (th qa j = true → th qb j = true → v1 q j = sd_jn h (vl qa j) (vl qb j))) ∧ va_P D vwCl (dw ad tc dg pl v1 t1 cu mx us so rr fw ff) H ∧ va_D A (dw ad tc dg pl v1 t1 cu mx us so rr fw ff) ∧ lv_has ls 11 [(10, .int (nI k)), (9, .int (nI nn)), (8, .int (nI dd)), (4, .int (nI h)), (5, .ref (ad (14 + 3 * q))), (6, .ref (ad (14 + 3 * qa))), (7, .ref (ad (14 + 3 * qb)))] := ⟨1, vl, th, ⟨Nat.le_refl 1, by omega⟩, ⟨fun _ _ _ => ⟨rfl, rfl⟩, fun _ _ => ⟨rfl, rfl⟩, fun j h1 h2 => absurd h2 (by omega)⟩, hP, hD, (lv_sub hl [0, 1, 2, 10, 5, 4, 3] rfl)⟩
                replace hl := hl9
                clear hl9
                replace hP := hP9
                replace hD := hD9
                clear hP9 hD9
                obtain ⟨k9, hk9⟩ : ∃ k9 : Nat, nn + 1 < k + k9 := ⟨nn + 1, by omega⟩
                induction k9 generalizing k v1 t1 ls H locs with
                | zero => exact absurd hk9 (by omega)
                | succ k9 ih =>
                  refine lv_iload hx hb dX4_join_111 (lv_at hl 0 rfl) ?_
                  refine lv_iload hx hb dX4_join_113 (lv_at hl 1 rfl) ?_
                  refine sd_icmp_gt (tgt := 182) hx hb (by omega) (by omega) dX4_join_115 (by decide) (fun c6 => ?_) (fun c6 => ?_)
                  · refine lv_aload hx hb dX4_join_182 (lv_at hl 4 rfl) ?_
                    refine lv_iload hx hb dX4_join_184 (lv_at hl 2 rfl) ?_
                    refine lv_iload hx hb dX4_join_186 (lv_at hl 1 rfl) ?_
                    refine sd_wv (va_runV (As := [.int (nI dd), .int (nI nn)]) (rest := []) ⟨hx, hb, hml, hown, hts⟩ (k_X3_shape l D _ q dd nn hq) (sd_cwV hts wd_X3_shape wn_X3 wm_X4_55 wi_X3_shape ws_X3_shape nq_X3_shape rfl rfl ⟨Nat.le_of_ble_eq_true rfl, Nat.le_of_ble_eq_true rfl⟩) (sd_preVW hP hK hD (ci := 3) (q0 := (14 + 3 * q)) rfl rfl (dw_sp hq)) rfl rfl hl.1 rfl (lv_room (Nat.le_of_ble_eq_true rfl)) dX4_join_188 ⟨Nat.zero_le _, Nat.zero_le _⟩) hD hS hA (fun u23 H locs hu23 hP hD hS => ?_)
                    replace hP : va_P D vwCl (dw ad tc (sd_up dg q dd) (sd_up pl q nn) v1 t1 cu mx us so rr fw ff) H := hP
                    replace hD : va_D A (dw ad tc (sd_up dg q dd) (sd_up pl q nn) v1 t1 cu mx us so rr fw ff) := hD
                    refine lv_iconst (v := nI 1) hx hb dX4_join_191 (by decide) ?_
                    exact W.zret hx hb hr rfl (fun T9 hT9 hW => ⟨⟨_, (sd_up dg q dd, sd_up pl q nn, v1, t1, cu, mx, us, so, rr, fw, ff), rfl, Or.inl ⟨q, qa, qb, h, ⟨hq, hxq, hqa, hxqa, hqb, hxqb, ch, rfl, hdd ▸ c5⟩, rfl, by rw [← hdd], by rw [hnn], ⟨rfl, rfl, rfl⟩, hI.1, fun j h1 h2 => hI.2.2 j h1 (by have h2 : j ≤ min (pl qa) (pl qb) := h2; omega)⟩, by rw [hT9]; exact hP, va_K.moved hW.alike hK, hD⟩, hS.F hT9⟩) hS.2.2 dX4_join_192
                  · have hA9 : ∀ i, v1 i k = vl i k ∧ t1 i k = th i k := fun i => (Classical.em (i = q)).elim (fun z => by rw [z]; exact hI.2.1 k (Nat.le_refl k)) (fun z => hI.1 i k z)
                    have hka : k ≤ pl qa ∧ k ≤ pl qb := by omega
                    refine lv_aload hx hb dX4_join_118 (lv_at hl 5 rfl) ?_
                    refine lv_iload hx hb dX4_join_120 (lv_at hl 0 rfl) ?_
                    refine sd_ri (va_runV (As := [.int (nI k)]) (rest := []) ⟨hx, hb, hml, hown, hts⟩ (k_X3_hasShare l D qa (nI k) hqa (hok qa hqa).2) (sd_cwV hts wd_X3_hasShare wn_X3 wm_X4_71 wi_X3_hasShare ws_X3_hasShare nq_X3_hasShare rfl rfl ⟨Nat.le_of_ble_eq_true rfl, Nat.le_of_ble_eq_true rfl⟩) (sd_preVR hP hK (ci := 3) (q0 := (14 + 3 * qa)) rfl rfl (dw_sp hqa)) rfl rfl hl.1 rfl (lv_room (Nat.le_of_ble_eq_true rfl)) dX4_join_122 ⟨Nat.zero_le _, Nat.zero_le _⟩) (fun r24 hr24 => ?_)
                    subst hr24
                    refine sd_if_eqB (tgt := 169) hx hb dX4_join_125 (by decide) (fun c7 => ?_) (fun c7 => ?_)
                    · rw [sd_hs_nI _ (by omega) hk.1 hka.1, (hA9 qa).2] at c7
                      refine lv_aload hx hb dX4_join_169 (lv_at hl 4 rfl) ?_
                      refine lv_iload hx hb dX4_join_171 (lv_at hl 0 rfl) ?_
                      refine sd_wv (va_runV (As := [.int (nI k)]) (rest := []) ⟨hx, hb, hml, hown, hts⟩ (k_X3_drop l D _ q k hq (by omega)) (sd_cwV hts wd_X3_drop wn_X3 wm_X4_74 wi_X3_drop ws_X3_drop nq_X3_drop rfl rfl ⟨Nat.le_of_ble_eq_true rfl, Nat.le_of_ble_eq_true rfl⟩) (sd_preVW hP hK hD (ci := 3) (q0 := (14 + 3 * q)) rfl rfl (dw_sp hq)) rfl rfl hl.1 rfl (lv_room (Nat.le_of_ble_eq_true rfl)) dX4_join_173 ⟨Nat.zero_le _, Nat.zero_le _⟩) hD hS hA (fun u26 H locs hu26 hP hD hS => ?_)
                      replace hP : va_P D vwCl (dw ad tc dg pl v1 (sd_up t1 q (sd_up (t1 q) k false)) cu mx us so rr fw ff) H := hP
                      replace hD : va_D A (dw ad tc dg pl v1 (sd_up t1 q (sd_up (t1 q) k false)) cu mx us so rr fw ff) := hD
                      refine lv_iinc (v := nI (k + 1)) (lv' := [(10, .int (nI (k + 1))), (9, .int (nI nn)), (8, .int (nI dd)), (4, .int (nI h)), (5, .ref (ad (14 + 3 * q))), (6, .ref (ad (14 + 3 * qa))), (7, .ref (ad (14 + 3 * qb)))]) hx hb dX4_join_176 hl (k := 0) rfl (nI_1 _) (by decide) rfl (fun ls hl => ?_)
                      refine lv_goto (tgt := 111) hx hb dX4_join_179 (by decide) ?_
                      exact ih (k := k + 1) (v1 := v1) (t1 := sd_up t1 q (sd_up (t1 q) k false)) (hk := by omega) (hI := ⟨fun i j hi => ⟨(hI.1 i j hi).1, by rw [sd_up_n _ _ hi]; exact (hI.1 i j hi).2⟩, fun j h1 => ⟨(hI.2.1 j (by omega)).1, by rw [sd_up2, if_neg (by omega)]; exact (hI.2.1 j (by omega)).2⟩, fun j h1 h2 => (Classical.em (j = k)).elim (fun ej => ⟨by rw [sd_up2, if_pos ⟨rfl, ej⟩, ej]; rw [c7]; rfl, fun g1 g2 => by rw [ej, c7] at g1; cases g1⟩) (fun ej => ⟨by rw [sd_up2, if_neg (fun z => ej z.2)]; exact (hI.2.2 j h1 (by omega)).1, fun g1 g2 => (hI.2.2 j h1 (by omega)).2 g1 g2⟩)⟩) (H := H) (locs := locs) (hP := hP) (hD := hD) (hS := hS) (ls := ls) (hl := (lv_sub hl [0, 1, 2, 3, 4, 5, 6] rfl)) (hk9 := by omega)
                    · rw [sd_hs_nI _ (by omega) hk.1 hka.1, (hA9 qa).2] at c7
                      refine lv_aload hx hb dX4_join_128 (lv_at hl 6 rfl) ?_
                      refine lv_iload hx hb dX4_join_130 (lv_at hl 0 rfl) ?_
                      refine sd_ri (va_runV (As := [.int (nI k)]) (rest := []) ⟨hx, hb, hml, hown, hts⟩ (k_X3_hasShare l D qb (nI k) hqb (hok qb hqb).2) (sd_cwV hts wd_X3_hasShare wn_X3 wm_X4_71 wi_X3_hasShare ws_X3_hasShare nq_X3_hasShare rfl rfl ⟨Nat.le_of_ble_eq_true rfl, Nat.le_of_ble_eq_true rfl⟩) (sd_preVR hP hK (ci := 3) (q0 := (14 + 3 * qb)) rfl rfl (dw_sp hqb)) rfl rfl hl.1 rfl (lv_room (Nat.le_of_ble_eq_true rfl)) dX4_join_132 ⟨Nat.zero_le _, Nat.zero_le _⟩) (fun r27 hr27 => ?_)
                      subst hr27
                      refine sd_if_eqB (tgt := 169) hx hb dX4_join_135 (by decide) (fun c8 => ?_) (fun c8 => ?_)
                      · rw [sd_hs_nI _ (by omega) hk.1 hka.2, (hA9 qb).2] at c8
                        refine lv_aload hx hb dX4_join_169 (lv_at hl 4 rfl) ?_
                        refine lv_iload hx hb dX4_join_171 (lv_at hl 0 rfl) ?_
                        refine sd_wv (va_runV (As := [.int (nI k)]) (rest := []) ⟨hx, hb, hml, hown, hts⟩ (k_X3_drop l D _ q k hq (by omega)) (sd_cwV hts wd_X3_drop wn_X3 wm_X4_74 wi_X3_drop ws_X3_drop nq_X3_drop rfl rfl ⟨Nat.le_of_ble_eq_true rfl, Nat.le_of_ble_eq_true rfl⟩) (sd_preVW hP hK hD (ci := 3) (q0 := (14 + 3 * q)) rfl rfl (dw_sp hq)) rfl rfl hl.1 rfl (lv_room (Nat.le_of_ble_eq_true rfl)) dX4_join_173 ⟨Nat.zero_le _, Nat.zero_le _⟩) hD hS hA (fun u29 H locs hu29 hP hD hS => ?_)
                        replace hP : va_P D vwCl (dw ad tc dg pl v1 (sd_up t1 q (sd_up (t1 q) k false)) cu mx us so rr fw ff) H := hP
                        replace hD : va_D A (dw ad tc dg pl v1 (sd_up t1 q (sd_up (t1 q) k false)) cu mx us so rr fw ff) := hD
                        refine lv_iinc (v := nI (k + 1)) (lv' := [(10, .int (nI (k + 1))), (9, .int (nI nn)), (8, .int (nI dd)), (4, .int (nI h)), (5, .ref (ad (14 + 3 * q))), (6, .ref (ad (14 + 3 * qa))), (7, .ref (ad (14 + 3 * qb)))]) hx hb dX4_join_176 hl (k := 0) rfl (nI_1 _) (by decide) rfl (fun ls hl => ?_)
                        refine lv_goto (tgt := 111) hx hb dX4_join_179 (by decide) ?_
                        exact ih (k := k + 1) (v1 := v1) (t1 := sd_up t1 q (sd_up (t1 q) k false)) (hk := by omega) (hI := ⟨fun i j hi => ⟨(hI.1 i j hi).1, by rw [sd_up_n _ _ hi]; exact (hI.1 i j hi).2⟩, fun j h1 => ⟨(hI.2.1 j (by omega)).1, by rw [sd_up2, if_neg (by omega)]; exact (hI.2.1 j (by omega)).2⟩, fun j h1 h2 => (Classical.em (j = k)).elim (fun ej => ⟨by rw [sd_up2, if_pos ⟨rfl, ej⟩, ej]; rw [c7, c8]; rfl, fun g1 g2 => by rw [ej, c8] at g2; cases g2⟩) (fun ej => ⟨by rw [sd_up2, if_neg (fun z => ej z.2)]; exact (hI.2.2 j h1 (by omega)).1, fun g1 g2 => (hI.2.2 j h1 (by omega)).2 g1 g2⟩)⟩) (H := H) (locs := locs) (hP := hP) (hD := hD) (hS := hS) (ls := ls) (hl := (lv_sub hl [0, 1, 2, 3, 4, 5, 6] rfl)) (hk9 := by omega)
                      · rw [sd_hs_nI _ (by omega) hk.1 hka.2, (hA9 qb).2] at c8
                        refine lv_aload hx hb dX4_join_138 (lv_at hl 4 rfl) ?_
                        refine lv_iload hx hb dX4_join_140 (lv_at hl 0 rfl) ?_
                        refine lv_aload hx hb dX4_join_142 (lv_at hl 5 rfl) ?_
                        refine va_get (D := D) (ci := 3) (v := .ref (ad (15 + 3 * qa))) (C := RX3) (T := TX3) (N := 4) hx hb hts (fun w h => mm (inX3 w h)) hown hK hP (14 + 3 * qa) (dw_sp hqa) rfl 0 (by decide) (hts _ (mm wf_X4_93)) (fun _ h9 => h9) rfl dX4_join_144 ?_
                        refine lv_iload hx hb dX4_join_147 (lv_at hl 0 rfl) ?_
                        refine sd_lald hx hb hK hP (15 + 3 * qa) 0 (dw_vl hqa) rfl (k := k) (by omega) (by decide) dX4_join_149 ?_
                        refine lv_aload hx hb dX4_join_150 (lv_at hl 6 rfl) ?_
                        refine va_get (D := D) (ci := 3) (v := .ref (ad (15 + 3 * qb))) (C := RX3) (T := TX3) (N := 4) hx hb hts (fun w h => mm (inX3 w h)) hown hK hP (14 + 3 * qb) (dw_sp hqb) rfl 0 (by decide) (hts _ (mm wf_X4_93)) (fun _ h9 => h9) rfl dX4_join_152 ?_
                        refine lv_iload hx hb dX4_join_155 (lv_at hl 0 rfl) ?_
                        refine sd_lald hx hb hK hP (15 + 3 * qb) 0 (dw_vl hqb) rfl (k := k) (by omega) (by decide) dX4_join_157 ?_
                        refine lv_iload hx hb dX4_join_158 (lv_at hl 3 rfl) ?_
                        refine sd_rl (va_runS (As := [.long (sd_L ((v1 qa) k)), .long (sd_L ((v1 qb) k)), .int (nI h)]) (rest := [.int (nI k), .ref (ad (14 + 3 * q))]) ⟨hx, hb, hml, hown, hts⟩ (k_X4_joined l (v1 qa k) (v1 qb k) h ch) (sd_cwS hts wd_X4_joined wn_X4 wm_X4_97 wi_X4_joined nq_X4_joined rfl rfl ⟨Nat.le_of_ble_eq_true rfl, Nat.le_of_ble_eq_true rfl⟩) sd_preN rfl rfl hl.1 rfl (lv_room (Nat.le_of_ble_eq_true rfl)) dX4_join_160 ⟨Nat.zero_le _, Nat.zero_le _⟩) (fun r30 hr30 => ?_)
                        subst hr30
                        refine sd_wv (va_runV (As := [.int (nI k), .long (sd_L (sd_jn h (v1 qa k) (v1 qb k)))]) (rest := []) ⟨hx, hb, hml, hown, hts⟩ (k_X3_keep l D _ q k (sd_jn h (v1 qa k) (v1 qb k)) hq (by omega)) (sd_cwV hts wd_X3_keep wn_X3 wm_X4_67 wi_X3_keep ws_X3_keep nq_X3_keep rfl rfl ⟨Nat.le_of_ble_eq_true rfl, Nat.le_of_ble_eq_true rfl⟩) (sd_preVW hP hK hD (ci := 3) (q0 := (14 + 3 * q)) rfl rfl (dw_sp hq)) rfl rfl hl.1 rfl (lv_room (Nat.le_of_ble_eq_true rfl)) dX4_join_163 ⟨Nat.zero_le _, Nat.zero_le _⟩) hD hS hA (fun u32 H locs hu32 hP hD hS => ?_)
                        replace hP : va_P D vwCl (dw ad tc dg pl (sd_up v1 q (sd_up (v1 q) k (sd_jn h (v1 qa k) (v1 qb k)))) (sd_up t1 q (sd_up (t1 q) k true)) cu mx us so rr fw ff) H := hP
                        replace hD : va_D A (dw ad tc dg pl (sd_up v1 q (sd_up (v1 q) k (sd_jn h (v1 qa k) (v1 qb k)))) (sd_up t1 q (sd_up (t1 q) k true)) cu mx us so rr fw ff) := hD
                        refine lv_goto (tgt := 176) hx hb dX4_join_166 (by decide) ?_
                        refine lv_iinc (v := nI (k + 1)) (lv' := [(10, .int (nI (k + 1))), (9, .int (nI nn)), (8, .int (nI dd)), (4, .int (nI h)), (5, .ref (ad (14 + 3 * q))), (6, .ref (ad (14 + 3 * qa))), (7, .ref (ad (14 + 3 * qb)))]) hx hb dX4_join_176 hl (k := 0) rfl (nI_1 _) (by decide) rfl (fun ls hl => ?_)
                        refine lv_goto (tgt := 111) hx hb dX4_join_179 (by decide) ?_
                        exact ih (k := k + 1) (v1 := sd_up v1 q (sd_up (v1 q) k (sd_jn h (v1 qa k) (v1 qb k)))) (t1 := sd_up t1 q (sd_up (t1 q) k true)) (hk := by omega) (hI := ⟨fun i j hi => ⟨by rw [sd_up_n _ _ hi]; exact (hI.1 i j hi).1, by rw [sd_up_n _ _ hi]; exact (hI.1 i j hi).2⟩, fun j h1 => ⟨by rw [sd_up2, if_neg (by omega)]; exact (hI.2.1 j (by omega)).1, by rw [sd_up2, if_neg (by omega)]; exact (hI.2.1 j (by omega)).2⟩, fun j h1 h2 => (Classical.em (j = k)).elim (fun ej => ⟨by rw [sd_up2, if_pos ⟨rfl, ej⟩, ej]; rw [c7, c8]; rfl, fun g1 g2 => by rw [sd_up2, if_pos ⟨rfl, ej⟩, (hA9 qa).1, (hA9 qb).1, ej]⟩) (fun ej => ⟨by rw [sd_up2, if_neg (fun z => ej z.2)]; exact (hI.2.2 j h1 (by omega)).1, fun g1 g2 => by rw [sd_up2, if_neg (fun z => ej z.2)]; exact (hI.2.2 j h1 (by omega)).2 g1 g2⟩)⟩) (H := H) (locs := locs) (hP := hP) (hD := hD) (hS := hS) (ls := ls) (hl := (lv_sub hl [0, 1, 2, 3, 4, 5, 6] rfl)) (hk9 := by omega)
              · refine lv_iconst (v := nI 0) hx hb dX4_join_91 (by decide) ?_
                exact W.zret hx hb hr rfl (fun T9 hT9 hW => ⟨⟨_, (dg, pl, vl, th, cu, mx, us, so, rr, fw, ff), rfl, Or.inr ⟨fun ⟨q2, a2, b2, h2, hv⟩ => (by obtain ⟨g1, g2, g3, g4, g5, g6, g7, g8, g9⟩ := hv; have e1 := sd_nI_inj (by omega) (by omega) (hxqa.symm.trans g4); have e2 := sd_nI_inj (by omega) (by omega) (hxqb.symm.trans g6); have e3 := sd_nI_inj (by omega) (by omega) g8; subst e1; subst e2; subst e3; rw [← hdd] at g9; omega), rfl, ⟨rfl, rfl, rfl, rfl, rfl, rfl, rfl⟩⟩, by rw [hT9]; exact hP, va_K.moved hW.alike hK, hD⟩, hS.F hT9⟩) hS.2.2 dX4_join_92
            · refine lv_aload hx hb dX4_join_55 (lv_at hl 1 rfl) ?_
              refine va_get (D := D) (ci := 3) (v := .int (nI (dg qa))) (C := RX3) (T := TX3) (N := 4) hx hb hts (fun w h => mm (inX3 w h)) hown hK hP (14 + 3 * qa) (dw_sp hqa) rfl 2 (by decide) (hts _ (mm wf_X4_78)) (fun _ h9 => h9) rfl dX4_join_57 ?_
              refine lv_aload hx hb dX4_join_60 (lv_at hl 0 rfl) ?_
              refine va_get (D := D) (ci := 3) (v := .int (nI (dg qb))) (C := RX3) (T := TX3) (N := 4) hx hb hts (fun w h => mm (inX3 w h)) hown hK hP (14 + 3 * qb) (dw_sp hqb) rfl 2 (by decide) (hts _ (mm wf_X4_78)) (fun _ h9 => h9) rfl dX4_join_62 ?_
              refine sd_iadd hx hb dX4_join_65 ?_
              refine lv_goto (tgt := 82) hx hb dX4_join_66 (by decide) ?_
              obtain ⟨dd, hdd⟩ : ∃ dd, dd = sd_jd (dg, pl, vl, th, cu, mx, us, so, rr, fw, ff) qa qb h := ⟨_, rfl⟩
              have e9 : dg qa + dg qb = dd := by rw [hdd, sd_jd, if_pos c4]
              have e8 : dg qa + dg qb ≤ 16 := by omega
              rw [e9] at e8 ⊢
              refine lv_istore (lv' := [(8, .int (nI dd)), (7, .ref (ad (14 + 3 * qb))), (6, .ref (ad (14 + 3 * qa))), (5, .ref (ad (14 + 3 * q))), (0, .ref (ad 0)), (1, .int x), (2, .int y), (3, .int z), (4, .int (nI h))]) hx hb dX4_join_82 hl (by decide) rfl (fun ls hl => ?_)
              refine lv_iload hx hb dX4_join_84 (lv_at hl 0 rfl) ?_
              refine lv_bipush (v := nI 8) hx hb dX4_join_86 (by decide) ?_
              refine sd_icmp_le (tgt := 93) hx hb (by omega) (by omega) dX4_join_88 (by decide) (fun c5 => ?_) (fun c5 => ?_)
              · refine lv_aload hx hb dX4_join_93 (lv_at hl 2 rfl) ?_
                refine va_get (D := D) (ci := 3) (v := .int (nI (pl qa))) (C := RX3) (T := TX3) (N := 4) hx hb hts (fun w h => mm (inX3 w h)) hown hK hP (14 + 3 * qa) (dw_sp hqa) rfl 3 (by decide) (hts _ (mm wf_X4_87)) (fun _ h9 => h9) rfl dX4_join_95 ?_
                refine lv_aload hx hb dX4_join_98 (lv_at hl 1 rfl) ?_
                refine va_get (D := D) (ci := 3) (v := .int (nI (pl qb))) (C := RX3) (T := TX3) (N := 4) hx hb hts (fun w h => mm (inX3 w h)) hown hK hP (14 + 3 * qb) (dw_sp hqb) rfl 3 (by decide) (hts _ (mm wf_X4_87)) (fun _ h9 => h9) rfl dX4_join_100 ?_
                refine va_mmin hx hb (by rw [hml]; exact hl.1.symm) hown (hts _ (mm wm_X4_90)) (hts _ (mm wi_J9_min)) (hts _ (mm wn_J9)) (hts _ (mm wd_J9_min)) (Nat.le_of_ble_eq_true rfl) (Nat.le_of_ble_eq_true rfl) (Nat.zero_le _) (Nat.zero_le _) dX4_join_103 ?_
                refine sd_toi (y := nI (min (pl qa) (pl qb))) (sd_min (by omega) (by omega)) ?_
                obtain ⟨nn, hnn⟩ : ∃ nn, nn = min (pl qa) (pl qb) := ⟨_, rfl⟩
                rw [← hnn]
                refine lv_istore (lv' := [(9, .int (nI nn)), (8, .int (nI dd)), (7, .ref (ad (14 + 3 * qb))), (6, .ref (ad (14 + 3 * qa))), (5, .ref (ad (14 + 3 * q))), (0, .ref (ad 0)), (1, .int x), (2, .int y), (3, .int z), (4, .int (nI h))]) hx hb dX4_join_106 hl (by decide) rfl (fun ls hl => ?_)
                refine lv_iconst (v := nI 1) hx hb dX4_join_108 (by decide) ?_
                refine lv_istore (lv' := [(10, .int (nI 1)), (9, .int (nI nn)), (8, .int (nI dd)), (7, .ref (ad (14 + 3 * qb))), (6, .ref (ad (14 + 3 * qa))), (5, .ref (ad (14 + 3 * q))), (0, .ref (ad 0)), (1, .int x), (2, .int y), (3, .int z), (4, .int (nI h))]) hx hb dX4_join_109 hl (by decide) rfl (fun ls hl => ?_)
                obtain ⟨H, hH9⟩ : ∃ H : Heap, H = s.heap := ⟨_, rfl⟩
                obtain ⟨locs, hl9⟩ : ∃ x : List Loc, x = [] := ⟨_, rfl⟩
                rw [← hH9, ← hl9]
                have hS : va_S A s.heap H locs := by rw [hH9, hl9]; exact va_S.rf
                have hP : va_P D vwCl (dw ad tc dg pl vl th cu mx us so rr fw ff) H := by rw [hH9]; exact hP
                clear hH9 hl9
                obtain ⟨k, v1, t1, hk, hI, hP9, hD9, hl9⟩ : ∃ (k : Nat) (v1 : Nat → Nat → FP) (t1 : Nat → Nat → Bool), (1 ≤ k ∧ k ≤ nn + 1) ∧ ((∀ i j, i ≠ q → v1 i j = vl i j ∧ t1 i j = th i j) ∧ (∀ j, k ≤ j → v1 q j = vl q j ∧ t1 q j = th q j) ∧ ∀ j, 1 ≤ j → j < k → t1 q j = (th qa j && th qb j) ∧ (th qa j = true → th qb j = true → v1 q j = sd_jn h (vl qa j) (vl qb j))) ∧ va_P D vwCl (dw ad tc dg pl v1 t1 cu mx us so rr fw ff) H ∧ va_D A (dw ad tc dg pl v1 t1 cu mx us so rr fw ff) ∧ lv_has ls 11 [(10, .int (nI k)), (9, .int (nI nn)), (8, .int (nI dd)), (4, .int (nI h)), (5, .ref (ad (14 + 3 * q))), (6, .ref (ad (14 + 3 * qa))), (7, .ref (ad (14 + 3 * qb)))] := ⟨1, vl, th, ⟨Nat.le_refl 1, by omega⟩, ⟨fun _ _ _ => ⟨rfl, rfl⟩, fun _ _ => ⟨rfl, rfl⟩, fun j h1 h2 => absurd h2 (by omega)⟩, hP, hD, (lv_sub hl [0, 1, 2, 10, 5, 4, 3] rfl)⟩
                replace hl := hl9
                clear hl9
                replace hP := hP9
                replace hD := hD9
                clear hP9 hD9
                obtain ⟨k9, hk9⟩ : ∃ k9 : Nat, nn + 1 < k + k9 := ⟨nn + 1, by omega⟩
                induction k9 generalizing k v1 t1 ls H locs with
                | zero => exact absurd hk9 (by omega)
                | succ k9 ih =>
                  refine lv_iload hx hb dX4_join_111 (lv_at hl 0 rfl) ?_
                  refine lv_iload hx hb dX4_join_113 (lv_at hl 1 rfl) ?_
                  refine sd_icmp_gt (tgt := 182) hx hb (by omega) (by omega) dX4_join_115 (by decide) (fun c6 => ?_) (fun c6 => ?_)
                  · refine lv_aload hx hb dX4_join_182 (lv_at hl 4 rfl) ?_
                    refine lv_iload hx hb dX4_join_184 (lv_at hl 2 rfl) ?_
                    refine lv_iload hx hb dX4_join_186 (lv_at hl 1 rfl) ?_
                    refine sd_wv (va_runV (As := [.int (nI dd), .int (nI nn)]) (rest := []) ⟨hx, hb, hml, hown, hts⟩ (k_X3_shape l D _ q dd nn hq) (sd_cwV hts wd_X3_shape wn_X3 wm_X4_55 wi_X3_shape ws_X3_shape nq_X3_shape rfl rfl ⟨Nat.le_of_ble_eq_true rfl, Nat.le_of_ble_eq_true rfl⟩) (sd_preVW hP hK hD (ci := 3) (q0 := (14 + 3 * q)) rfl rfl (dw_sp hq)) rfl rfl hl.1 rfl (lv_room (Nat.le_of_ble_eq_true rfl)) dX4_join_188 ⟨Nat.zero_le _, Nat.zero_le _⟩) hD hS hA (fun u34 H locs hu34 hP hD hS => ?_)
                    replace hP : va_P D vwCl (dw ad tc (sd_up dg q dd) (sd_up pl q nn) v1 t1 cu mx us so rr fw ff) H := hP
                    replace hD : va_D A (dw ad tc (sd_up dg q dd) (sd_up pl q nn) v1 t1 cu mx us so rr fw ff) := hD
                    refine lv_iconst (v := nI 1) hx hb dX4_join_191 (by decide) ?_
                    exact W.zret hx hb hr rfl (fun T9 hT9 hW => ⟨⟨_, (sd_up dg q dd, sd_up pl q nn, v1, t1, cu, mx, us, so, rr, fw, ff), rfl, Or.inl ⟨q, qa, qb, h, ⟨hq, hxq, hqa, hxqa, hqb, hxqb, ch, rfl, hdd ▸ c5⟩, rfl, by rw [← hdd], by rw [hnn], ⟨rfl, rfl, rfl⟩, hI.1, fun j h1 h2 => hI.2.2 j h1 (by have h2 : j ≤ min (pl qa) (pl qb) := h2; omega)⟩, by rw [hT9]; exact hP, va_K.moved hW.alike hK, hD⟩, hS.F hT9⟩) hS.2.2 dX4_join_192
                  · have hA9 : ∀ i, v1 i k = vl i k ∧ t1 i k = th i k := fun i => (Classical.em (i = q)).elim (fun z => by rw [z]; exact hI.2.1 k (Nat.le_refl k)) (fun z => hI.1 i k z)
                    have hka : k ≤ pl qa ∧ k ≤ pl qb := by omega
                    refine lv_aload hx hb dX4_join_118 (lv_at hl 5 rfl) ?_
                    refine lv_iload hx hb dX4_join_120 (lv_at hl 0 rfl) ?_
                    refine sd_ri (va_runV (As := [.int (nI k)]) (rest := []) ⟨hx, hb, hml, hown, hts⟩ (k_X3_hasShare l D qa (nI k) hqa (hok qa hqa).2) (sd_cwV hts wd_X3_hasShare wn_X3 wm_X4_71 wi_X3_hasShare ws_X3_hasShare nq_X3_hasShare rfl rfl ⟨Nat.le_of_ble_eq_true rfl, Nat.le_of_ble_eq_true rfl⟩) (sd_preVR hP hK (ci := 3) (q0 := (14 + 3 * qa)) rfl rfl (dw_sp hqa)) rfl rfl hl.1 rfl (lv_room (Nat.le_of_ble_eq_true rfl)) dX4_join_122 ⟨Nat.zero_le _, Nat.zero_le _⟩) (fun r35 hr35 => ?_)
                    subst hr35
                    refine sd_if_eqB (tgt := 169) hx hb dX4_join_125 (by decide) (fun c7 => ?_) (fun c7 => ?_)
                    · rw [sd_hs_nI _ (by omega) hk.1 hka.1, (hA9 qa).2] at c7
                      refine lv_aload hx hb dX4_join_169 (lv_at hl 4 rfl) ?_
                      refine lv_iload hx hb dX4_join_171 (lv_at hl 0 rfl) ?_
                      refine sd_wv (va_runV (As := [.int (nI k)]) (rest := []) ⟨hx, hb, hml, hown, hts⟩ (k_X3_drop l D _ q k hq (by omega)) (sd_cwV hts wd_X3_drop wn_X3 wm_X4_74 wi_X3_drop ws_X3_drop nq_X3_drop rfl rfl ⟨Nat.le_of_ble_eq_true rfl, Nat.le_of_ble_eq_true rfl⟩) (sd_preVW hP hK hD (ci := 3) (q0 := (14 + 3 * q)) rfl rfl (dw_sp hq)) rfl rfl hl.1 rfl (lv_room (Nat.le_of_ble_eq_true rfl)) dX4_join_173 ⟨Nat.zero_le _, Nat.zero_le _⟩) hD hS hA (fun u37 H locs hu37 hP hD hS => ?_)
                      replace hP : va_P D vwCl (dw ad tc dg pl v1 (sd_up t1 q (sd_up (t1 q) k false)) cu mx us so rr fw ff) H := hP
                      replace hD : va_D A (dw ad tc dg pl v1 (sd_up t1 q (sd_up (t1 q) k false)) cu mx us so rr fw ff) := hD
                      refine lv_iinc (v := nI (k + 1)) (lv' := [(10, .int (nI (k + 1))), (9, .int (nI nn)), (8, .int (nI dd)), (4, .int (nI h)), (5, .ref (ad (14 + 3 * q))), (6, .ref (ad (14 + 3 * qa))), (7, .ref (ad (14 + 3 * qb)))]) hx hb dX4_join_176 hl (k := 0) rfl (nI_1 _) (by decide) rfl (fun ls hl => ?_)
                      refine lv_goto (tgt := 111) hx hb dX4_join_179 (by decide) ?_
                      exact ih (k := k + 1) (v1 := v1) (t1 := sd_up t1 q (sd_up (t1 q) k false)) (hk := by omega) (hI := ⟨fun i j hi => ⟨(hI.1 i j hi).1, by rw [sd_up_n _ _ hi]; exact (hI.1 i j hi).2⟩, fun j h1 => ⟨(hI.2.1 j (by omega)).1, by rw [sd_up2, if_neg (by omega)]; exact (hI.2.1 j (by omega)).2⟩, fun j h1 h2 => (Classical.em (j = k)).elim (fun ej => ⟨by rw [sd_up2, if_pos ⟨rfl, ej⟩, ej]; rw [c7]; rfl, fun g1 g2 => by rw [ej, c7] at g1; cases g1⟩) (fun ej => ⟨by rw [sd_up2, if_neg (fun z => ej z.2)]; exact (hI.2.2 j h1 (by omega)).1, fun g1 g2 => (hI.2.2 j h1 (by omega)).2 g1 g2⟩)⟩) (H := H) (locs := locs) (hP := hP) (hD := hD) (hS := hS) (ls := ls) (hl := (lv_sub hl [0, 1, 2, 3, 4, 5, 6] rfl)) (hk9 := by omega)
                    · rw [sd_hs_nI _ (by omega) hk.1 hka.1, (hA9 qa).2] at c7
                      refine lv_aload hx hb dX4_join_128 (lv_at hl 6 rfl) ?_
                      refine lv_iload hx hb dX4_join_130 (lv_at hl 0 rfl) ?_
                      refine sd_ri (va_runV (As := [.int (nI k)]) (rest := []) ⟨hx, hb, hml, hown, hts⟩ (k_X3_hasShare l D qb (nI k) hqb (hok qb hqb).2) (sd_cwV hts wd_X3_hasShare wn_X3 wm_X4_71 wi_X3_hasShare ws_X3_hasShare nq_X3_hasShare rfl rfl ⟨Nat.le_of_ble_eq_true rfl, Nat.le_of_ble_eq_true rfl⟩) (sd_preVR hP hK (ci := 3) (q0 := (14 + 3 * qb)) rfl rfl (dw_sp hqb)) rfl rfl hl.1 rfl (lv_room (Nat.le_of_ble_eq_true rfl)) dX4_join_132 ⟨Nat.zero_le _, Nat.zero_le _⟩) (fun r38 hr38 => ?_)
                      subst hr38
                      refine sd_if_eqB (tgt := 169) hx hb dX4_join_135 (by decide) (fun c8 => ?_) (fun c8 => ?_)
                      · rw [sd_hs_nI _ (by omega) hk.1 hka.2, (hA9 qb).2] at c8
                        refine lv_aload hx hb dX4_join_169 (lv_at hl 4 rfl) ?_
                        refine lv_iload hx hb dX4_join_171 (lv_at hl 0 rfl) ?_
                        refine sd_wv (va_runV (As := [.int (nI k)]) (rest := []) ⟨hx, hb, hml, hown, hts⟩ (k_X3_drop l D _ q k hq (by omega)) (sd_cwV hts wd_X3_drop wn_X3 wm_X4_74 wi_X3_drop ws_X3_drop nq_X3_drop rfl rfl ⟨Nat.le_of_ble_eq_true rfl, Nat.le_of_ble_eq_true rfl⟩) (sd_preVW hP hK hD (ci := 3) (q0 := (14 + 3 * q)) rfl rfl (dw_sp hq)) rfl rfl hl.1 rfl (lv_room (Nat.le_of_ble_eq_true rfl)) dX4_join_173 ⟨Nat.zero_le _, Nat.zero_le _⟩) hD hS hA (fun u40 H locs hu40 hP hD hS => ?_)
                        replace hP : va_P D vwCl (dw ad tc dg pl v1 (sd_up t1 q (sd_up (t1 q) k false)) cu mx us so rr fw ff) H := hP
                        replace hD : va_D A (dw ad tc dg pl v1 (sd_up t1 q (sd_up (t1 q) k false)) cu mx us so rr fw ff) := hD
                        refine lv_iinc (v := nI (k + 1)) (lv' := [(10, .int (nI (k + 1))), (9, .int (nI nn)), (8, .int (nI dd)), (4, .int (nI h)), (5, .ref (ad (14 + 3 * q))), (6, .ref (ad (14 + 3 * qa))), (7, .ref (ad (14 + 3 * qb)))]) hx hb dX4_join_176 hl (k := 0) rfl (nI_1 _) (by decide) rfl (fun ls hl => ?_)
                        refine lv_goto (tgt := 111) hx hb dX4_join_179 (by decide) ?_
                        exact ih (k := k + 1) (v1 := v1) (t1 := sd_up t1 q (sd_up (t1 q) k false)) (hk := by omega) (hI := ⟨fun i j hi => ⟨(hI.1 i j hi).1, by rw [sd_up_n _ _ hi]; exact (hI.1 i j hi).2⟩, fun j h1 => ⟨(hI.2.1 j (by omega)).1, by rw [sd_up2, if_neg (by omega)]; exact (hI.2.1 j (by omega)).2⟩, fun j h1 h2 => (Classical.em (j = k)).elim (fun ej => ⟨by rw [sd_up2, if_pos ⟨rfl, ej⟩, ej]; rw [c7, c8]; rfl, fun g1 g2 => by rw [ej, c8] at g2; cases g2⟩) (fun ej => ⟨by rw [sd_up2, if_neg (fun z => ej z.2)]; exact (hI.2.2 j h1 (by omega)).1, fun g1 g2 => (hI.2.2 j h1 (by omega)).2 g1 g2⟩)⟩) (H := H) (locs := locs) (hP := hP) (hD := hD) (hS := hS) (ls := ls) (hl := (lv_sub hl [0, 1, 2, 3, 4, 5, 6] rfl)) (hk9 := by omega)
                      · rw [sd_hs_nI _ (by omega) hk.1 hka.2, (hA9 qb).2] at c8
                        refine lv_aload hx hb dX4_join_138 (lv_at hl 4 rfl) ?_
                        refine lv_iload hx hb dX4_join_140 (lv_at hl 0 rfl) ?_
                        refine lv_aload hx hb dX4_join_142 (lv_at hl 5 rfl) ?_
                        refine va_get (D := D) (ci := 3) (v := .ref (ad (15 + 3 * qa))) (C := RX3) (T := TX3) (N := 4) hx hb hts (fun w h => mm (inX3 w h)) hown hK hP (14 + 3 * qa) (dw_sp hqa) rfl 0 (by decide) (hts _ (mm wf_X4_93)) (fun _ h9 => h9) rfl dX4_join_144 ?_
                        refine lv_iload hx hb dX4_join_147 (lv_at hl 0 rfl) ?_
                        refine sd_lald hx hb hK hP (15 + 3 * qa) 0 (dw_vl hqa) rfl (k := k) (by omega) (by decide) dX4_join_149 ?_
                        refine lv_aload hx hb dX4_join_150 (lv_at hl 6 rfl) ?_
                        refine va_get (D := D) (ci := 3) (v := .ref (ad (15 + 3 * qb))) (C := RX3) (T := TX3) (N := 4) hx hb hts (fun w h => mm (inX3 w h)) hown hK hP (14 + 3 * qb) (dw_sp hqb) rfl 0 (by decide) (hts _ (mm wf_X4_93)) (fun _ h9 => h9) rfl dX4_join_152 ?_
                        refine lv_iload hx hb dX4_join_155 (lv_at hl 0 rfl) ?_
                        refine sd_lald hx hb hK hP (15 + 3 * qb) 0 (dw_vl hqb) rfl (k := k) (by omega) (by decide) dX4_join_157 ?_
                        refine lv_iload hx hb dX4_join_158 (lv_at hl 3 rfl) ?_
                        refine sd_rl (va_runS (As := [.long (sd_L ((v1 qa) k)), .long (sd_L ((v1 qb) k)), .int (nI h)]) (rest := [.int (nI k), .ref (ad (14 + 3 * q))]) ⟨hx, hb, hml, hown, hts⟩ (k_X4_joined l (v1 qa k) (v1 qb k) h ch) (sd_cwS hts wd_X4_joined wn_X4 wm_X4_97 wi_X4_joined nq_X4_joined rfl rfl ⟨Nat.le_of_ble_eq_true rfl, Nat.le_of_ble_eq_true rfl⟩) sd_preN rfl rfl hl.1 rfl (lv_room (Nat.le_of_ble_eq_true rfl)) dX4_join_160 ⟨Nat.zero_le _, Nat.zero_le _⟩) (fun r41 hr41 => ?_)
                        subst hr41
                        refine sd_wv (va_runV (As := [.int (nI k), .long (sd_L (sd_jn h (v1 qa k) (v1 qb k)))]) (rest := []) ⟨hx, hb, hml, hown, hts⟩ (k_X3_keep l D _ q k (sd_jn h (v1 qa k) (v1 qb k)) hq (by omega)) (sd_cwV hts wd_X3_keep wn_X3 wm_X4_67 wi_X3_keep ws_X3_keep nq_X3_keep rfl rfl ⟨Nat.le_of_ble_eq_true rfl, Nat.le_of_ble_eq_true rfl⟩) (sd_preVW hP hK hD (ci := 3) (q0 := (14 + 3 * q)) rfl rfl (dw_sp hq)) rfl rfl hl.1 rfl (lv_room (Nat.le_of_ble_eq_true rfl)) dX4_join_163 ⟨Nat.zero_le _, Nat.zero_le _⟩) hD hS hA (fun u43 H locs hu43 hP hD hS => ?_)
                        replace hP : va_P D vwCl (dw ad tc dg pl (sd_up v1 q (sd_up (v1 q) k (sd_jn h (v1 qa k) (v1 qb k)))) (sd_up t1 q (sd_up (t1 q) k true)) cu mx us so rr fw ff) H := hP
                        replace hD : va_D A (dw ad tc dg pl (sd_up v1 q (sd_up (v1 q) k (sd_jn h (v1 qa k) (v1 qb k)))) (sd_up t1 q (sd_up (t1 q) k true)) cu mx us so rr fw ff) := hD
                        refine lv_goto (tgt := 176) hx hb dX4_join_166 (by decide) ?_
                        refine lv_iinc (v := nI (k + 1)) (lv' := [(10, .int (nI (k + 1))), (9, .int (nI nn)), (8, .int (nI dd)), (4, .int (nI h)), (5, .ref (ad (14 + 3 * q))), (6, .ref (ad (14 + 3 * qa))), (7, .ref (ad (14 + 3 * qb)))]) hx hb dX4_join_176 hl (k := 0) rfl (nI_1 _) (by decide) rfl (fun ls hl => ?_)
                        refine lv_goto (tgt := 111) hx hb dX4_join_179 (by decide) ?_
                        exact ih (k := k + 1) (v1 := sd_up v1 q (sd_up (v1 q) k (sd_jn h (v1 qa k) (v1 qb k)))) (t1 := sd_up t1 q (sd_up (t1 q) k true)) (hk := by omega) (hI := ⟨fun i j hi => ⟨by rw [sd_up_n _ _ hi]; exact (hI.1 i j hi).1, by rw [sd_up_n _ _ hi]; exact (hI.1 i j hi).2⟩, fun j h1 => ⟨by rw [sd_up2, if_neg (by omega)]; exact (hI.2.1 j (by omega)).1, by rw [sd_up2, if_neg (by omega)]; exact (hI.2.1 j (by omega)).2⟩, fun j h1 h2 => (Classical.em (j = k)).elim (fun ej => ⟨by rw [sd_up2, if_pos ⟨rfl, ej⟩, ej]; rw [c7, c8]; rfl, fun g1 g2 => by rw [sd_up2, if_pos ⟨rfl, ej⟩, (hA9 qa).1, (hA9 qb).1, ej]⟩) (fun ej => ⟨by rw [sd_up2, if_neg (fun z => ej z.2)]; exact (hI.2.2 j h1 (by omega)).1, fun g1 g2 => by rw [sd_up2, if_neg (fun z => ej z.2)]; exact (hI.2.2 j h1 (by omega)).2 g1 g2⟩)⟩) (H := H) (locs := locs) (hP := hP) (hD := hD) (hS := hS) (ls := ls) (hl := (lv_sub hl [0, 1, 2, 3, 4, 5, 6] rfl)) (hk9 := by omega)
              · refine lv_iconst (v := nI 0) hx hb dX4_join_91 (by decide) ?_
                exact W.zret hx hb hr rfl (fun T9 hT9 hW => ⟨⟨_, (dg, pl, vl, th, cu, mx, us, so, rr, fw, ff), rfl, Or.inr ⟨fun ⟨q2, a2, b2, h2, hv⟩ => (by obtain ⟨g1, g2, g3, g4, g5, g6, g7, g8, g9⟩ := hv; have e1 := sd_nI_inj (by omega) (by omega) (hxqa.symm.trans g4); have e2 := sd_nI_inj (by omega) (by omega) (hxqb.symm.trans g6); have e3 := sd_nI_inj (by omega) (by omega) g8; subst e1; subst e2; subst e3; rw [← hdd] at g9; omega), rfl, ⟨rfl, rfl, rfl, rfl, rfl, rfl, rfl⟩⟩, by rw [hT9]; exact hP, va_K.moved hW.alike hK, hD⟩, hS.F hT9⟩) hS.2.2 dX4_join_92
          · refine lv_iconst (v := nI 0) hx hb dX4_join_47 (by decide) ?_
            exact W.zret hx hb hr rfl (fun T9 hT9 hW => ⟨⟨_, (dg, pl, vl, th, cu, mx, us, so, rr, fw, ff), rfl, Or.inr ⟨fun ⟨q2, a2, b2, h2, hv⟩ => (by obtain ⟨g1, g2, g3, g4, g5, g6, g7, g8, g9⟩ := hv; have e9 := sd_nI_inj hh9 (by omega) g8; omega), rfl, ⟨rfl, rfl, rfl, rfl, rfl, rfl, rfl⟩⟩, by rw [hT9]; exact hP, va_K.moved hW.alike hK, hD⟩, hS.F hT9⟩) hS.2.2 dX4_join_48

set_option maxHeartbeats 1000000 in
set_option maxRecDepth 100000 in
theorem k_X4_split (l : Launch) (D : va_G) {ad : Nat → Nat} {tc : Nat → ClassId} {dg pl : Nat → Nat} {vl : Nat → Nat → FP} {th : Nat → Nat → Bool} {cu mx : Nat → Nat → FP} {us : Nat → Bool} {so : Nat → FP} {rr : Nat → Int32} {fw : Nat → Bool} {ff : Int32} (x y : Int32) (hok : ∀ q, q < 8 → dg q ≤ 8 ∧ pl q ≤ 16) : Met l yX4_split (Cond.code yX4_split cX4_split 4 (some .int) :: bg) { frames := 1, cells := 0, slots := 0, locals := 22 } (sd_R D vwCl (ty5 tc) (dw ad tc dg pl vl th cu mx us so rr fw ff) [.ref (ad 0), .int x, .int y]) (vp_Si (fun r => P_split x y (dg, pl, vl, th, cu, mx, us, so, rr, fw, ff) r)) 0 0 (fun _ => False) := by
  refine Met.ofW (cc := cX4_split) (maxL := 4) (ret := some .int) (by decide) rfl ?_
  intro p e s m args below meth c s₁ B hml hv
  obtain ⟨rfl, hP, hK⟩ := hv
  have hx := B.exec
  have hb := B.bytes
  have hr := B.returns
  have hts := atoms_spec (ws := Cond.code yX4_split cX4_split 4 (some .int) :: bg) B.pre
  have hown : s.vm.findClass RX4 = some m.cls := findClass_of_methodNamed B.named
  have hlocks := B.notSynchronized
  have hl := lv_entry ([.ref (ad 0), .int x, .int y]) (n := 4) (Nat.le_of_ble_eq_true rfl)
  rw [lg_entry_eq]
  generalize (lg_sl ([.ref (ad 0), .int x, .int y]) ++ List.replicate (4 - (lg_sl ([.ref (ad 0), .int x, .int y])).length) Slot.unset).toArray = ls at hl ⊢
  replace hl : lv_has ls 4 [(0, .ref (ad 0)), (1, .int x), (2, .int y)] := hl
  refine lv_aload_n hx hb dX4_split_0 rfl (lv_at hl 0 rfl) ?_
  refine lv_iload_n hx hb dX4_split_1 rfl (lv_at hl 1 rfl) ?_
  refine va_csq (va_runV (As := [.int x]) (rest := []) ⟨hx, hb, hml, hown, hts⟩ (k_X4_splitOrNull l D x) (sd_cwV hts wd_X4_splitOrNull wn_X4 wm_X4_41 wi_X4_splitOrNull ws_X4_splitOrNull nq_X4_splitOrNull rfl rfl ⟨Nat.le_of_ble_eq_true rfl, Nat.le_of_ble_eq_true rfl⟩) (sd_preVR hP hK (ci := 4) (q0 := 0) rfl rfl dw_desk) rfl rfl hl.1 rfl (lv_room (Nat.le_of_ble_eq_true rfl)) dX4_split_2 ⟨Nat.zero_le _, Nat.zero_le _⟩).run (fun r1 hr1 => ?_)
  subst hr1
  rcases hixq : sd_ix x with _ | q
  · refine sd_top (v2 := .null) rfl ?_
    refine lv_astore_nN (lv' := [(3, .null), (0, .ref (ad 0)), (1, .int x), (2, .int y)]) hx hb dX4_split_5 rfl hl (by decide) rfl (fun ls hl => ?_)
    refine lv_aload_nN hx hb dX4_split_6 rfl (lv_at hl 0 rfl) ?_
    refine lv_ifnonnullN hx hb dX4_split_7 ?_
    refine lv_iconst (v := -1) hx hb dX4_split_10 (by decide) ?_
    exact W.iret hx hb hr (fun T9 hT9 hW => ⟨_, rfl, Or.inr ⟨fun ⟨q, h1, h2⟩ => sd_ix_none hixq h1 h2, rfl⟩, hT9⟩) (fun q h => nomatch h) dX4_split_11
  · obtain ⟨hq, hxq⟩ := sd_ix_some hixq
    refine sd_top (v2 := .ref (ad (14 + 3 * q))) rfl ?_
    refine lv_astore_n (lv' := [(3, .ref (ad (14 + 3 * q))), (0, .ref (ad 0)), (1, .int x), (2, .int y)]) hx hb dX4_split_5 rfl hl (by decide) rfl (fun ls hl => ?_)
    refine lv_aload_n hx hb dX4_split_6 rfl (lv_at hl 0 rfl) ?_
    refine lv_ifnonnull (tgt := 12) hx hb dX4_split_7 (by decide) ?_
    refine lv_iload_n hx hb dX4_split_12 rfl (lv_at hl 3 rfl) ?_
    by_cases e0 : y = nI 0
    · subst e0
      refine lv_tableIn (off := 27) (tgt := 40) hx hb dX4_split_13 (by decide +kernel) (by decide +kernel) (by decide +kernel) (by decide) ?_
      refine lv_aload_n hx hb dX4_split_40 rfl (lv_at hl 0 rfl) ?_
      refine va_get (D := D) (ci := 3) (v := .int (nI (dg q))) (C := RX3) (T := TX3) (N := 4) hx hb hts (fun w h => mm (inX3 w h)) hown hK hP (14 + 3 * q) (dw_sp hq) rfl 2 (by decide) (hts _ (mm wf_X4_78)) (fun _ h9 => h9) rfl dX4_split_41 ?_
      exact W.iret hx hb hr (fun T9 hT9 hW => ⟨_, rfl, Or.inl ⟨q, hq, hxq, rfl⟩, hT9⟩) (fun q h => nomatch h) dX4_split_44
    by_cases e1 : y = nI 1
    · subst e1
      refine lv_tableIn (off := 32) (tgt := 45) hx hb dX4_split_13 (by decide +kernel) (by decide +kernel) (by decide +kernel) (by decide) ?_
      refine lv_aload_n hx hb dX4_split_45 rfl (lv_at hl 0 rfl) ?_
      refine va_get (D := D) (ci := 3) (v := .int (nI (pl q))) (C := RX3) (T := TX3) (N := 4) hx hb hts (fun w h => mm (inX3 w h)) hown hK hP (14 + 3 * q) (dw_sp hq) rfl 3 (by decide) (hts _ (mm wf_X4_87)) (fun _ h9 => h9) rfl dX4_split_46 ?_
      exact W.iret hx hb hr (fun T9 hT9 hW => ⟨_, rfl, Or.inl ⟨q, hq, hxq, rfl⟩, hT9⟩) (fun q h => nomatch h) dX4_split_49
    by_cases e2 : y = nI 2
    · subst e2
      refine lv_tableIn (off := 37) (tgt := 50) hx hb dX4_split_13 (by decide +kernel) (by decide +kernel) (by decide +kernel) (by decide) ?_
      refine lv_aload_n hx hb dX4_split_50 rfl (lv_at hl 0 rfl) ?_
      refine sd_ri (va_runV (As := []) (rest := []) ⟨hx, hb, hml, hown, hts⟩ (k_X3_countThere l D q hq (hok q hq).2) (sd_cwV hts wd_X3_countThere wn_X3 wm_X4_118 wi_X3_countThere ws_X3_countThere nq_X3_countThere rfl rfl ⟨Nat.le_of_ble_eq_true rfl, Nat.le_of_ble_eq_true rfl⟩) (sd_preVR hP hK (ci := 3) (q0 := (14 + 3 * q)) rfl rfl (dw_sp hq)) rfl rfl hl.1 rfl (lv_room (Nat.le_of_ble_eq_true rfl)) dX4_split_51 ⟨Nat.zero_le _, Nat.zero_le _⟩) (fun r4 hr4 => ?_)
      subst hr4
      exact W.iret hx hb hr (fun T9 hT9 hW => ⟨_, rfl, Or.inl ⟨q, hq, hxq, rfl⟩, hT9⟩) (fun q h => nomatch h) dX4_split_54
    have g0 := sd_ne_toInt (by decide) e0
    have g1 := sd_ne_toInt (by decide) e1
    have g2 := sd_ne_toInt (by decide) e2
    refine lv_tableOut (tgt := 55) hx hb dX4_split_13 (by omega) (by decide) ?_
    refine lv_iconst (v := -1) hx hb dX4_split_55 (by decide) ?_
    exact W.iret hx hb hr (fun T9 hT9 hW => ⟨_, rfl, Or.inl ⟨q, hq, hxq, by rw [if_neg e0, if_neg e1, if_neg e2]⟩, hT9⟩) (fun q h => nomatch h) dX4_split_56

set_option maxHeartbeats 1000000 in
set_option maxRecDepth 100000 in
theorem k_X4_keepFound (l : Launch) (D : va_G) {ad : Nat → Nat} {tc : Nat → ClassId} {dg pl : Nat → Nat} {vl : Nat → Nat → FP} {th : Nat → Nat → Bool} {cu mx : Nat → Nat → FP} {us : Nat → Bool} {so : Nat → FP} {rr : Nat → Int32} {fw : Nat → Bool} {ff : Int32} (sz : Nat) (x : Int32) (q : Nat) (hq : q < 8) (hpl : pl q ≤ 16) : Met l yX4_keepFound (Cond.code yX4_keepFound cX4_keepFound 4 none :: bg) { frames := 3, cells := 0, slots := 0, locals := 85 } (sd_Wr D vwCl (ty5 tc) (dw ad tc dg pl vl th cu mx us so rr fw ff) sz [.ref (ad 0), .int x, .ref (ad (14 + 3 * q))]) (va_Qv (S := DS) (fun u : DS => sdg u = dg ∧ spl u = pl ∧ svl u = vl ∧ sth u = th ∧ sff u = x ∧ (∀ k, k < 9 → scu u 2 k = cu 1 k) ∧ ∀ j, 1 ≤ j → j ≤ 16 → sfw u j = sd_mk (pl q) (th q) (vl q) (cu 1) j) (sd_B D vwCl (ty5 tc) (va_A (dw ad tc dg pl vl th cu mx us so rr fw ff) sz) (fun u => dwt ad tc u)) (va_A (dw ad tc dg pl vl th cu mx us so rr fw ff) sz)) 0 0 (va_A (dw ad tc dg pl vl th cu mx us so rr fw ff) sz) := by
  refine Met.ofW (cc := cX4_keepFound) (maxL := 4) (ret := none) (by decide) rfl ?_
  intro p e s m args below meth c s₁ B hml hv
  obtain ⟨rfl, hsz, hP, hK, hD0⟩ := hv
  have hx := B.exec
  have hb := B.bytes
  have hr := B.returns
  have hts := atoms_spec (ws := Cond.code yX4_keepFound cX4_keepFound 4 none :: bg) B.pre
  have hown : s.vm.findClass RX4 = some m.cls := findClass_of_methodNamed B.named
  have hlocks := B.notSynchronized
  subst hsz
  have hD := hD0.self (sz := s.heap.size)
  generalize hAe : va_A (dw ad tc dg pl vl th cu mx us so rr fw ff) s.heap.size = A at hD ⊢
  have hA : ∀ q : Nat, s.heap.size ≤ q → A q := fun q h => by rw [← hAe]; exact Or.inr h
  have hS : va_S A s.heap s.heap [] := va_S.rf
  have hl := lv_entry ([.ref (ad 0), .int x, .ref (ad (14 + 3 * q))]) (n := 4) (Nat.le_of_ble_eq_true rfl)
  rw [lg_entry_eq]
  generalize (lg_sl ([.ref (ad 0), .int x, .ref (ad (14 + 3 * q))]) ++ List.replicate (4 - (lg_sl ([.ref (ad 0), .int x, .ref (ad (14 + 3 * q))])).length) Slot.unset).toArray = ls at hl ⊢
  replace hl : lv_has ls 4 [(0, .ref (ad 0)), (1, .int x), (2, .ref (ad (14 + 3 * q)))] := hl
  refine lv_aload_n hx hb dX4_keepFound_0 rfl (lv_at hl 0 rfl) ?_
  refine lv_iload_n hx hb dX4_keepFound_1 rfl (lv_at hl 1 rfl) ?_
  refine sd_put (ci := 4) (C := RX4) (T := TX4) (N := 6) hx hb hts (fun w h => mm (inX4 w h)) tyX4 tyX4_ok nmX4 hown hK hP hD hS 0 dw_desk rfl 5 (by decide) (hts _ (mm wf_X4_36)) rfl rfl rfl rfl (Nat.le_of_ble_eq_true rfl) rfl (ws2 := dw ad tc dg pl vl th cu mx us so rr fw x) (dws_ff _) dX4_keepFound_2 (fun H locs hP hD hS => ?_)
  refine lv_aload_n hx hb dX4_keepFound_5 rfl (lv_at hl 0 rfl) ?_
  refine va_get (D := D) (ci := 4) (v := .ref (ad 6)) (C := RX4) (T := TX4) (N := 6) hx hb hts (fun w h => mm (inX4 w h)) hown hK hP 0 dw_desk rfl 3 (by decide) (hts _ (mm wf_X4_29)) (fun _ h9 => h9) rfl dX4_keepFound_6 ?_
  refine lv_aload_n hx hb dX4_keepFound_9 rfl (lv_at hl 0 rfl) ?_
  refine va_get (D := D) (ci := 4) (v := .ref (ad 8)) (C := RX4) (T := TX4) (N := 6) hx hb hts (fun w h => mm (inX4 w h)) hown hK hP 0 dw_desk rfl 2 (by decide) (hts _ (mm wf_X4_25)) (fun _ h9 => h9) rfl dX4_keepFound_10 ?_
  refine va_get (D := D) (ci := 1) (v := .ref (ad 4)) (C := RX1) (T := TX1) (N := 5) hx hb hts (fun w h => mm (inX1 w h)) hown hK hP 8 dw_finder rfl 0 (by decide) (hts _ (mm wf_X4_131)) (fun _ h9 => h9) rfl dX4_keepFound_13 ?_
  refine sd_wv (va_runV (As := [.ref (ad 4)]) (rest := []) ⟨hx, hb, hml, hown, hts⟩ (k_X0_copyFrom l D _ 2 1 (by decide) (by decide)) (sd_cwV hts wd_X0_copyFrom wn_X0 wm_X4_162 wi_X0_copyFrom ws_X0_copyFrom nq_X0_copyFrom rfl rfl ⟨Nat.le_of_ble_eq_true rfl, Nat.le_of_ble_eq_true rfl⟩) (sd_preVW hP hK hD (ci := 0) (q0 := 6) rfl rfl (dw_curve (c := 2) (by decide))) rfl rfl hl.1 rfl (lv_room (Nat.le_of_ble_eq_true rfl)) dX4_keepFound_16 ⟨Nat.zero_le _, Nat.zero_le _⟩) hD hS hA (fun u2 H locs hu2 hP hD hS => ?_)
  replace hP : va_P D vwCl (dw ad tc dg pl vl th (sd_up cu 2 (fun k => if k < 9 then cu 1 k else cu 2 k)) mx us so rr fw x) H := hP
  replace hD : va_D A (dw ad tc dg pl vl th (sd_up cu 2 (fun k => if k < 9 then cu 1 k else cu 2 k)) mx us so rr fw x) := hD
  refine lv_iconst (v := nI 1) hx hb dX4_keepFound_19 (by decide) ?_
  refine lv_istore_n (lv' := [(3, .int (nI 1)), (0, .ref (ad 0)), (1, .int x), (2, .ref (ad (14 + 3 * q)))]) hx hb dX4_keepFound_20 rfl hl (by decide) rfl (fun ls hl => ?_)
  obtain ⟨cA, hcA⟩ : ∃ z, z = sd_up cu 2 (fun k => if k < 9 then cu 1 k else cu 2 k) := ⟨_, rfl⟩
  rw [← hcA] at hP hD
  have hc2 : ∀ k, k < 9 → cA 2 k = cu 1 k := fun k hk => by rw [hcA, sd_up_s]; exact if_pos hk
  have hmk : ∀ j, sd_mk (pl q) (th q) (vl q) (cA 2) j = sd_mk (pl q) (th q) (vl q) (cu 1) j := fun j => by
    have ez : sd_ev (cA 2) (sd_N j) = sd_ev (cu 1) (sd_N j) := sd_pv_congr _ 9 0 (fun k _ hk => hc2 k (by omega))
    unfold sd_mk sd_ms
    rw [ez]
  obtain ⟨k, f1, hk, hI, hP9, hD9, hl9⟩ : ∃ (k : Nat) (f1 : Nat → Bool), (1 ≤ k ∧ k ≤ 17) ∧ (∀ j, 1 ≤ j → j < k → f1 j = sd_mk (pl q) (th q) (vl q) (cA 2) j) ∧ va_P D vwCl (dw ad tc dg pl vl th cA mx us so rr f1 x) H ∧ va_D A (dw ad tc dg pl vl th cA mx us so rr f1 x) ∧ lv_has ls 4 [(3, .int (nI k)), (0, .ref (ad 0)), (2, .ref (ad (14 + 3 * q)))] := ⟨1, fw, by decide, fun j h1 h2 => absurd h2 (by omega), hP, hD, (lv_sub hl [0, 1, 3] rfl)⟩
  replace hl := hl9
  clear hl9
  replace hP := hP9
  replace hD := hD9
  clear hP9 hD9
  obtain ⟨k9, hk9⟩ : ∃ k9 : Nat, 17 < k + k9 := ⟨17, by omega⟩
  induction k9 generalizing k f1 ls H locs with
  | zero => exact absurd hk9 (by omega)
  | succ k9 ih =>
    refine lv_iload_n hx hb dX4_keepFound_21 rfl (lv_at hl 0 rfl) ?_
    refine lv_bipush (v := nI 16) hx hb dX4_keepFound_22 (by decide) ?_
    refine sd_icmp_gt (tgt := 48) hx hb (by omega) (by omega) dX4_keepFound_24 (by decide) (fun c1 => ?_) (fun c1 => ?_)
    · exact W.vret hx hb hr (fun T9 hT9 hW => ⟨⟨(dg, pl, vl, th, cA, mx, us, so, rr, f1, x), rfl, ⟨rfl, rfl, rfl, rfl, rfl, hc2, fun j h1 h2 => (hI j h1 (by omega)).trans (hmk j)⟩, by rw [hT9]; exact hP, va_K.moved hW.alike hK, hD⟩, hS.F hT9⟩) hS.2.2 dX4_keepFound_48
    · refine lv_aload_n hx hb dX4_keepFound_27 rfl (lv_at hl 1 rfl) ?_
      refine va_get (D := D) (ci := 4) (v := .ref (ad 13)) (C := RX4) (T := TX4) (N := 6) hx hb hts (fun w h => mm (inX4 w h)) hown hK hP 0 dw_desk rfl 4 (by decide) (hts _ (mm wf_X4_32)) (fun _ h9 => h9) rfl dX4_keepFound_28 ?_
      refine lv_iload_n hx hb dX4_keepFound_31 rfl (lv_at hl 0 rfl) ?_
      refine lv_aload_n hx hb dX4_keepFound_32 rfl (lv_at hl 2 rfl) ?_
      refine lv_aload_n hx hb dX4_keepFound_33 rfl (lv_at hl 1 rfl) ?_
      refine va_get (D := D) (ci := 4) (v := .ref (ad 6)) (C := RX4) (T := TX4) (N := 6) hx hb hts (fun w h => mm (inX4 w h)) hown hK hP 0 dw_desk rfl 3 (by decide) (hts _ (mm wf_X4_29)) (fun _ h9 => h9) rfl dX4_keepFound_34 ?_
      refine lv_iload_n hx hb dX4_keepFound_37 rfl (lv_at hl 0 rfl) ?_
      refine sd_ri (va_runV (As := [.ref (ad 6), .int (nI k)]) (rest := [.int (nI k), .ref (ad 13)]) ⟨hx, hb, hml, hown, hts⟩ (k_X3_isMissedBy l D q 2 k hq (by decide) hpl hk.1 c1) (sd_cwV hts wd_X3_isMissedBy wn_X3 wm_X4_165 wi_X3_isMissedBy ws_X3_isMissedBy nq_X3_isMissedBy rfl rfl ⟨Nat.le_of_ble_eq_true rfl, Nat.le_of_ble_eq_true rfl⟩) (sd_preVR hP hK (ci := 3) (q0 := (14 + 3 * q)) rfl rfl (dw_sp hq)) rfl rfl hl.1 rfl (lv_room (Nat.le_of_ble_eq_true rfl)) dX4_keepFound_38 ⟨Nat.zero_le _, Nat.zero_le _⟩) (fun r3 hr3 => ?_)
      subst hr3
      refine sd_zast hx hb hK hP hD hS 13 1 dw_fw rfl (k := k) (by omega) (by decide) (ws2 := dw ad tc dg pl vl th cA mx us so rr (sd_up f1 k (sd_mk (pl q) (th q) (vl q) (cA 2) k)) x) (by rw [sd_stZ]; exact dws_fw _) dX4_keepFound_41 (fun H locs hP hD hS => ?_)
      refine lv_iinc (v := nI (k + 1)) (lv' := [(3, .int (nI (k + 1))), (0, .ref (ad 0)), (2, .ref (ad (14 + 3 * q)))]) hx hb dX4_keepFound_42 hl (k := 0) rfl (nI_1 _) (by decide) rfl (fun ls hl => ?_)
      refine lv_goto (tgt := 21) hx hb dX4_keepFound_45 (by decide) ?_
      exact ih (k := k + 1) (f1 := sd_up f1 k (sd_mk (pl q) (th q) (vl q) (cA 2) k)) (hk := by omega) (hI := fun j h1 h2 => (Classical.em (j = k)).elim (fun ej => by rw [ej, sd_up_s]) (fun ej => by rw [sd_up_n _ _ ej]; exact hI j h1 (by omega))) (H := H) (locs := locs) (hP := hP) (hD := hD) (hS := hS) (ls := ls) (hl := (lv_sub hl [0, 1, 2] rfl)) (hk9 := by omega)
end
section
/-! the reference's cells: 0 the object, 1 degree, 2 size, 3 share, 4 there, 5 inverse, 6 found, 7 wrong, 8 place, 9 chosen, 10 curve, 11 row -/
abbrev aN (c : ClassId) (n : Nat) (f : Nat → Nat) : va_E := .inl (c, n, .inl (fun j => nI (f j)))
abbrev mw (am : Nat → Nat) (tc : Nat → ClassId) (tn : Int32) (mdg msz : Nat → Nat) (msh : Nat → FP) (mth : Nat → Bool) (minv : Nat → FP) (isf : Bool) (fsp : Nat) (mfo : Nat → FP) (mwr : Nat → Bool) (mpl : Nat → Nat) (mny : Nat) (mch : Nat → Nat) (mcu mro : Nat → FP) : va_W :=
  [(am 0, .inr (5, [.int tn, .ref (am 1), .ref (am 2), .ref (am 3), .ref (am 4), .ref (am 5), .int (bI isf), .int (nI fsp), .ref (am 6), .ref (am 7), .ref (am 8), .int (nI mny), .ref (am 9), .ref (am 10), .ref (am 11)])),
   (am 1, aN (tc 2) 8 mdg), (am 2, aN (tc 2) 8 msz), (am 3, aL (tc 0) 136 msh), (am 4, aZ (tc 1) 136 mth), (am 5, aL (tc 0) 17 minv), (am 6, aL (tc 0) 9 mfo), (am 7, aZ (tc 1) 17 mwr), (am 8, aN (tc 2) 16 mpl), (am 9, aN (tc 2) 16 mch), (am 10, aL (tc 0) 9 mcu), (am 11, aL (tc 0) 9 mro)]
theorem sd_stN (f : Nat → Nat) (k x : Nat) : upd (fun j => nI (f j)) k (nI x) = fun j => nI (sd_up f k x j) := by
  funext j
  simp only [upd, sd_up]
  split <;> rfl
theorem sd_fitB (b : Bool) : fits .boolean (.int (bI b)) = true := by cases b <;> rfl
theorem sd_red {n : Nat} (h : n < 2 ^ 64) : (2305843009213693951 ≤ n % 2305843009213693952 + n / 2305843009213693952 → n % 2305843009213693952 + n / 2305843009213693952 - 2305843009213693951 = n % 2305843009213693951) ∧ (¬ 2305843009213693951 ≤ n % 2305843009213693952 + n / 2305843009213693952 → n % 2305843009213693952 + n / 2305843009213693952 = n % 2305843009213693951) := by
  omega
theorem sd_N_red (n : Nat) : lN (n % 2305843009213693951) = sd_L (sd_N n) := rfl
theorem sd_N_add (a b : Nat) : sd_N a + sd_N b = sd_N (a + b) := by
  apply Fin.ext
  show (a % 2305843009213693951 + b % 2305843009213693951) % 2305843009213693951 = (a + b) % 2305843009213693951
  omega
theorem sd_N_val2 (a : FP) : sd_N a.val = a := Fin.ext (Nat.mod_eq_of_lt a.isLt)
theorem sd_N_plus (a b : FP) : sd_N (a.val + b.val) = a + b := Fin.ext rfl
theorem sd_N_minus (a b : FP) : sd_N (a.val + 2305843009213693951 - b.val) = a - b := by
  apply Fin.ext
  have ha := a.isLt
  have hb := b.isLt
  rw [Fin.sub_def]
  show (a.val + 2305843009213693951 - b.val) % 2305843009213693951 = (2305843009213693951 - b.val + a.val) % 2305843009213693951
  omega
theorem sd_N_times (a b : FP) : sd_N (a.val * b.val) = a * b := Fin.ext rfl
theorem sd_N_mod {a b : Nat} (h : a % 2305843009213693951 = b % 2305843009213693951) : sd_N a = sd_N b := Fin.ext h
theorem sd_mo_0 {x : Int64} (h : ¬ x - x / 2305843009213693951 * 2305843009213693951 < 0) : x - x / 2305843009213693951 * 2305843009213693951 = sd_L (sd_of x) := by
  by_cases hn : x < 0
  · refine sd_fm_z ?_
    rw [Int64.lt_iff_toInt_lt, Int64.toInt_zero] at hn h
    rw [sd_rem, sd_tm hn] at h ⊢
    rw [Int64.toInt_ofInt_of_le (by omega) (by omega)] at h
    have e : (-((-x.toInt) % 2305843009213693951) : Int) = 0 := by omega
    rw [e]
    rfl
  · exact sd_fm_0 hn
theorem sd_mo_n {x : Int64} (h : x - x / 2305843009213693951 * 2305843009213693951 < 0) : x - x / 2305843009213693951 * 2305843009213693951 + 2305843009213693951 = sd_L (sd_of x) := by
  by_cases hn : x < 0
  · exact sd_fm_n hn (fun z => by rw [z] at h; exact absurd h (by decide))
  · rw [sd_fm_0 hn] at h
    have hlt := (sd_of x).isLt
    unfold sd_L at h
    rw [Int64.lt_iff_toInt_lt, Int64.toInt_zero, pk_lT (by omega)] at h
    omega
end
section
/-! the reference: numbers -/
set_option maxHeartbeats 1000000 in
set_option maxRecDepth 100000 in
theorem k_X5_reduced (l : Launch)  (n : Nat) (hn : n < 2 ^ 64) : Met l yX5_reduced (Cond.code yX5_reduced cX5_reduced 4 (some .long) :: bg) { frames := 0, cells := 0, slots := 0, locals := 0 } (sd_N0 [.long (lN n)]) (vp_Sl (fun r => r = sd_L (sd_N n))) 0 0 (fun _ => False) := by
  refine Met.ofW (cc := cX5_reduced) (maxL := 4) (ret := some .long) (by decide) rfl ?_
  intro p e s m args below meth c s₁ B hml hv
  obtain ⟨rfl, -⟩ := hv
  have hx := B.exec
  have hb := B.bytes
  have hr := B.returns
  have hts := atoms_spec (ws := Cond.code yX5_reduced cX5_reduced 4 (some .long) :: bg) B.pre
  have hown : s.vm.findClass RX5 = some m.cls := findClass_of_methodNamed B.named
  have hlocks := B.notSynchronized
  have hl := lv_entry ([.long (lN n)]) (n := 4) (Nat.le_of_ble_eq_true rfl)
  rw [lg_entry_eq]
  generalize (lg_sl ([.long (lN n)]) ++ List.replicate (4 - (lg_sl ([.long (lN n)])).length) Slot.unset).toArray = ls at hl ⊢
  replace hl : lv_has ls 4 [(0, .long (lN n))] := hl
  have hrd := sd_red hn
  refine lv_lload_n hx hb dX5_reduced_0 rfl (lv_at hl 0 rfl) ?_
  refine lv_ldc2 (v := lN 2305843009213693951) hx hb hown (hts _ (mm wl_X5_55)) dX5_reduced_1 ?_
  refine sd_land hx hb (k := 61) (by omega) (by decide) (by decide) (v := n % 2305843009213693952) rfl dX5_reduced_4 ?_
  refine lv_lload_n hx hb dX5_reduced_5 rfl (lv_at hl 0 rfl) ?_
  refine lv_bipush (v := nI 61) hx hb dX5_reduced_6 (by decide) ?_
  refine sd_lushr hx hb (by omega) (by decide) (v := n / 2305843009213693952) rfl dX5_reduced_8 ?_
  refine sd_ladd hx hb dX5_reduced_9 ?_
  refine lv_lstore_n (lv' := [(2, .long (lN ((n % 2305843009213693952) + (n / 2305843009213693952)))), (0, .long (lN n))]) hx hb dX5_reduced_10 rfl hl (by decide) rfl (fun ls hl => ?_)
  refine lv_lload_n hx hb dX5_reduced_11 rfl (lv_at hl 0 rfl) ?_
  refine lv_ldc2 (v := lN 2305843009213693951) hx hb hown (hts _ (mm wl_X5_55)) dX5_reduced_12 ?_
  refine W.lcmp hx hb dX5_reduced_15 ?_
  refine lv_if_lt (tgt := 27) hx hb dX5_reduced_16 (by decide) (fun c1 => ?_) (fun c1 => ?_)
  · have c1 : (lN ((n % 2305843009213693952) + (n / 2305843009213693952))) < (lN 2305843009213693951) := (lg_cmp_lt _ _).mp c1
    have c2 := (pk_lLT (by omega) (by decide)).mp c1
    refine lv_lload_n hx hb dX5_reduced_27 rfl (lv_at hl 0 rfl) ?_
    exact W.lret hx hb hr (fun T9 hT9 hW => ⟨_, rfl, (congrArg lN (hrd.2 (by omega))).trans (sd_N_red n), hT9⟩) (fun q h => nomatch h) dX5_reduced_28
  · have c1 : ¬ (lN ((n % 2305843009213693952) + (n / 2305843009213693952))) < (lN 2305843009213693951) := fun q => c1 ((lg_cmp_lt _ _).mpr q)
    have c2 : ¬ n % 2305843009213693952 + n / 2305843009213693952 < 2305843009213693951 := fun q => c1 ((pk_lLT (by omega) (by decide)).mpr q)
    refine lv_lload_n hx hb dX5_reduced_19 rfl (lv_at hl 0 rfl) ?_
    refine lv_ldc2 (v := lN 2305843009213693951) hx hb hown (hts _ (mm wl_X5_55)) dX5_reduced_20 ?_
    refine sd_lsub hx hb (by omega) dX5_reduced_23 ?_
    refine lv_goto (tgt := 28) hx hb dX5_reduced_24 (by decide) ?_
    exact W.lret hx hb hr (fun T9 hT9 hW => ⟨_, rfl, (congrArg lN (hrd.1 (by omega))).trans (sd_N_red n), hT9⟩) (fun q h => nomatch h) dX5_reduced_28

set_option maxHeartbeats 1000000 in
set_option maxRecDepth 100000 in
theorem k_X5_modulo (l : Launch)  (x : Int64)  : Met l yX5_modulo (Cond.code yX5_modulo cX5_modulo 4 (some .long) :: bg) { frames := 0, cells := 0, slots := 0, locals := 0 } (sd_N0 [.long x]) (vp_Sl (fun r => r = sd_L (sd_of x))) 0 0 (fun _ => False) := by
  refine Met.ofW (cc := cX5_modulo) (maxL := 4) (ret := some .long) (by decide) rfl ?_
  intro p e s m args below meth c s₁ B hml hv
  obtain ⟨rfl, -⟩ := hv
  have hx := B.exec
  have hb := B.bytes
  have hr := B.returns
  have hts := atoms_spec (ws := Cond.code yX5_modulo cX5_modulo 4 (some .long) :: bg) B.pre
  have hown : s.vm.findClass RX5 = some m.cls := findClass_of_methodNamed B.named
  have hlocks := B.notSynchronized
  have hl := lv_entry ([.long x]) (n := 4) (Nat.le_of_ble_eq_true rfl)
  rw [lg_entry_eq]
  generalize (lg_sl ([.long x]) ++ List.replicate (4 - (lg_sl ([.long x])).length) Slot.unset).toArray = ls at hl ⊢
  replace hl : lv_has ls 4 [(0, .long x)] := hl
  refine lv_lload_n hx hb dX5_modulo_0 rfl (lv_at hl 0 rfl) ?_
  refine lv_ldc2 (v := 2305843009213693951) hx hb hown (hts _ (mm wl_X5_55)) dX5_modulo_1 ?_
  refine lv_lrem hx hb dX5_modulo_4 (by decide) ?_
  refine lv_lstore_n (lv' := [(2, .long (x - x / 2305843009213693951 * 2305843009213693951)), (0, .long x)]) hx hb dX5_modulo_5 rfl hl (by decide) rfl (fun ls hl => ?_)
  refine lv_lload_n hx hb dX5_modulo_6 rfl (lv_at hl 0 rfl) ?_
  refine lv_lconst (v := 0) hx hb dX5_modulo_7 (by decide) ?_
  refine W.lcmp hx hb dX5_modulo_8 ?_
  refine lv_if_ge (tgt := 20) hx hb dX5_modulo_9 (by decide) (fun c1 => ?_) (fun c1 => ?_)
  · have c1 : 0 ≤ (x - x / 2305843009213693951 * 2305843009213693951) := (lg_cmp_ge _ _).mp c1
    refine lv_lload_n hx hb dX5_modulo_20 rfl (lv_at hl 0 rfl) ?_
    exact W.lret hx hb hr (fun T9 hT9 hW => ⟨_, rfl, sd_mo_0 (lg_le_not_lt c1), hT9⟩) (fun q h => nomatch h) dX5_modulo_21
  · have c1 : ¬ 0 ≤ (x - x / 2305843009213693951 * 2305843009213693951) := fun q => c1 ((lg_cmp_ge _ _).mpr q)
    refine lv_lload_n hx hb dX5_modulo_12 rfl (lv_at hl 0 rfl) ?_
    refine lv_ldc2 (v := 2305843009213693951) hx hb hown (hts _ (mm wl_X5_55)) dX5_modulo_13 ?_
    refine lv_ladd hx hb dX5_modulo_16 ?_
    refine lv_goto (tgt := 21) hx hb dX5_modulo_17 (by decide) ?_
    exact W.lret hx hb hr (fun T9 hT9 hW => ⟨_, rfl, sd_mo_n ((lg_tri _ _).elim id (fun q => absurd (q.elim (fun z => by rw [z]; exact Int64.le_refl _) (fun z => Int64.le_of_lt z)) c1)), hT9⟩) (fun q h => nomatch h) dX5_modulo_21

set_option maxHeartbeats 1000000 in
set_option maxRecDepth 100000 in
theorem k_X5_plus (l : Launch)  (a b : FP)  : Met l yX5_plus (Cond.code yX5_plus cX5_plus 4 (some .long) :: bg) { frames := 1, cells := 0, slots := 0, locals := 27 } (sd_N0 [.long (sd_L a), .long (sd_L b)]) (vp_Sl (fun r => r = sd_L (a + b))) 0 0 (fun _ => False) := by
  refine Met.ofW (cc := cX5_plus) (maxL := 4) (ret := some .long) (by decide) rfl ?_
  intro p e s m args below meth c s₁ B hml hv
  obtain ⟨rfl, -⟩ := hv
  have hx := B.exec
  have hb := B.bytes
  have hr := B.returns
  have hts := atoms_spec (ws := Cond.code yX5_plus cX5_plus 4 (some .long) :: bg) B.pre
  have hown : s.vm.findClass RX5 = some m.cls := findClass_of_methodNamed B.named
  have hlocks := B.notSynchronized
  have hl := lv_entry ([.long (sd_L a), .long (sd_L b)]) (n := 4) (Nat.le_of_ble_eq_true rfl)
  rw [lg_entry_eq]
  generalize (lg_sl ([.long (sd_L a), .long (sd_L b)]) ++ List.replicate (4 - (lg_sl ([.long (sd_L a), .long (sd_L b)])).length) Slot.unset).toArray = ls at hl ⊢
  replace hl : lv_has ls 4 [(0, .long (sd_L a)), (2, .long (sd_L b))] := hl
  have ha := a.isLt
  have hb2 := b.isLt
  replace hl : lv_has ls 4 [(0, .long (lN a.val)), (2, .long (lN b.val))] := hl
  refine lv_lload_n hx hb dX5_plus_0 rfl (lv_at hl 0 rfl) ?_
  refine lv_lload_n hx hb dX5_plus_1 rfl (lv_at hl 1 rfl) ?_
  refine sd_ladd hx hb dX5_plus_2 ?_
  refine sd_rl (va_runS (As := [.long (lN (a.val + b.val))]) (rest := []) ⟨hx, hb, hml, hown, hts⟩ (k_X5_reduced l (a.val + b.val) (by omega)) (sd_cwS hts wd_X5_reduced wn_X5 wm_X5_57 wi_X5_reduced nq_X5_reduced rfl rfl ⟨Nat.le_of_ble_eq_true rfl, Nat.le_of_ble_eq_true rfl⟩) sd_preN rfl rfl hl.1 rfl (lv_room (Nat.le_of_ble_eq_true rfl)) dX5_plus_3 ⟨Nat.zero_le _, Nat.zero_le _⟩) (fun r1 hr1 => ?_)
  subst hr1
  exact W.lret hx hb hr (fun T9 hT9 hW => ⟨_, rfl, by rw [sd_N_plus], hT9⟩) (fun q h => nomatch h) dX5_plus_6

set_option maxHeartbeats 1000000 in
set_option maxRecDepth 100000 in
theorem k_X5_minus (l : Launch)  (a b : FP)  : Met l yX5_minus (Cond.code yX5_minus cX5_minus 4 (some .long) :: bg) { frames := 1, cells := 0, slots := 0, locals := 27 } (sd_N0 [.long (sd_L a), .long (sd_L b)]) (vp_Sl (fun r => r = sd_L (a - b))) 0 0 (fun _ => False) := by
  refine Met.ofW (cc := cX5_minus) (maxL := 4) (ret := some .long) (by decide) rfl ?_
  intro p e s m args below meth c s₁ B hml hv
  obtain ⟨rfl, -⟩ := hv
  have hx := B.exec
  have hb := B.bytes
  have hr := B.returns
  have hts := atoms_spec (ws := Cond.code yX5_minus cX5_minus 4 (some .long) :: bg) B.pre
  have hown : s.vm.findClass RX5 = some m.cls := findClass_of_methodNamed B.named
  have hlocks := B.notSynchronized
  have hl := lv_entry ([.long (sd_L a), .long (sd_L b)]) (n := 4) (Nat.le_of_ble_eq_true rfl)
  rw [lg_entry_eq]
  generalize (lg_sl ([.long (sd_L a), .long (sd_L b)]) ++ List.replicate (4 - (lg_sl ([.long (sd_L a), .long (sd_L b)])).length) Slot.unset).toArray = ls at hl ⊢
  replace hl : lv_has ls 4 [(0, .long (sd_L a)), (2, .long (sd_L b))] := hl
  have ha := a.isLt
  have hb2 := b.isLt
  replace hl : lv_has ls 4 [(0, .long (lN a.val)), (2, .long (lN b.val))] := hl
  refine lv_lload_n hx hb dX5_minus_0 rfl (lv_at hl 0 rfl) ?_
  refine lv_ldc2 (v := lN 2305843009213693951) hx hb hown (hts _ (mm wl_X5_55)) dX5_minus_1 ?_
  refine sd_ladd hx hb dX5_minus_4 ?_
  refine lv_lload_n hx hb dX5_minus_5 rfl (lv_at hl 1 rfl) ?_
  refine sd_lsub hx hb (by omega) dX5_minus_6 ?_
  refine sd_rl (va_runS (As := [.long (lN ((a.val + 2305843009213693951) - b.val))]) (rest := []) ⟨hx, hb, hml, hown, hts⟩ (k_X5_reduced l (a.val + 2305843009213693951 - b.val) (by omega)) (sd_cwS hts wd_X5_reduced wn_X5 wm_X5_57 wi_X5_reduced nq_X5_reduced rfl rfl ⟨Nat.le_of_ble_eq_true rfl, Nat.le_of_ble_eq_true rfl⟩) sd_preN rfl rfl hl.1 rfl (lv_room (Nat.le_of_ble_eq_true rfl)) dX5_minus_7 ⟨Nat.zero_le _, Nat.zero_le _⟩) (fun r1 hr1 => ?_)
  subst hr1
  exact W.lret hx hb hr (fun T9 hT9 hW => ⟨_, rfl, by rw [sd_N_minus], hT9⟩) (fun q h => nomatch h) dX5_minus_10

set_option maxHeartbeats 1000000 in
set_option maxRecDepth 100000 in
theorem k_X5_times (l : Launch)  (a b : FP)  : Met l yX5_times (Cond.code yX5_times cX5_times 16 (some .long) :: bg) { frames := 2, cells := 0, slots := 0, locals := 54 } (sd_N0 [.long (sd_L a), .long (sd_L b)]) (vp_Sl (fun r => r = sd_L (a * b))) 0 0 (fun _ => False) := by
  refine Met.ofW (cc := cX5_times) (maxL := 16) (ret := some .long) (by decide) rfl ?_
  intro p e s m args below meth c s₁ B hml hv
  obtain ⟨rfl, -⟩ := hv
  have hx := B.exec
  have hb := B.bytes
  have hr := B.returns
  have hts := atoms_spec (ws := Cond.code yX5_times cX5_times 16 (some .long) :: bg) B.pre
  have hown : s.vm.findClass RX5 = some m.cls := findClass_of_methodNamed B.named
  have hlocks := B.notSynchronized
  have hl := lv_entry ([.long (sd_L a), .long (sd_L b)]) (n := 16) (Nat.le_of_ble_eq_true rfl)
  rw [lg_entry_eq]
  generalize (lg_sl ([.long (sd_L a), .long (sd_L b)]) ++ List.replicate (16 - (lg_sl ([.long (sd_L a), .long (sd_L b)])).length) Slot.unset).toArray = ls at hl ⊢
  replace hl : lv_has ls 16 [(0, .long (sd_L a)), (2, .long (sd_L b))] := hl
  have ha := a.isLt
  have hb2 := b.isLt
  have hTT := sd_times_nat ha hb2
  have g1 : a.val / 2147483648 < 1073741824 := by omega
  have g2 : b.val / 2147483648 < 1073741824 := by omega
  have g3 : a.val % 2147483648 < 2147483648 := by omega
  have g4 : b.val % 2147483648 < 2147483648 := by omega
  replace hl : lv_has ls 16 [(0, .long (lN a.val)), (2, .long (lN b.val))] := hl
  have m3 : 2 * (a.val / 2147483648) * (b.val / 2147483648) < 2 ^ 63 := by omega
  have m4 : (a.val % 2147483648) * (b.val % 2147483648) < 2 ^ 63 := by omega
  refine lv_lload_n hx hb dX5_times_0 rfl (lv_at hl 0 rfl) ?_
  refine lv_ldc2 (v := lN 2147483647) hx hb hown (hts _ (mm wl_X5_61)) dX5_times_1 ?_
  refine sd_land hx hb (k := 31) (by omega) (by decide) (by decide) (v := a.val % 2147483648) rfl dX5_times_4 ?_
  refine lv_lstore (lv' := [(4, .long (lN (a.val % 2147483648))), (0, .long (lN a.val)), (2, .long (lN b.val))]) hx hb dX5_times_5 hl (by decide) rfl (fun ls hl => ?_)
  refine lv_lload_n hx hb dX5_times_7 rfl (lv_at hl 1 rfl) ?_
  refine lv_bipush (v := nI 31) hx hb dX5_times_8 (by decide) ?_
  refine sd_lushr hx hb (by omega) (by decide) (v := a.val / 2147483648) rfl dX5_times_10 ?_
  refine lv_lstore (lv' := [(6, .long (lN (a.val / 2147483648))), (4, .long (lN (a.val % 2147483648))), (0, .long (lN a.val)), (2, .long (lN b.val))]) hx hb dX5_times_11 hl (by decide) rfl (fun ls hl => ?_)
  refine lv_lload_n hx hb dX5_times_13 rfl (lv_at hl 3 rfl) ?_
  refine lv_ldc2 (v := lN 2147483647) hx hb hown (hts _ (mm wl_X5_61)) dX5_times_14 ?_
  refine sd_land hx hb (k := 31) (by omega) (by decide) (by decide) (v := b.val % 2147483648) rfl dX5_times_17 ?_
  refine lv_lstore (lv' := [(8, .long (lN (b.val % 2147483648))), (6, .long (lN (a.val / 2147483648))), (4, .long (lN (a.val % 2147483648))), (0, .long (lN a.val)), (2, .long (lN b.val))]) hx hb dX5_times_18 hl (by decide) rfl (fun ls hl => ?_)
  refine lv_lload_n hx hb dX5_times_20 rfl (lv_at hl 4 rfl) ?_
  refine lv_bipush (v := nI 31) hx hb dX5_times_21 (by decide) ?_
  refine sd_lushr hx hb (by omega) (by decide) (v := b.val / 2147483648) rfl dX5_times_23 ?_
  refine lv_lstore (lv' := [(10, .long (lN (b.val / 2147483648))), (8, .long (lN (b.val % 2147483648))), (6, .long (lN (a.val / 2147483648))), (4, .long (lN (a.val % 2147483648))), (0, .long (lN a.val)), (2, .long (lN b.val))]) hx hb dX5_times_24 hl (by decide) rfl (fun ls hl => ?_)
  refine lv_lload hx hb dX5_times_26 (lv_at hl 2 rfl) ?_
  refine lv_lload hx hb dX5_times_28 (lv_at hl 1 rfl) ?_
  refine sd_lmul hx hb dX5_times_30 ?_
  refine lv_lload hx hb dX5_times_31 (lv_at hl 3 rfl) ?_
  refine lv_lload hx hb dX5_times_33 (lv_at hl 0 rfl) ?_
  refine sd_lmul hx hb dX5_times_35 ?_
  refine sd_ladd hx hb dX5_times_36 ?_
  refine lv_lstore (lv' := [(12, .long (lN (((a.val / 2147483648) * (b.val % 2147483648)) + ((a.val % 2147483648) * (b.val / 2147483648))))), (10, .long (lN (b.val / 2147483648))), (8, .long (lN (b.val % 2147483648))), (6, .long (lN (a.val / 2147483648))), (4, .long (lN (a.val % 2147483648))), (0, .long (lN a.val)), (2, .long (lN b.val))]) hx hb dX5_times_37 hl (by decide) rfl (fun ls hl => ?_)
  refine lv_ldc2 (v := lN 2) hx hb hown (hts _ (mm wl_X5_63)) dX5_times_39 ?_
  refine lv_lload hx hb dX5_times_42 (lv_at hl 3 rfl) ?_
  refine sd_lmul hx hb dX5_times_44 ?_
  refine lv_lload hx hb dX5_times_45 (lv_at hl 1 rfl) ?_
  refine sd_lmul hx hb dX5_times_47 ?_
  refine sd_rl (va_runS (As := [.long (lN ((2 * (a.val / 2147483648)) * (b.val / 2147483648)))]) (rest := []) ⟨hx, hb, hml, hown, hts⟩ (k_X5_reduced l ((2 * (a.val / 2147483648)) * (b.val / 2147483648)) (by omega)) (sd_cwS hts wd_X5_reduced wn_X5 wm_X5_57 wi_X5_reduced nq_X5_reduced rfl rfl ⟨Nat.le_of_ble_eq_true rfl, Nat.le_of_ble_eq_true rfl⟩) sd_preN rfl rfl hl.1 rfl (lv_room (Nat.le_of_ble_eq_true rfl)) dX5_times_48 ⟨Nat.zero_le _, Nat.zero_le _⟩) (fun r1 hr1 => ?_)
  subst hr1
  refine lv_lload hx hb dX5_times_51 (lv_at hl 0 rfl) ?_
  refine lv_bipush (v := nI 30) hx hb dX5_times_53 (by decide) ?_
  refine sd_lushr hx hb (by omega) (by decide) (v := (((a.val / 2147483648) * (b.val % 2147483648)) + ((a.val % 2147483648) * (b.val / 2147483648))) / 1073741824) rfl dX5_times_55 ?_
  refine sd_tol (y := sd_L (sd_N ((((a.val / 2147483648) * (b.val % 2147483648)) + ((a.val % 2147483648) * (b.val / 2147483648))) / 1073741824))) ((sd_N_L (by omega)).symm) ?_
  refine sd_rl (va_runS (As := [.long (sd_L (sd_N ((2 * (a.val / 2147483648)) * (b.val / 2147483648)))), .long (sd_L (sd_N ((((a.val / 2147483648) * (b.val % 2147483648)) + ((a.val % 2147483648) * (b.val / 2147483648))) / 1073741824)))]) (rest := []) ⟨hx, hb, hml, hown, hts⟩ (k_X5_plus l (sd_N ((2 * (a.val / 2147483648)) * (b.val / 2147483648))) (sd_N ((((a.val / 2147483648) * (b.val % 2147483648)) + ((a.val % 2147483648) * (b.val / 2147483648))) / 1073741824))) (sd_cwS hts wd_X5_plus wn_X5 wm_X5_65 wi_X5_plus nq_X5_plus rfl rfl ⟨Nat.le_of_ble_eq_true rfl, Nat.le_of_ble_eq_true rfl⟩) sd_preN rfl rfl hl.1 rfl (lv_room (Nat.le_of_ble_eq_true rfl)) dX5_times_56 ⟨Nat.zero_le _, Nat.zero_le _⟩) (fun r2 hr2 => ?_)
  subst hr2
  refine lv_lstore (lv' := [(14, .long (sd_L ((sd_N ((2 * (a.val / 2147483648)) * (b.val / 2147483648))) + (sd_N ((((a.val / 2147483648) * (b.val % 2147483648)) + ((a.val % 2147483648) * (b.val / 2147483648))) / 1073741824))))), (12, .long (lN (((a.val / 2147483648) * (b.val % 2147483648)) + ((a.val % 2147483648) * (b.val / 2147483648))))), (10, .long (lN (b.val / 2147483648))), (8, .long (lN (b.val % 2147483648))), (6, .long (lN (a.val / 2147483648))), (4, .long (lN (a.val % 2147483648))), (0, .long (lN a.val)), (2, .long (lN b.val))]) hx hb dX5_times_59 hl (by decide) rfl (fun ls hl => ?_)
  refine lv_lload hx hb dX5_times_61 (lv_at hl 0 rfl) ?_
  refine lv_lload hx hb dX5_times_63 (lv_at hl 1 rfl) ?_
  refine lv_ldc2 (v := lN 1073741823) hx hb hown (hts _ (mm wl_X5_68)) dX5_times_65 ?_
  refine sd_land hx hb (k := 30) (by omega) (by decide) (by decide) (v := (((a.val / 2147483648) * (b.val % 2147483648)) + ((a.val % 2147483648) * (b.val / 2147483648))) % 1073741824) rfl dX5_times_68 ?_
  refine lv_bipush (v := nI 31) hx hb dX5_times_69 (by decide) ?_
  refine sd_lshl hx hb (by decide) (v := ((((a.val / 2147483648) * (b.val % 2147483648)) + ((a.val % 2147483648) * (b.val / 2147483648))) % 1073741824) * 2147483648) rfl dX5_times_71 ?_
  refine sd_rl (va_runS (As := [.long (lN (((((a.val / 2147483648) * (b.val % 2147483648)) + ((a.val % 2147483648) * (b.val / 2147483648))) % 1073741824) * 2147483648))]) (rest := [.long (sd_L ((sd_N ((2 * (a.val / 2147483648)) * (b.val / 2147483648))) + (sd_N ((((a.val / 2147483648) * (b.val % 2147483648)) + ((a.val % 2147483648) * (b.val / 2147483648))) / 1073741824))))]) ⟨hx, hb, hml, hown, hts⟩ (k_X5_reduced l (((((a.val / 2147483648) * (b.val % 2147483648)) + ((a.val % 2147483648) * (b.val / 2147483648))) % 1073741824) * 2147483648) (by omega)) (sd_cwS hts wd_X5_reduced wn_X5 wm_X5_57 wi_X5_reduced nq_X5_reduced rfl rfl ⟨Nat.le_of_ble_eq_true rfl, Nat.le_of_ble_eq_true rfl⟩) sd_preN rfl rfl hl.1 rfl (lv_room (Nat.le_of_ble_eq_true rfl)) dX5_times_72 ⟨Nat.zero_le _, Nat.zero_le _⟩) (fun r3 hr3 => ?_)
  subst hr3
  refine sd_rl (va_runS (As := [.long (sd_L ((sd_N ((2 * (a.val / 2147483648)) * (b.val / 2147483648))) + (sd_N ((((a.val / 2147483648) * (b.val % 2147483648)) + ((a.val % 2147483648) * (b.val / 2147483648))) / 1073741824)))), .long (sd_L (sd_N (((((a.val / 2147483648) * (b.val % 2147483648)) + ((a.val % 2147483648) * (b.val / 2147483648))) % 1073741824) * 2147483648)))]) (rest := []) ⟨hx, hb, hml, hown, hts⟩ (k_X5_plus l ((sd_N ((2 * (a.val / 2147483648)) * (b.val / 2147483648))) + (sd_N ((((a.val / 2147483648) * (b.val % 2147483648)) + ((a.val % 2147483648) * (b.val / 2147483648))) / 1073741824))) (sd_N (((((a.val / 2147483648) * (b.val % 2147483648)) + ((a.val % 2147483648) * (b.val / 2147483648))) % 1073741824) * 2147483648))) (sd_cwS hts wd_X5_plus wn_X5 wm_X5_65 wi_X5_plus nq_X5_plus rfl rfl ⟨Nat.le_of_ble_eq_true rfl, Nat.le_of_ble_eq_true rfl⟩) sd_preN rfl rfl hl.1 rfl (lv_room (Nat.le_of_ble_eq_true rfl)) dX5_times_75 ⟨Nat.zero_le _, Nat.zero_le _⟩) (fun r4 hr4 => ?_)
  subst hr4
  refine lv_lstore (lv' := [(14, .long (sd_L (((sd_N ((2 * (a.val / 2147483648)) * (b.val / 2147483648))) + (sd_N ((((a.val / 2147483648) * (b.val % 2147483648)) + ((a.val % 2147483648) * (b.val / 2147483648))) / 1073741824))) + (sd_N (((((a.val / 2147483648) * (b.val % 2147483648)) + ((a.val % 2147483648) * (b.val / 2147483648))) % 1073741824) * 2147483648))))), (12, .long (lN (((a.val / 2147483648) * (b.val % 2147483648)) + ((a.val % 2147483648) * (b.val / 2147483648))))), (10, .long (lN (b.val / 2147483648))), (8, .long (lN (b.val % 2147483648))), (6, .long (lN (a.val / 2147483648))), (4, .long (lN (a.val % 2147483648))), (0, .long (lN a.val)), (2, .long (lN b.val))]) hx hb dX5_times_78 hl (by decide) rfl (fun ls hl => ?_)
  refine lv_lload hx hb dX5_times_80 (lv_at hl 0 rfl) ?_
  refine lv_lload hx hb dX5_times_82 (lv_at hl 5 rfl) ?_
  refine lv_lload hx hb dX5_times_84 (lv_at hl 3 rfl) ?_
  refine sd_lmul hx hb dX5_times_86 ?_
  refine sd_rl (va_runS (As := [.long (lN ((a.val % 2147483648) * (b.val % 2147483648)))]) (rest := [.long (sd_L (((sd_N ((2 * (a.val / 2147483648)) * (b.val / 2147483648))) + (sd_N ((((a.val / 2147483648) * (b.val % 2147483648)) + ((a.val % 2147483648) * (b.val / 2147483648))) / 1073741824))) + (sd_N (((((a.val / 2147483648) * (b.val % 2147483648)) + ((a.val % 2147483648) * (b.val / 2147483648))) % 1073741824) * 2147483648))))]) ⟨hx, hb, hml, hown, hts⟩ (k_X5_reduced l ((a.val % 2147483648) * (b.val % 2147483648)) (by omega)) (sd_cwS hts wd_X5_reduced wn_X5 wm_X5_57 wi_X5_reduced nq_X5_reduced rfl rfl ⟨Nat.le_of_ble_eq_true rfl, Nat.le_of_ble_eq_true rfl⟩) sd_preN rfl rfl hl.1 rfl (lv_room (Nat.le_of_ble_eq_true rfl)) dX5_times_87 ⟨Nat.zero_le _, Nat.zero_le _⟩) (fun r5 hr5 => ?_)
  subst hr5
  refine sd_rl (va_runS (As := [.long (sd_L (((sd_N ((2 * (a.val / 2147483648)) * (b.val / 2147483648))) + (sd_N ((((a.val / 2147483648) * (b.val % 2147483648)) + ((a.val % 2147483648) * (b.val / 2147483648))) / 1073741824))) + (sd_N (((((a.val / 2147483648) * (b.val % 2147483648)) + ((a.val % 2147483648) * (b.val / 2147483648))) % 1073741824) * 2147483648)))), .long (sd_L (sd_N ((a.val % 2147483648) * (b.val % 2147483648))))]) (rest := []) ⟨hx, hb, hml, hown, hts⟩ (k_X5_plus l (((sd_N ((2 * (a.val / 2147483648)) * (b.val / 2147483648))) + (sd_N ((((a.val / 2147483648) * (b.val % 2147483648)) + ((a.val % 2147483648) * (b.val / 2147483648))) / 1073741824))) + (sd_N (((((a.val / 2147483648) * (b.val % 2147483648)) + ((a.val % 2147483648) * (b.val / 2147483648))) % 1073741824) * 2147483648))) (sd_N ((a.val % 2147483648) * (b.val % 2147483648)))) (sd_cwS hts wd_X5_plus wn_X5 wm_X5_65 wi_X5_plus nq_X5_plus rfl rfl ⟨Nat.le_of_ble_eq_true rfl, Nat.le_of_ble_eq_true rfl⟩) sd_preN rfl rfl hl.1 rfl (lv_room (Nat.le_of_ble_eq_true rfl)) dX5_times_90 ⟨Nat.zero_le _, Nat.zero_le _⟩) (fun r6 hr6 => ?_)
  subst hr6
  exact W.lret hx hb hr (fun T9 hT9 hW => ⟨_, rfl, by rw [sd_N_add, sd_N_add, sd_N_add, ← sd_N_times a b]; exact congrArg sd_L (sd_N_mod ((congrArg (fun z => z % 2305843009213693951) (by omega)).trans hTT.1)), hT9⟩) (fun q h => nomatch h) dX5_times_93

theorem sd_pow_sq (b : FP) : ∀ n, sd_pow (b * b) n = sd_pow b (2 * n) := by
  intro n
  induction n with
  | zero => rfl
  | succ n ih =>
    rw [sd_pow_s, ih, show 2 * (n + 1) = 2 * n + 1 + 1 by omega, sd_pow_s, sd_pow_s]
    grind
theorem sd_lshr1 {a : Nat} (h : a < 2 ^ 62) : lN a >>> ((nI 1).toInt64 &&& 63) = lN (a / 2) := by
  rw [pf_shr (d := 1) (by decide +kernel) h, Nat.pow_one]

set_option maxHeartbeats 1000000 in
set_option maxRecDepth 100000 in
theorem k_X5_power (l : Launch)  (x : FP) (n : Nat) (hn : n < 2 ^ 62) : Met l yX5_power (Cond.code yX5_power cX5_power 10 (some .long) :: bg) { frames := 3, cells := 0, slots := 0, locals := 89 } (sd_N0 [.long (sd_L x), .long (lN n)]) (vp_Sl (fun r => r = sd_L (sd_pow x n))) 0 0 (fun _ => False) := by
  refine Met.ofW (cc := cX5_power) (maxL := 10) (ret := some .long) (by decide) rfl ?_
  intro p e s m args below meth c s₁ B hml hv
  obtain ⟨rfl, -⟩ := hv
  have hx := B.exec
  have hb := B.bytes
  have hr := B.returns
  have hts := atoms_spec (ws := Cond.code yX5_power cX5_power 10 (some .long) :: bg) B.pre
  have hown : s.vm.findClass RX5 = some m.cls := findClass_of_methodNamed B.named
  have hlocks := B.notSynchronized
  have hl := lv_entry ([.long (sd_L x), .long (lN n)]) (n := 10) (Nat.le_of_ble_eq_true rfl)
  rw [lg_entry_eq]
  generalize (lg_sl ([.long (sd_L x), .long (lN n)]) ++ List.replicate (10 - (lg_sl ([.long (sd_L x), .long (lN n)])).length) Slot.unset).toArray = ls at hl ⊢
  replace hl : lv_has ls 10 [(0, .long (sd_L x)), (2, .long (lN n))] := hl
  refine lv_lconst (v := 1) hx hb dX5_power_0 (by decide) ?_
  refine sd_tol (y := sd_L 1) sd_L_1.symm ?_
  refine lv_lstore (lv' := [(4, .long (sd_L 1)), (0, .long (sd_L x)), (2, .long (lN n))]) hx hb dX5_power_1 hl (by decide) rfl (fun ls hl => ?_)
  refine lv_lload_n hx hb dX5_power_3 rfl (lv_at hl 1 rfl) ?_
  refine lv_lstore (lv' := [(6, .long (sd_L x)), (4, .long (sd_L 1)), (0, .long (sd_L x)), (2, .long (lN n))]) hx hb dX5_power_4 hl (by decide) rfl (fun ls hl => ?_)
  refine lv_lload_n hx hb dX5_power_6 rfl (lv_at hl 3 rfl) ?_
  refine lv_lstore (lv' := [(8, .long (lN n)), (6, .long (sd_L x)), (4, .long (sd_L 1)), (0, .long (sd_L x)), (2, .long (lN n))]) hx hb dX5_power_7 hl (by decide) rfl (fun ls hl => ?_)
  obtain ⟨e1, b, v, he, hI, hl9⟩ : ∃ (e1 : Nat) (b : FP) (v : FP), (e1 ≤ n) ∧ (v * sd_pow b e1 = sd_pow x n) ∧ lv_has ls 10 [(8, .long (lN e1)), (6, .long (sd_L b)), (4, .long (sd_L v))] := ⟨n, x, 1, Nat.le_refl n, by grind, (lv_sub hl [0, 1, 2] rfl)⟩
  replace hl := hl9
  clear hl9
  obtain ⟨k9, hk9⟩ : ∃ k9 : Nat, e1 < k9 := ⟨n + 1, by omega⟩
  induction k9 generalizing e1 b v ls with
  | zero => exact absurd hk9 (by omega)
  | succ k9 ih =>
    refine lv_lload hx hb dX5_power_9 (lv_at hl 0 rfl) ?_
    refine lv_lconst (v := 0) hx hb dX5_power_11 (by decide) ?_
    refine W.lcmp hx hb dX5_power_12 ?_
    refine lv_if_le (tgt := 52) hx hb dX5_power_13 (by decide) (fun c1 => ?_) (fun c1 => ?_)
    · have c1 : (lN e1) ≤ 0 := (lg_cmp_le _ _).mp c1
      have e0 : e1 = 0 := by have z := (pk_lLE (a := e1) (b := 0) (by omega) (by decide)).mp c1; omega
      subst e0
      refine lv_lload hx hb dX5_power_52 (lv_at hl 2 rfl) ?_
      exact W.lret hx hb hr (fun T9 hT9 hW => ⟨_, rfl, by rw [← hI, sd_pow_0]; exact congrArg sd_L (by grind), hT9⟩) (fun q h => nomatch h) dX5_power_54
    · have c1 : ¬ (lN e1) ≤ 0 := fun q => c1 ((lg_cmp_le _ _).mpr q)
      have e0 : e1 ≠ 0 := fun z => c1 (by rw [z]; exact Int64.le_refl _)
      refine lv_lload hx hb dX5_power_16 (lv_at hl 0 rfl) ?_
      refine lv_lconst (v := 1) hx hb dX5_power_18 (by decide) ?_
      refine sd_land hx hb (k := 1) (n := e1) (M := 1) (by omega) (by decide) rfl (v := e1 % 2) rfl dX5_power_19 ?_
      refine lv_lconst (v := 1) hx hb dX5_power_20 (by decide) ?_
      refine W.lcmp hx hb dX5_power_21 ?_
      refine lv_if_ne (tgt := 34) hx hb dX5_power_22 (by decide) (fun c2 => ?_) (fun c2 => ?_)
      · have c2 : ¬ (lN (e1 % 2)) = 1 := fun q => c2 ((lg_cmp_eq _ _).mpr q)
        have o1 : e1 % 2 = 0 := by
          rcases Nat.mod_two_eq_zero_or_one e1 with z | z
          · exact z
          · exact absurd (by rw [z]; rfl) c2
        refine lv_lload hx hb dX5_power_34 (lv_at hl 1 rfl) ?_
        refine lv_lload hx hb dX5_power_36 (lv_at hl 1 rfl) ?_
        refine sd_rl (va_runS (As := [.long (sd_L b), .long (sd_L b)]) (rest := []) ⟨hx, hb, hml, hown, hts⟩ (k_X5_times l b b) (sd_cwS hts wd_X5_times wn_X5 wm_X5_70 wi_X5_times nq_X5_times rfl rfl ⟨Nat.le_of_ble_eq_true rfl, Nat.le_of_ble_eq_true rfl⟩) sd_preN rfl rfl hl.1 rfl (lv_room (Nat.le_of_ble_eq_true rfl)) dX5_power_38 ⟨Nat.zero_le _, Nat.zero_le _⟩) (fun r1 hr1 => ?_)
        subst hr1
        refine lv_lstore (lv' := [(6, .long (sd_L (b * b))), (8, .long (lN e1)), (4, .long (sd_L v))]) hx hb dX5_power_41 hl (by decide) rfl (fun ls hl => ?_)
        refine lv_lload hx hb dX5_power_43 (lv_at hl 1 rfl) ?_
        refine lv_iconst (v := nI 1) hx hb dX5_power_45 (by decide) ?_
        refine lv_lshr (v := lN (e1 / 2)) hx hb dX5_power_46 (sd_lshr1 (by omega)) ?_
        refine lv_lstore (lv' := [(8, .long (lN (e1 / 2))), (6, .long (sd_L (b * b))), (4, .long (sd_L v))]) hx hb dX5_power_47 hl (by decide) rfl (fun ls hl => ?_)
        refine lv_goto (tgt := 9) hx hb dX5_power_49 (by decide) ?_
        exact ih (e1 := e1 / 2) (b := b * b) (v := v) (he := by omega) (hI := by rw [sd_pow_sq, show 2 * (e1 / 2) = e1 by omega]; exact hI) (ls := ls) (hl := (lv_sub hl [0, 1, 2] rfl)) (hk9 := by omega)
      · have c2 : (lN (e1 % 2)) = 1 := (lg_cmp_eq _ _).mp c2
        have o1 : e1 % 2 = 1 := (pk_lEQ (a := e1 % 2) (b := 1) (by omega) (by decide)).mp c2
        refine lv_lload hx hb dX5_power_25 (lv_at hl 2 rfl) ?_
        refine lv_lload hx hb dX5_power_27 (lv_at hl 1 rfl) ?_
        refine sd_rl (va_runS (As := [.long (sd_L v), .long (sd_L b)]) (rest := []) ⟨hx, hb, hml, hown, hts⟩ (k_X5_times l v b) (sd_cwS hts wd_X5_times wn_X5 wm_X5_70 wi_X5_times nq_X5_times rfl rfl ⟨Nat.le_of_ble_eq_true rfl, Nat.le_of_ble_eq_true rfl⟩) sd_preN rfl rfl hl.1 rfl (lv_room (Nat.le_of_ble_eq_true rfl)) dX5_power_29 ⟨Nat.zero_le _, Nat.zero_le _⟩) (fun r2 hr2 => ?_)
        subst hr2
        refine lv_lstore (lv' := [(4, .long (sd_L (v * b))), (8, .long (lN e1)), (6, .long (sd_L b))]) hx hb dX5_power_32 hl (by decide) rfl (fun ls hl => ?_)
        refine lv_lload hx hb dX5_power_34 (lv_at hl 2 rfl) ?_
        refine lv_lload hx hb dX5_power_36 (lv_at hl 2 rfl) ?_
        refine sd_rl (va_runS (As := [.long (sd_L b), .long (sd_L b)]) (rest := []) ⟨hx, hb, hml, hown, hts⟩ (k_X5_times l b b) (sd_cwS hts wd_X5_times wn_X5 wm_X5_70 wi_X5_times nq_X5_times rfl rfl ⟨Nat.le_of_ble_eq_true rfl, Nat.le_of_ble_eq_true rfl⟩) sd_preN rfl rfl hl.1 rfl (lv_room (Nat.le_of_ble_eq_true rfl)) dX5_power_38 ⟨Nat.zero_le _, Nat.zero_le _⟩) (fun r3 hr3 => ?_)
        subst hr3
        refine lv_lstore (lv' := [(6, .long (sd_L (b * b))), (4, .long (sd_L (v * b))), (8, .long (lN e1))]) hx hb dX5_power_41 hl (by decide) rfl (fun ls hl => ?_)
        refine lv_lload hx hb dX5_power_43 (lv_at hl 2 rfl) ?_
        refine lv_iconst (v := nI 1) hx hb dX5_power_45 (by decide) ?_
        refine lv_lshr (v := lN (e1 / 2)) hx hb dX5_power_46 (sd_lshr1 (by omega)) ?_
        refine lv_lstore (lv' := [(8, .long (lN (e1 / 2))), (6, .long (sd_L (b * b))), (4, .long (sd_L (v * b)))]) hx hb dX5_power_47 hl (by decide) rfl (fun ls hl => ?_)
        refine lv_goto (tgt := 9) hx hb dX5_power_49 (by decide) ?_
        exact ih (e1 := e1 / 2) (b := b * b) (v := v * b) (he := by omega) (hI := by rw [sd_pow_sq, ← hI, show e1 = 2 * (e1 / 2) + 1 by omega, sd_pow_s, show (2 * (e1 / 2) + 1) / 2 = e1 / 2 by omega]; grind) (ls := ls) (hl := (lv_sub hl [0, 1, 2] rfl)) (hk9 := by omega)
end
section
/-! the reference: what its methods do -/
abbrev MS : Type := Int32 × (Nat → Nat) × (Nat → Nat) × (Nat → FP) × (Nat → Bool) × (Nat → FP) × Bool × Nat × (Nat → FP) × (Nat → Bool) × (Nat → Nat) × Nat × (Nat → Nat) × (Nat → FP) × (Nat → FP)
abbrev rtn (u : MS) : Int32 := u.1
abbrev rdg (u : MS) : Nat → Nat := u.2.1
abbrev rsz (u : MS) : Nat → Nat := u.2.2.1
abbrev rsh (u : MS) : Nat → FP := u.2.2.2.1
abbrev rth (u : MS) : Nat → Bool := u.2.2.2.2.1
abbrev riv (u : MS) : Nat → FP := u.2.2.2.2.2.1
abbrev rif (u : MS) : Bool := u.2.2.2.2.2.2.1
abbrev rfs (u : MS) : Nat := u.2.2.2.2.2.2.2.1
abbrev rfo (u : MS) : Nat → FP := u.2.2.2.2.2.2.2.2.1
abbrev rwr (u : MS) : Nat → Bool := u.2.2.2.2.2.2.2.2.2.1
abbrev mwt (am : Nat → Nat) (tc : Nat → ClassId) (u : MS) : va_W := mw am tc u.1 u.2.1 u.2.2.1 u.2.2.2.1 u.2.2.2.2.1 u.2.2.2.2.2.1 u.2.2.2.2.2.2.1 u.2.2.2.2.2.2.2.1 u.2.2.2.2.2.2.2.2.1 u.2.2.2.2.2.2.2.2.2.1 u.2.2.2.2.2.2.2.2.2.2.1 u.2.2.2.2.2.2.2.2.2.2.2.1 u.2.2.2.2.2.2.2.2.2.2.2.2.1 u.2.2.2.2.2.2.2.2.2.2.2.2.2.1 u.2.2.2.2.2.2.2.2.2.2.2.2.2.2
def m_fs (v u : MS) : Prop := rif u = rif v ∧ rfs u = rfs v ∧ rfo u = rfo v ∧ rwr u = rwr v ∧ riv u = riv v
def m_same (v u : MS) : Prop := rdg u = rdg v ∧ rsz u = rsz v ∧ rsh u = rsh v ∧ rth u = rth v ∧ m_fs v u
def M_put (x y : Int32) (v : Int64) (a : MS) (r : Int32) (u : MS) : Prop :=
  (∃ q k, q < 8 ∧ x = nI q ∧ 1 ≤ k ∧ k ≤ rsz a q ∧ y = nI k ∧ r = nI 1 ∧ rdg u = rdg a ∧ rsz u = rsz a ∧ rsh u = sd_up (rsh a) (17 * q + k) (sd_of v) ∧ rth u = sd_up (rth a) (17 * q + k) true ∧ m_fs a u) ∨
  ((¬ ∃ q k, q < 8 ∧ x = nI q ∧ 1 ≤ k ∧ k ≤ rsz a q ∧ y = nI k) ∧ r = nI 0 ∧ m_same a u)
def M_lose (x y : Int32) (a : MS) (r : Int32) (u : MS) : Prop :=
  (∃ q k, q < 8 ∧ x = nI q ∧ 1 ≤ k ∧ k ≤ rsz a q ∧ y = nI k ∧ rth a (17 * q + k) = true ∧ r = nI 1 ∧ rdg u = rdg a ∧ rsz u = rsz a ∧ rsh u = rsh a ∧ rth u = sd_up (rth a) (17 * q + k) false ∧ m_fs a u) ∨
  ((¬ ∃ q k, q < 8 ∧ x = nI q ∧ 1 ≤ k ∧ k ≤ rsz a q ∧ y = nI k ∧ rth a (17 * q + k) = true) ∧ r = nI 0 ∧ m_same a u)
def M_scale (x : Int32) (v w : Int64) (a : MS) (r : Int32) (u : MS) : Prop :=
  (∃ q, q < 8 ∧ x = nI q ∧ r = nI 1 ∧ rdg u = rdg a ∧ rsz u = rsz a ∧ rth u = rth a ∧ m_fs a u ∧ ∀ i, rsh u i = (if 17 * q + 1 ≤ i ∧ i ≤ 17 * q + rsz a q then rsh a i * sd_of v + sd_of w else rsh a i)) ∨
  ((¬ ∃ q, q < 8 ∧ x = nI q) ∧ r = nI 0 ∧ m_same a u)
def M_renew (x : Int32) (seed : Int64) (a : MS) (r : Int32) (u : MS) : Prop :=
  (∃ q, q < 8 ∧ x = nI q ∧ r = nI 1 ∧ rdg u = rdg a ∧ rsz u = rsz a ∧ rth u = rth a ∧ m_fs a u ∧ ∀ i, rsh u i = (if 17 * q + 1 ≤ i ∧ i ≤ 17 * q + rsz a q then rsh a i + sd_ev (sd_dr 0 (rdg a q) seed) (sd_N (i - 17 * q)) else rsh a i)) ∨
  ((¬ ∃ q, q < 8 ∧ x = nI q) ∧ r = nI 0 ∧ m_same a u)
def M_deal (x y z : Int32) (v seed : Int64) (a : MS) (r : Int32) (u : MS) : Prop :=
  (∃ q t n, sd_dv x y z q t n ∧ r = nI 1 ∧ rdg u = sd_up (rdg a) q t ∧ rsz u = sd_up (rsz a) q n ∧ m_fs a u ∧ ∀ i, rsh u i = (if 17 * q + 1 ≤ i ∧ i ≤ 17 * q + n then sd_ev (sd_dr (sd_of v) t seed) (sd_N (i - 17 * q)) else rsh a i) ∧ rth u i = (if 17 * q + 1 ≤ i ∧ i ≤ 17 * q + n then true else rth a i)) ∨
  ((¬ ∃ q t n, sd_dv x y z q t n) ∧ r = nI 0 ∧ m_same a u)
def M_mend (a : MS) (r : Int32) (u : MS) : Prop :=
  (rif a = true ∧ r = nI 1 ∧ rdg u = rdg a ∧ rsz u = rsz a ∧ m_fs a u ∧ ∀ i, rsh u i = (if 17 * rfs a + 1 ≤ i ∧ i ≤ 17 * rfs a + rsz a (rfs a) then sd_ev (rfo a) (sd_N (i - 17 * rfs a)) else rsh a i) ∧ rth u i = (if 17 * rfs a + 1 ≤ i ∧ i ≤ 17 * rfs a + rsz a (rfs a) then true else rth a i)) ∨
  (rif a = false ∧ r = nI 0 ∧ m_same a u)
def sd_ip (sz : Nat → Nat) (x y : Int32) : Bool := match sd_ix x with
  | none => false
  | some q => sd_hp (sz q) y
theorem sd_ip_of {sz : Nat → Nat} {x y : Int32} (hs : ∀ q, q < 8 → sz q ≤ 16) (h : sd_ip sz x y = true) : ∃ q k, q < 8 ∧ x = nI q ∧ 1 ≤ k ∧ k ≤ sz q ∧ y = nI k := by
  unfold sd_ip at h
  cases hx : sd_ix x with
  | none => rw [hx] at h; cases h
  | some q =>
    rw [hx] at h
    obtain ⟨h1, h2⟩ := sd_ix_some hx
    have h3 := hs q h1
    obtain ⟨k, k1, k2, k3⟩ := sd_hp_of (by omega) h
    exact ⟨q, k, h1, h2, k1, k2, k3⟩
theorem sd_ip_no {sz : Nat → Nat} {x y : Int32} (hs : ∀ q, q < 8 → sz q ≤ 16) (h : sd_ip sz x y = false) : ¬ ∃ q k, q < 8 ∧ x = nI q ∧ 1 ≤ k ∧ k ≤ sz q ∧ y = nI k := by
  rintro ⟨q, k, h1, h2, h3, h4, h5⟩
  have h6 := hs q h1
  unfold sd_ip at h
  cases hx : sd_ix x with
  | none => exact sd_ix_none hx h1 h2
  | some q2 =>
    rw [hx] at h
    have e := sd_nI_inj (by omega) (by have := (sd_ix_some hx).1; omega) (h2.symm.trans (sd_ix_some hx).2)
    subst e
    have h : sd_hp (sz q) y = false := h
    rw [h5, sd_hp_nI (by omega), decide_eq_true ⟨h3, h4⟩] at h
    cases h

set_option maxHeartbeats 1000000 in
set_option maxRecDepth 100000 in
theorem k_X5_stepped (l : Launch)  (x : Int64)  : Met l yX5_stepped (Cond.code yX5_stepped cX5_stepped 2 (some .long) :: bg) { frames := 0, cells := 0, slots := 0, locals := 0 } (sd_N0 [.long x]) (vp_Sl (fun r => r = x * 6364136223846793005 + 1442695040888963407)) 0 0 (fun _ => False) := by
  refine Met.ofW (cc := cX5_stepped) (maxL := 2) (ret := some .long) (by decide) rfl ?_
  intro p e s m args below meth c s₁ B hml hv
  obtain ⟨rfl, -⟩ := hv
  have hx := B.exec
  have hb := B.bytes
  have hr := B.returns
  have hts := atoms_spec (ws := Cond.code yX5_stepped cX5_stepped 2 (some .long) :: bg) B.pre
  have hown : s.vm.findClass RX5 = some m.cls := findClass_of_methodNamed B.named
  have hlocks := B.notSynchronized
  have hl := lv_entry ([.long x]) (n := 2) (Nat.le_of_ble_eq_true rfl)
  rw [lg_entry_eq]
  generalize (lg_sl ([.long x]) ++ List.replicate (2 - (lg_sl ([.long x])).length) Slot.unset).toArray = ls at hl ⊢
  replace hl : lv_has ls 2 [(0, .long x)] := hl
  refine lv_lload_n hx hb dX5_stepped_0 rfl (lv_at hl 0 rfl) ?_
  refine lv_ldc2 (v := 6364136223846793005) hx hb hown (hts _ (mm wl_X5_73)) dX5_stepped_1 ?_
  refine lv_lmul hx hb dX5_stepped_4 ?_
  refine lv_ldc2 (v := 1442695040888963407) hx hb hown (hts _ (mm wl_X5_75)) dX5_stepped_5 ?_
  refine lv_ladd hx hb dX5_stepped_8 ?_
  exact W.lret hx hb hr (fun T9 hT9 hW => ⟨_, rfl, rfl, hT9⟩) (fun q h => nomatch h) dX5_stepped_9

set_option maxHeartbeats 1000000 in
set_option maxRecDepth 100000 in
theorem k_X5_isSplit (l : Launch)  (x : Int32)  : Met l yX5_isSplit (Cond.code yX5_isSplit cX5_isSplit 1 (some .boolean) :: bg) { frames := 0, cells := 0, slots := 0, locals := 0 } (sd_N0 [.int x]) (vp_Si (fun r => r = bI (sd_ix x).isSome)) 0 0 (fun _ => False) := by
  refine Met.ofW (cc := cX5_isSplit) (maxL := 1) (ret := some .boolean) (by decide) rfl ?_
  intro p e s m args below meth c s₁ B hml hv
  obtain ⟨rfl, -⟩ := hv
  have hx := B.exec
  have hb := B.bytes
  have hr := B.returns
  have hts := atoms_spec (ws := Cond.code yX5_isSplit cX5_isSplit 1 (some .boolean) :: bg) B.pre
  have hown : s.vm.findClass RX5 = some m.cls := findClass_of_methodNamed B.named
  have hlocks := B.notSynchronized
  have hl := lv_entry ([.int x]) (n := 1) (Nat.le_of_ble_eq_true rfl)
  rw [lg_entry_eq]
  generalize (lg_sl ([.int x]) ++ List.replicate (1 - (lg_sl ([.int x])).length) Slot.unset).toArray = ls at hl ⊢
  replace hl : lv_has ls 1 [(0, .int x)] := hl
  refine lv_iload_n hx hb dX5_isSplit_0 rfl (lv_at hl 0 rfl) ?_
  refine lv_if_lt (tgt := 14) hx hb dX5_isSplit_1 (by decide) (fun c1 => ?_) (fun c1 => ?_)
  · refine lv_iconst (v := nI 0) hx hb dX5_isSplit_14 (by decide) ?_
    exact W.zret hx hb hr rfl (fun T9 hT9 hW => ⟨_, rfl, by rw [sd_ix_lt c1]; rfl, hT9⟩) (fun q h => nomatch h) dX5_isSplit_15
  · refine lv_iload_n hx hb dX5_isSplit_4 rfl (lv_at hl 0 rfl) ?_
    refine lv_bipush (v := nI 8) hx hb dX5_isSplit_5 (by decide) ?_
    refine lv_icmp_ge (tgt := 14) hx hb dX5_isSplit_7 (by decide) (fun c2 => ?_) (fun c2 => ?_)
    · refine lv_iconst (v := nI 0) hx hb dX5_isSplit_14 (by decide) ?_
      exact W.zret hx hb hr rfl (fun T9 hT9 hW => ⟨_, rfl, by rw [sd_ix_ge c2]; rfl, hT9⟩) (fun q h => nomatch h) dX5_isSplit_15
    · refine lv_iconst (v := nI 1) hx hb dX5_isSplit_10 (by decide) ?_
      refine lv_goto (tgt := 15) hx hb dX5_isSplit_11 (by decide) ?_
      exact W.zret hx hb hr rfl (fun T9 hT9 hW => ⟨_, rfl, by obtain ⟨j, _, _, hj⟩ := sd_ix_in c1 c2; rw [hj]; rfl, hT9⟩) (fun q h => nomatch h) dX5_isSplit_15

set_option maxHeartbeats 1000000 in
set_option maxRecDepth 100000 in
theorem k_X5_home (l : Launch)  (q k : Nat)  : Met l yX5_home (Cond.code yX5_home cX5_home 2 (some .int) :: bg) { frames := 0, cells := 0, slots := 0, locals := 0 } (sd_N0 [.int (nI q), .int (nI k)]) (vp_Si (fun r => r = nI (17 * q + k))) 0 0 (fun _ => False) := by
  refine Met.ofW (cc := cX5_home) (maxL := 2) (ret := some .int) (by decide) rfl ?_
  intro p e s m args below meth c s₁ B hml hv
  obtain ⟨rfl, -⟩ := hv
  have hx := B.exec
  have hb := B.bytes
  have hr := B.returns
  have hts := atoms_spec (ws := Cond.code yX5_home cX5_home 2 (some .int) :: bg) B.pre
  have hown : s.vm.findClass RX5 = some m.cls := findClass_of_methodNamed B.named
  have hlocks := B.notSynchronized
  have hl := lv_entry ([.int (nI q), .int (nI k)]) (n := 2) (Nat.le_of_ble_eq_true rfl)
  rw [lg_entry_eq]
  generalize (lg_sl ([.int (nI q), .int (nI k)]) ++ List.replicate (2 - (lg_sl ([.int (nI q), .int (nI k)])).length) Slot.unset).toArray = ls at hl ⊢
  replace hl : lv_has ls 2 [(0, .int (nI q)), (1, .int (nI k))] := hl
  refine lv_bipush (v := nI 17) hx hb dX5_home_0 (by decide) ?_
  refine lv_iload_n hx hb dX5_home_2 rfl (lv_at hl 0 rfl) ?_
  refine sd_imul hx hb dX5_home_3 ?_
  refine lv_iload_n hx hb dX5_home_4 rfl (lv_at hl 1 rfl) ?_
  refine sd_iadd hx hb dX5_home_5 ?_
  exact W.iret hx hb hr (fun T9 hT9 hW => ⟨_, rfl, rfl, hT9⟩) (fun q h => nomatch h) dX5_home_6

set_option maxHeartbeats 1000000 in
set_option maxRecDepth 100000 in
theorem k_X5_isPlace (l : Launch) (D : va_G) {am : Nat → Nat} {tc : Nat → ClassId} {tn : Int32} {mdg msz : Nat → Nat} {msh : Nat → FP} {mth : Nat → Bool} {minv : Nat → FP} {isf : Bool} {fsp : Nat} {mfo : Nat → FP} {mwr : Nat → Bool} {mpl : Nat → Nat} {mny : Nat} {mch : Nat → Nat} {mcu mro : Nat → FP} (x y : Int32) (hs : ∀ q, q < 8 → msz q ≤ 16) : Met l yX5_isPlace (Cond.code yX5_isPlace cX5_isPlace 3 (some .boolean) :: bg) { frames := 1, cells := 0, slots := 0, locals := 20 } (sd_R D vwCl (ty5 tc) (mw am tc tn mdg msz msh mth minv isf fsp mfo mwr mpl mny mch mcu mro) [.ref (am 0), .int x, .int y]) (vp_Si (fun r => r = bI (sd_ip msz x y))) 0 0 (fun _ => False) := by
  refine Met.ofW (cc := cX5_isPlace) (maxL := 3) (ret := some .boolean) (by decide) rfl ?_
  intro p e s m args below meth c s₁ B hml hv
  obtain ⟨rfl, hP, hK⟩ := hv
  have hx := B.exec
  have hb := B.bytes
  have hr := B.returns
  have hts := atoms_spec (ws := Cond.code yX5_isPlace cX5_isPlace 3 (some .boolean) :: bg) B.pre
  have hown : s.vm.findClass RX5 = some m.cls := findClass_of_methodNamed B.named
  have hlocks := B.notSynchronized
  have hl := lv_entry ([.ref (am 0), .int x, .int y]) (n := 3) (Nat.le_of_ble_eq_true rfl)
  rw [lg_entry_eq]
  generalize (lg_sl ([.ref (am 0), .int x, .int y]) ++ List.replicate (3 - (lg_sl ([.ref (am 0), .int x, .int y])).length) Slot.unset).toArray = ls at hl ⊢
  replace hl : lv_has ls 3 [(0, .ref (am 0)), (1, .int x), (2, .int y)] := hl
  refine lv_iload_n hx hb dX5_isPlace_0 rfl (lv_at hl 1 rfl) ?_
  refine sd_ri (va_runS (As := [.int x]) (rest := []) ⟨hx, hb, hml, hown, hts⟩ (k_X5_isSplit l x) (sd_cwS hts wd_X5_isSplit wn_X5 wm_X5_77 wi_X5_isSplit nq_X5_isSplit rfl rfl ⟨Nat.le_of_ble_eq_true rfl, Nat.le_of_ble_eq_true rfl⟩) sd_preN rfl rfl hl.1 rfl (lv_room (Nat.le_of_ble_eq_true rfl)) dX5_isPlace_1 ⟨Nat.zero_le _, Nat.zero_le _⟩) (fun r1 hr1 => ?_)
  subst hr1
  refine sd_if_eqB (tgt := 26) hx hb dX5_isPlace_4 (by decide) (fun c1 => ?_) (fun c1 => ?_)
  · refine lv_iconst (v := nI 0) hx hb dX5_isPlace_26 (by decide) ?_
    exact W.zret hx hb hr rfl (fun T9 hT9 hW => ⟨_, rfl, by unfold sd_ip; rw [Option.isSome_eq_false_iff, Option.isNone_iff_eq_none] at c1; rw [c1]; rfl, hT9⟩) (fun q h => nomatch h) dX5_isPlace_27
  · obtain ⟨q, hix⟩ := Option.isSome_iff_exists.mp c1
    obtain ⟨hq, hxq⟩ := sd_ix_some hix
    have hsq := hs q hq
    have hip : sd_ip msz x y = sd_hp (msz q) y := by unfold sd_ip; rw [hix]
    rw [hip]
    clear hip hix c1
    subst hxq
    refine lv_iload_n hx hb dX5_isPlace_7 rfl (lv_at hl 2 rfl) ?_
    refine lv_iconst (v := nI 1) hx hb dX5_isPlace_8 (by decide) ?_
    refine lv_icmp_lt (tgt := 26) hx hb dX5_isPlace_9 (by decide) (fun c2 => ?_) (fun c2 => ?_)
    · refine lv_iconst (v := nI 0) hx hb dX5_isPlace_26 (by decide) ?_
      exact W.zret hx hb hr rfl (fun T9 hT9 hW => ⟨_, rfl, by rw [sd_hp_lt _ c2]; rfl, hT9⟩) (fun q h => nomatch h) dX5_isPlace_27
    · refine lv_iload_n hx hb dX5_isPlace_12 rfl (lv_at hl 2 rfl) ?_
      refine lv_aload_n hx hb dX5_isPlace_13 rfl (lv_at hl 0 rfl) ?_
      refine va_get (D := D) (ci := 5) (v := .ref (am 2)) (C := RX5) (T := TX5) (N := 15) hx hb hts (fun w h => mm (inX5 w h)) hown hK hP 0 rfl rfl 2 (by decide) (hts _ (mm wf_X5_13)) (fun _ h9 => h9) rfl dX5_isPlace_14 ?_
      refine lv_iload_n hx hb dX5_isPlace_17 rfl (lv_at hl 1 rfl) ?_
      refine sd_iald hx hb hK hP 2 2 rfl rfl (k := q) (by omega) (by decide) dX5_isPlace_18 ?_
      refine lv_icmp_gt (tgt := 26) hx hb dX5_isPlace_19 (by decide) (fun c3 => ?_) (fun c3 => ?_)
      · refine lv_iconst (v := nI 0) hx hb dX5_isPlace_26 (by decide) ?_
        exact W.zret hx hb hr rfl (fun T9 hT9 hW => ⟨_, rfl, by rw [sd_hp_gt (by omega) c3]; rfl, hT9⟩) (fun q h => nomatch h) dX5_isPlace_27
      · refine lv_iconst (v := nI 1) hx hb dX5_isPlace_22 (by decide) ?_
        refine lv_goto (tgt := 27) hx hb dX5_isPlace_23 (by decide) ?_
        exact W.zret hx hb hr rfl (fun T9 hT9 hW => ⟨_, rfl, by rw [sd_hp_in (by omega) c2 c3]; rfl, hT9⟩) (fun q h => nomatch h) dX5_isPlace_27

set_option maxHeartbeats 1000000 in
set_option maxRecDepth 100000 in
theorem k_X5_onCurve_c (l : Launch) (D : va_G) {am : Nat → Nat} {tc : Nat → ClassId} {tn : Int32} {mdg msz : Nat → Nat} {msh : Nat → FP} {mth : Nat → Bool} {minv : Nat → FP} {isf : Bool} {fsp : Nat} {mfo : Nat → FP} {mwr : Nat → Bool} {mpl : Nat → Nat} {mny : Nat} {mch : Nat → Nat} {mcu mro : Nat → FP} (t : Nat) (x : FP) (ht : t ≤ 8) : Met l yX5_onCurve (Cond.code yX5_onCurve cX5_onCurve 8 (some .long) :: bg) { frames := 3, cells := 0, slots := 0, locals := 89 } (sd_R D vwCl (ty5 tc) (mw am tc tn mdg msz msh mth minv isf fsp mfo mwr mpl mny mch mcu mro) [.ref (am 0), .ref (am 10), .int (nI t), .long (sd_L x)]) (vp_Sl (fun r => r = sd_L (sd_pv mcu x 0 (t + 1)))) 0 0 (fun _ => False) := by
  refine Met.ofW (cc := cX5_onCurve) (maxL := 8) (ret := some .long) (by decide) rfl ?_
  intro p e s m args below meth c s₁ B hml hv
  obtain ⟨rfl, hP, hK⟩ := hv
  have hx := B.exec
  have hb := B.bytes
  have hr := B.returns
  have hts := atoms_spec (ws := Cond.code yX5_onCurve cX5_onCurve 8 (some .long) :: bg) B.pre
  have hown : s.vm.findClass RX5 = some m.cls := findClass_of_methodNamed B.named
  have hlocks := B.notSynchronized
  have hl := lv_entry ([.ref (am 0), .ref (am 10), .int (nI t), .long (sd_L x)]) (n := 8) (Nat.le_of_ble_eq_true rfl)
  rw [lg_entry_eq]
  generalize (lg_sl ([.ref (am 0), .ref (am 10), .int (nI t), .long (sd_L x)]) ++ List.replicate (8 - (lg_sl ([.ref (am 0), .ref (am 10), .int (nI t), .long (sd_L x)])).length) Slot.unset).toArray = ls at hl ⊢
  replace hl : lv_has ls 8 [(0, .ref (am 0)), (1, .ref (am 10)), (2, .int (nI t)), (3, .long (sd_L x))] := hl
  refine lv_lconst (v := 0) hx hb dX5_onCurve_0 (by decide) ?_
  refine sd_tol (y := sd_L 0) sd_L_0.symm ?_
  refine lv_lstore (lv' := [(5, .long (sd_L 0)), (0, .ref (am 0)), (1, .ref (am 10)), (2, .int (nI t)), (3, .long (sd_L x))]) hx hb dX5_onCurve_1 hl (by decide) rfl (fun ls hl => ?_)
  refine lv_iload_n hx hb dX5_onCurve_3 rfl (lv_at hl 3 rfl) ?_
  refine lv_istore (lv' := [(7, .int (nI t)), (5, .long (sd_L 0)), (0, .ref (am 0)), (1, .ref (am 10)), (2, .int (nI t)), (3, .long (sd_L x))]) hx hb dX5_onCurve_4 hl (by decide) rfl (fun ls hl => ?_)
  replace hl : lv_has ls 8 [(7, .int (nI (t + 1) + (-1))), (5, .long (sd_L 0)), (0, .ref (am 0)), (1, .ref (am 10)), (3, .long (sd_L x))] := by rw [pk_m1]; exact (lv_sub hl [0, 1, 2, 3, 5] rfl)
  obtain ⟨K, y, hK9, hy, hl9⟩ : ∃ (K : Nat) (y : FP), (K ≤ t + 1) ∧ (y = sd_pv mcu x K (t + 1 - K)) ∧ lv_has ls 8 [(7, .int (nI K + (-1))), (5, .long (sd_L y)), (0, .ref (am 0)), (1, .ref (am 10)), (3, .long (sd_L x))] := ⟨t + 1, 0, Nat.le_refl _, by rw [Nat.sub_self]; rfl, (lv_sub hl [0, 1, 2, 3, 4] rfl)⟩
  replace hl := hl9
  clear hl9
  obtain ⟨k9, hk9⟩ : ∃ k9 : Nat, K < k9 := ⟨t + 2, by omega⟩
  induction k9 generalizing K y ls with
  | zero => exact absurd hk9 (by omega)
  | succ k9 ih =>
    rcases K with _ | K
    · rw [sd_m1] at hl
      refine lv_iload hx hb dX5_onCurve_6 (lv_at hl 0 rfl) ?_
      refine lv_if_lt (tgt := 32) hx hb dX5_onCurve_8 (by decide) (fun c1 => ?_) (fun c1 => ?_)
      · refine lv_lload hx hb dX5_onCurve_32 (lv_at hl 1 rfl) ?_
        exact W.lret hx hb hr (fun T9 hT9 hW => ⟨_, rfl, by rw [hy]; rfl, hT9⟩) (fun q h => nomatch h) dX5_onCurve_34
      · exact absurd (by decide) c1
    · rw [pk_m1] at hl
      refine lv_iload hx hb dX5_onCurve_6 (lv_at hl 0 rfl) ?_
      refine lv_if_lt (tgt := 32) hx hb dX5_onCurve_8 (by decide) (fun c1 => ?_) (fun c1 => ?_)
      · exact absurd c1 (nI_pos (by omega))
      · refine lv_lload hx hb dX5_onCurve_11 (lv_at hl 1 rfl) ?_
        refine lv_lload_n hx hb dX5_onCurve_13 rfl (lv_at hl 4 rfl) ?_
        refine sd_rl (va_runS (As := [.long (sd_L y), .long (sd_L x)]) (rest := []) ⟨hx, hb, hml, hown, hts⟩ (k_X5_times l y x) (sd_cwS hts wd_X5_times wn_X5 wm_X5_70 wi_X5_times nq_X5_times rfl rfl ⟨Nat.le_of_ble_eq_true rfl, Nat.le_of_ble_eq_true rfl⟩) sd_preN rfl rfl hl.1 rfl (lv_room (Nat.le_of_ble_eq_true rfl)) dX5_onCurve_14 ⟨Nat.zero_le _, Nat.zero_le _⟩) (fun r1 hr1 => ?_)
        subst hr1
        refine lv_aload_n hx hb dX5_onCurve_17 rfl (lv_at hl 3 rfl) ?_
        refine lv_iload hx hb dX5_onCurve_18 (lv_at hl 0 rfl) ?_
        refine sd_lald hx hb hK hP 10 0 rfl rfl (k := K) (by omega) (by decide) dX5_onCurve_20 ?_
        refine sd_rl (va_runS (As := [.long (sd_L (y * x)), .long (sd_L (mcu K))]) (rest := []) ⟨hx, hb, hml, hown, hts⟩ (k_X5_plus l (y * x) (mcu K)) (sd_cwS hts wd_X5_plus wn_X5 wm_X5_65 wi_X5_plus nq_X5_plus rfl rfl ⟨Nat.le_of_ble_eq_true rfl, Nat.le_of_ble_eq_true rfl⟩) sd_preN rfl rfl hl.1 rfl (lv_room (Nat.le_of_ble_eq_true rfl)) dX5_onCurve_21 ⟨Nat.zero_le _, Nat.zero_le _⟩) (fun r2 hr2 => ?_)
        subst hr2
        refine lv_lstore (lv' := [(5, .long (sd_L (y * x + mcu K))), (7, .int (nI K)), (0, .ref (am 0)), (1, .ref (am 10)), (3, .long (sd_L x))]) hx hb dX5_onCurve_24 hl (by decide) rfl (fun ls hl => ?_)
        refine lv_iinc (v := nI K + (-1)) (lv' := [(7, .int (nI K + (-1))), (5, .long (sd_L (y * x + mcu K))), (0, .ref (am 0)), (1, .ref (am 10)), (3, .long (sd_L x))]) hx hb dX5_onCurve_26 hl (k := 1) rfl (by rw [show Int32.ofInt (-1) = -1 by decide]) (by decide) rfl (fun ls hl => ?_)
        refine lv_goto (tgt := 6) hx hb dX5_onCurve_29 (by decide) ?_
        exact ih (K := K) (y := y * x + mcu K) (hK9 := by omega) (hy := by rw [show t + 1 - K = (t + 1 - (K + 1)) + 1 by omega, sd_pv_s, hy]; grind) (ls := ls) (hl := (lv_sub hl [0, 1, 2, 3, 4] rfl)) (hk9 := by omega)

set_option maxHeartbeats 1000000 in
set_option maxRecDepth 100000 in
theorem k_X5_onCurve_f (l : Launch) (D : va_G) {am : Nat → Nat} {tc : Nat → ClassId} {tn : Int32} {mdg msz : Nat → Nat} {msh : Nat → FP} {mth : Nat → Bool} {minv : Nat → FP} {isf : Bool} {fsp : Nat} {mfo : Nat → FP} {mwr : Nat → Bool} {mpl : Nat → Nat} {mny : Nat} {mch : Nat → Nat} {mcu mro : Nat → FP} (t : Nat) (x : FP) (ht : t ≤ 8) : Met l yX5_onCurve (Cond.code yX5_onCurve cX5_onCurve 8 (some .long) :: bg) { frames := 3, cells := 0, slots := 0, locals := 89 } (sd_R D vwCl (ty5 tc) (mw am tc tn mdg msz msh mth minv isf fsp mfo mwr mpl mny mch mcu mro) [.ref (am 0), .ref (am 6), .int (nI t), .long (sd_L x)]) (vp_Sl (fun r => r = sd_L (sd_pv mfo x 0 (t + 1)))) 0 0 (fun _ => False) := by
  refine Met.ofW (cc := cX5_onCurve) (maxL := 8) (ret := some .long) (by decide) rfl ?_
  intro p e s m args below meth c s₁ B hml hv
  obtain ⟨rfl, hP, hK⟩ := hv
  have hx := B.exec
  have hb := B.bytes
  have hr := B.returns
  have hts := atoms_spec (ws := Cond.code yX5_onCurve cX5_onCurve 8 (some .long) :: bg) B.pre
  have hown : s.vm.findClass RX5 = some m.cls := findClass_of_methodNamed B.named
  have hlocks := B.notSynchronized
  have hl := lv_entry ([.ref (am 0), .ref (am 6), .int (nI t), .long (sd_L x)]) (n := 8) (Nat.le_of_ble_eq_true rfl)
  rw [lg_entry_eq]
  generalize (lg_sl ([.ref (am 0), .ref (am 6), .int (nI t), .long (sd_L x)]) ++ List.replicate (8 - (lg_sl ([.ref (am 0), .ref (am 6), .int (nI t), .long (sd_L x)])).length) Slot.unset).toArray = ls at hl ⊢
  replace hl : lv_has ls 8 [(0, .ref (am 0)), (1, .ref (am 6)), (2, .int (nI t)), (3, .long (sd_L x))] := hl
  refine lv_lconst (v := 0) hx hb dX5_onCurve_0 (by decide) ?_
  refine sd_tol (y := sd_L 0) sd_L_0.symm ?_
  refine lv_lstore (lv' := [(5, .long (sd_L 0)), (0, .ref (am 0)), (1, .ref (am 6)), (2, .int (nI t)), (3, .long (sd_L x))]) hx hb dX5_onCurve_1 hl (by decide) rfl (fun ls hl => ?_)
  refine lv_iload_n hx hb dX5_onCurve_3 rfl (lv_at hl 3 rfl) ?_
  refine lv_istore (lv' := [(7, .int (nI t)), (5, .long (sd_L 0)), (0, .ref (am 0)), (1, .ref (am 6)), (2, .int (nI t)), (3, .long (sd_L x))]) hx hb dX5_onCurve_4 hl (by decide) rfl (fun ls hl => ?_)
  replace hl : lv_has ls 8 [(7, .int (nI (t + 1) + (-1))), (5, .long (sd_L 0)), (0, .ref (am 0)), (1, .ref (am 6)), (3, .long (sd_L x))] := by rw [pk_m1]; exact (lv_sub hl [0, 1, 2, 3, 5] rfl)
  obtain ⟨K, y, hK9, hy, hl9⟩ : ∃ (K : Nat) (y : FP), (K ≤ t + 1) ∧ (y = sd_pv mfo x K (t + 1 - K)) ∧ lv_has ls 8 [(7, .int (nI K + (-1))), (5, .long (sd_L y)), (0, .ref (am 0)), (1, .ref (am 6)), (3, .long (sd_L x))] := ⟨t + 1, 0, Nat.le_refl _, by rw [Nat.sub_self]; rfl, (lv_sub hl [0, 1, 2, 3, 4] rfl)⟩
  replace hl := hl9
  clear hl9
  obtain ⟨k9, hk9⟩ : ∃ k9 : Nat, K < k9 := ⟨t + 2, by omega⟩
  induction k9 generalizing K y ls with
  | zero => exact absurd hk9 (by omega)
  | succ k9 ih =>
    rcases K with _ | K
    · rw [sd_m1] at hl
      refine lv_iload hx hb dX5_onCurve_6 (lv_at hl 0 rfl) ?_
      refine lv_if_lt (tgt := 32) hx hb dX5_onCurve_8 (by decide) (fun c1 => ?_) (fun c1 => ?_)
      · refine lv_lload hx hb dX5_onCurve_32 (lv_at hl 1 rfl) ?_
        exact W.lret hx hb hr (fun T9 hT9 hW => ⟨_, rfl, by rw [hy]; rfl, hT9⟩) (fun q h => nomatch h) dX5_onCurve_34
      · exact absurd (by decide) c1
    · rw [pk_m1] at hl
      refine lv_iload hx hb dX5_onCurve_6 (lv_at hl 0 rfl) ?_
      refine lv_if_lt (tgt := 32) hx hb dX5_onCurve_8 (by decide) (fun c1 => ?_) (fun c1 => ?_)
      · exact absurd c1 (nI_pos (by omega))
      · refine lv_lload hx hb dX5_onCurve_11 (lv_at hl 1 rfl) ?_
        refine lv_lload_n hx hb dX5_onCurve_13 rfl (lv_at hl 4 rfl) ?_
        refine sd_rl (va_runS (As := [.long (sd_L y), .long (sd_L x)]) (rest := []) ⟨hx, hb, hml, hown, hts⟩ (k_X5_times l y x) (sd_cwS hts wd_X5_times wn_X5 wm_X5_70 wi_X5_times nq_X5_times rfl rfl ⟨Nat.le_of_ble_eq_true rfl, Nat.le_of_ble_eq_true rfl⟩) sd_preN rfl rfl hl.1 rfl (lv_room (Nat.le_of_ble_eq_true rfl)) dX5_onCurve_14 ⟨Nat.zero_le _, Nat.zero_le _⟩) (fun r1 hr1 => ?_)
        subst hr1
        refine lv_aload_n hx hb dX5_onCurve_17 rfl (lv_at hl 3 rfl) ?_
        refine lv_iload hx hb dX5_onCurve_18 (lv_at hl 0 rfl) ?_
        refine sd_lald hx hb hK hP 6 0 rfl rfl (k := K) (by omega) (by decide) dX5_onCurve_20 ?_
        refine sd_rl (va_runS (As := [.long (sd_L (y * x)), .long (sd_L (mfo K))]) (rest := []) ⟨hx, hb, hml, hown, hts⟩ (k_X5_plus l (y * x) (mfo K)) (sd_cwS hts wd_X5_plus wn_X5 wm_X5_65 wi_X5_plus nq_X5_plus rfl rfl ⟨Nat.le_of_ble_eq_true rfl, Nat.le_of_ble_eq_true rfl⟩) sd_preN rfl rfl hl.1 rfl (lv_room (Nat.le_of_ble_eq_true rfl)) dX5_onCurve_21 ⟨Nat.zero_le _, Nat.zero_le _⟩) (fun r2 hr2 => ?_)
        subst hr2
        refine lv_lstore (lv' := [(5, .long (sd_L (y * x + mfo K))), (7, .int (nI K)), (0, .ref (am 0)), (1, .ref (am 6)), (3, .long (sd_L x))]) hx hb dX5_onCurve_24 hl (by decide) rfl (fun ls hl => ?_)
        refine lv_iinc (v := nI K + (-1)) (lv' := [(7, .int (nI K + (-1))), (5, .long (sd_L (y * x + mfo K))), (0, .ref (am 0)), (1, .ref (am 6)), (3, .long (sd_L x))]) hx hb dX5_onCurve_26 hl (k := 1) rfl (by rw [show Int32.ofInt (-1) = -1 by decide]) (by decide) rfl (fun ls hl => ?_)
        refine lv_goto (tgt := 6) hx hb dX5_onCurve_29 (by decide) ?_
        exact ih (K := K) (y := y * x + mfo K) (hK9 := by omega) (hy := by rw [show t + 1 - K = (t + 1 - (K + 1)) + 1 by omega, sd_pv_s, hy]; grind) (ls := ls) (hl := (lv_sub hl [0, 1, 2, 3, 4] rfl)) (hk9 := by omega)

set_option maxHeartbeats 1000000 in
set_option maxRecDepth 100000 in
theorem k_X5_draw (l : Launch) (D : va_G) {am : Nat → Nat} {tc : Nat → ClassId} {tn : Int32} {mdg msz : Nat → Nat} {msh : Nat → FP} {mth : Nat → Bool} {minv : Nat → FP} {isf : Bool} {fsp : Nat} {mfo : Nat → FP} {mwr : Nat → Bool} {mpl : Nat → Nat} {mny : Nat} {mch : Nat → Nat} {mcu mro : Nat → FP} (sz : Nat) (c0 : FP) (t : Nat) (seed : Int64) (ht8 : t ≤ 8) : Met l yX5_draw (Cond.code yX5_draw cX5_draw 9 none :: bg) { frames := 1, cells := 0, slots := 0, locals := 27 } (sd_Wr D vwCl (ty5 tc) (mw am tc tn mdg msz msh mth minv isf fsp mfo mwr mpl mny mch mcu mro) sz [.ref (am 0), .long (sd_L c0), .int (nI t), .long seed]) (va_Qv (S := Nat → FP) (fun u : Nat → FP => u 0 = c0 ∧ ∀ k, 1 ≤ k → k ≤ t → u k = sd_nx (sd_gs seed k)) (sd_B D vwCl (ty5 tc) (va_A (mw am tc tn mdg msz msh mth minv isf fsp mfo mwr mpl mny mch mcu mro) sz) (fun u => mw am tc tn mdg msz msh mth minv isf fsp mfo mwr mpl mny mch u mro)) (va_A (mw am tc tn mdg msz msh mth minv isf fsp mfo mwr mpl mny mch mcu mro) sz)) 0 0 (va_A (mw am tc tn mdg msz msh mth minv isf fsp mfo mwr mpl mny mch mcu mro) sz) := by
  refine Met.ofW (cc := cX5_draw) (maxL := 9) (ret := none) (by decide) rfl ?_
  intro p e s m args below meth c s₁ B hml hv
  obtain ⟨rfl, hsz, hP, hK, hD0⟩ := hv
  have hx := B.exec
  have hb := B.bytes
  have hr := B.returns
  have hts := atoms_spec (ws := Cond.code yX5_draw cX5_draw 9 none :: bg) B.pre
  have hown : s.vm.findClass RX5 = some m.cls := findClass_of_methodNamed B.named
  have hlocks := B.notSynchronized
  subst hsz
  have hD := hD0.self (sz := s.heap.size)
  generalize hAe : va_A (mw am tc tn mdg msz msh mth minv isf fsp mfo mwr mpl mny mch mcu mro) s.heap.size = A at hD ⊢
  have hA : ∀ q : Nat, s.heap.size ≤ q → A q := fun q h => by rw [← hAe]; exact Or.inr h
  have hS : va_S A s.heap s.heap [] := va_S.rf
  have hl := lv_entry ([.ref (am 0), .long (sd_L c0), .int (nI t), .long seed]) (n := 9) (Nat.le_of_ble_eq_true rfl)
  rw [lg_entry_eq]
  generalize (lg_sl ([.ref (am 0), .long (sd_L c0), .int (nI t), .long seed]) ++ List.replicate (9 - (lg_sl ([.ref (am 0), .long (sd_L c0), .int (nI t), .long seed])).length) Slot.unset).toArray = ls at hl ⊢
  replace hl : lv_has ls 9 [(0, .ref (am 0)), (1, .long (sd_L c0)), (3, .int (nI t)), (4, .long seed)] := hl
  refine lv_lload hx hb dX5_draw_0 (lv_at hl 3 rfl) ?_
  refine lv_lstore (lv' := [(6, .long seed), (0, .ref (am 0)), (1, .long (sd_L c0)), (3, .int (nI t)), (4, .long seed)]) hx hb dX5_draw_2 hl (by decide) rfl (fun ls hl => ?_)
  refine lv_aload_n hx hb dX5_draw_4 rfl (lv_at hl 1 rfl) ?_
  refine va_get (D := D) (ci := 5) (v := .ref (am 10)) (C := RX5) (T := TX5) (N := 15) hx hb hts (fun w h => mm (inX5 w h)) hown hK hP 0 rfl rfl 13 (by decide) (hts _ (mm wf_X5_39)) (fun _ h9 => h9) rfl dX5_draw_5 ?_
  refine lv_iconst (v := nI 0) hx hb dX5_draw_8 (by decide) ?_
  refine lv_lload_n hx hb dX5_draw_9 rfl (lv_at hl 2 rfl) ?_
  refine sd_last hx hb hK hP hD hS 10 0 rfl rfl (k := 0) (by omega) (by decide) (ws2 := mw am tc tn mdg msz msh mth minv isf fsp mfo mwr mpl mny mch (sd_up mcu 0 c0) mro) (by rw [sd_stL]; exact rfl) dX5_draw_10 (fun H locs hP hD hS => ?_)
  refine lv_iconst (v := nI 1) hx hb dX5_draw_11 (by decide) ?_
  refine lv_istore (lv' := [(8, .int (nI 1)), (6, .long seed), (0, .ref (am 0)), (1, .long (sd_L c0)), (3, .int (nI t)), (4, .long seed)]) hx hb dX5_draw_12 hl (by decide) rfl (fun ls hl => ?_)
  obtain ⟨k, c1, hk, hI, hP9, hD9, hl9⟩ : ∃ (k : Nat) (c1 : Nat → FP), (1 ≤ k ∧ k ≤ t + 1) ∧ (c1 0 = c0 ∧ ∀ j, 1 ≤ j → j < k → c1 j = sd_nx (sd_gs seed j)) ∧ va_P D vwCl (mw am tc tn mdg msz msh mth minv isf fsp mfo mwr mpl mny mch c1 mro) H ∧ va_D A (mw am tc tn mdg msz msh mth minv isf fsp mfo mwr mpl mny mch c1 mro) ∧ lv_has ls 9 [(8, .int (nI k)), (6, .long (sd_gs seed (k - 1))), (0, .ref (am 0)), (3, .int (nI t))] := ⟨1, sd_up mcu 0 c0, ⟨Nat.le_refl 1, by omega⟩, ⟨sd_up_s _ _ _, fun j h1 h2 => absurd h2 (by omega)⟩, hP, hD, (lv_sub hl [0, 1, 2, 4] rfl)⟩
  replace hl := hl9
  clear hl9
  replace hP := hP9
  replace hD := hD9
  clear hP9 hD9
  obtain ⟨k9, hk9⟩ : ∃ k9 : Nat, t + 1 < k + k9 := ⟨t + 1, by omega⟩
  induction k9 generalizing k c1 ls H locs with
  | zero => exact absurd hk9 (by omega)
  | succ k9 ih =>
    refine lv_iload hx hb dX5_draw_14 (lv_at hl 0 rfl) ?_
    refine lv_iload_n hx hb dX5_draw_16 rfl (lv_at hl 3 rfl) ?_
    refine sd_icmp_gt (tgt := 47) hx hb (by omega) (by omega) dX5_draw_17 (by decide) (fun b1 => ?_) (fun b1 => ?_)
    · exact W.vret hx hb hr (fun T9 hT9 hW => ⟨⟨c1, rfl, ⟨hI.1, fun j h1 h2 => hI.2 j h1 (by omega)⟩, by rw [hT9]; exact hP, va_K.moved hW.alike hK, hD⟩, hS.F hT9⟩) hS.2.2 dX5_draw_47
    · refine lv_lload hx hb dX5_draw_20 (lv_at hl 1 rfl) ?_
      refine sd_rl (va_runS (As := [.long (sd_gs seed (k - 1))]) (rest := []) ⟨hx, hb, hml, hown, hts⟩ (k_X5_stepped l (sd_gs seed (k - 1))) (sd_cwS hts wd_X5_stepped wn_X5 wm_X5_81 wi_X5_stepped nq_X5_stepped rfl rfl ⟨Nat.le_of_ble_eq_true rfl, Nat.le_of_ble_eq_true rfl⟩) sd_preN rfl rfl hl.1 rfl (lv_room (Nat.le_of_ble_eq_true rfl)) dX5_draw_22 ⟨Nat.zero_le _, Nat.zero_le _⟩) (fun r1 hr1 => ?_)
      subst hr1
      refine sd_tol (y := sd_gs seed k) (by rw [show k = (k - 1) + 1 by omega]; rfl) ?_
      refine lv_lstore (lv' := [(6, .long (sd_gs seed k)), (8, .int (nI k)), (0, .ref (am 0)), (3, .int (nI t))]) hx hb dX5_draw_25 hl (by decide) rfl (fun ls hl => ?_)
      refine lv_aload_n hx hb dX5_draw_27 rfl (lv_at hl 2 rfl) ?_
      refine va_get (D := D) (ci := 5) (v := .ref (am 10)) (C := RX5) (T := TX5) (N := 15) hx hb hts (fun w h => mm (inX5 w h)) hown hK hP 0 rfl rfl 13 (by decide) (hts _ (mm wf_X5_39)) (fun _ h9 => h9) rfl dX5_draw_28 ?_
      refine lv_iload hx hb dX5_draw_31 (lv_at hl 1 rfl) ?_
      refine lv_lload hx hb dX5_draw_33 (lv_at hl 0 rfl) ?_
      refine lv_iconst (v := nI 3) hx hb dX5_draw_35 (by decide) ?_
      refine lv_lushr (v := lN ((sd_gs seed k).toBitVec.toNat / 8)) hx hb dX5_draw_36 (sd_ush3 _) ?_
      have hbv : (sd_gs seed k).toBitVec.toNat < 2 ^ 64 := (sd_gs seed k).toBitVec.isLt
      refine sd_rl (va_runS (As := [.long (lN ((sd_gs seed k).toBitVec.toNat / 8))]) (rest := [.int (nI k), .ref (am 10)]) ⟨hx, hb, hml, hown, hts⟩ (k_X5_reduced l ((sd_gs seed k).toBitVec.toNat / 8) (by omega)) (sd_cwS hts wd_X5_reduced wn_X5 wm_X5_57 wi_X5_reduced nq_X5_reduced rfl rfl ⟨Nat.le_of_ble_eq_true rfl, Nat.le_of_ble_eq_true rfl⟩) sd_preN rfl rfl hl.1 rfl (lv_room (Nat.le_of_ble_eq_true rfl)) dX5_draw_37 ⟨Nat.zero_le _, Nat.zero_le _⟩) (fun r2 hr2 => ?_)
      subst hr2
      refine sd_last hx hb hK hP hD hS 10 0 rfl rfl (k := k) (by omega) (by decide) (ws2 := mw am tc tn mdg msz msh mth minv isf fsp mfo mwr mpl mny mch (sd_up c1 k (sd_nx (sd_gs seed k))) mro) (by rw [sd_stL]; exact rfl) dX5_draw_40 (fun H locs hP hD hS => ?_)
      refine lv_iinc (v := nI (k + 1)) (lv' := [(8, .int (nI (k + 1))), (6, .long (sd_gs seed k)), (0, .ref (am 0)), (3, .int (nI t))]) hx hb dX5_draw_41 hl (k := 1) rfl (nI_1 _) (by decide) rfl (fun ls hl => ?_)
      refine lv_goto (tgt := 14) hx hb dX5_draw_44 (by decide) ?_
      exact ih (k := k + 1) (c1 := sd_up c1 k (sd_nx (sd_gs seed k))) (hk := by omega) (hI := ⟨by rw [sd_up_n _ _ (by omega)]; exact hI.1, fun j h1 h2 => (Classical.em (j = k)).elim (fun ej => by rw [ej, sd_up_s]) (fun ej => by rw [sd_up_n _ _ ej]; exact hI.2 j h1 (by omega))⟩) (H := H) (locs := locs) (hP := hP) (hD := hD) (hS := hS) (ls := ls) (hl := (lv_sub hl [0, 1, 2, 3] rfl)) (hk9 := by omega)

set_option maxHeartbeats 1000000 in
set_option maxRecDepth 100000 in
theorem k_X5_put (l : Launch) (D : va_G) {am : Nat → Nat} {tc : Nat → ClassId} {tn : Int32} {mdg msz : Nat → Nat} {msh : Nat → FP} {mth : Nat → Bool} {minv : Nat → FP} {isf : Bool} {fsp : Nat} {mfo : Nat → FP} {mwr : Nat → Bool} {mpl : Nat → Nat} {mny : Nat} {mch : Nat → Nat} {mcu mro : Nat → FP} (sz : Nat) (x y : Int32) (v : Int64) (hok : ∀ q, q < 8 → mdg q ≤ 8 ∧ msz q ≤ 16) : Met l yX5_put (Cond.code yX5_put cX5_put 5 (some .boolean) :: bg) { frames := 2, cells := 0, slots := 0, locals := 42 } (sd_Wr D vwCl (ty5 tc) (mw am tc tn mdg msz msh mth minv isf fsp mfo mwr mpl mny mch mcu mro) sz [.ref (am 0), .int x, .int y, .long v]) (va_Qi (S := MS) (fun r u => rtn u = nI 0 ∧ M_put x y v (tn, mdg, msz, msh, mth, minv, isf, fsp, mfo, mwr, mpl, mny, mch, mcu, mro) r u) (sd_B D vwCl (ty5 tc) (va_A (mw am tc tn mdg msz msh mth minv isf fsp mfo mwr mpl mny mch mcu mro) sz) (fun u => mwt am tc u)) (va_A (mw am tc tn mdg msz msh mth minv isf fsp mfo mwr mpl mny mch mcu mro) sz)) 0 0 (va_A (mw am tc tn mdg msz msh mth minv isf fsp mfo mwr mpl mny mch mcu mro) sz) := by
  refine Met.ofW (cc := cX5_put) (maxL := 5) (ret := some .boolean) (by decide) rfl ?_
  intro p e s m args below meth c s₁ B hml hv
  obtain ⟨rfl, hsz, hP, hK, hD0⟩ := hv
  have hx := B.exec
  have hb := B.bytes
  have hr := B.returns
  have hts := atoms_spec (ws := Cond.code yX5_put cX5_put 5 (some .boolean) :: bg) B.pre
  have hown : s.vm.findClass RX5 = some m.cls := findClass_of_methodNamed B.named
  have hlocks := B.notSynchronized
  subst hsz
  have hD := hD0.self (sz := s.heap.size)
  generalize hAe : va_A (mw am tc tn mdg msz msh mth minv isf fsp mfo mwr mpl mny mch mcu mro) s.heap.size = A at hD ⊢
  have hA : ∀ q : Nat, s.heap.size ≤ q → A q := fun q h => by rw [← hAe]; exact Or.inr h
  have hS : va_S A s.heap s.heap [] := va_S.rf
  have hl := lv_entry ([.ref (am 0), .int x, .int y, .long v]) (n := 5) (Nat.le_of_ble_eq_true rfl)
  rw [lg_entry_eq]
  generalize (lg_sl ([.ref (am 0), .int x, .int y, .long v]) ++ List.replicate (5 - (lg_sl ([.ref (am 0), .int x, .int y, .long v])).length) Slot.unset).toArray = ls at hl ⊢
  replace hl : lv_has ls 5 [(0, .ref (am 0)), (1, .int x), (2, .int y), (3, .long v)] := hl
  refine lv_aload_n hx hb dX5_put_0 rfl (lv_at hl 0 rfl) ?_
  refine lv_iconst (v := nI 0) hx hb dX5_put_1 (by decide) ?_
  refine sd_put (ci := 5) (C := RX5) (T := TX5) (N := 15) hx hb hts (fun w h => mm (inX5 w h)) tyX5 tyX5_ok nmX5 hown hK hP hD hS 0 rfl rfl 0 (by decide) (hts _ (mm wf_X5_51)) rfl rfl rfl rfl (Nat.le_of_ble_eq_true rfl) rfl (ws2 := mw am tc (nI 0) mdg msz msh mth minv isf fsp mfo mwr mpl mny mch mcu mro) (rfl) dX5_put_2 (fun H locs hP hD hS => ?_)
  refine lv_aload_n hx hb dX5_put_5 rfl (lv_at hl 0 rfl) ?_
  refine lv_iload_n hx hb dX5_put_6 rfl (lv_at hl 1 rfl) ?_
  refine lv_iload_n hx hb dX5_put_7 rfl (lv_at hl 2 rfl) ?_
  refine sd_ri (va_runV (As := [.int x, .int y]) (rest := []) ⟨hx, hb, hml, hown, hts⟩ (k_X5_isPlace l D x y (fun q hq => (hok q hq).2)) (sd_cwV hts wd_X5_isPlace wn_X5 wm_X5_99 wi_X5_isPlace ws_X5_isPlace nq_X5_isPlace rfl rfl ⟨Nat.le_of_ble_eq_true rfl, Nat.le_of_ble_eq_true rfl⟩) (sd_preVR hP hK (ci := 5) (q0 := 0) rfl rfl rfl) rfl rfl hl.1 rfl (lv_room (Nat.le_of_ble_eq_true rfl)) dX5_put_8 ⟨Nat.zero_le _, Nat.zero_le _⟩) (fun r1 hr1 => ?_)
  subst hr1
  refine sd_if_neB (tgt := 16) hx hb dX5_put_11 (by decide) (fun c1 => ?_) (fun c1 => ?_)
  · obtain ⟨q, k, hq, rfl, hk1, hk2, rfl⟩ := sd_ip_of (fun q hq => (hok q hq).2) c1
    have hokq := hok q hq
    refine lv_aload_n hx hb dX5_put_16 rfl (lv_at hl 0 rfl) ?_
    refine va_get (D := D) (ci := 5) (v := .ref (am 3)) (C := RX5) (T := TX5) (N := 15) hx hb hts (fun w h => mm (inX5 w h)) hown hK hP 0 rfl rfl 3 (by decide) (hts _ (mm wf_X5_16)) (fun _ h9 => h9) rfl dX5_put_17 ?_
    refine lv_iload_n hx hb dX5_put_20 rfl (lv_at hl 1 rfl) ?_
    refine lv_iload_n hx hb dX5_put_21 rfl (lv_at hl 2 rfl) ?_
    refine sd_ri (va_runS (As := [.int (nI q), .int (nI k)]) (rest := [.ref (am 3)]) ⟨hx, hb, hml, hown, hts⟩ (k_X5_home l q k) (sd_cwS hts wd_X5_home wn_X5 wm_X5_91 wi_X5_home nq_X5_home rfl rfl ⟨Nat.le_of_ble_eq_true rfl, Nat.le_of_ble_eq_true rfl⟩) sd_preN rfl rfl hl.1 rfl (lv_room (Nat.le_of_ble_eq_true rfl)) dX5_put_22 ⟨Nat.zero_le _, Nat.zero_le _⟩) (fun r2 hr2 => ?_)
    subst hr2
    refine lv_lload_n hx hb dX5_put_25 rfl (lv_at hl 3 rfl) ?_
    refine sd_rl (va_runS (As := [.long v]) (rest := [.int (nI (17 * q + k)), .ref (am 3)]) ⟨hx, hb, hml, hown, hts⟩ (k_X5_modulo l v) (sd_cwS hts wd_X5_modulo wn_X5 wm_X5_84 wi_X5_modulo nq_X5_modulo rfl rfl ⟨Nat.le_of_ble_eq_true rfl, Nat.le_of_ble_eq_true rfl⟩) sd_preN rfl rfl hl.1 rfl (lv_room (Nat.le_of_ble_eq_true rfl)) dX5_put_26 ⟨Nat.zero_le _, Nat.zero_le _⟩) (fun r3 hr3 => ?_)
    subst hr3
    refine sd_last hx hb hK hP hD hS 3 0 rfl rfl (k := 17 * q + k) (by omega) (by decide) (ws2 := mw am tc (nI 0) mdg msz (sd_up msh (17 * q + k) (sd_of v)) mth minv isf fsp mfo mwr mpl mny mch mcu mro) (by rw [sd_stL]; exact rfl) dX5_put_29 (fun H locs hP hD hS => ?_)
    refine lv_aload_n hx hb dX5_put_30 rfl (lv_at hl 0 rfl) ?_
    refine va_get (D := D) (ci := 5) (v := .ref (am 4)) (C := RX5) (T := TX5) (N := 15) hx hb hts (fun w h => mm (inX5 w h)) hown hK hP 0 rfl rfl 4 (by decide) (hts _ (mm wf_X5_20)) (fun _ h9 => h9) rfl dX5_put_31 ?_
    refine lv_iload_n hx hb dX5_put_34 rfl (lv_at hl 1 rfl) ?_
    refine lv_iload_n hx hb dX5_put_35 rfl (lv_at hl 2 rfl) ?_
    refine sd_ri (va_runS (As := [.int (nI q), .int (nI k)]) (rest := [.ref (am 4)]) ⟨hx, hb, hml, hown, hts⟩ (k_X5_home l q k) (sd_cwS hts wd_X5_home wn_X5 wm_X5_91 wi_X5_home nq_X5_home rfl rfl ⟨Nat.le_of_ble_eq_true rfl, Nat.le_of_ble_eq_true rfl⟩) sd_preN rfl rfl hl.1 rfl (lv_room (Nat.le_of_ble_eq_true rfl)) dX5_put_36 ⟨Nat.zero_le _, Nat.zero_le _⟩) (fun r4 hr4 => ?_)
    subst hr4
    refine lv_iconst (v := nI 1) hx hb dX5_put_39 (by decide) ?_
    refine sd_tob (b := true) rfl ?_
    refine sd_zast hx hb hK hP hD hS 4 1 rfl rfl (k := 17 * q + k) (by omega) (by decide) (ws2 := mw am tc (nI 0) mdg msz (sd_up msh (17 * q + k) (sd_of v)) (sd_up mth (17 * q + k) true) minv isf fsp mfo mwr mpl mny mch mcu mro) (by rw [sd_stZ]; exact rfl) dX5_put_40 (fun H locs hP hD hS => ?_)
    refine lv_iconst (v := nI 1) hx hb dX5_put_41 (by decide) ?_
    exact W.zret hx hb hr rfl (fun T9 hT9 hW => ⟨⟨_, (nI 0, mdg, msz, sd_up msh (17 * q + k) (sd_of v), sd_up mth (17 * q + k) true, minv, isf, fsp, mfo, mwr, mpl, mny, mch, mcu, mro), rfl, ⟨rfl, Or.inl ⟨q, k, hq, rfl, hk1, hk2, rfl, rfl, rfl, rfl, rfl, rfl, ⟨rfl, rfl, rfl, rfl, rfl⟩⟩⟩, by rw [hT9]; exact hP, va_K.moved hW.alike hK, hD⟩, hS.F hT9⟩) hS.2.2 dX5_put_42
  · refine lv_iconst (v := nI 0) hx hb dX5_put_14 (by decide) ?_
    exact W.zret hx hb hr rfl (fun T9 hT9 hW => ⟨⟨_, (nI 0, mdg, msz, msh, mth, minv, isf, fsp, mfo, mwr, mpl, mny, mch, mcu, mro), rfl, ⟨rfl, Or.inr ⟨sd_ip_no (fun q hq => (hok q hq).2) c1, rfl, ⟨rfl, rfl, rfl, rfl, rfl, rfl, rfl, rfl, rfl⟩⟩⟩, by rw [hT9]; exact hP, va_K.moved hW.alike hK, hD⟩, hS.F hT9⟩) hS.2.2 dX5_put_15

set_option maxHeartbeats 1000000 in
set_option maxRecDepth 100000 in
theorem k_X5_lose (l : Launch) (D : va_G) {am : Nat → Nat} {tc : Nat → ClassId} {tn : Int32} {mdg msz : Nat → Nat} {msh : Nat → FP} {mth : Nat → Bool} {minv : Nat → FP} {isf : Bool} {fsp : Nat} {mfo : Nat → FP} {mwr : Nat → Bool} {mpl : Nat → Nat} {mny : Nat} {mch : Nat → Nat} {mcu mro : Nat → FP} (sz : Nat) (x y : Int32) (hok : ∀ q, q < 8 → mdg q ≤ 8 ∧ msz q ≤ 16) : Met l yX5_lose (Cond.code yX5_lose cX5_lose 3 (some .boolean) :: bg) { frames := 2, cells := 0, slots := 0, locals := 42 } (sd_Wr D vwCl (ty5 tc) (mw am tc tn mdg msz msh mth minv isf fsp mfo mwr mpl mny mch mcu mro) sz [.ref (am 0), .int x, .int y]) (va_Qi (S := MS) (fun r u => rtn u = nI 0 ∧ M_lose x y (tn, mdg, msz, msh, mth, minv, isf, fsp, mfo, mwr, mpl, mny, mch, mcu, mro) r u) (sd_B D vwCl (ty5 tc) (va_A (mw am tc tn mdg msz msh mth minv isf fsp mfo mwr mpl mny mch mcu mro) sz) (fun u => mwt am tc u)) (va_A (mw am tc tn mdg msz msh mth minv isf fsp mfo mwr mpl mny mch mcu mro) sz)) 0 0 (va_A (mw am tc tn mdg msz msh mth minv isf fsp mfo mwr mpl mny mch mcu mro) sz) := by
  refine Met.ofW (cc := cX5_lose) (maxL := 3) (ret := some .boolean) (by decide) rfl ?_
  intro p e s m args below meth c s₁ B hml hv
  obtain ⟨rfl, hsz, hP, hK, hD0⟩ := hv
  have hx := B.exec
  have hb := B.bytes
  have hr := B.returns
  have hts := atoms_spec (ws := Cond.code yX5_lose cX5_lose 3 (some .boolean) :: bg) B.pre
  have hown : s.vm.findClass RX5 = some m.cls := findClass_of_methodNamed B.named
  have hlocks := B.notSynchronized
  subst hsz
  have hD := hD0.self (sz := s.heap.size)
  generalize hAe : va_A (mw am tc tn mdg msz msh mth minv isf fsp mfo mwr mpl mny mch mcu mro) s.heap.size = A at hD ⊢
  have hA : ∀ q : Nat, s.heap.size ≤ q → A q := fun q h => by rw [← hAe]; exact Or.inr h
  have hS : va_S A s.heap s.heap [] := va_S.rf
  have hl := lv_entry ([.ref (am 0), .int x, .int y]) (n := 3) (Nat.le_of_ble_eq_true rfl)
  rw [lg_entry_eq]
  generalize (lg_sl ([.ref (am 0), .int x, .int y]) ++ List.replicate (3 - (lg_sl ([.ref (am 0), .int x, .int y])).length) Slot.unset).toArray = ls at hl ⊢
  replace hl : lv_has ls 3 [(0, .ref (am 0)), (1, .int x), (2, .int y)] := hl
  refine lv_aload_n hx hb dX5_lose_0 rfl (lv_at hl 0 rfl) ?_
  refine lv_iconst (v := nI 0) hx hb dX5_lose_1 (by decide) ?_
  refine sd_put (ci := 5) (C := RX5) (T := TX5) (N := 15) hx hb hts (fun w h => mm (inX5 w h)) tyX5 tyX5_ok nmX5 hown hK hP hD hS 0 rfl rfl 0 (by decide) (hts _ (mm wf_X5_51)) rfl rfl rfl rfl (Nat.le_of_ble_eq_true rfl) rfl (ws2 := mw am tc (nI 0) mdg msz msh mth minv isf fsp mfo mwr mpl mny mch mcu mro) (rfl) dX5_lose_2 (fun H locs hP hD hS => ?_)
  refine lv_aload_n hx hb dX5_lose_5 rfl (lv_at hl 0 rfl) ?_
  refine lv_iload_n hx hb dX5_lose_6 rfl (lv_at hl 1 rfl) ?_
  refine lv_iload_n hx hb dX5_lose_7 rfl (lv_at hl 2 rfl) ?_
  refine sd_ri (va_runV (As := [.int x, .int y]) (rest := []) ⟨hx, hb, hml, hown, hts⟩ (k_X5_isPlace l D x y (fun q hq => (hok q hq).2)) (sd_cwV hts wd_X5_isPlace wn_X5 wm_X5_99 wi_X5_isPlace ws_X5_isPlace nq_X5_isPlace rfl rfl ⟨Nat.le_of_ble_eq_true rfl, Nat.le_of_ble_eq_true rfl⟩) (sd_preVR hP hK (ci := 5) (q0 := 0) rfl rfl rfl) rfl rfl hl.1 rfl (lv_room (Nat.le_of_ble_eq_true rfl)) dX5_lose_8 ⟨Nat.zero_le _, Nat.zero_le _⟩) (fun r1 hr1 => ?_)
  subst hr1
  refine sd_if_eqB (tgt := 27) hx hb dX5_lose_11 (by decide) (fun c1 => ?_) (fun c1 => ?_)
  · refine lv_iconst (v := nI 0) hx hb dX5_lose_27 (by decide) ?_
    exact W.zret hx hb hr rfl (fun T9 hT9 hW => ⟨⟨_, (nI 0, mdg, msz, msh, mth, minv, isf, fsp, mfo, mwr, mpl, mny, mch, mcu, mro), rfl, ⟨rfl, Or.inr ⟨fun ⟨q, k, h1, h2, h3, h4, h5, _⟩ => sd_ip_no (fun q hq => (hok q hq).2) c1 ⟨q, k, h1, h2, h3, h4, h5⟩, rfl, ⟨rfl, rfl, rfl, rfl, rfl, rfl, rfl, rfl, rfl⟩⟩⟩, by rw [hT9]; exact hP, va_K.moved hW.alike hK, hD⟩, hS.F hT9⟩) hS.2.2 dX5_lose_28
  · obtain ⟨q, k, hq, rfl, hk1, hk2, rfl⟩ := sd_ip_of (fun q hq => (hok q hq).2) c1
    have hokq := hok q hq
    refine lv_aload_n hx hb dX5_lose_14 rfl (lv_at hl 0 rfl) ?_
    refine va_get (D := D) (ci := 5) (v := .ref (am 4)) (C := RX5) (T := TX5) (N := 15) hx hb hts (fun w h => mm (inX5 w h)) hown hK hP 0 rfl rfl 4 (by decide) (hts _ (mm wf_X5_20)) (fun _ h9 => h9) rfl dX5_lose_15 ?_
    refine lv_iload_n hx hb dX5_lose_18 rfl (lv_at hl 1 rfl) ?_
    refine lv_iload_n hx hb dX5_lose_19 rfl (lv_at hl 2 rfl) ?_
    refine sd_ri (va_runS (As := [.int (nI q), .int (nI k)]) (rest := [.ref (am 4)]) ⟨hx, hb, hml, hown, hts⟩ (k_X5_home l q k) (sd_cwS hts wd_X5_home wn_X5 wm_X5_91 wi_X5_home nq_X5_home rfl rfl ⟨Nat.le_of_ble_eq_true rfl, Nat.le_of_ble_eq_true rfl⟩) sd_preN rfl rfl hl.1 rfl (lv_room (Nat.le_of_ble_eq_true rfl)) dX5_lose_20 ⟨Nat.zero_le _, Nat.zero_le _⟩) (fun r2 hr2 => ?_)
    subst hr2
    refine sd_zald hx hb hK hP 4 1 rfl rfl (k := 17 * q + k) (by omega) (by decide) dX5_lose_23 ?_
    refine sd_if_neB (tgt := 29) hx hb dX5_lose_24 (by decide) (fun c2 => ?_) (fun c2 => ?_)
    · refine lv_aload_n hx hb dX5_lose_29 rfl (lv_at hl 0 rfl) ?_
      refine va_get (D := D) (ci := 5) (v := .ref (am 4)) (C := RX5) (T := TX5) (N := 15) hx hb hts (fun w h => mm (inX5 w h)) hown hK hP 0 rfl rfl 4 (by decide) (hts _ (mm wf_X5_20)) (fun _ h9 => h9) rfl dX5_lose_30 ?_
      refine lv_iload_n hx hb dX5_lose_33 rfl (lv_at hl 1 rfl) ?_
      refine lv_iload_n hx hb dX5_lose_34 rfl (lv_at hl 2 rfl) ?_
      refine sd_ri (va_runS (As := [.int (nI q), .int (nI k)]) (rest := [.ref (am 4)]) ⟨hx, hb, hml, hown, hts⟩ (k_X5_home l q k) (sd_cwS hts wd_X5_home wn_X5 wm_X5_91 wi_X5_home nq_X5_home rfl rfl ⟨Nat.le_of_ble_eq_true rfl, Nat.le_of_ble_eq_true rfl⟩) sd_preN rfl rfl hl.1 rfl (lv_room (Nat.le_of_ble_eq_true rfl)) dX5_lose_35 ⟨Nat.zero_le _, Nat.zero_le _⟩) (fun r3 hr3 => ?_)
      subst hr3
      refine lv_iconst (v := nI 0) hx hb dX5_lose_38 (by decide) ?_
      refine sd_tob (b := false) rfl ?_
      refine sd_zast hx hb hK hP hD hS 4 1 rfl rfl (k := 17 * q + k) (by omega) (by decide) (ws2 := mw am tc (nI 0) mdg msz msh (sd_up mth (17 * q + k) false) minv isf fsp mfo mwr mpl mny mch mcu mro) (by rw [sd_stZ]; exact rfl) dX5_lose_39 (fun H locs hP hD hS => ?_)
      refine lv_iconst (v := nI 1) hx hb dX5_lose_40 (by decide) ?_
      exact W.zret hx hb hr rfl (fun T9 hT9 hW => ⟨⟨_, (nI 0, mdg, msz, msh, sd_up mth (17 * q + k) false, minv, isf, fsp, mfo, mwr, mpl, mny, mch, mcu, mro), rfl, ⟨rfl, Or.inl ⟨q, k, hq, rfl, hk1, hk2, rfl, c2, rfl, rfl, rfl, rfl, rfl, ⟨rfl, rfl, rfl, rfl, rfl⟩⟩⟩, by rw [hT9]; exact hP, va_K.moved hW.alike hK, hD⟩, hS.F hT9⟩) hS.2.2 dX5_lose_41
    · refine lv_iconst (v := nI 0) hx hb dX5_lose_27 (by decide) ?_
      exact W.zret hx hb hr rfl (fun T9 hT9 hW => ⟨⟨_, (nI 0, mdg, msz, msh, mth, minv, isf, fsp, mfo, mwr, mpl, mny, mch, mcu, mro), rfl, ⟨rfl, Or.inr ⟨fun ⟨q2, k2, h1, h2, h3, h4, h5, h6⟩ => (by have h4 : k2 ≤ msz q2 := h4; have hokq2 := hok q2 h1; have e1 := sd_nI_inj (by omega) (by omega) h2; subst e1; have e2 := sd_nI_inj (by omega) (by omega) h5; subst e2; have h6 : mth (17 * q + k) = true := h6; rw [c2] at h6; cases h6), rfl, ⟨rfl, rfl, rfl, rfl, rfl, rfl, rfl, rfl, rfl⟩⟩⟩, by rw [hT9]; exact hP, va_K.moved hW.alike hK, hD⟩, hS.F hT9⟩) hS.2.2 dX5_lose_28
end

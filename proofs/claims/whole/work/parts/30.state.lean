/-! the desk's cells, by number: 0 the desk, 1 the splits' row, 2 + 2 c and 3 + 2 c a curve (0 drawn, 1 candidate, 2 found) and its parts, 8 the finder, 9 its rows' row, 10 used, 11 solution, 12 row of unknown, 13 found wrong, 14 + 3 s .. a split, its values, its flags, 38 + r a row -/
abbrev ty5 (tc : Nat → ClassId) : List (ClassId × FieldType) := [(tc 0, .long), (tc 1, .boolean), (tc 2, .int), (tc 3, .object "SplitDesk$Split"), (tc 4, .array .long)]
abbrev aL (c : ClassId) (n : Nat) (f : Nat → FP) : va_E := .inl (c, n, .inr (.inl (fun j => sd_L (f j))))
abbrev aZ (c : ClassId) (n : Nat) (f : Nat → Bool) : va_E := .inl (c, n, .inl (fun j => bI (f j)))
abbrev aI (c : ClassId) (n : Nat) (f : Nat → Int32) : va_E := .inl (c, n, .inl f)
abbrev aR (c : ClassId) (n : Nat) (f : Nat → Option Nat) : va_E := .inl (c, n, .inr (.inr (.inr (.inr f))))
abbrev dsp (ad : Nat → Nat) (tc : Nat → ClassId) (dg pl : Nat → Nat) (vl : Nat → Nat → FP) (th : Nat → Nat → Bool) (i : Nat) : va_W :=
  [(ad (14 + 3 * i), .inr (3, [.ref (ad (15 + 3 * i)), .ref (ad (16 + 3 * i)), .int (nI (dg i)), .int (nI (pl i))])), (ad (15 + 3 * i), aL (tc 0) 17 (vl i)), (ad (16 + 3 * i), aZ (tc 1) 17 (th i))]
def dw (ad : Nat → Nat) (tc : Nat → ClassId) (dg pl : Nat → Nat) (vl : Nat → Nat → FP) (th : Nat → Nat → Bool) (cu mx : Nat → Nat → FP) (us : Nat → Bool) (so : Nat → FP) (rr : Nat → Int32) (fw : Nat → Bool) (ff : Int32) : va_W :=
  [(ad 0, .inr (4, [.ref (ad 1), .ref (ad 2), .ref (ad 8), .ref (ad 6), .ref (ad 13), .int ff])), (ad 1, aR (tc 3) 8 (fun i => some (ad (14 + 3 * i)))),
   (ad 2, .inr (0, [.ref (ad 3)])), (ad 3, aL (tc 0) 9 (cu 0)), (ad 4, .inr (0, [.ref (ad 5)])), (ad 5, aL (tc 0) 9 (cu 1)), (ad 6, .inr (0, [.ref (ad 7)])), (ad 7, aL (tc 0) 9 (cu 2)),
   (ad 8, .inr (1, [.ref (ad 4), .ref (ad 9), .ref (ad 10), .ref (ad 11), .ref (ad 12)])), (ad 9, aR (tc 4) 16 (fun i => some (ad (38 + i)))), (ad 10, aZ (tc 1) 16 us), (ad 11, aL (tc 0) 16 so), (ad 12, aI (tc 2) 16 rr), (ad 13, aZ (tc 1) 17 fw)] ++
  (dsp ad tc dg pl vl th 0 ++ dsp ad tc dg pl vl th 1 ++ dsp ad tc dg pl vl th 2 ++ dsp ad tc dg pl vl th 3 ++ dsp ad tc dg pl vl th 4 ++ dsp ad tc dg pl vl th 5 ++ dsp ad tc dg pl vl th 6 ++ dsp ad tc dg pl vl th 7) ++
  [(ad 38, aL (tc 0) 17 (mx 0)), (ad 39, aL (tc 0) 17 (mx 1)), (ad 40, aL (tc 0) 17 (mx 2)), (ad 41, aL (tc 0) 17 (mx 3)), (ad 42, aL (tc 0) 17 (mx 4)), (ad 43, aL (tc 0) 17 (mx 5)), (ad 44, aL (tc 0) 17 (mx 6)), (ad 45, aL (tc 0) 17 (mx 7)),
   (ad 46, aL (tc 0) 17 (mx 8)), (ad 47, aL (tc 0) 17 (mx 9)), (ad 48, aL (tc 0) 17 (mx 10)), (ad 49, aL (tc 0) 17 (mx 11)), (ad 50, aL (tc 0) 17 (mx 12)), (ad 51, aL (tc 0) 17 (mx 13)), (ad 52, aL (tc 0) 17 (mx 14)), (ad 53, aL (tc 0) 17 (mx 15))]
/-- stores of numbers and flags -/
theorem sd_stL (f : Nat → FP) (k : Nat) (x : FP) : vp_updL (fun j => sd_L (f j)) k (sd_L x) = fun j => sd_L (sd_up f k x j) := by
  funext j
  simp only [vp_updL, sd_up]
  split <;> rfl
theorem sd_stZ (f : Nat → Bool) (k : Nat) (x : Bool) : upd (fun j => bI (f j)) k (vp_nar .boolean (bI x)) = fun j => bI (sd_up f k x j) := by
  funext j
  rw [bI_vp]
  simp only [upd, sd_up]
  split <;> rfl
theorem sd_stI (f : Nat → Int32) (k : Nat) (x : Int32) : upd f k x = sd_up f k x := rfl
section
variable {ad : Nat → Nat} {tc : Nat → ClassId} {dg pl : Nat → Nat} {vl : Nat → Nat → FP} {th : Nat → Nat → Bool} {cu mx : Nat → Nat → FP} {us : Nat → Bool} {so : Nat → FP} {rr : Nat → Int32} {fw : Nat → Bool} {ff : Int32} {s c r : Nat}
theorem dw_desk : (dw ad tc dg pl vl th cu mx us so rr fw ff)[0]? = some (ad 0, .inr (4, [.ref (ad 1), .ref (ad 2), .ref (ad 8), .ref (ad 6), .ref (ad 13), .int ff])) := rfl
theorem dw_splits : (dw ad tc dg pl vl th cu mx us so rr fw ff)[1]? = some (ad 1, aR (tc 3) 8 (fun i => some (ad (14 + 3 * i)))) := rfl
theorem dw_curve (h : c < 3) : (dw ad tc dg pl vl th cu mx us so rr fw ff)[2 + 2 * c]? = some (ad (2 + 2 * c), .inr (0, [.ref (ad (3 + 2 * c))])) := by
  match c, h with
  | 0, _ => rfl
  | 1, _ => rfl
  | 2, _ => rfl
theorem dw_parts (h : c < 3) : (dw ad tc dg pl vl th cu mx us so rr fw ff)[3 + 2 * c]? = some (ad (3 + 2 * c), aL (tc 0) 9 (cu c)) := by
  match c, h with
  | 0, _ => rfl
  | 1, _ => rfl
  | 2, _ => rfl
theorem dw_finder : (dw ad tc dg pl vl th cu mx us so rr fw ff)[8]? = some (ad 8, .inr (1, [.ref (ad 4), .ref (ad 9), .ref (ad 10), .ref (ad 11), .ref (ad 12)])) := rfl
theorem dw_rows : (dw ad tc dg pl vl th cu mx us so rr fw ff)[9]? = some (ad 9, aR (tc 4) 16 (fun i => some (ad (38 + i)))) := rfl
theorem dw_used : (dw ad tc dg pl vl th cu mx us so rr fw ff)[10]? = some (ad 10, aZ (tc 1) 16 us) := rfl
theorem dw_sol : (dw ad tc dg pl vl th cu mx us so rr fw ff)[11]? = some (ad 11, aL (tc 0) 16 so) := rfl
theorem dw_rou : (dw ad tc dg pl vl th cu mx us so rr fw ff)[12]? = some (ad 12, aI (tc 2) 16 rr) := rfl
theorem dw_fw : (dw ad tc dg pl vl th cu mx us so rr fw ff)[13]? = some (ad 13, aZ (tc 1) 17 fw) := rfl
theorem dw_sp (h : s < 8) : (dw ad tc dg pl vl th cu mx us so rr fw ff)[14 + 3 * s]? = some (ad (14 + 3 * s), .inr (3, [.ref (ad (15 + 3 * s)), .ref (ad (16 + 3 * s)), .int (nI (dg s)), .int (nI (pl s))])) := by
  match s, h with
  | 0, _ => rfl
  | 1, _ => rfl
  | 2, _ => rfl
  | 3, _ => rfl
  | 4, _ => rfl
  | 5, _ => rfl
  | 6, _ => rfl
  | 7, _ => rfl
theorem dw_vl (h : s < 8) : (dw ad tc dg pl vl th cu mx us so rr fw ff)[15 + 3 * s]? = some (ad (15 + 3 * s), aL (tc 0) 17 (vl s)) := by
  match s, h with
  | 0, _ => rfl
  | 1, _ => rfl
  | 2, _ => rfl
  | 3, _ => rfl
  | 4, _ => rfl
  | 5, _ => rfl
  | 6, _ => rfl
  | 7, _ => rfl
theorem dw_th (h : s < 8) : (dw ad tc dg pl vl th cu mx us so rr fw ff)[16 + 3 * s]? = some (ad (16 + 3 * s), aZ (tc 1) 17 (th s)) := by
  match s, h with
  | 0, _ => rfl
  | 1, _ => rfl
  | 2, _ => rfl
  | 3, _ => rfl
  | 4, _ => rfl
  | 5, _ => rfl
  | 6, _ => rfl
  | 7, _ => rfl
theorem dw_mx (h : r < 16) : (dw ad tc dg pl vl th cu mx us so rr fw ff)[38 + r]? = some (ad (38 + r), aL (tc 0) 17 (mx r)) := by
  match r, h with
  | 0, _ => rfl
  | 1, _ => rfl
  | 2, _ => rfl
  | 3, _ => rfl
  | 4, _ => rfl
  | 5, _ => rfl
  | 6, _ => rfl
  | 7, _ => rfl
  | 8, _ => rfl
  | 9, _ => rfl
  | 10, _ => rfl
  | 11, _ => rfl
  | 12, _ => rfl
  | 13, _ => rfl
  | 14, _ => rfl
  | 15, _ => rfl
  | n + 16, h => exact absurd h (by omega)
theorem dws_ff (x : Int32) : (dw ad tc dg pl vl th cu mx us so rr fw ff).set 0 (ad 0, .inr (4, [.ref (ad 1), .ref (ad 2), .ref (ad 8), .ref (ad 6), .ref (ad 13), .int x])) = dw ad tc dg pl vl th cu mx us so rr fw x := rfl
theorem dws_used (f : Nat → Bool) : (dw ad tc dg pl vl th cu mx us so rr fw ff).set 10 (ad 10, aZ (tc 1) 16 f) = dw ad tc dg pl vl th cu mx f so rr fw ff := rfl
theorem dws_sol (f : Nat → FP) : (dw ad tc dg pl vl th cu mx us so rr fw ff).set 11 (ad 11, aL (tc 0) 16 f) = dw ad tc dg pl vl th cu mx us f rr fw ff := rfl
theorem dws_rou (f : Nat → Int32) : (dw ad tc dg pl vl th cu mx us so rr fw ff).set 12 (ad 12, aI (tc 2) 16 f) = dw ad tc dg pl vl th cu mx us so f fw ff := rfl
theorem dws_fw (f : Nat → Bool) : (dw ad tc dg pl vl th cu mx us so rr fw ff).set 13 (ad 13, aZ (tc 1) 17 f) = dw ad tc dg pl vl th cu mx us so rr f ff := rfl
theorem dws_parts (h : c < 3) (f : Nat → FP) : (dw ad tc dg pl vl th cu mx us so rr fw ff).set (3 + 2 * c) (ad (3 + 2 * c), aL (tc 0) 9 f) = dw ad tc dg pl vl th (sd_up cu c f) mx us so rr fw ff := by
  match c, h with
  | 0, _ => rfl
  | 1, _ => rfl
  | 2, _ => rfl
theorem dws_dg (h : s < 8) (x : Nat) : (dw ad tc dg pl vl th cu mx us so rr fw ff).set (14 + 3 * s) (ad (14 + 3 * s), .inr (3, [.ref (ad (15 + 3 * s)), .ref (ad (16 + 3 * s)), .int (nI x), .int (nI (pl s))])) = dw ad tc (sd_up dg s x) pl vl th cu mx us so rr fw ff := by
  match s, h with
  | 0, _ => rfl
  | 1, _ => rfl
  | 2, _ => rfl
  | 3, _ => rfl
  | 4, _ => rfl
  | 5, _ => rfl
  | 6, _ => rfl
  | 7, _ => rfl
theorem dws_pl (h : s < 8) (x : Nat) : (dw ad tc dg pl vl th cu mx us so rr fw ff).set (14 + 3 * s) (ad (14 + 3 * s), .inr (3, [.ref (ad (15 + 3 * s)), .ref (ad (16 + 3 * s)), .int (nI (dg s)), .int (nI x)])) = dw ad tc dg (sd_up pl s x) vl th cu mx us so rr fw ff := by
  match s, h with
  | 0, _ => rfl
  | 1, _ => rfl
  | 2, _ => rfl
  | 3, _ => rfl
  | 4, _ => rfl
  | 5, _ => rfl
  | 6, _ => rfl
  | 7, _ => rfl
theorem dws_vl (h : s < 8) (f : Nat → FP) : (dw ad tc dg pl vl th cu mx us so rr fw ff).set (15 + 3 * s) (ad (15 + 3 * s), aL (tc 0) 17 f) = dw ad tc dg pl (sd_up vl s f) th cu mx us so rr fw ff := by
  match s, h with
  | 0, _ => rfl
  | 1, _ => rfl
  | 2, _ => rfl
  | 3, _ => rfl
  | 4, _ => rfl
  | 5, _ => rfl
  | 6, _ => rfl
  | 7, _ => rfl
theorem dws_th (h : s < 8) (f : Nat → Bool) : (dw ad tc dg pl vl th cu mx us so rr fw ff).set (16 + 3 * s) (ad (16 + 3 * s), aZ (tc 1) 17 f) = dw ad tc dg pl vl (sd_up th s f) cu mx us so rr fw ff := by
  match s, h with
  | 0, _ => rfl
  | 1, _ => rfl
  | 2, _ => rfl
  | 3, _ => rfl
  | 4, _ => rfl
  | 5, _ => rfl
  | 6, _ => rfl
  | 7, _ => rfl
theorem dws_mx (h : r < 16) (f : Nat → FP) : (dw ad tc dg pl vl th cu mx us so rr fw ff).set (38 + r) (ad (38 + r), aL (tc 0) 17 f) = dw ad tc dg pl vl th cu (sd_up mx r f) us so rr fw ff := by
  match r, h with
  | 0, _ => rfl
  | 1, _ => rfl
  | 2, _ => rfl
  | 3, _ => rfl
  | 4, _ => rfl
  | 5, _ => rfl
  | 6, _ => rfl
  | 7, _ => rfl
  | 8, _ => rfl
  | 9, _ => rfl
  | 10, _ => rfl
  | 11, _ => rfl
  | 12, _ => rfl
  | 13, _ => rfl
  | 14, _ => rfl
  | 15, _ => rfl
  | n + 16, h => exact absurd h (by omega)
end

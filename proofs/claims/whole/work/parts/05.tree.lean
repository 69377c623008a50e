/-! trees: the code of a method as an expression over its locals and the numbers; each rule says that a piece of the table does what its tree says. wm_E: an expression's code, wm_B: a condition's (two ways out), wm_T: a statement's, wm_A: arguments'. A way out is a place up to jumps (wm_thr). -/
section WMT
variable {L : List wm_C} {fl : List (Nat × Nat × Nat)} {cs : List (Nat × Value)} {sc : Option (Nat × (Nat → Int32))} {cV cS : List (Nat × wm_M)} {ret : Option Value → wm_S → Prop} {tb : List wm_R} {w : wm_K}
abbrev wm_O : Type := (List Value × wm_S) ⊕ (Option Value × wm_S)
/-- an expression, a condition, a statement -/
abbrev wm_Ex (α : Type) : Type := List Value → wm_S → Option (α × wm_S)
abbrev wm_St : Type := List Value → wm_S → Option wm_O
def wm_E {α : Type} (w : wm_K) (tb : List wm_R) (d p0 p1 : Nat) (inj : α → Value) (f : wm_Ex α) : Prop := wm_thr tb p0 = p0 ∧ ∀ lv st S a S', wm_cs st ≤ d → f lv S = some (a, S') → w (wm_thr tb p1) lv (inj a :: st) S' → w p0 lv st S
def wm_A (w : wm_K) (tb : List wm_R) (d p0 p1 n : Nat) (f : wm_Ex (List Value)) : Prop := wm_thr tb p0 = p0 ∧ ∀ lv st S a S', wm_cs st ≤ d → f lv S = some (a, S') → (a.length = n → w (wm_thr tb p1) lv (a.reverse ++ st) S') → w p0 lv st S
def wm_B (w : wm_K) (tb : List wm_R) (d p0 pT pF : Nat) (f : wm_Ex Bool) : Prop := wm_thr tb p0 = p0 ∧ ∀ lv st S b S', wm_cs st ≤ d → f lv S = some (b, S') → w (wm_thr tb (bif b then pT else pF)) lv st S' → w p0 lv st S
def wm_T (w : wm_K) (tb : List wm_R) (ret : Option Value → wm_S → Prop) (p0 p1 : Nat) (f : wm_St) : Prop := wm_thr tb p0 = p0 ∧ ∀ lv S o, f lv S = some o → (match o with
  | .inl (lv', S') => w (wm_thr tb p1) lv' [] S'
  | .inr (v, S') => ret v S') → w p0 lv [] S
def wm_ng (i : Instr) : Bool := match i with
  | .goto _ => false
  | _ => true
theorem wm_thr_ng {p nx tg : Nat} {i : Instr} (h : wm_lp tb p = some (i, nx, tg)) (hi : wm_ng i = true) : wm_thr tb p = p := by
  unfold wm_thr
  rw [h]
  split
  · rename_i e
    cases e
    cases hi
  · rfl
theorem wm_thr_w (hc : wm_cl L fl cs sc cV cS ret tb w) {p : Nat} {lv st : List Value} {S : wm_S} (h : w (wm_thr tb p) lv st S) : w p lv st S := by
  unfold wm_thr at h
  split at h
  · rename_i o nx t e
    refine hc _ _ _ _ _ _ _ e ?_
    show w t lv st S
    split at h
    · rename_i o2 nx2 u e2
      refine hc _ _ _ _ _ _ _ e2 ?_
      exact h
    · exact h
  · exact h
theorem wm_cat2 (v : Value) : v.category ≤ 2 := by cases v <;> simp [Value.category]
theorem wm_cs_cons {v : Value} {st : List Value} {d : Nat} (h : wm_cs st ≤ d) : wm_cs (v :: st) ≤ d + 2 := by
  have := wm_cat2 v
  simp only [wm_cs, List.map_cons, List.sum_cons] at h ⊢
  omega
theorem wm_at (hc : wm_cl L fl cs sc cV cS ret tb w) {p nx tg : Nat} {i : Instr} {lv st : List Value} {S : wm_S} (h : wm_lp tb p = some (i, nx, tg)) (hi : wm_ng i = true) (hs : wm_step L fl cs sc cV cS ret i p nx tg lv st S w) : w (wm_thr tb p) lv st S := by
  rw [wm_thr_ng h hi]
  exact hc _ _ _ _ _ _ _ h hs
/-! expressions -/
def wx_bind {α β : Type} (a : wm_Ex α) (g : α → wm_S → Option β) : List Value → wm_S → Option β := fun lv S => match a lv S with
  | some (x, S1) => g x S1
  | none => none
theorem wx_bind_some {α β : Type} {a : wm_Ex α} {g : α → wm_S → Option β} {lv : List Value} {S : wm_S} {r : β} (h : wx_bind a g lv S = some r) : ∃ x S1, a lv S = some (x, S1) ∧ g x S1 = some r := by
  unfold wx_bind at h
  split at h
  · rename_i x S1 e
    exact ⟨x, S1, e, h⟩
  · cases h
def wx_i (j : Nat) : wm_Ex Int32 := fun lv S => match lv[j]? with
  | some (.int x) => some (x, S)
  | _ => none
def wx_l (j : Nat) : wm_Ex Int64 := fun lv S => match lv[j]? with
  | some (.long x) => some (x, S)
  | _ => none
def wx_r (j : Nat) : wm_Ex Nat := fun lv S => match lv[j]? with
  | some (.ref x) => some (x, S)
  | _ => none
def wx_c {α : Type} (x : α) : wm_Ex α := fun _ S => some (x, S)
def wx_bin {α β γ : Type} (op : α → β → γ) (a : wm_Ex α) (b : wm_Ex β) : wm_Ex γ := fun lv S => wx_bind a (fun x S1 => wx_bind b (fun y S2 => some (op x y, S2)) lv S1) lv S
def wx_un {α γ : Type} (op : α → γ) (a : wm_Ex α) : wm_Ex γ := fun lv S => wx_bind a (fun x S1 => some (op x, S1)) lv S
def wx_div (a b : wm_Ex Int32) : wm_Ex Int32 := fun lv S => wx_bind a (fun x S1 => wx_bind b (fun y S2 => if y = 0 then none else some (x / y, S2)) lv S1) lv S
def wx_rem (a b : wm_Ex Int32) : wm_Ex Int32 := fun lv S => wx_bind a (fun x S1 => wx_bind b (fun y S2 => if y = 0 then none else some (x - x / y * y, S2)) lv S1) lv S
/-- fields: of ints and booleans, of longs, of references -/
def wx_fi (L : List wm_C) (ci j : Nat) (a : wm_Ex Nat) : wm_Ex Int32 := fun lv S => wx_bind a (fun q S1 => match wm_fd L q ci j with
  | some 0 => some (S1.1 q j, S1)
  | some 2 => some (S1.1 q j, S1)
  | _ => none) lv S
def wx_fl (L : List wm_C) (ci j : Nat) (a : wm_Ex Nat) : wm_Ex Int64 := fun lv S => wx_bind a (fun q S1 => match wm_fd L q ci j with
  | some 1 => some (S1.2 q j, S1)
  | _ => none) lv S
def wx_fr (L : List wm_C) (ci j : Nat) (a : wm_Ex Nat) : wm_Ex Nat := fun lv S => wx_bind a (fun q S1 => match wm_fd L q ci j with
  | some (n + 3) => some (n, S1)
  | _ => none) lv S
/-- elements: of ints (kind 0) and booleans (kind 3), of longs, of references -/
def wx_ai (L : List wm_C) (kd : Nat) (a : wm_Ex Nat) (b : wm_Ex Int32) : wm_Ex Int32 := fun lv S => wx_bind a (fun q S1 => wx_bind b (fun i S2 => match wm_ak L q kd with
  | some (n, _) => if i < 0 ∨ n ≤ i.toNatClampNeg then none else some (S2.1 q i.toNatClampNeg, S2)
  | none => none) lv S1) lv S
def wx_al (L : List wm_C) (a : wm_Ex Nat) (b : wm_Ex Int32) : wm_Ex Int64 := fun lv S => wx_bind a (fun q S1 => wx_bind b (fun i S2 => match wm_ak L q 1 with
  | some (n, _) => if i < 0 ∨ n ≤ i.toNatClampNeg then none else some (S2.2 q i.toNatClampNeg, S2)
  | none => none) lv S1) lv S
def wx_ar (L : List wm_C) (a : wm_Ex Nat) (b : wm_Ex Int32) : wm_Ex Nat := fun lv S => wx_bind a (fun q S1 => wx_bind b (fun i S2 => match wm_ak L q 2 with
  | some (n, f) => if i < 0 ∨ n ≤ i.toNatClampNeg then none else some (f i.toNatClampNeg, S2)
  | none => none) lv S1) lv S
def wx_cond {α : Type} (c : wm_Ex Bool) (a b : wm_Ex α) : wm_Ex α := fun lv S => wx_bind c (fun t S1 => bif t then a lv S1 else b lv S1) lv S
def wx_a1 {α : Type} (inj : α → Value) (a : wm_Ex α) : wm_Ex (List Value) := fun lv S => wx_bind a (fun x S1 => some ([inj x], S1)) lv S
def wx_ac {α : Type} (inj : α → Value) (a : wm_Ex α) (b : wm_Ex (List Value)) : wm_Ex (List Value) := fun lv S => wx_bind a (fun x S1 => wx_bind b (fun vs S2 => some (inj x :: vs, S2)) lv S1) lv S
def wx_call {α : Type} (pr : Value → Option α) (f : List Value → wm_S → Option (Option Value × wm_S)) (b : wm_Ex (List Value)) : wm_Ex α := fun lv S => wx_bind b (fun vs S1 => match f vs S1 with
  | some (some v, S2) => (match pr v with
    | some x => some (x, S2)
    | none => none)
  | _ => none) lv S
def wm_pi (v : Value) : Option Int32 := match v with
  | .int x => some x
  | _ => none
def wm_pl (v : Value) : Option Int64 := match v with
  | .long x => some x
  | _ => none
theorem wm_pi_ok {v : Value} {x : Int32} (h : wm_pi v = some x) : v = .int x := by
  cases v <;> simp [wm_pi] at h
  rw [h]
theorem wm_pl_ok {v : Value} {x : Int64} (h : wm_pl v = some x) : v = .long x := by
  cases v <;> simp [wm_pl] at h
  rw [h]
abbrev wo_iadd (x y : Int32) : Int32 := x + y
abbrev wo_isub (x y : Int32) : Int32 := x - y
abbrev wo_imul (x y : Int32) : Int32 := x * y
abbrev wo_iand (x y : Int32) : Int32 := x &&& y
abbrev wo_ior (x y : Int32) : Int32 := x ||| y
abbrev wo_ixor (x y : Int32) : Int32 := x ^^^ y
abbrev wo_ishl (x y : Int32) : Int32 := x <<< (y &&& 31)
abbrev wo_ishr (x y : Int32) : Int32 := x >>> (y &&& 31)
abbrev wo_iushr (x y : Int32) : Int32 := (x.toUInt32 >>> (y.toUInt32 &&& Int32.toUInt32 31)).toInt32
abbrev wo_ladd (x y : Int64) : Int64 := x + y
abbrev wo_lsub (x y : Int64) : Int64 := x - y
abbrev wo_land (x y : Int64) : Int64 := x &&& y
abbrev wo_lor (x y : Int64) : Int64 := x ||| y
abbrev wo_lxor (x y : Int64) : Int64 := x ^^^ y
abbrev wo_lshl (x : Int64) (y : Int32) : Int64 := x <<< (y.toInt64 &&& 63)
abbrev wo_lushr (x : Int64) (y : Int32) : Int64 := (x.toUInt64 >>> (y.toInt64.toUInt64 &&& Int64.toUInt64 63)).toInt64
abbrev wo_i2l (x : Int32) : Int64 := x.toInt64
abbrev wo_l2i (x : Int64) : Int32 := x.toInt32
/-! conditions -/
def wr_eq (x y : Int32) : Bool := decide (x = y)
def wr_ne (x y : Int32) : Bool := !decide (x = y)
def wr_lt (x y : Int32) : Bool := decide (x < y)
def wr_ge (x y : Int32) : Bool := decide (y ≤ x)
def wr_gt (x y : Int32) : Bool := decide (y < x)
def wr_le (x y : Int32) : Bool := decide (x ≤ y)
def wb_and (a b : wm_Ex Bool) : wm_Ex Bool := fun lv S => wx_bind a (fun t S1 => bif t then b lv S1 else some (false, S1)) lv S
def wb_or (a b : wm_Ex Bool) : wm_Ex Bool := fun lv S => wx_bind a (fun t S1 => bif t then some (true, S1) else b lv S1) lv S
def wb_not (a : wm_Ex Bool) : wm_Ex Bool := fun lv S => wx_bind a (fun t S1 => some (!t, S1)) lv S
/-! statements -/
def ws_seq (a b : wm_St) : wm_St := fun lv S => match a lv S with
  | some (.inl (lv1, S1)) => b lv1 S1
  | o => o
def ws_i (j : Nat) (a : wm_Ex Int32) : wm_St := fun lv S => wx_bind a (fun x S1 => if j < lv.length then some (.inl (wm_st lv j (.int x), S1)) else none) lv S
def ws_l (j : Nat) (a : wm_Ex Int64) : wm_St := fun lv S => wx_bind a (fun x S1 => if j + 1 < lv.length then some (.inl (wm_st2 lv j (.long x), S1)) else none) lv S
def ws_inc (j : Nat) (z : Int32) : wm_St := fun lv S => match lv[j]? with
  | some (.int x) => some (.inl (wm_st lv j (.int (x + z)), S))
  | _ => none
def ws_fi (L : List wm_C) (ci j : Nat) (a : wm_Ex Nat) (b : wm_Ex Int32) : wm_St := fun lv S => wx_bind a (fun q S1 => wx_bind b (fun x S2 => match wm_fd L q ci j with
  | some 0 => some (.inl (lv, (wm_up S2.1 q j x, S2.2)))
  | some 2 => if x = 0 ∨ x = 1 then some (.inl (lv, (wm_up S2.1 q j x, S2.2))) else none
  | _ => none) lv S1) lv S
def ws_fl (L : List wm_C) (ci j : Nat) (a : wm_Ex Nat) (b : wm_Ex Int64) : wm_St := fun lv S => wx_bind a (fun q S1 => wx_bind b (fun x S2 => match wm_fd L q ci j with
  | some 1 => some (.inl (lv, (S2.1, wm_up S2.2 q j x)))
  | _ => none) lv S1) lv S
/-- a field of ints (of longs) that is changed by an operation -/
def ws_ofi (L : List wm_C) (ci j : Nat) (op : Int32 → Int32 → Int32) (a : wm_Ex Nat) (b : wm_Ex Int32) : wm_St := fun lv S => wx_bind a (fun q S1 => match wm_fd L q ci j with
  | some 0 => wx_bind b (fun y S2 => some (.inl (lv, (wm_up S2.1 q j (op (S1.1 q j) y), S2.2)))) lv S1
  | _ => none) lv S
def ws_ofl (L : List wm_C) (ci j : Nat) (op : Int64 → Int64 → Int64) (a : wm_Ex Nat) (b : wm_Ex Int64) : wm_St := fun lv S => wx_bind a (fun q S1 => match wm_fd L q ci j with
  | some 1 => wx_bind b (fun y S2 => some (.inl (lv, (S2.1, wm_up S2.2 q j (op (S1.2 q j) y))))) lv S1
  | _ => none) lv S
def ws_ai (L : List wm_C) (a : wm_Ex Nat) (b c : wm_Ex Int32) : wm_St := fun lv S => wx_bind a (fun q S1 => wx_bind b (fun i S2 => wx_bind c (fun x S3 => match wm_ak L q 0 with
  | some (n, _) => if i < 0 ∨ n ≤ i.toNatClampNeg then none else some (.inl (lv, (wm_up S3.1 q i.toNatClampNeg x, S3.2)))
  | none => none) lv S2) lv S1) lv S
def ws_az (L : List wm_C) (a : wm_Ex Nat) (b c : wm_Ex Int32) : wm_St := fun lv S => wx_bind a (fun q S1 => wx_bind b (fun i S2 => wx_bind c (fun x S3 => match wm_ak L q 3 with
  | some (n, _) => if i < 0 ∨ n ≤ i.toNatClampNeg then none else if x = 0 ∨ x = 1 then some (.inl (lv, (wm_up S3.1 q i.toNatClampNeg x, S3.2))) else none
  | none => none) lv S2) lv S1) lv S
def ws_al (L : List wm_C) (a : wm_Ex Nat) (b : wm_Ex Int32) (c : wm_Ex Int64) : wm_St := fun lv S => wx_bind a (fun q S1 => wx_bind b (fun i S2 => wx_bind c (fun x S3 => match wm_ak L q 1 with
  | some (n, _) => if i < 0 ∨ n ≤ i.toNatClampNeg then none else some (.inl (lv, (S3.1, wm_up S3.2 q i.toNatClampNeg x)))
  | none => none) lv S2) lv S1) lv S
/-- an element of ints (of longs) that is changed by an operation -/
def ws_oai (L : List wm_C) (op : Int32 → Int32 → Int32) (a : wm_Ex Nat) (b c : wm_Ex Int32) : wm_St := fun lv S => wx_bind a (fun q S1 => wx_bind b (fun i S2 => match wm_ak L q 0 with
  | some (n, _) => if i < 0 ∨ n ≤ i.toNatClampNeg then none else wx_bind c (fun y S3 => some (.inl (lv, (wm_up S3.1 q i.toNatClampNeg (op (S2.1 q i.toNatClampNeg) y), S3.2)))) lv S2
  | none => none) lv S1) lv S
def ws_oal (L : List wm_C) (op : Int64 → Int64 → Int64) (a : wm_Ex Nat) (b : wm_Ex Int32) (c : wm_Ex Int64) : wm_St := fun lv S => wx_bind a (fun q S1 => wx_bind b (fun i S2 => match wm_ak L q 1 with
  | some (n, _) => if i < 0 ∨ n ≤ i.toNatClampNeg then none else wx_bind c (fun y S3 => some (.inl (lv, (S3.1, wm_up S3.2 q i.toNatClampNeg (op (S2.2 q i.toNatClampNeg) y))))) lv S2
  | none => none) lv S1) lv S
def ws_call (f : List Value → wm_S → Option (Option Value × wm_S)) (b : wm_Ex (List Value)) : wm_St := fun lv S => wx_bind b (fun vs S1 => match f vs S1 with
  | some (none, S2) => some (.inl (lv, S2))
  | _ => none) lv S
def ws_if (c : wm_Ex Bool) (a : wm_St) : wm_St := fun lv S => wx_bind c (fun t S1 => bif t then a lv S1 else some (.inl (lv, S1))) lv S
def ws_ife (c : wm_Ex Bool) (a b : wm_St) : wm_St := fun lv S => wx_bind c (fun t S1 => bif t then a lv S1 else b lv S1) lv S
def ws_ret {α : Type} (inj : α → Value) (a : wm_Ex α) : wm_St := fun lv S => wx_bind a (fun x S1 => some (.inr (some (inj x), S1))) lv S
def ws_skip : wm_St := fun lv S => some (.inl (lv, S))
def ws_retv : wm_St := fun _ S => some (.inr (none, S))
/-- throw new: the exception's number in place of an answer -/
def ws_thr (k : Nat) : wm_St := fun _ S => some (.inr (some (.retAddr k), S))
def ws_loop (c : wm_Ex Bool) (b : wm_St) : Nat → wm_St
  | 0 => fun _ _ => none
  | n + 1 => fun lv S => wx_bind c (fun t S1 => bif t then (match b lv S1 with
    | some (.inl (lv2, S2)) => ws_loop c b n lv2 S2
    | o => o) else some (.inl (lv, S1))) lv S
/-- the statement for x among those for v, v + 1, .. -/
def ws_pick (d : wm_St) (x : Int) : Int → List wm_St → wm_St
  | _, [] => d
  | v, s :: r => if x = v then s else ws_pick d x (v + 1) r
def ws_sw (a : wm_Ex Int32) (v : Int) (ss : List wm_St) (d : wm_St) : wm_St := fun lv S => wx_bind a (fun x S1 => ws_pick d x.toInt v ss lv S1) lv S
end WMT

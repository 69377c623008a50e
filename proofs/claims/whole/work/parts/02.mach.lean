/-! wm: a small machine over a fixed layout of cells. One step is a condition on what comes behind it (wm_step). References of the small machine are places in the layout; ad says at which address a place lies. S.1 q k is the int, S.2 q k the long that lies in the cell at place q at slot k (a field, or an element of an array). -/
section WMA
abbrev wm_S : Type := (Nat → Nat → Int32) × (Nat → Nat → Int64)
/-- a cell: an object (its class's number, a code for each field: 0 an int, 1 a long, 2 a boolean, n + 3 a reference to place n), or an array (its place among the types, its length, 0 ints, 1 longs, 2 references to the places f, 3 booleans) -/
abbrev wm_C : Type := (Nat × List Nat) ⊕ (Nat × Nat × Nat × (Nat → Nat))
/-- what holds from a place in the code on, with these locals, this stack, these numbers -/
abbrev wm_K : Type := Nat → List Value → List Value → wm_S → Prop
/-- a callee: how many arguments (the receiver among them), and what it answers and leaves -/
abbrev wm_M : Type := Nat × (List Value → wm_S → Option (Option Value × wm_S))
def wm_lp {β : Type} : List (Nat × β) → Nat → Option β
  | [], _ => none
  | r :: t, k => bif Nat.beq r.1 k then some r.2 else wm_lp t k
theorem wm_lp_mem {β : Type} {k : Nat} {v : β} : ∀ {l : List (Nat × β)}, wm_lp l k = some v → (k, v) ∈ l
  | [], h => by cases h
  | r :: t, h => by
    unfold wm_lp at h
    cases e : Nat.beq r.1 k with
    | true =>
      rw [e] at h
      have e1 : r.1 = k := Nat.eq_of_beq_eq_true e
      have e2 : r.2 = v := Option.some.inj h
      subst e1
      subst e2
      exact List.mem_cons_self
    | false =>
      rw [e] at h
      exact List.mem_cons_of_mem _ (wm_lp_mem h)
def wm_up {α : Type} (g : Nat → Nat → α) (q j : Nat) (v : α) : Nat → Nat → α := fun a b => if a = q then (if b = j then v else g a b) else g a b
theorem wm_up_q (g : Nat → Nat → Int32) (q j : Nat) (v : Int32) : wm_up g q j v q = upd (g q) j v := by
  funext b
  simp [wm_up, upd]
theorem wm_up_qL (g : Nat → Nat → Int64) (q j : Nat) (v : Int64) : wm_up g q j v q = vp_updL (g q) j v := by
  funext b
  simp [wm_up, vp_updL]
theorem wm_up_ne {α : Type} (g : Nat → Nat → α) {q j a : Nat} (v : α) (h : a ≠ q) : wm_up g q j v a = g a := by
  funext b
  simp [wm_up, h]
theorem wm_up_jj {α : Type} (g : Nat → Nat → α) (q j : Nat) (v : α) : wm_up g q j v q j = v := by simp [wm_up]
theorem wm_up_nj {α : Type} (g : Nat → Nat → α) {q j k : Nat} (v : α) (h : k ≠ j) : wm_up g q j v q k = g q k := by simp [wm_up, h]
def wm_cv (ad : Nat → Nat) (v : Value) : Value := match v with
  | .ref k => .ref (ad k)
  | w => w
def wm_av (S : wm_S) (q k f : Nat) : Value := match f with
  | 0 => .int (S.1 q k)
  | 1 => .long (S.2 q k)
  | 2 => .int (S.1 q k)
  | n + 3 => .ref n
def wm_ce (ad : Nat → Nat) (cA : Nat → ClassId) (S : wm_S) (q : Nat) (c : wm_C) : va_E := match c with
  | .inl (ci, fs) => .inr (ci, fs.mapIdx (fun k f => wm_cv ad (wm_av S q k f)))
  | .inr (t, n, 0, _) => .inl (cA t, n, .inl (S.1 q))
  | .inr (t, n, 1, _) => .inl (cA t, n, .inr (.inl (S.2 q)))
  | .inr (t, n, 2, f) => .inl (cA t, n, .inr (.inr (.inr (.inr (fun i => some (ad (f i)))))))
  | .inr (t, n, _, _) => .inl (cA t, n, .inl (S.1 q))
def wm_lay (ad : Nat → Nat) (cA : Nat → ClassId) (L : List wm_C) (S : wm_S) : va_W := L.mapIdx (fun q c => (ad q, wm_ce ad cA S q c))
theorem wm_lay_at {ad : Nat → Nat} {cA : Nat → ClassId} {L : List wm_C} {S : wm_S} {q : Nat} {c : wm_C} (h : L[q]? = some c) : (wm_lay ad cA L S)[q]? = some (ad q, wm_ce ad cA S q c) := by
  simp [wm_lay, h]
/-- a cell that is written: the layout of the new numbers, if all else is as it was -/
theorem wm_lay_set {D : va_G} {cl : List vw_C} {ad : Nat → Nat} {cA : Nat → ClassId} {L : List wm_C} {S S' : wm_S} {q : Nat} {c : wm_C} {E : va_E} {H : Heap} (h : L[q]? = some c) (hE : wm_ce ad cA S' q c = E) (ho : ∀ a c', a ≠ q → wm_ce ad cA S' a c' = wm_ce ad cA S a c')
    (hP : va_P D cl ((wm_lay ad cA L S).set q (ad q, E)) H) : va_P D cl (wm_lay ad cA L S') H := by
  intro k z hk
  have hk' : ∃ c', L[k]? = some c' ∧ z = (ad k, wm_ce ad cA S' k c') := by
    simp only [wm_lay, List.getElem?_mapIdx, Option.map_eq_some_iff] at hk
    obtain ⟨c', h1, h2⟩ := hk
    exact ⟨c', h1, h2.symm⟩
  obtain ⟨c', h1, rfl⟩ := hk'
  refine hP k _ ?_
  by_cases e : k = q
  · subst e
    rw [h] at h1
    cases h1
    rw [hE, List.getElem?_set_self (by
      obtain ⟨h2, -⟩ := List.getElem?_eq_some_iff.mp h
      simpa [wm_lay] using h2)]
  · rw [List.getElem?_set_ne (fun e' => e e'.symm), wm_lay_at h1, ho k c' e]
theorem wm_ce_ne1 {ad : Nat → Nat} {cA : Nat → ClassId} {S : wm_S} {q j : Nat} {v : Int32} : ∀ a c', a ≠ q → wm_ce ad cA (wm_up S.1 q j v, S.2) a c' = wm_ce ad cA S a c' := by
  intro a c' h
  have e : wm_up S.1 q j v a = S.1 a := wm_up_ne _ _ h
  have e2 : ∀ k f, wm_av (wm_up S.1 q j v, S.2) a k f = wm_av S a k f := by
    intro k f
    unfold wm_av
    split <;> simp [e]
  unfold wm_ce
  split <;> simp [e, e2]
theorem wm_ce_ne2 {ad : Nat → Nat} {cA : Nat → ClassId} {S : wm_S} {q j : Nat} {v : Int64} : ∀ a c', a ≠ q → wm_ce ad cA (S.1, wm_up S.2 q j v) a c' = wm_ce ad cA S a c' := by
  intro a c' h
  have e : wm_up S.2 q j v a = S.2 a := wm_up_ne _ _ h
  have e2 : ∀ k f, wm_av (S.1, wm_up S.2 q j v) a k f = wm_av S a k f := by
    intro k f
    unfold wm_av
    split <;> simp [e]
  unfold wm_ce
  split <;> simp [e, e2]
/-- the locals: at each place a value, or .retAddr where nothing is known -/
def wm_ls (ad : Nat → Nat) (nL : Nat) (lv : List Value) (ls : Array Slot) : Prop := lv_has ls nL [] ∧ lv.length = nL ∧ ∀ (i : Nat) (v : Value), lv[i]? = some v → (∃ z, v = Value.retAddr z) ∨ ls[i]? = some (Slot.val (wm_cv ad v))
def wm_st (lv : List Value) (i : Nat) (v : Value) : List Value := match i with
  | 0 => lv.set 0 v
  | j + 1 => match lv[j]? with
    | some (.long _) => (lv.set j (.retAddr 0)).set (j + 1) v
    | some (.double _) => (lv.set j (.retAddr 0)).set (j + 1) v
    | _ => lv.set (j + 1) v
def wm_st2 (lv : List Value) (i : Nat) (v : Value) : List Value := (wm_st lv i v).set (i + 1) (.retAddr 0)

/-- the code of field j of the object at place q, if its class has the number ci -/
def wm_fd (L : List wm_C) (q ci j : Nat) : Option Nat := match L[q]? with
  | some (.inl (c, fs)) => bif Nat.beq c ci then fs[j]? else none
  | _ => none
/-- the place and the code of a field that an instruction names, in the object at place q -/
def wm_fld (L : List wm_C) (fl : List (Nat × Nat × Nat)) (q ix : Nat) : Option (Nat × Nat) := match wm_lp fl ix with
  | some (ci, j) => (match wm_fd L q ci j with
    | some f => some (j, f)
    | none => none)
  | none => none
/-- length (and, of references, places) of the array at place q, if it is of the kind kd -/
def wm_ak (L : List wm_C) (q kd : Nat) : Option (Nat × (Nat → Nat)) := match L[q]? with
  | some (.inr (_, n, k, f)) => bif Nat.beq k kd then some (n, f) else none
  | _ => none
def wm_cs (st : List Value) : Nat := (st.map fun v => v.category).sum
def wm_jmp (pc : Nat) (off : Int) (k : Nat → Prop) : Prop := match (pc : Int) + off with
  | .ofNat t => k t
  | .negSucc _ => False
def wm_tsw (pc : Nat) (x : Int32) (k : Nat → Prop) : Int → List Int → Prop
  | _, [] => True
  | v, o :: r => (x.toInt = v → wm_jmp pc o k) ∧ wm_tsw pc x k (v + 1) r
def wm_lsw (pc : Nat) (x : Int32) (k : Nat → Prop) (d : Int) : List (Int × Int) → Prop
  | [] => wm_jmp pc d k
  | q :: r => (x.toInt = q.1 → wm_jmp pc q.2 k) ∧ (¬ x.toInt = q.1 → wm_lsw pc x k d r)
def wm_inv (cf : List (Nat × wm_M)) (ix nx : Nat) (lv st : List Value) (S : wm_S) (k : wm_K) : Prop := match wm_lp cf ix with
  | some (n, f) => ∃ (vs rest : List Value) (v : Option Value) (S' : wm_S), st = vs.reverse ++ rest ∧ vs.length = n ∧ wm_cs rest ≤ 8 ∧ f vs S = some (v, S') ∧ k nx lv (v.toList ++ rest) S'
  | none => False
/-- one instruction: nx is the place of the next one, tg where a jump leads; sc: the script (its length and its ints), at the place behind the layout's last; cV, cS: the callees by their index; ret: what must hold where the method returns -/
def wm_step (L : List wm_C) (fl : List (Nat × Nat × Nat)) (cs : List (Nat × Value)) (sc : Option (Nat × (Nat → Int32))) (cV cS : List (Nat × wm_M)) (ret : Option Value → wm_S → Prop) (i : Instr) (pc nx tg : Nat) (lv st : List Value) (S : wm_S) (k : wm_K) : Prop :=
  match i with
  | .iconst z => k nx lv (.int (Int32.ofInt z) :: st) S
  | .bipush z => k nx lv (.int ((Int8.ofInt z).toInt32) :: st) S
  | .sipush z => k nx lv (.int ((Int16.ofInt z).toInt32) :: st) S
  | .lconst z => k nx lv (.long (Int64.ofNat z.val) :: st) S
  | .iload_n j => match lv[j.val]? with
    | some (.int x) => k nx lv (.int x :: st) S
    | _ => False
  | .iload j => match lv[j]? with
    | some (.int x) => k nx lv (.int x :: st) S
    | _ => False
  | .lload_n j => match lv[j.val]? with
    | some (.long x) => k nx lv (.long x :: st) S
    | _ => False
  | .lload j => match lv[j]? with
    | some (.long x) => k nx lv (.long x :: st) S
    | _ => False
  | .aload_n j => match lv[j.val]? with
    | some (.ref x) => k nx lv (.ref x :: st) S
    | _ => False
  | .aload j => match lv[j]? with
    | some (.ref x) => k nx lv (.ref x :: st) S
    | _ => False
  | .istore_n j => match st, Nat.blt (j.val) lv.length with
    | .int x :: r, true => k nx (wm_st lv j.val (.int x)) r S
    | _, _ => False
  | .istore j => match st, Nat.blt (j) lv.length with
    | .int x :: r, true => k nx (wm_st lv j (.int x)) r S
    | _, _ => False
  | .lstore_n j => match st, Nat.blt (j.val + 1) lv.length with
    | .long x :: r, true => k nx (wm_st2 lv j.val (.long x)) r S
    | _, _ => False
  | .lstore j => match st, Nat.blt (j + 1) lv.length with
    | .long x :: r, true => k nx (wm_st2 lv j (.long x)) r S
    | _, _ => False
  | .astore_n j => match st, Nat.blt (j.val) lv.length with
    | .ref x :: r, true => k nx (wm_st lv j.val (.ref x)) r S
    | _, _ => False
  | .astore j => match st, Nat.blt (j) lv.length with
    | .ref x :: r, true => k nx (wm_st lv j (.ref x)) r S
    | _, _ => False
  | .iinc j z => match lv[j]? with
    | some (.int x) => k nx (wm_st lv j (.int (x + Int32.ofInt z))) st S
    | _ => False
  | .iadd => match st with
    | .int y :: .int x :: r => k nx lv (.int (x + y) :: r) S
    | _ => False
  | .isub => match st with
    | .int y :: .int x :: r => k nx lv (.int (x - y) :: r) S
    | _ => False
  | .imul => match st with
    | .int y :: .int x :: r => k nx lv (.int (x * y) :: r) S
    | _ => False
  | .iand => match st with
    | .int y :: .int x :: r => k nx lv (.int (x &&& y) :: r) S
    | _ => False
  | .ior => match st with
    | .int y :: .int x :: r => k nx lv (.int (x ||| y) :: r) S
    | _ => False
  | .ixor => match st with
    | .int y :: .int x :: r => k nx lv (.int (x ^^^ y) :: r) S
    | _ => False
  | .ishl => match st with
    | .int y :: .int x :: r => k nx lv (.int (x <<< (y &&& 31)) :: r) S
    | _ => False
  | .ishr => match st with
    | .int y :: .int x :: r => k nx lv (.int (x >>> (y &&& 31)) :: r) S
    | _ => False
  | .iushr => match st with
    | .int y :: .int x :: r => k nx lv (.int ((x.toUInt32 >>> (y.toUInt32 &&& Int32.toUInt32 31)).toInt32) :: r) S
    | _ => False
  | .idiv => match st with
    | .int y :: .int x :: r => (¬ y = 0) ∧ k nx lv (.int (x / y) :: r) S
    | _ => False
  | .irem => match st with
    | .int y :: .int x :: r => (¬ y = 0) ∧ k nx lv (.int (x - x / y * y) :: r) S
    | _ => False
  | .ladd => match st with
    | .long y :: .long x :: r => k nx lv (.long (x + y) :: r) S
    | _ => False
  | .lsub => match st with
    | .long y :: .long x :: r => k nx lv (.long (x - y) :: r) S
    | _ => False
  | .land => match st with
    | .long y :: .long x :: r => k nx lv (.long (x &&& y) :: r) S
    | _ => False
  | .lor => match st with
    | .long y :: .long x :: r => k nx lv (.long (x ||| y) :: r) S
    | _ => False
  | .lxor => match st with
    | .long y :: .long x :: r => k nx lv (.long (x ^^^ y) :: r) S
    | _ => False
  | .lshl => match st with
    | .int y :: .long x :: r => k nx lv (.long (x <<< (y.toInt64 &&& 63)) :: r) S
    | _ => False
  | .lushr => match st with
    | .int y :: .long x :: r => k nx lv (.long ((x.toUInt64 >>> (y.toInt64.toUInt64 &&& Int64.toUInt64 63)).toInt64) :: r) S
    | _ => False
  | .lcmp => match st with
    | .long y :: .long x :: r => k nx lv (.int (lg_cmp x y) :: r) S
    | _ => False
  | .ineg => match st with
    | .int x :: r => k nx lv (.int (-x) :: r) S
    | _ => False
  | .i2l => match st with
    | .int x :: r => k nx lv (.long x.toInt64 :: r) S
    | _ => False
  | .l2i => match st with
    | .long x :: r => k nx lv (.int x.toInt32 :: r) S
    | _ => False
  | .dup => match st with
    | .int x :: r => k nx lv (.int x :: .int x :: r) S
    | .ref x :: r => k nx lv (.ref x :: .ref x :: r) S
    | _ => False
  | .pop => match st with
    | .int _ :: r => k nx lv r S
    | .ref _ :: r => k nx lv r S
    | _ => False
  | .dup2 => match st with
    | .int y :: .ref x :: r => k nx lv (.int y :: .ref x :: .int y :: .ref x :: r) S
    | _ => False
  | .dup_x1 => match st with
    | .int y :: .ref x :: r => k nx lv (.int y :: .ref x :: .int y :: r) S
    | _ => False
  | .goto _ => k tg lv st S
  | .ifCond cd _ => match st with
    | .int x :: r => (match cd with
      | .eq => (x = 0 → k tg lv r S) ∧ (¬ x = 0 → k nx lv r S)
      | .ne => (¬ x = 0 → k tg lv r S) ∧ (x = 0 → k nx lv r S)
      | .lt => (x < 0 → k tg lv r S) ∧ (¬ x < 0 → k nx lv r S)
      | .ge => (0 ≤ x → k tg lv r S) ∧ (¬ 0 ≤ x → k nx lv r S)
      | .gt => (0 < x → k tg lv r S) ∧ (¬ 0 < x → k nx lv r S)
      | .le => (x ≤ 0 → k tg lv r S) ∧ (¬ x ≤ 0 → k nx lv r S))
    | _ => False
  | .if_icmp cd _ => match st with
    | .int y :: .int x :: r => (match cd with
      | .eq => (x = y → k tg lv r S) ∧ (¬ x = y → k nx lv r S)
      | .ne => (¬ x = y → k tg lv r S) ∧ (x = y → k nx lv r S)
      | .lt => (x < y → k tg lv r S) ∧ (¬ x < y → k nx lv r S)
      | .ge => (y ≤ x → k tg lv r S) ∧ (¬ y ≤ x → k nx lv r S)
      | .gt => (y < x → k tg lv r S) ∧ (¬ y < x → k nx lv r S)
      | .le => (x ≤ y → k tg lv r S) ∧ (¬ x ≤ y → k nx lv r S))
    | _ => False
  | .getfield ix => match st with
    | .ref q :: r => (match wm_fld L fl q ix with
      | some (j, f) => k nx lv (wm_av S q j f :: r) S
      | none => False)
    | _ => False
  | .putfield ix => match st with
    | .int x :: .ref q :: r => (match wm_fld L fl q ix with
      | some (j, 0) => k nx lv r (wm_up S.1 q j x, S.2)
      | some (j, 2) => (x = 0 ∨ x = 1) ∧ k nx lv r (wm_up S.1 q j x, S.2)
      | _ => False)
    | .long x :: .ref q :: r => (match wm_fld L fl q ix with
      | some (j, 1) => k nx lv r (S.1, wm_up S.2 q j x)
      | _ => False)
    | _ => False
  | .iaload => match st with
    | .int i :: .ref q :: r => (match wm_ak L q 0 with
      | some (n, _) => vp_in i n ∧ k nx lv (.int (S.1 q i.toNatClampNeg) :: r) S
      | none => (match sc with
        | some (n, xs) => q = L.length ∧ vp_in i n ∧ k nx lv (.int (xs i.toNatClampNeg) :: r) S
        | none => False))
    | _ => False
  | .baload => match st with
    | .int i :: .ref q :: r => (match wm_ak L q 3 with
      | some (n, _) => vp_in i n ∧ k nx lv (.int (S.1 q i.toNatClampNeg) :: r) S
      | none => False)
    | _ => False
  | .laload => match st with
    | .int i :: .ref q :: r => (match wm_ak L q 1 with
      | some (n, _) => vp_in i n ∧ k nx lv (.long (S.2 q i.toNatClampNeg) :: r) S
      | none => False)
    | _ => False
  | .aaload => match st with
    | .int i :: .ref q :: r => (match wm_ak L q 2 with
      | some (n, f) => vp_in i n ∧ k nx lv (.ref (f i.toNatClampNeg) :: r) S
      | none => False)
    | _ => False
  | .iastore => match st with
    | .int x :: .int i :: .ref q :: r => (match wm_ak L q 0 with
      | some (n, _) => vp_in i n ∧ k nx lv r (wm_up S.1 q i.toNatClampNeg x, S.2)
      | none => False)
    | _ => False
  | .bastore => match st with
    | .int x :: .int i :: .ref q :: r => (match wm_ak L q 3 with
      | some (n, _) => vp_in i n ∧ (x = 0 ∨ x = 1) ∧ k nx lv r (wm_up S.1 q i.toNatClampNeg x, S.2)
      | none => False)
    | _ => False
  | .lastore => match st with
    | .long x :: .int i :: .ref q :: r => (match wm_ak L q 1 with
      | some (n, _) => vp_in i n ∧ k nx lv r (S.1, wm_up S.2 q i.toNatClampNeg x)
      | none => False)
    | _ => False
  | .arraylength => match st with
    | .ref q :: r => (match sc with
      | some (n, _) => q = L.length ∧ k nx lv (.int (Int32.ofNat n) :: r) S
      | none => False)
    | _ => False
  | .invokevirtual ix => wm_inv cV ix nx lv st S k
  | .invokestatic ix => wm_inv cS ix nx lv st S k
  | .ireturn => match st with
    | [.int x] => ret (some (.int x)) S
    | _ => False
  | .lreturn => match st with
    | [.long x] => ret (some (.long x)) S
    | _ => False
  | .return_ => match st with
    | [] => ret none S
    | _ => False
  | .ldc ix => match wm_lp cs ix with
    | some (.int x) => k nx lv (.int x :: st) S
    | _ => False
  | .ldc2_w ix => match wm_lp cs ix with
    | some (.long x) => k nx lv (.long x :: st) S
    | _ => False
  | .tableswitch d lo hi offs => match st, offs.size == (hi - lo + 1).toNat with
    | .int x :: r, true => (x.toInt < lo ∨ hi < x.toInt → wm_jmp pc d (fun t => k t lv r S)) ∧ wm_tsw pc x (fun t => k t lv r S) lo offs.toList
    | _, _ => False
  | .lookupswitch d ps => match st, (ps.toList.zip (ps.toList.drop 1)).all (fun (a, next) => a.1 < next.1) with
    | .int x :: r, true => wm_lsw pc x (fun t => k t lv r S) d ps.toList
    | _, _ => False
  | _ => False
def wm_len (i : Instr) : Nat := match i with
  | .tableswitch _ _ _ _ | .lookupswitch _ _ => 0
  | .bipush _ | .iload _ | .lload _ | .aload _ | .istore _ | .lstore _ | .astore _ | .ldc _ => 2
  | .newarray _ => 2
  | .multianewarray _ _ => 4
  | .invokevirtual _ | .invokespecial _ | .invokestatic _ | .new _ => 3
  | .sipush _ | .iinc _ _ | .goto _ | .ifCond _ _ | .if_icmp _ _ | .getfield _ | .putfield _ | .ldc2_w _ => 3
  | _ => 1
def wm_off (i : Instr) : Option Int := match i with
  | .goto o | .ifCond _ o | .if_icmp _ o => some o
  | _ => none
/-- a row of a method's table: place, instruction, next place, target -/
abbrev wm_R : Type := Nat × Instr × Nat × Nat
def wm_rok (b : ByteArray) (r : wm_R) : Prop := (wm_len r.2.1 = 0 ∨ r.2.2.1 = r.1 + wm_len r.2.1) ∧ decode b r.1 = .ok (r.2.1, r.2.2.1 - r.1) ∧ (match wm_off r.2.1 with
  | some o => (r.1 : Int) + o = (r.2.2.2 : Int)
  | none => True)
def wm_rokb (b : ByteArray) (r : wm_R) : Bool := (wm_len r.2.1 == 0 || r.2.2.1 == r.1 + wm_len r.2.1) && decide (decode b r.1 = .ok (r.2.1, r.2.2.1 - r.1)) && (match wm_off r.2.1 with
  | some o => decide ((r.1 : Int) + o = (r.2.2.2 : Int))
  | none => true)
theorem wm_rokb_ok {b : ByteArray} {r : wm_R} (h : wm_rokb b r = true) : wm_rok b r := by
  simp only [wm_rokb, Bool.and_eq_true, Bool.or_eq_true, beq_iff_eq, decide_eq_true_eq] at h
  refine ⟨h.1.1, h.1.2, ?_⟩
  have h2 := h.2
  split at h2
  · exact of_decide_eq_true h2
  · trivial
theorem wm_toks {b : ByteArray} {tb : List wm_R} (h : tb.all (wm_rokb b) = true) : ∀ r ∈ tb, wm_rok b r := fun r hr => wm_rokb_ok (List.all_eq_true.mp h r hr)
/-- where a jump to this place leads in the end -/
def wm_thr (tb : List wm_R) (pc : Nat) : Nat := match wm_lp tb pc with
  | some (.goto _, _, t) => (match wm_lp tb t with
    | some (.goto _, _, u) => u
    | _ => t)
  | _ => pc
/-- w is so closed that each instruction of the table may be taken -/
def wm_cl (L : List wm_C) (fl : List (Nat × Nat × Nat)) (cs : List (Nat × Value)) (sc : Option (Nat × (Nat → Int32))) (cV cS : List (Nat × wm_M)) (ret : Option Value → wm_S → Prop) (tb : List wm_R) (w : wm_K) : Prop :=
  ∀ pc i nx tg lv st S, wm_lp tb pc = some (i, nx, tg) → wm_step L fl cs sc cV cS ret i pc nx tg lv st S w → w pc lv st S
end WMA

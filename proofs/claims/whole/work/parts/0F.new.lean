/-! making cells: E lists the cells made since address h0, in order; a reference k in E stands for the address h0 + k; a straight piece of code without branches is run by wn_run up to the place 'stop' -/
section WNA
abbrev wn_cv (h0 : Nat) : Value → Value := wm_cv (fun k => h0 + k)
/-- a cell: an array (kind, length, first place of what it refers to), or an object (class, fields) -/
abbrev wn_E : Type := (Nat × Nat × Nat) ⊕ (Nat × List Value)
def wn_ce (h0 : Nat) (cA : Nat → ClassId) (e : wn_E) : va_E := match e with
  | .inr (ci, fs) => .inr (ci, fs.map (wn_cv h0))
  | .inl (1, n, _) => .inl (cA 1, n, .inr (.inl (fun _ => 0)))
  | .inl (2, n, b) => .inl (cA 2, n, .inr (.inr (.inr (.inr (fun i => some (h0 + (b + i)))))))
  | .inl (k, n, _) => .inl (cA k, n, .inl (fun _ => 0))
def wn_w (h0 : Nat) (cA : Nat → ClassId) (E : List wn_E) : va_W := E.mapIdx (fun i e => (h0 + i, wn_ce h0 cA e))
def wn_A (h0 : Nat) : Nat → Prop := fun q => h0 ≤ q
theorem wn_at {h0 : Nat} {cA : Nat → ClassId} {E : List wn_E} {i : Nat} {e : wn_E} (h : E[i]? = some e) : (wn_w h0 cA E)[i]? = some (h0 + i, wn_ce h0 cA e) := by simp [wn_w, h]
theorem wn_of {h0 : Nat} {cA : Nat → ClassId} {E : List wn_E} {i : Nat} {q : Nat × va_E} (h : (wn_w h0 cA E)[i]? = some q) : ∃ e, E[i]? = some e ∧ q = (h0 + i, wn_ce h0 cA e) := by
  simp only [wn_w, List.getElem?_mapIdx, Option.map_eq_some_iff] at h
  obtain ⟨e, h1, h2⟩ := h
  exact ⟨e, h1, h2.symm⟩
theorem wn_D (h0 : Nat) (cA : Nat → ClassId) (E : List wn_E) : va_D (wn_A h0) (wn_w h0 cA E) := by
  refine ⟨fun i j p q hp hq e => ?_, fun k q h => ?_⟩
  · obtain ⟨_, _, rfl⟩ := wn_of hp
    obtain ⟨_, _, rfl⟩ := wn_of hq
    have e : h0 + i = h0 + j := e
    omega
  · obtain ⟨_, _, rfl⟩ := wn_of h
    exact Nat.le_add_right _ _
theorem wn_push {D : va_G} {cl : List vw_C} {h0 : Nat} {cA : Nat → ClassId} {E : List wn_E} {e : wn_E} {H H1 : Heap} (hP : va_P D cl (wn_w h0 cA E) H) (hk : ∀ q : Nat, q < H.size → H1[q]? = H[q]?) (he : va_at D cl (h0 + E.length, wn_ce h0 cA e) H1) : va_P D cl (wn_w h0 cA (E ++ [e])) H1 := by
  intro k q hq
  obtain ⟨e1, h1, rfl⟩ := wn_of hq
  by_cases hl : k < E.length
  · rw [List.getElem?_append_left hl] at h1
    have := hP k _ (wn_at h1)
    exact this.kept (hk _ this.lt)
  · rw [List.getElem?_append_right (by omega)] at h1
    have h0' : k - E.length < 1 := (List.getElem?_eq_some_iff.mp h1).1
    have hk0 : k = E.length := by omega
    subst hk0
    simp at h1
    subst h1
    exact he
theorem wn_set {h0 : Nat} {cA : Nat → ClassId} {E : List wn_E} {i : Nat} {e : wn_E} : (wn_w h0 cA E).set i (h0 + i, wn_ce h0 cA e) = wn_w h0 cA (E.set i e) := by
  apply List.ext_getElem?
  intro k
  simp only [wn_w, List.getElem?_set, List.getElem?_mapIdx, List.length_mapIdx]
  by_cases hk : i = k
  · subst hk
    by_cases hl : i < E.length <;> simp [hl]
  · simp [hk]
def wn_sz (E : List wn_E) : Nat := (E.map fun e => match e with
  | .inl (_, n, _) => n
  | .inr (_, fs) => fs.length).sum
def wn_ar (kd n : Nat) : wn_E := .inl (kd, n, 0)
/-- the arrays' types by their kind -/
def wn_kd (t : ArrayType) : Option Nat := match t with
  | .int => some 0
  | .long => some 1
  | .boolean => some 3
  | _ => none
def wn_fit (ty : FieldType) (v : Value) : Bool := decide (narrow ty v = v) && fits ty v
/-- a constructor: the receiver's address, the cells before, the cells behind -/
abbrev wn_F : Type := Nat → List wn_E → Option (List wn_E)
/-- h0, receiver, array classes; final and other fields of the own class ci by index (place, type); 'new' by index (class, first values); constructors by index (cells and slots made, function); index of Object's constructor; bounds of cells and slots; the table; where to stop -/
def wn_run (o : Option Nat) (ci : Nat) (pf : List (Nat × Nat × FieldType)) (nw : List (Nat × Nat × List Value)) (cf : List (Nat × Nat × Nat × wn_F)) (io : Nat) (mi : List Nat) (Nc Ns : Nat) (tb : List wm_R) (stop : Nat) : Nat → Nat → List Value → List wn_E → Option (List Value × List wn_E)
  | 0, _, _, _ => none
  | n + 1, pc, st, E => bif Nat.beq pc stop then some (st, E) else match wm_lp tb pc with
    | some (.aload_n j, nx, _) => (match o with
      | some a => bif Nat.beq j.val 0 then wn_run o ci pf nw cf io mi Nc Ns tb stop n nx (.ref a :: st) E else none
      | none => none)
    | some (.dup, nx, _) => (match st with
      | .ref a :: r => wn_run o ci pf nw cf io mi Nc Ns tb stop n nx (.ref a :: .ref a :: r) E
      | _ => none)
    | some (.iconst z, nx, _) => wn_run o ci pf nw cf io mi Nc Ns tb stop n nx (.int (Int32.ofInt z) :: st) E
    | some (.bipush z, nx, _) => wn_run o ci pf nw cf io mi Nc Ns tb stop n nx (.int ((Int8.ofInt z).toInt32) :: st) E
    | some (.sipush z, nx, _) => wn_run o ci pf nw cf io mi Nc Ns tb stop n nx (.int ((Int16.ofInt z).toInt32) :: st) E
    | some (.lconst z, nx, _) => wn_run o ci pf nw cf io mi Nc Ns tb stop n nx (.long (Int64.ofNat z.val) :: st) E
    | some (.newarray t, nx, _) => (match st, wn_kd t with
      | .int k :: r, some kd => bif decide (k < 0) || !(Nat.ble (E.length + 1) Nc && (Nat.ble (wn_sz E + k.toNatClampNeg) Ns && Nat.ble (k.toNatClampNeg * 8) 536870912)) then none else wn_run o ci pf nw cf io mi Nc Ns tb stop n nx (.ref E.length :: r) (E ++ [wn_ar kd k.toNatClampNeg])
      | _, _ => none)
    | some (.new ix, nx, _) => (match wm_lp nw ix with
      | some (cj, fs) => bif Nat.ble (E.length + 1) Nc && Nat.ble (wn_sz E + fs.length) Ns then wn_run o ci pf nw cf io mi Nc Ns tb stop n nx (.ref E.length :: st) (E ++ [.inr (cj, fs)]) else none
      | none => none)
    | some (.putfield ix, nx, _) => (match st, wm_lp pf ix with
      | v :: .ref a :: r, some (j, ty) => (match E[a]? with
        | some (.inr (cj, fs)) => bif Nat.beq cj ci && (Nat.blt j fs.length && wn_fit ty v) then wn_run o ci pf nw cf io mi Nc Ns tb stop n nx r (E.set a (.inr (ci, fs.set j v))) else none
        | _ => none)
      | _, _ => none)
    | some (.invokespecial ix, nx, _) => (match st with
      | .ref a :: r => bif Nat.beq ix io then (bif Nat.ble (wm_cs r) 8 then wn_run o ci pf nw cf io mi Nc Ns tb stop n nx r E else none) else (match wm_lp cf ix with
        | some (mc, ms, f) => (match f a E with
          | some E1 => bif Nat.ble (wm_cs r) 8 && (Nat.beq E1.length (E.length + mc) && (Nat.beq (wn_sz E1) (wn_sz E + ms) && (Nat.ble E1.length Nc && Nat.ble (wn_sz E1) Ns))) then wn_run o ci pf nw cf io mi Nc Ns tb stop n nx r E1 else none
          | none => none)
        | none => none)
      | _ => none)
    | some (.multianewarray ix 2, nx, _) => (match st with
      | .int k :: .int m :: r => bif mi.contains ix && (!decide (m < 0) && (!decide (k < 0) && (Nat.ble (E.length + (1 + m.toNatClampNeg)) Nc && (Nat.ble (wn_sz E + (m.toNatClampNeg + m.toNatClampNeg * k.toNatClampNeg)) Ns && (Nat.ble (m.toNatClampNeg * 8) 536870912 && Nat.ble (k.toNatClampNeg * 8) 536870912))))) then
          wn_run o ci pf nw cf io mi Nc Ns tb stop n nx (.ref E.length :: r) (E ++ .inl (2, m.toNatClampNeg, E.length + 1) :: List.replicate m.toNatClampNeg (wn_ar 0 k.toNatClampNeg)) else none
      | _ => none)
    | _ => none
end WNA

/-! the small machine is true of the real one -/
section WMB
theorem wm_cat (ad : Nat → Nat) (v : Value) : (wm_cv ad v).category = v.category := by cases v <;> rfl
def wm_al (ad : Nat → Nat) (lv : List Value) : List (Nat × Value) := lv.zipIdx.filterMap (fun q => match q.1 with
  | .retAddr _ => none
  | v => some (q.2, wm_cv ad v))
theorem wm_al_in {ad : Nat → Nat} {lv : List Value} {i : Nat} {v : Value} (h : lv[i]? = some v) (hv : ∀ z, v ≠ .retAddr z) : (i, wm_cv ad v) ∈ wm_al ad lv := by
  refine List.mem_filterMap.mpr ⟨(v, i), List.mem_zipIdx_iff_getElem?.mpr h, ?_⟩
  cases v <;> first | rfl | exact absurd rfl (hv _)
theorem wm_al_of {ad : Nat → Nat} {lv : List Value} {q : Nat × Value} (h : q ∈ wm_al ad lv) : ∃ v, lv[q.1]? = some v ∧ (∀ z, v ≠ .retAddr z) ∧ q.2 = wm_cv ad v := by
  obtain ⟨⟨v, i⟩, h1, h2⟩ := List.mem_filterMap.mp h
  have h3 := List.mem_zipIdx_iff_getElem?.mp h1
  cases v <;> simp at h2 <;> (try subst h2) <;> exact ⟨_, h3, (fun z e => by cases e), rfl⟩
theorem wm_ls_has {ad : Nat → Nat} {nL : Nat} {lv : List Value} {ls : Array Slot} (h : wm_ls ad nL lv ls) : lv_has ls nL (wm_al ad lv) := by
  refine ⟨h.1.1, h.1.2.1, fun q hq => ?_⟩
  obtain ⟨v, h1, h2, h3⟩ := wm_al_of hq
  rcases h.2.2 _ _ h1 with ⟨z, e⟩ | e
  · exact absurd e (h2 z)
  · rw [e, h3]
theorem wm_ls_get {ad : Nat → Nat} {nL : Nat} {lv : List Value} {ls : Array Slot} (h : wm_ls ad nL lv ls) {i : Nat} {v : Value} (hv : lv[i]? = some v) (hn : ∀ z, v ≠ .retAddr z) : ls[i]? = some (.val (wm_cv ad v)) := (h.2.2 i v hv).resolve_left fun ⟨z, e⟩ => hn z e
theorem wm_ls_lt {ad : Nat → Nat} {nL : Nat} {lv : List Value} {ls : Array Slot} (h : wm_ls ad nL lv ls) {i : Nat} {v : Value} (hv : lv[i]? = some v) : i < nL := by
  obtain ⟨h2, -⟩ := List.getElem?_eq_some_iff.mp hv
  rw [← h.2.1]
  exact h2
theorem wm_st_len (lv : List Value) (i : Nat) (v : Value) : (wm_st lv i v).length = lv.length := by
  unfold wm_st
  split
  · simp
  · split <;> simp
theorem wm_st_at {lv : List Value} {i : Nat} {v w : Value} {j : Nat} (h : (wm_st lv i v)[j]? = some w) : (j = i ∧ w = v) ∨ (∃ z, w = .retAddr z) ∨ (lv[j]? = some w ∧ j ≠ i ∧ ¬ (j + 1 = i ∧ w.category = 2)) := by
  unfold wm_st at h
  split at h
  · rw [List.getElem?_set] at h
    split at h
    · split at h
      · rename_i e _
        cases h
        exact Or.inl ⟨e.symm, rfl⟩
      · cases h
    · rename_i e
      exact Or.inr (Or.inr ⟨h, fun q => e q.symm, fun q => by omega⟩)
  · rename_i j0
    split at h
    · rw [List.getElem?_set] at h
      split at h
      · split at h
        · rename_i e _
          cases h
          exact Or.inl ⟨e.symm, rfl⟩
        · cases h
      · rename_i e
        rw [List.getElem?_set] at h
        split at h
        · split at h
          · cases h
            exact Or.inr (Or.inl ⟨_, rfl⟩)
          · cases h
        · rename_i e2
          exact Or.inr (Or.inr ⟨h, fun q => e q.symm, fun q => e2 (by omega)⟩)
    · rw [List.getElem?_set] at h
      split at h
      · split at h
        · rename_i e _
          cases h
          exact Or.inl ⟨e.symm, rfl⟩
        · cases h
      · rename_i e
        rw [List.getElem?_set] at h
        split at h
        · split at h
          · cases h
            exact Or.inr (Or.inl ⟨_, rfl⟩)
          · cases h
        · rename_i e2
          exact Or.inr (Or.inr ⟨h, fun q => e q.symm, fun q => e2 (by omega)⟩)
    · rename_i n1 n2
      rw [List.getElem?_set] at h
      split at h
      · split at h
        · rename_i e _
          cases h
          exact Or.inl ⟨e.symm, rfl⟩
        · cases h
      · rename_i e
        refine Or.inr (Or.inr ⟨h, fun q => e q.symm, fun q => ?_⟩)
        have e3 : j = j0 := by omega
        subst e3
        cases w <;> simp [Value.category] at q
        · exact n1 _ h
        · exact n2 _ h
theorem wm_ls_st {ad : Nat → Nat} {nL : Nat} {lv : List Value} {ls ls' : Array Slot} {i : Nat} {v : Value} (h : wm_ls ad nL lv ls) (h' : lv_has ls' nL ((i, wm_cv ad v) :: (wm_al ad lv).filter (fun q => !(q.1 == i) && !(q.1 + 1 == i && q.2.category == 2)))) : wm_ls ad nL (wm_st lv i v) ls' := by
  refine ⟨⟨h'.1, h'.2.1, fun _ q => by cases q⟩, (wm_st_len _ _ _).trans h.2.1, fun j w hj => ?_⟩
  rcases wm_st_at hj with ⟨rfl, rfl⟩ | e | ⟨h1, h2, h3⟩
  · exact Or.inr (h'.2.2 (_, _) List.mem_cons_self)
  · exact Or.inl e
  · by_cases hr : ∃ z, w = .retAddr z
    · exact Or.inl hr
    · refine Or.inr (h'.2.2 (j, wm_cv ad w) (List.mem_cons_of_mem _ (List.mem_filter.mpr ⟨wm_al_in h1 (fun z e => hr ⟨z, e⟩), ?_⟩)))
      simp only [wm_cat, Bool.and_eq_true, Bool.not_eq_true', beq_eq_false_iff_ne, Bool.and_eq_false_iff]
      refine ⟨h2, ?_⟩
      by_cases e1 : j + 1 = i
      · exact Or.inr (by simpa using fun e2 => h3 ⟨e1, e2⟩)
      · exact Or.inl e1
theorem wm_ls_st2 {ad : Nat → Nat} {nL : Nat} {lv : List Value} {ls ls' : Array Slot} {i : Nat} {v : Value} (h : wm_ls ad nL lv ls) (h' : lv_has ls' nL ((i, wm_cv ad v) :: (wm_al ad lv).filter (fun q => !(q.1 == i) && (!(q.1 == i + 1) && !(q.1 + 1 == i && q.2.category == 2))))) : wm_ls ad nL (wm_st2 lv i v) ls' := by
  refine ⟨⟨h'.1, h'.2.1, fun _ q => by cases q⟩, by simp [wm_st2, wm_st_len, h.2.1], fun j w hj => ?_⟩
  unfold wm_st2 at hj
  rw [List.getElem?_set] at hj
  split at hj
  · split at hj
    · cases hj
      exact Or.inl ⟨_, rfl⟩
    · cases hj
  · rename_i hne
    rcases wm_st_at hj with ⟨rfl, rfl⟩ | e | ⟨h1, h2, h3⟩
    · exact Or.inr (h'.2.2 (_, _) List.mem_cons_self)
    · exact Or.inl e
    · by_cases hr : ∃ z, w = .retAddr z
      · exact Or.inl hr
      · refine Or.inr (h'.2.2 (j, wm_cv ad w) (List.mem_cons_of_mem _ (List.mem_filter.mpr ⟨wm_al_in h1 (fun z e => hr ⟨z, e⟩), ?_⟩)))
        simp only [wm_cat, Bool.and_eq_true, Bool.not_eq_true', beq_eq_false_iff_ne, Bool.and_eq_false_iff]
        refine ⟨h2, fun e => hne e.symm, ?_⟩
        by_cases e1 : j + 1 = i
        · exact Or.inr (by simpa using fun e2 => h3 ⟨e1, e2⟩)
        · exact Or.inl e1
/-- what a field instruction needs of the tables -/
def wm_fok (own : String) (Ts : List Cond) (cl : List vw_C) (r : Nat × Nat × Nat) : Prop := ∃ (C : String) (T : u_T) (N : Nat) (ty : Nat → FieldType), cl[r.2.1]? = some (C, T, N) ∧ (∀ w ∈ u_ws C T N, w ∈ Ts) ∧ (∀ k, k < N → parseFieldDescriptor (T k).2.2.1 = some (ty k)) ∧ (∀ a, a < N → ∀ b, b < N → a ≠ b → (T a).2.1 ≠ (T b).2.1) ∧ r.2.2 < N ∧ Cond.fieldLink own r.1 C (T r.2.2).2.1 (T r.2.2).2.2.1 ∈ Ts ∧ (T r.2.2).1 = C
def wm_cok (own : String) (Ts : List Cond) (r : Nat × Value) : Prop := match r.2 with
  | .int x => Cond.constant own r.1 x ∈ Ts
  | .long x => Cond.constantLong own r.1 x ∈ Ts
  | _ => True
def wm_ty (k : Nat) : FieldType := match k with
  | 0 => .int
  | 1 => .long
  | 2 => .array .int
  | _ => .boolean
/-- the layout's codes are the fields' types -/
def wm_lok (cl : List vw_C) (L : List wm_C) : Prop := ∀ (q ci : Nat) (fs : List Nat) (C : String) (T : u_T) (N : Nat), L[q]? = some (Sum.inl (ci, fs)) → cl[ci]? = some (C, T, N) → ∀ (j f : Nat), fs[j]? = some f → (f = 0 → (T j).2.2.1 = "I" ∧ (T j).2.2.2 = false) ∧ (f = 1 → (T j).2.2.1 = "J" ∧ (T j).2.2.2 = false) ∧ (f = 2 → (T j).2.2.1 = "Z" ∧ (T j).2.2.2 = false)
/-- all that stays the same along a method's walk -/
def wm_X (p : Program) (s : State) (m : MethodId) (args : Array Value) (c : Code) (cc : ByteArray) (own : String) (Ts : List Cond) (D : va_G) (cl : List vw_C) (tys : List (ClassId × FieldType)) (A : Nat → Prop) (ad : Nat → Nat) (cA : Nat → ClassId) (L : List wm_C) (fl : List (Nat × Nat × Nat)) (cs : List (Nat × Value)) (sc : Option (Nat × (Nat → Int32))) : Prop :=
  p.tables.exec = Jvm.exec ∧ c.code = cc ∧ s.vm.findClass own = some m.cls ∧ (∀ w ∈ Ts, w.before args s = true) ∧ va_K D cl tys s ∧ (∀ S, va_D A (wm_lay ad cA L S)) ∧ (∀ (q t n kd : Nat) (f : Nat → Nat), L[q]? = some (Sum.inr (t, n, kd, f)) → tys[t]? = some (cA t, wm_ty kd)) ∧ wm_lok cl L ∧ (∀ r ∈ fl, wm_fok own Ts cl r) ∧ (∀ r ∈ cs, wm_cok own Ts r) ∧ (∀ r, sc = some r → va_X (ad L.length) r.1 r.2 s s.heap ∧ ad L.length < s.heap.size ∧ ¬ A (ad L.length))
variable {p : Program} {l : Launch} {e : Env} {R : Room} {s : State} {m : MethodId} {args : Array Value} {below : List Frame} {meth : Method} {c : Code} {cells slots : Nat} {Q : State → Prop}
variable {cc : ByteArray} {own : String} {Ts : List Cond} {D : va_G} {cl : List vw_C} {tys : List (ClassId × FieldType)} {A : Nat → Prop} {ad : Nat → Nat} {cA : Nat → ClassId} {L : List wm_C} {nL : Nat} {fl : List (Nat × Nat × Nat)} {cs : List (Nat × Value)} {sc : Option (Nat × (Nat → Int32))} {cV cS : List (Nat × wm_M)} {ret : Option Value → wm_S → Prop} {tb : List wm_R}
def wm_W (p : Program) (l : Launch) (e : Env) (R : Room) (s : State) (m : MethodId) (args : Array Value) (below : List Frame) (meth : Method) (c : Code) (cells slots : Nat) (Q : State → Prop) (D : va_G) (cl : List vw_C) (A : Nat → Prop) (ad : Nat → Nat) (cA : Nat → ClassId) (L : List wm_C) (nL pc : Nat) (lv st : List Value) (S : wm_S) : Prop :=
  ∀ (H : Heap) (locs : List Loc) (ls : Array Slot), va_P D cl (wm_lay ad cA L S) H → va_S A s.heap H locs → wm_ls ad nL lv ls → W p l e R s m args below meth c H locs cells slots Q (F0 m pc ls (st.map (wm_cv ad)))
theorem wm_fld_spec {q ix j f : Nat} (h : wm_fld L fl q ix = some (j, f)) : ∃ ci fs, L[q]? = some (.inl (ci, fs)) ∧ (ix, ci, j) ∈ fl ∧ fs[j]? = some f := by
  unfold wm_fld at h
  split at h
  · rename_i ci j' h1
    split at h
    · rename_i f' h2
      cases h
      unfold wm_fd at h2
      split at h2
      · rename_i c fs h3
        cases e : Nat.beq c ci with
        | false => rw [e] at h2; cases h2
        | true =>
          rw [e] at h2
          have e1 : c = ci := Nat.eq_of_beq_eq_true e
          subst e1
          exact ⟨c, fs, h3, wm_lp_mem h1, h2⟩
      · cases h2
    · cases h
  · cases h
theorem wm_ak_spec {q kd n : Nat} {f : Nat → Nat} (h : wm_ak L q kd = some (n, f)) : ∃ t, L[q]? = some (.inr (t, n, kd, f)) := by
  unfold wm_ak at h
  split at h
  · rename_i t n' k' f' h3
    cases e : Nat.beq k' kd with
    | false => rw [e] at h; cases h
    | true =>
      rw [e] at h
      have e1 : k' = kd := Nat.eq_of_beq_eq_true e
      subst e1
      cases h
      exact ⟨t, h3⟩
  · cases h
/-- an element of an array of arrays of ints -/
theorem wm_aldA {H : Heap} {locs : List Loc} {pc a : Nat} {ls : Array Slot} {rest : List Value} {ws : va_W} (hexec : p.tables.exec = Jvm.exec) (hb : c.code = cc) (hK : va_K D cl tys s) (hP : va_P D cl ws H) (q0 t0 : Nat) {cA : ClassId} {n : Nat} {f : Nat → Option Nat} (ha : ws[q0]? = some (a, .inl (cA, n, .inr (.inr (.inr (.inr f)))))) (ht : tys[t0]? = some (cA, .array .int)) {i : Int32} (hin : vp_in i n) (hdg : decode cc pc = .ok (.aaload, 1))
    (kk : W p l e R s m args below meth c H locs cells slots Q (F0 m (pc + 1) ls (va_rf (f i.toNatClampNeg) :: rest))) : W p l e R s m args below meth c H locs cells slots Q (F0 m pc ls (.int i :: .ref a :: rest)) := by
  have hlt : i.toNatClampNeg < n := Nat.not_le.mp fun q => hin (Or.inr q)
  exact W.aald (v := va_rf (f i.toNatClampNeg)) (ty := .array .int) hexec hb (hP q0 _ ha) ((hK.2 t0 _ ht).1 n (fun j => va_rf (f j))) rfl (fun q => by cases q) (by show ¬ (i < 0 ∨ (arrV _ _ _).slots.size ≤ _); rw [arrV_size]; exact hin) (by show (arrV _ _ _).slots[_]? = _; rw [arrV_read _ _ hlt]) rfl rfl hdg kk
theorem wm_nar {x : Int32} (h : x = 0 ∨ x = 1) : vp_nar .boolean x = x := by rcases h with e | e <;> subst e <;> rfl
theorem wm_ce_put1 {S : wm_S} {q ci j : Nat} {fs : List Nat} {x : Int32} (hf : fs[j]? = some 0 ∨ fs[j]? = some 2) : wm_ce ad cA (wm_up S.1 q j x, S.2) q (.inl (ci, fs)) = .inr (ci, (fs.mapIdx (fun k f => wm_cv ad (wm_av S q k f))).set j (.int x)) := by
  show Sum.inr (ci, _) = Sum.inr (ci, _)
  congr 2
  apply List.ext_getElem?
  intro k
  rw [List.getElem?_set]
  split
  · rename_i e
    subst e
    rcases hf with hf | hf <;> simp [hf, wm_av, wm_cv, wm_up] <;> exact (List.getElem?_eq_some_iff.mp hf).1
  · rename_i e
    simp only [List.getElem?_mapIdx]
    cases hk : fs[k]? with
    | none => rfl
    | some f => simp [wm_av, wm_up, Ne.symm e]
theorem wm_ce_put2 {S : wm_S} {q ci j : Nat} {fs : List Nat} {x : Int64} (hf : fs[j]? = some 1) : wm_ce ad cA (S.1, wm_up S.2 q j x) q (.inl (ci, fs)) = .inr (ci, (fs.mapIdx (fun k f => wm_cv ad (wm_av S q k f))).set j (.long x)) := by
  show Sum.inr (ci, _) = Sum.inr (ci, _)
  congr 2
  apply List.ext_getElem?
  intro k
  rw [List.getElem?_set]
  split
  · rename_i e
    subst e
    simp [hf, wm_av, wm_cv, wm_up]
    exact (List.getElem?_eq_some_iff.mp hf).1
  · rename_i e
    simp only [List.getElem?_mapIdx]
    cases hk : fs[k]? with
    | none => rfl
    | some f => simp [wm_av, wm_up, Ne.symm e]

section WMS
variable {H : Heap} {locs : List Loc} {ls : Array Slot} {pc len : Nat} {rest : List Value} {x : Int32} {k : Nat → Prop}
theorem wm_jmp_ok {off : Int} (h : wm_jmp pc off k) : ∃ t : Nat, (pc : Int) + off = (t : Int) ∧ k t := by
  unfold wm_jmp at h
  split at h
  · rename_i t e
    exact ⟨t, e, h⟩
  · exact h.elim
theorem wm_tsw_at {lo : Int} : ∀ {offs : List Int} {v : Int} (j : Nat) {o : Int}, wm_tsw pc x k v offs → offs[j]? = some o → x.toInt = v + j → wm_jmp pc o k
  | [], _, j, _, _, h, _ => by simp at h
  | a :: r, v, 0, o, h, h1, h2 => by
    simp at h1
    subst h1
    exact h.1 (by omega)
  | a :: r, v, j + 1, o, h, h1, h2 => wm_tsw_at (lo := lo) (v := v + 1) j h.2 (by simpa using h1) (by omega)
theorem wm_lsw_at {d : Int} : ∀ {l : List (Int × Int)}, wm_lsw pc x k d l → ∃ off, Op.lookupswitch.offset l d x.toInt = off ∧ wm_jmp pc off k
  | [], h => ⟨d, rfl, h⟩
  | (a, o) :: r, h => by
    by_cases e : x.toInt = a
    · exact ⟨o, by rw [Op.lookupswitch.offset_cons, if_pos e.symm], h.1 e⟩
    · obtain ⟨off, h1, h2⟩ := wm_lsw_at (h.2 e)
      exact ⟨off, by rw [Op.lookupswitch.offset_cons, if_neg (fun q => e q.symm)]; exact h1, h2⟩
theorem wm_tsw_ok (hx : p.tables.exec = Jvm.exec) (hb : c.code = cc) {d lo hi : Int} {offs : Array Int} (hd : decode cc pc = .ok (.tableswitch d lo hi offs, len)) (hsz : (offs.size == (hi - lo + 1).toNat) = true) (h1 : x.toInt < lo ∨ hi < x.toInt → wm_jmp pc d k) (h2 : wm_tsw pc x k lo offs.toList)
    (kk : ∀ t, k t → W p l e R s m args below meth c H locs cells slots Q (F0 m t ls rest)) : W p l e R s m args below meth c H locs cells slots Q (F0 m pc ls (.int x :: rest)) := by
  have hsz : offs.size = (hi - lo + 1).toNat := by simpa using hsz
  by_cases hq : x.toInt < lo ∨ hi < x.toInt
  · obtain ⟨t, e, ht⟩ := wm_jmp_ok (h1 hq)
    exact lv_tableOut hx hb hd hq e (kk t ht)
  · have hlt : (x.toInt - lo).toNat < offs.size := by omega
    have ho : offs[(x.toInt - lo).toNat]? = some offs[(x.toInt - lo).toNat] := Array.getElem?_eq_getElem hlt
    obtain ⟨t, e, ht⟩ := wm_jmp_ok (wm_tsw_at (lo := lo) (x.toInt - lo).toNat h2 (by rw [Array.getElem?_toList]; exact ho) (by omega))
    exact lv_tableIn hx hb hd (fun q => hq (Or.inl q)) (fun q => hq (Or.inr q)) ho e (kk t ht)
theorem wm_lsw_ok (hx : p.tables.exec = Jvm.exec) (hb : c.code = cc) {d : Int} {ps : Array (Int × Int)} (hd : decode cc pc = .ok (.lookupswitch d ps, len)) (hp : (ps.toList.zip (ps.toList.drop 1)).all (fun (a, next) => a.1 < next.1) = true) (h : wm_lsw pc x k d ps.toList)
    (kk : ∀ t, k t → W p l e R s m args below meth c H locs cells slots Q (F0 m t ls rest)) : W p l e R s m args below meth c H locs cells slots Q (F0 m pc ls (.int x :: rest)) := by
  obtain ⟨off, h1, h2⟩ := wm_lsw_at h
  obtain ⟨t, e, ht⟩ := wm_jmp_ok h2
  exact lv_lookup hx hb hd hp h1 e (kk t ht)
end WMS
set_option maxHeartbeats 4000000 in
theorem wm_step_ok (X : wm_X p s m args c cc own Ts D cl tys A ad cA L fl cs sc)
    (hcV : ∀ ix n f, (ix, n, f) ∈ cV → ∀ pc lv vs rest v S S', decode cc pc = .ok (.invokevirtual ix, 3) → vs.length = n → wm_cs rest ≤ 8 → f vs S = some (v, S') → wm_W p l e R s m args below meth c cells slots Q D cl A ad cA L nL (pc + 3) lv (v.toList ++ rest) S' → wm_W p l e R s m args below meth c cells slots Q D cl A ad cA L nL pc lv (vs.reverse ++ rest) S)
    (hcS : ∀ ix n f, (ix, n, f) ∈ cS → ∀ pc lv vs rest v S S', decode cc pc = .ok (.invokestatic ix, 3) → vs.length = n → wm_cs rest ≤ 8 → f vs S = some (v, S') → wm_W p l e R s m args below meth c cells slots Q D cl A ad cA L nL (pc + 3) lv (v.toList ++ rest) S' → wm_W p l e R s m args below meth c cells slots Q D cl A ad cA L nL pc lv (vs.reverse ++ rest) S)
    (hri : ∀ x S, ret (some (.int x)) S → ∀ pc lv, decode cc pc = .ok (.ireturn, 1) → wm_W p l e R s m args below meth c cells slots Q D cl A ad cA L nL pc lv [.int x] S)
    (hrl : ∀ x S, ret (some (.long x)) S → ∀ pc lv, decode cc pc = .ok (.lreturn, 1) → wm_W p l e R s m args below meth c cells slots Q D cl A ad cA L nL pc lv [.long x] S)
    (hrv : ∀ S, ret none S → ∀ pc lv, decode cc pc = .ok (.return_, 1) → wm_W p l e R s m args below meth c cells slots Q D cl A ad cA L nL pc lv [] S)
    {pc nx tg : Nat} {i : Instr} (hr : wm_rok cc (pc, i, nx, tg)) {k : wm_K}
    (hk : ∀ pc lv st S, k pc lv st S → wm_W p l e R s m args below meth c cells slots Q D cl A ad cA L nL pc lv st S) {lv st : List Value} {S : wm_S} (h : wm_step L fl cs sc cV cS ret i pc nx tg lv st S k) : wm_W p l e R s m args below meth c cells slots Q D cl A ad cA L nL pc lv st S := by
  obtain ⟨hx, hb, hown, hts, hK, hD, hT, hL, hF, hC, hSc⟩ := X
  obtain ⟨hn0, hd0, ho⟩ := hr
  dsimp only at hn0 hd0 ho
  have hnx : ∀ n, wm_len i = n + 1 → nx = pc + (n + 1) := fun n h => by
    rcases hn0 with e | e
    · omega
    · rw [e, h]
  have hd : ∀ n, wm_len i = n + 1 → decode cc pc = .ok (i, n + 1) := fun n h => by
    have e := hnx n h
    rw [hd0, e, Nat.add_sub_cancel_left]
  intro H locs ls hP hS hl
  cases i with
  | iconst z =>
    obtain rfl := hnx 0 rfl
    exact lv_iconst hx hb (hd 0 rfl) rfl (hk _ _ _ _ h H locs ls hP hS hl)
  | bipush z =>
    obtain rfl := hnx 1 rfl
    exact lv_bipush hx hb (hd 1 rfl) rfl (hk _ _ _ _ h H locs ls hP hS hl)
  | sipush z =>
    obtain rfl := hnx 2 rfl
    exact lv_sipush hx hb (hd 2 rfl) rfl (hk _ _ _ _ h H locs ls hP hS hl)
  | lconst z =>
    obtain rfl := hnx 0 rfl
    exact lv_lconst hx hb (hd 0 rfl) rfl (hk _ _ _ _ h H locs ls hP hS hl)
  | iload_n j =>
    dsimp only [wm_step] at h
    split at h
    · rename_i hv
      obtain rfl := hnx 0 rfl
      exact lv_iload_n hx hb (hd 0 rfl) rfl (wm_ls_get hl hv (fun z e => by cases e)) (hk _ _ _ _ h H locs ls hP hS hl)
    · exact h.elim
  | iload j =>
    dsimp only [wm_step] at h
    split at h
    · rename_i hv
      obtain rfl := hnx 1 rfl
      exact lv_iload hx hb (hd 1 rfl) (wm_ls_get hl hv (fun z e => by cases e)) (hk _ _ _ _ h H locs ls hP hS hl)
    · exact h.elim
  | lload_n j =>
    dsimp only [wm_step] at h
    split at h
    · rename_i hv
      obtain rfl := hnx 0 rfl
      exact lv_lload_n hx hb (hd 0 rfl) rfl (wm_ls_get hl hv (fun z e => by cases e)) (hk _ _ _ _ h H locs ls hP hS hl)
    · exact h.elim
  | lload j =>
    dsimp only [wm_step] at h
    split at h
    · rename_i hv
      obtain rfl := hnx 1 rfl
      exact lv_lload hx hb (hd 1 rfl) (wm_ls_get hl hv (fun z e => by cases e)) (hk _ _ _ _ h H locs ls hP hS hl)
    · exact h.elim
  | aload_n j =>
    dsimp only [wm_step] at h
    split at h
    · rename_i hv
      obtain rfl := hnx 0 rfl
      exact lv_aload_n hx hb (hd 0 rfl) rfl (wm_ls_get hl hv (fun z e => by cases e)) (hk _ _ _ _ h H locs ls hP hS hl)
    · exact h.elim
  | aload j =>
    dsimp only [wm_step] at h
    split at h
    · rename_i hv
      obtain rfl := hnx 1 rfl
      exact lv_aload hx hb (hd 1 rfl) (wm_ls_get hl hv (fun z e => by cases e)) (hk _ _ _ _ h H locs ls hP hS hl)
    · exact h.elim
  | istore_n j =>
    dsimp only [wm_step] at h
    split at h
    · rename_i hlt
      obtain rfl := hnx 0 rfl
      exact lv_istore_n hx hb (hd 0 rfl) rfl (wm_ls_has hl) (by rw [← hl.2.1]; exact Nat.le_of_ble_eq_true hlt) rfl (fun ls1 hl1 => hk _ _ _ _ h H locs ls1 hP hS (wm_ls_st hl hl1))
    · exact h.elim
  | istore j =>
    dsimp only [wm_step] at h
    split at h
    · rename_i hlt
      obtain rfl := hnx 1 rfl
      exact lv_istore hx hb (hd 1 rfl) (wm_ls_has hl) (by rw [← hl.2.1]; exact Nat.le_of_ble_eq_true hlt) rfl (fun ls1 hl1 => hk _ _ _ _ h H locs ls1 hP hS (wm_ls_st hl hl1))
    · exact h.elim
  | lstore_n j =>
    dsimp only [wm_step] at h
    split at h
    · rename_i hlt
      obtain rfl := hnx 0 rfl
      exact lv_lstore_n hx hb (hd 0 rfl) rfl (wm_ls_has hl) (by rw [← hl.2.1]; exact Nat.le_of_ble_eq_true hlt) rfl (fun ls1 hl1 => hk _ _ _ _ h H locs ls1 hP hS (wm_ls_st2 hl hl1))
    · exact h.elim
  | lstore j =>
    dsimp only [wm_step] at h
    split at h
    · rename_i hlt
      obtain rfl := hnx 1 rfl
      exact lv_lstore hx hb (hd 1 rfl) (wm_ls_has hl) (by rw [← hl.2.1]; exact Nat.le_of_ble_eq_true hlt) rfl (fun ls1 hl1 => hk _ _ _ _ h H locs ls1 hP hS (wm_ls_st2 hl hl1))
    · exact h.elim
  | astore_n j =>
    dsimp only [wm_step] at h
    split at h
    · rename_i hlt
      obtain rfl := hnx 0 rfl
      exact lv_astore_n hx hb (hd 0 rfl) rfl (wm_ls_has hl) (by rw [← hl.2.1]; exact Nat.le_of_ble_eq_true hlt) rfl (fun ls1 hl1 => hk _ _ _ _ h H locs ls1 hP hS (wm_ls_st hl hl1))
    · exact h.elim
  | astore j =>
    dsimp only [wm_step] at h
    split at h
    · rename_i hlt
      obtain rfl := hnx 1 rfl
      exact lv_astore hx hb (hd 1 rfl) (wm_ls_has hl) (by rw [← hl.2.1]; exact Nat.le_of_ble_eq_true hlt) rfl (fun ls1 hl1 => hk _ _ _ _ h H locs ls1 hP hS (wm_ls_st hl hl1))
    · exact h.elim
  | iinc j z =>
    dsimp only [wm_step] at h
    split at h
    · rename_i x hv
      obtain rfl := hnx 2 rfl
      have hg := wm_ls_get hl hv (fun z e => by cases e)
      have hal := wm_ls_has hl
      have hl0 : lv_has ls nL ((j, .int x) :: wm_al ad lv) := ⟨hal.1, hal.2.1, fun q hq => by
        rcases List.mem_cons.mp hq with e | e
        · subst e
          exact hg
        · exact hal.2.2 q e⟩
      refine lv_iinc hx hb (hd 2 rfl) (k := 0) hl0 rfl rfl (wm_ls_lt hl hv) rfl (fun ls1 hl1 => hk _ _ _ _ h H locs ls1 hP hS (wm_ls_st hl ⟨hl1.1, hl1.2.1, fun q hq => hl1.2.2 q ?_⟩))
      rcases List.mem_cons.mp hq with e | e
      · exact List.mem_cons.mpr (Or.inl e)
      · exact List.mem_cons_of_mem _ (List.mem_filter.mpr ⟨List.mem_cons_of_mem _ (List.mem_filter.mp e).1, (List.mem_filter.mp e).2⟩)
    · exact h.elim
  | iadd =>
    dsimp only [wm_step] at h
    split at h
    · obtain rfl := hnx 0 rfl
      exact lv_iadd hx hb (hd 0 rfl) (hk _ _ _ _ h H locs ls hP hS hl)
    · exact h.elim
  | isub =>
    dsimp only [wm_step] at h
    split at h
    · obtain rfl := hnx 0 rfl
      exact lv_isub hx hb (hd 0 rfl) (hk _ _ _ _ h H locs ls hP hS hl)
    · exact h.elim
  | imul =>
    dsimp only [wm_step] at h
    split at h
    · obtain rfl := hnx 0 rfl
      exact lv_imul hx hb (hd 0 rfl) (hk _ _ _ _ h H locs ls hP hS hl)
    · exact h.elim
  | iand =>
    dsimp only [wm_step] at h
    split at h
    · obtain rfl := hnx 0 rfl
      exact lv_iand hx hb (hd 0 rfl) (hk _ _ _ _ h H locs ls hP hS hl)
    · exact h.elim
  | ior =>
    dsimp only [wm_step] at h
    split at h
    · obtain rfl := hnx 0 rfl
      exact lv_ior hx hb (hd 0 rfl) (hk _ _ _ _ h H locs ls hP hS hl)
    · exact h.elim
  | ixor =>
    dsimp only [wm_step] at h
    split at h
    · obtain rfl := hnx 0 rfl
      exact lv_ixor hx hb (hd 0 rfl) (hk _ _ _ _ h H locs ls hP hS hl)
    · exact h.elim
  | ishl =>
    dsimp only [wm_step] at h
    split at h
    · obtain rfl := hnx 0 rfl
      exact lv_ishl hx hb (hd 0 rfl) (hk _ _ _ _ h H locs ls hP hS hl)
    · exact h.elim
  | ishr =>
    dsimp only [wm_step] at h
    split at h
    · obtain rfl := hnx 0 rfl
      exact lv_ishr hx hb (hd 0 rfl) (hk _ _ _ _ h H locs ls hP hS hl)
    · exact h.elim
  | ladd =>
    dsimp only [wm_step] at h
    split at h
    · obtain rfl := hnx 0 rfl
      exact lv_ladd hx hb (hd 0 rfl) (hk _ _ _ _ h H locs ls hP hS hl)
    · exact h.elim
  | lsub =>
    dsimp only [wm_step] at h
    split at h
    · obtain rfl := hnx 0 rfl
      exact lv_lsub hx hb (hd 0 rfl) (hk _ _ _ _ h H locs ls hP hS hl)
    · exact h.elim
  | land =>
    dsimp only [wm_step] at h
    split at h
    · obtain rfl := hnx 0 rfl
      exact lv_land hx hb (hd 0 rfl) (hk _ _ _ _ h H locs ls hP hS hl)
    · exact h.elim
  | lor =>
    dsimp only [wm_step] at h
    split at h
    · obtain rfl := hnx 0 rfl
      exact lv_lor hx hb (hd 0 rfl) (hk _ _ _ _ h H locs ls hP hS hl)
    · exact h.elim
  | lxor =>
    dsimp only [wm_step] at h
    split at h
    · obtain rfl := hnx 0 rfl
      exact lv_lxor hx hb (hd 0 rfl) (hk _ _ _ _ h H locs ls hP hS hl)
    · exact h.elim
  | ineg =>
    dsimp only [wm_step] at h
    split at h
    · obtain rfl := hnx 0 rfl
      exact lv_ineg hx hb (hd 0 rfl) (hk _ _ _ _ h H locs ls hP hS hl)
    · exact h.elim
  | iushr =>
    dsimp only [wm_step] at h
    split at h
    · obtain rfl := hnx 0 rfl
      exact lv_iushr hx hb (hd 0 rfl) rfl (hk _ _ _ _ h H locs ls hP hS hl)
    · exact h.elim
  | lshl =>
    dsimp only [wm_step] at h
    split at h
    · obtain rfl := hnx 0 rfl
      exact lv_lshl hx hb (hd 0 rfl) rfl (hk _ _ _ _ h H locs ls hP hS hl)
    · exact h.elim
  | lushr =>
    dsimp only [wm_step] at h
    split at h
    · obtain rfl := hnx 0 rfl
      exact lv_lushr hx hb (hd 0 rfl) rfl (hk _ _ _ _ h H locs ls hP hS hl)
    · exact h.elim
  | i2l =>
    dsimp only [wm_step] at h
    split at h
    · obtain rfl := hnx 0 rfl
      exact lv_i2l hx hb (hd 0 rfl) rfl (hk _ _ _ _ h H locs ls hP hS hl)
    · exact h.elim
  | l2i =>
    dsimp only [wm_step] at h
    split at h
    · obtain rfl := hnx 0 rfl
      exact lv_l2i hx hb (hd 0 rfl) rfl (hk _ _ _ _ h H locs ls hP hS hl)
    · exact h.elim
  | idiv =>
    dsimp only [wm_step] at h
    split at h
    · obtain rfl := hnx 0 rfl
      exact lv_idiv hx hb (hd 0 rfl) h.1 (hk _ _ _ _ h.2 H locs ls hP hS hl)
    · exact h.elim
  | irem =>
    dsimp only [wm_step] at h
    split at h
    · obtain rfl := hnx 0 rfl
      exact lv_irem hx hb (hd 0 rfl) h.1 (hk _ _ _ _ h.2 H locs ls hP hS hl)
    · exact h.elim
  | lcmp =>
    dsimp only [wm_step] at h
    split at h
    · obtain rfl := hnx 0 rfl
      exact W.lcmp hx hb (hd 0 rfl) (hk _ _ _ _ h H locs ls hP hS hl)
    · exact h.elim
  | dup =>
    dsimp only [wm_step] at h
    split at h
    · obtain rfl := hnx 0 rfl
      exact lv_dup hx hb (hd 0 rfl) rfl (hk _ _ _ _ h H locs ls hP hS hl)
    · obtain rfl := hnx 0 rfl
      exact lv_dup hx hb (hd 0 rfl) rfl (hk _ _ _ _ h H locs ls hP hS hl)
    · exact h.elim
  | pop =>
    dsimp only [wm_step] at h
    split at h
    · obtain rfl := hnx 0 rfl
      exact lv_pop hx hb (hd 0 rfl) rfl (hk _ _ _ _ h H locs ls hP hS hl)
    · obtain rfl := hnx 0 rfl
      exact lv_pop hx hb (hd 0 rfl) rfl (hk _ _ _ _ h H locs ls hP hS hl)
    · exact h.elim
  | dup2 =>
    dsimp only [wm_step] at h
    split at h
    · obtain rfl := hnx 0 rfl
      exact lv_dup2_11 hx hb (hd 0 rfl) rfl rfl (hk _ _ _ _ h H locs ls hP hS hl)
    · exact h.elim
  | dup_x1 =>
    dsimp only [wm_step] at h
    split at h
    · obtain rfl := hnx 0 rfl
      exact lv_dup_x1 hx hb (hd 0 rfl) rfl rfl (hk _ _ _ _ h H locs ls hP hS hl)
    · exact h.elim
  | goto o =>
    exact lv_goto hx hb (hd 2 rfl) ho (hk _ _ _ _ h H locs ls hP hS hl)
  | ifCond cd o =>
    dsimp only [wm_step] at h
    split at h
    · obtain rfl := hnx 2 rfl
      cases cd
      · exact lv_if_eq hx hb (hd 2 rfl) ho (fun q => hk _ _ _ _ (h.1 q) H locs ls hP hS hl) (fun q => hk _ _ _ _ (h.2 q) H locs ls hP hS hl)
      · exact lv_if_ne hx hb (hd 2 rfl) ho (fun q => hk _ _ _ _ (h.1 q) H locs ls hP hS hl) (fun q => hk _ _ _ _ (h.2 q) H locs ls hP hS hl)
      · exact lv_if_lt hx hb (hd 2 rfl) ho (fun q => hk _ _ _ _ (h.1 q) H locs ls hP hS hl) (fun q => hk _ _ _ _ (h.2 q) H locs ls hP hS hl)
      · exact lv_if_ge hx hb (hd 2 rfl) ho (fun q => hk _ _ _ _ (h.1 q) H locs ls hP hS hl) (fun q => hk _ _ _ _ (h.2 q) H locs ls hP hS hl)
      · exact lv_if_gt hx hb (hd 2 rfl) ho (fun q => hk _ _ _ _ (h.1 q) H locs ls hP hS hl) (fun q => hk _ _ _ _ (h.2 q) H locs ls hP hS hl)
      · exact lv_if_le hx hb (hd 2 rfl) ho (fun q => hk _ _ _ _ (h.1 q) H locs ls hP hS hl) (fun q => hk _ _ _ _ (h.2 q) H locs ls hP hS hl)
    · exact h.elim
  | if_icmp cd o =>
    dsimp only [wm_step] at h
    split at h
    · obtain rfl := hnx 2 rfl
      cases cd
      · exact lv_icmp_eq hx hb (hd 2 rfl) ho (fun q => hk _ _ _ _ (h.1 q) H locs ls hP hS hl) (fun q => hk _ _ _ _ (h.2 q) H locs ls hP hS hl)
      · exact lv_icmp_ne hx hb (hd 2 rfl) ho (fun q => hk _ _ _ _ (h.1 q) H locs ls hP hS hl) (fun q => hk _ _ _ _ (h.2 q) H locs ls hP hS hl)
      · exact lv_icmp_lt hx hb (hd 2 rfl) ho (fun q => hk _ _ _ _ (h.1 q) H locs ls hP hS hl) (fun q => hk _ _ _ _ (h.2 q) H locs ls hP hS hl)
      · exact lv_icmp_ge hx hb (hd 2 rfl) ho (fun q => hk _ _ _ _ (h.1 q) H locs ls hP hS hl) (fun q => hk _ _ _ _ (h.2 q) H locs ls hP hS hl)
      · exact lv_icmp_gt hx hb (hd 2 rfl) ho (fun q => hk _ _ _ _ (h.1 q) H locs ls hP hS hl) (fun q => hk _ _ _ _ (h.2 q) H locs ls hP hS hl)
      · exact lv_icmp_le hx hb (hd 2 rfl) ho (fun q => hk _ _ _ _ (h.1 q) H locs ls hP hS hl) (fun q => hk _ _ _ _ (h.2 q) H locs ls hP hS hl)
    · exact h.elim
  | getfield ix =>
    dsimp only [wm_step] at h
    split at h
    · split at h
      · rename_i j f hw
        obtain ⟨ci, fs, hq, hm, hf⟩ := wm_fld_spec hw
        obtain ⟨C, T, N, ty, h1, h2, h3, h4, h5, h6, h7⟩ := hF _ hm
        obtain rfl := hnx 2 rfl
        exact va_get (ref := C) (C := C) (T := T) (N := N) (ci := ci) hx hb hts h2 hown hK hP _ (wm_lay_at hq) h1 j h5 (hts _ h6) (fun x hx => by rw [h7] at hx; exact hx) (by simp [hf]) (hd 2 rfl) (hk _ _ _ _ h H locs ls hP hS hl)
      · exact h.elim
    · exact h.elim
  | putfield ix =>
    dsimp only [wm_step] at h
    split at h
    · split at h
      · rename_i j hw
        obtain ⟨ci, fs, hq, hm, hf⟩ := wm_fld_spec hw
        obtain ⟨C, T, N, ty, h1, h2, h3, h4, h5, h6, h7⟩ := hF _ hm
        obtain ⟨g1, g2, g3⟩ := hL _ _ _ _ _ _ hq h1 _ _ hf
        obtain ⟨e1, e2⟩ := g1 rfl
        obtain rfl := hnx 2 rfl
        exact va_put (ref := C) (C := C) (T := T) (N := N) (ci := ci) hx hb hts h2 ty h3 h4 hown hK hP (hD S) hS _ (wm_lay_at hq) h1 _ h5 (hts _ h6) (fun x hx => by rw [h7] at hx; exact hx) e2 (by rw [e1]; rfl) rfl rfl (by simpa using (List.getElem?_eq_some_iff.mp hf).1) (hd 2 rfl) (fun H1 locs1 hP1 _ hS1 => hk _ _ _ _ h H1 locs1 ls (wm_lay_set hq (wm_ce_put1 (Or.inl hf)) wm_ce_ne1 hP1) hS1 hl)
      · rename_i j hw
        obtain ⟨ci, fs, hq, hm, hf⟩ := wm_fld_spec hw
        obtain ⟨C, T, N, ty, h1, h2, h3, h4, h5, h6, h7⟩ := hF _ hm
        obtain ⟨g1, g2, g3⟩ := hL _ _ _ _ _ _ hq h1 _ _ hf
        obtain ⟨e1, e2⟩ := g3 rfl
        obtain rfl := hnx 2 rfl
        exact va_put (ref := C) (C := C) (T := T) (N := N) (ci := ci) hx hb hts h2 ty h3 h4 hown hK hP (hD S) hS _ (wm_lay_at hq) h1 _ h5 (hts _ h6) (fun x hx => by rw [h7] at hx; exact hx) e2 (by rw [e1]; rfl) (by rcases h.1 with e | e <;> rw [e] <;> rfl) (by rcases h.1 with e | e <;> rw [e] <;> rfl) (by simpa using (List.getElem?_eq_some_iff.mp hf).1) (hd 2 rfl) (fun H1 locs1 hP1 _ hS1 => hk _ _ _ _ h.2 H1 locs1 ls (wm_lay_set hq (wm_ce_put1 (Or.inr hf)) wm_ce_ne1 hP1) hS1 hl)
      · exact h.elim
    · split at h
      · rename_i j hw
        obtain ⟨ci, fs, hq, hm, hf⟩ := wm_fld_spec hw
        obtain ⟨C, T, N, ty, h1, h2, h3, h4, h5, h6, h7⟩ := hF _ hm
        obtain ⟨g1, g2, g3⟩ := hL _ _ _ _ _ _ hq h1 _ _ hf
        obtain ⟨e1, e2⟩ := g2 rfl
        obtain rfl := hnx 2 rfl
        exact va_put (ref := C) (C := C) (T := T) (N := N) (ci := ci) hx hb hts h2 ty h3 h4 hown hK hP (hD S) hS _ (wm_lay_at hq) h1 _ h5 (hts _ h6) (fun x hx => by rw [h7] at hx; exact hx) e2 (by rw [e1]; rfl) rfl rfl (by simpa using (List.getElem?_eq_some_iff.mp hf).1) (hd 2 rfl) (fun H1 locs1 hP1 _ hS1 => hk _ _ _ _ h H1 locs1 ls (wm_lay_set hq (wm_ce_put2 hf) wm_ce_ne2 hP1) hS1 hl)
      · exact h.elim
    · exact h.elim
  | iaload =>
    dsimp only [wm_step] at h
    split at h
    · split at h
      · rename_i hq0
        obtain ⟨t, hq⟩ := wm_ak_spec hq0
        obtain rfl := hnx 0 rfl
        exact va_iald hx hb hK hP _ _ (wm_lay_at hq) (hT _ _ _ _ _ hq) h.1 (hd 0 rfl) (hk _ _ _ _ h.2 H locs ls hP hS hl)
      · split at h
        · rename_i n xs
          obtain ⟨h1, h2, h3⟩ := hSc _ rfl
          obtain rfl := hnx 0 rfl
          obtain ⟨rfl, hi, hn⟩ := h
          exact va_sld hx hb h1 h2 h3 hS hi (hd 0 rfl) (hk _ _ _ _ hn H locs ls hP hS hl)
        · exact h.elim
    · exact h.elim
  | baload =>
    dsimp only [wm_step] at h
    split at h
    · split at h
      · rename_i hq0
        obtain ⟨t, hq⟩ := wm_ak_spec hq0
        obtain rfl := hnx 0 rfl
        exact va_zald hx hb hK hP _ _ (wm_lay_at hq) (hT _ _ _ _ _ hq) h.1 (hd 0 rfl) (hk _ _ _ _ h.2 H locs ls hP hS hl)
      · exact h.elim
    · exact h.elim
  | laload =>
    dsimp only [wm_step] at h
    split at h
    · split at h
      · rename_i hq0
        obtain ⟨t, hq⟩ := wm_ak_spec hq0
        obtain rfl := hnx 0 rfl
        exact va_lald hx hb hK hP _ _ (wm_lay_at hq) (hT _ _ _ _ _ hq) h.1 (hd 0 rfl) (hk _ _ _ _ h.2 H locs ls hP hS hl)
      · exact h.elim
    · exact h.elim
  | aaload =>
    dsimp only [wm_step] at h
    split at h
    · split at h
      · rename_i hq0
        obtain ⟨t, hq⟩ := wm_ak_spec hq0
        obtain rfl := hnx 0 rfl
        exact wm_aldA hx hb hK hP _ _ (wm_lay_at hq) (hT _ _ _ _ _ hq) h.1 (hd 0 rfl) (hk _ _ _ _ h.2 H locs ls hP hS hl)
      · exact h.elim
    · exact h.elim
  | iastore =>
    dsimp only [wm_step] at h
    split at h
    · split at h
      · rename_i hq0
        obtain ⟨t, hq⟩ := wm_ak_spec hq0
        obtain rfl := hnx 0 rfl
        exact va_iast hx hb hK hP (hD S) hS _ _ (wm_lay_at hq) (hT _ _ _ _ _ hq) h.1 (hd 0 rfl) (fun H1 locs1 hP1 _ hS1 => hk _ _ _ _ h.2 H1 locs1 ls (wm_lay_set hq (by simp only [wm_ce, wm_up_q]) wm_ce_ne1 hP1) hS1 hl)
      · exact h.elim
    · exact h.elim
  | bastore =>
    dsimp only [wm_step] at h
    split at h
    · split at h
      · rename_i hq0
        obtain ⟨t, hq⟩ := wm_ak_spec hq0
        obtain rfl := hnx 0 rfl
        obtain ⟨hi, hz, hn⟩ := h
        refine va_zast hx hb hK hP (hD S) hS _ _ (wm_lay_at hq) (hT _ _ _ _ _ hq) hi (hd 0 rfl) (fun H1 locs1 hP1 _ hS1 => ?_)
        rw [wm_nar hz] at hP1
        exact hk _ _ _ _ hn H1 locs1 ls (wm_lay_set hq (by simp only [wm_ce, wm_up_q]) wm_ce_ne1 hP1) hS1 hl
      · exact h.elim
    · exact h.elim
  | lastore =>
    dsimp only [wm_step] at h
    split at h
    · split at h
      · rename_i hq0
        obtain ⟨t, hq⟩ := wm_ak_spec hq0
        obtain rfl := hnx 0 rfl
        exact va_last hx hb hK hP (hD S) hS _ _ (wm_lay_at hq) (hT _ _ _ _ _ hq) h.1 (hd 0 rfl) (fun H1 locs1 hP1 _ hS1 => hk _ _ _ _ h.2 H1 locs1 ls (wm_lay_set hq (by simp only [wm_ce, wm_up_qL]) wm_ce_ne2 hP1) hS1 hl)
      · exact h.elim
    · exact h.elim
  | arraylength =>
    dsimp only [wm_step] at h
    split at h
    · split at h
      · obtain ⟨h1, h2, h3⟩ := hSc _ rfl
        obtain rfl := hnx 0 rfl
        obtain ⟨rfl, hn⟩ := h
        exact va_slen hx hb h1 h2 h3 hS (hd 0 rfl) (hk _ _ _ _ hn H locs ls hP hS hl)
      · exact h.elim
    · exact h.elim
  | invokevirtual ix =>
    obtain rfl := hnx 2 rfl
    dsimp only [wm_step, wm_inv] at h
    split at h
    · rename_i n f hm
      obtain ⟨vs, rest, v, S', rfl, h1, h2, h3, h4⟩ := h
      exact hcV ix n f (wm_lp_mem hm) pc lv vs rest v S S' (hd 2 rfl) h1 h2 h3 (hk _ _ _ _ h4) H locs ls hP hS hl
    · exact h.elim
  | invokestatic ix =>
    obtain rfl := hnx 2 rfl
    dsimp only [wm_step, wm_inv] at h
    split at h
    · rename_i n f hm
      obtain ⟨vs, rest, v, S', rfl, h1, h2, h3, h4⟩ := h
      exact hcS ix n f (wm_lp_mem hm) pc lv vs rest v S S' (hd 2 rfl) h1 h2 h3 (hk _ _ _ _ h4) H locs ls hP hS hl
    · exact h.elim
  | ireturn =>
    dsimp only [wm_step] at h
    split at h
    · exact hri _ _ h pc lv (hd 0 rfl) H locs ls hP hS hl
    · exact h.elim
  | lreturn =>
    dsimp only [wm_step] at h
    split at h
    · exact hrl _ _ h pc lv (hd 0 rfl) H locs ls hP hS hl
    · exact h.elim
  | return_ =>
    dsimp only [wm_step] at h
    split at h
    · exact hrv _ h pc lv (hd 0 rfl) H locs ls hP hS hl
    · exact h.elim
  | ldc ix =>
    dsimp only [wm_step] at h
    split at h
    · rename_i hv
      obtain rfl := hnx 1 rfl
      exact lv_ldc hx hb hown (hts _ (hC _ (wm_lp_mem hv))) (hd 1 rfl) (hk _ _ _ _ h H locs ls hP hS hl)
    · exact h.elim
  | ldc2_w ix =>
    dsimp only [wm_step] at h
    split at h
    · rename_i hv
      obtain rfl := hnx 2 rfl
      exact lv_ldc2 hx hb hown (hts _ (hC _ (wm_lp_mem hv))) (hd 2 rfl) (hk _ _ _ _ h H locs ls hP hS hl)
    · exact h.elim
  | tableswitch d lo hi offs =>
    dsimp only [wm_step] at h
    split at h
    · rename_i x r hsz
      exact wm_tsw_ok hx hb hd0 hsz h.1 h.2 (fun t q => hk _ _ _ _ q H locs ls hP hS hl)
    · exact h.elim
  | lookupswitch d ps =>
    dsimp only [wm_step] at h
    split at h
    · rename_i x r hp
      exact wm_lsw_ok hx hb hd0 hp h (fun t q => hk _ _ _ _ q H locs ls hP hS hl)
    · exact h.elim
  | _ => exact h.elim
end WMB

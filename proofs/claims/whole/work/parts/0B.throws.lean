/-! a contract out of a tree, for a method that may throw; Math.max and Math.min -/
section WTD
def f_A_max (vs : List Value) (S : wm_S) : Option (Option Value × wm_S) := match vs with
  | [.int x, .int y] => some (some (.int (if x < y then y else x)), S)
  | _ => none
def f_A_min (vs : List Value) (S : wm_S) : Option (Option Value × wm_S) := match vs with
  | [.int x, .int y] => some (some (.int (if y < x then y else x)), S)
  | _ => none
def wt_kM (own : String) (Ts : List Cond) (R : Room) (ix n : Nat) (f : List Value → wm_S → Option (Option Value × wm_S)) : Prop := n = 2 ∧ 1 ≤ R.frames ∧ 21 ≤ R.locals ∧ Cond.initialized "java/lang/Math" ∈ Ts ∧
  ((f = f_A_max ∧ Cond.methodLink own ix Lib.Math.max.name ∈ Ts ∧ Cond.static Lib.Math.max.name ∈ Ts ∧ Cond.code Lib.Math.max.name Lib.Math.max.code 2 (some .int) ∈ Ts) ∨ (f = f_A_min ∧ Cond.methodLink own ix Lib.Math.min.name ∈ Ts ∧ Cond.static Lib.Math.min.name ∈ Ts ∧ Cond.code Lib.Math.min.name Lib.Math.min.code 2 (some .int) ∈ Ts))
variable {p : Program} {l : Launch} {e : Env} {R : Room} {s : State} {m : MethodId} {args : Array Value} {below : List Frame} {meth : Method} {c : Code} {cells slots : Nat} {Q : State → Prop}
variable {cc : ByteArray} {own : String} {Ts : List Cond} {D : va_G} {cl : List vw_C} {tys : List (ClassId × FieldType)} {A : Nat → Prop} {ad : Nat → Nat} {cA : Nat → ClassId} {L : List wm_C} {nL : Nat} {fl : List (Nat × Nat × Nat)} {cs : List (Nat × Value)} {sc : Option (Nat × (Nat → Int32))} {S : wm_S}
theorem wt_okM {ix n : Nat} {f : List Value → wm_S → Option (Option Value × wm_S)} (X : wm_X p s m args c cc own Ts D cl tys A ad cA L fl cs sc) (hml : c.maxLocals = nL) (hR : cells ≤ R.cells ∧ slots ≤ R.slots) (hk : wt_kM own Ts R ix n f) :
    ∀ pc lv vs rest v S S', decode cc pc = .ok (.invokestatic ix, 3) → vs.length = n → wm_cs rest ≤ 8 → f vs S = some (v, S') → wm_W p l e R s m args below meth c cells slots Q D cl A ad cA L nL (pc + 3) lv (v.toList ++ rest) S' → wm_W p l e R s m args below meth c cells slots Q D cl A ad cA L nL pc lv (vs.reverse ++ rest) S := by
  intro pc lv vs rest v S S' hd hn hst hf k
  obtain ⟨hn2, hf1, hl1, hini, hk⟩ := hk
  obtain ⟨hx, hb, hown, hts, hK, -⟩ := X
  have hst8 := wm_rest (ad := ad) hst
  rcases hk with ⟨rfl, w1, w2, w3⟩ | ⟨rfl, w1, w2, w3⟩
  · unfold f_A_max at hf
    split at hf
    · rename_i x y
      cases hf
      intro H locs ls hP hS hl
      exact va_mmax hx hb (hml.trans hl.1.1.symm) hown (hts _ w1) (hts _ w2) (hts _ hini) (hts _ w3) hf1 (by show ((rest.map (wm_cv ad)).map fun v => v.category).sum + 13 ≤ R.locals; omega) hR.1 hR.2 hd (k H locs ls hP hS hl)
    · cases hf
  · unfold f_A_min at hf
    split at hf
    · rename_i x y
      cases hf
      intro H locs ls hP hS hl
      exact va_mmin hx hb (hml.trans hl.1.1.symm) hown (hts _ w1) (hts _ w2) (hts _ hini) (hts _ w3) hf1 (by show ((rest.map (wm_cv ad)).map fun v => v.category).sum + 13 ≤ R.locals; omega) hR.1 hR.2 hd (k H locs ls hP hS hl)
    · cases hf
def wt_rt (v : Option Value) : Bool := match v with
  | some (.retAddr k) => Nat.blt k 4
  | _ => false
def wt_fn (chk : List Value → Bool) (rt n : Nat) (bd : wm_St) (av : List Value) (S : wm_S) : Option (Option Value × wm_S) :=
  bif chk av && (Nat.ble (wm_cs av) n && wm_nod av) then (match bd (wm_en n av) S with
    | some (.inr (v, S')) => bif wm_rt rt v || wt_rt v then some (v, S') else none
    | _ => none) else none
theorem wt_fn_some {chk : List Value → Bool} {rt n : Nat} {bd : wm_St} {av : List Value} {S S' : wm_S} {v : Option Value} (h : wt_fn chk rt n bd av S = some (v, S')) : chk av = true ∧ wm_cs av ≤ n ∧ wm_nod av = true ∧ bd (wm_en n av) S = some (.inr (v, S')) ∧ (wm_rt rt v = true ∨ wt_rt v = true) := by
  unfold wt_fn at h
  cases e : (chk av && (Nat.ble (wm_cs av) n && wm_nod av)) with
  | false => rw [e] at h; cases h
  | true =>
    rw [e] at h
    simp only [Bool.and_eq_true] at e
    simp only [cond_true] at h
    split at h
    · rename_i v1 S1 e2
      cases e3 : (wm_rt rt v1 || wt_rt v1) with
      | false => rw [e3] at h; cases h
      | true =>
        rw [e3] at h
        cases h
        exact ⟨e.1, Nat.le_of_ble_eq_true e.2.1, e.2.2, e2, by simpa using e3⟩
    · cases h
/-- a place where the method throws -/
def wt_site (cc : ByteArray) (own : String) (Ts : List Cond) (pc k : Nat) : Prop := ∃ ik ic : Nat, k < 4 ∧ decode cc pc = .ok (.new ik, 3) ∧ decode cc (pc + 3) = .ok (.dup, 1) ∧ decode cc (pc + 4) = .ok (.invokespecial ic, 3) ∧ decode cc (pc + 7) = .ok (.athrow, 1) ∧
  Cond.classLink own ik (wt_ex k) ∈ Ts ∧ goodWord (Cond.classLink own ik (wt_ex k)) = true ∧ Cond.initialized (wt_ex k) ∈ Ts ∧ goodWord (Cond.initialized (wt_ex k)) = true ∧ (∀ w ∈ Bundle.ownAtoms0 own ic (wt_ex k) wt_up, goodWord w = true → w ∈ Ts) ∧ (Bundle.ownAtoms0 own ic (wt_ex k) wt_up).all (wt_five (wt_ex k)) = true ∧ Bundle.fit (wt_ex k) = true
theorem wt_ret {g : JFrame} {H : Heap} {locs : List Loc} {v : Option Value} {S' : wm_S} (hv : ∀ k, v ≠ some (.retAddr k)) (k : W p l e R s m args below meth c H locs 1 6 (MQ below (wm_Q D cl tys A ad cA L v S') args s 1 6 A) g) : W p l e R s m args below meth c H locs 0 0 (wt_MQ below (wt_Q D cl tys A ad cA L v S') args s) g := by
  refine W.widen (k := 1) (n := 6) (by omega) (by omega) ?_
  intro T hT X
  obtain ⟨t, a1, o, b1, b2, b3, b4⟩ := k T hT X
  exact ⟨t, a1, o, b1, b2, Or.inl ⟨hv, b3, b4⟩⟩
theorem wt_meth {y : MethodName} {ws ws' : List Cond} {rm : Room} {maxL : Nat} {chk : List Value → Bool} {rt pE : Nat} {bd : wm_St} {tb : List wm_R} {cV cS : List (Nat × wm_M)} {tt : List (Nat × Nat)} (hl : l.stackTraces = false) (hy : plainName y.cls = true) (hw : ws = Cond.code y cc maxL (wm_rtT rt) :: ws') (hY : wm_Y cl tys A ad cA L) (hF : ∀ r ∈ fl, wm_fok y.cls ws cl r) (hC : ∀ r ∈ cs, wm_cok y.cls ws r) (ht : tb.all (wm_rokb cc) = true)
    (hV : ∀ q ∈ cV, wm_kV l y.cls ws rm D cl tys A ad cA L q.1 q.2.1 q.2.2) (hS : ∀ q ∈ cS, wm_kS l y.cls ws rm D cl tys A ad cA L q.1 q.2.1 q.2.2 ∨ wt_kM y.cls ws rm q.1 q.2.1 q.2.2) (hT : ∀ q ∈ tt, wt_site cc y.cls ws q.1 q.2) (hR : 6 ≤ rm.frames ∧ 81 ≤ rm.locals ∧ 1 ≤ rm.cells ∧ 6 ≤ rm.slots)
    (hbd : ∀ (w : wm_K) (ret : Option Value → wm_S → Prop), wm_cl L fl cs none cV cS ret tb w → wm_thw tt ret w → wm_T w tb ret 0 pE bd) : wt_con l y ws rm D cl tys A ad cA L (wt_fn chk rt maxL bd) := by
  intro av v S S' hf
  obtain ⟨-, h1, h2, h3, h4⟩ := wt_fn_some hf
  refine MetFree.of_bodyS (code := cc) (maxLocals := maxL) (ret := wm_rtT rt) hy ?_ ?_
  · intro args s m h hn
    obtain ⟨meth, c, h1, h2, h3, h4, h5, h6, -, -⟩ := Cond.code_spec hn (atoms_spec (ws := ws) h _ (by rw [hw]; exact List.mem_cons_self))
    exact ⟨meth, c, h1, h2, h3, h4, h5, h6⟩
  · intro p e s m args below meth c s₁ B hml hv _
    obtain ⟨rfl, ⟨hP, hK⟩, hZ⟩ := hv
    have hh0 : s₁.heap = s.heap := by rw [B.state]; rfl
    have XS := Stand.of_body B
    have hex : c.exceptionTable.toList = [] := by
      obtain ⟨meth', c', q1, q2, -, -, -, -, q3, -⟩ := Cond.code_spec B.named (atoms_spec (ws := ws) B.pre _ (by rw [hw]; exact List.mem_cons_self))
      cases q1.symm.trans B.method
      cases q2.symm.trans XS.code
      simpa using q3
    have X : wm_X p s m (av.map (wm_cv ad)).toArray c cc y.cls ws D cl tys A ad cA L fl cs none := ⟨B.exec, B.bytes, findClass_of_methodNamed B.named, atoms_spec (ws := ws) B.pre, hK, hY.1, hY.2.1, hY.2.2, hF, hC, fun r h => by cases h⟩
    have hR0 : (0 : Nat) ≤ rm.cells ∧ (0 : Nat) ≤ rm.slots := ⟨Nat.zero_le _, Nat.zero_le _⟩
    have hret := B.returns
    have hlocks := B.notSynchronized
    have hcl : wm_cl L fl cs none cV cS (fun v' S'' => v' = v ∧ S'' = S') tb (wm_W p l e rm s m (av.map (wm_cv ad)).toArray below meth c 0 0 (wt_MQ below (wt_Q D cl tys A ad cA L v S') (av.map (wm_cv ad)).toArray s) D cl A ad cA L maxL) := by
      intro pc i nx tg lv st S1 hlp hs
      refine wm_step_ok X (fun ix n f hm => wm_okV X hml hR0 (hV (ix, n, f) hm)) (fun ix n f hm => (hS (ix, n, f) hm).elim (fun q => wm_okS X hml hR0 q) (fun q => wt_okM X hml hR0 q)) ?_ ?_ ?_ (wm_toks ht _ (wm_lp_mem hlp)) (fun _ _ _ _ q => q) hs
      · rintro x S2 ⟨rfl, rfl⟩ pc lv hd H locs ls hP1 hS1 hl1
        have h4 : wm_rt rt (some (.int x)) = true := h4.resolve_right (fun q => by cases q)
        refine wt_ret (fun k q => by cases q) ?_
        match rt, h4, hret with
        | 1, _, hret => exact W.iret (v := x) B.exec B.bytes hret (fun t ht hW => ⟨rfl, ⟨by rw [ht]; exact hP1, va_K.moved hW.alike hK⟩, hS1.F ht⟩) hS1.2.2 hd hlocks
        | 3, h4, hret => exact W.zret (v := x) B.exec B.bytes hret (by rcases of_decide_eq_true h4 with e | e <;> rw [e] <;> rfl) (fun t ht hW => ⟨rfl, ⟨by rw [ht]; exact hP1, va_K.moved hW.alike hK⟩, hS1.F ht⟩) hS1.2.2 hd hlocks
        | 0, h4, _ => cases h4
        | 2, h4, _ => cases h4
        | n + 4, h4, _ => cases h4
      · rintro x S2 ⟨rfl, rfl⟩ pc lv hd H locs ls hP1 hS1 hl1
        have h4 : wm_rt rt (some (.long x)) = true := h4.resolve_right (fun q => by cases q)
        refine wt_ret (fun k q => by cases q) ?_
        match rt, h4, hret with
        | 2, _, hret => exact W.lret (v := x) B.exec B.bytes hret (fun t ht hW => ⟨rfl, ⟨by rw [ht]; exact hP1, va_K.moved hW.alike hK⟩, hS1.F ht⟩) hS1.2.2 hd hlocks
        | 0, h4, _ => cases h4
        | 1, h4, _ => cases h4
        | 3, h4, _ => cases h4
        | n + 4, h4, _ => cases h4
      · rintro S2 ⟨rfl, rfl⟩ pc lv hd H locs ls hP1 hS1 hl1
        have h4 : wm_rt rt none = true := h4.resolve_right (fun q => by cases q)
        refine wt_ret (fun k q => by cases q) ?_
        match rt, h4, hret with
        | 0, _, hret => exact W.vret B.exec B.bytes hret (fun t ht hW => ⟨rfl, ⟨by rw [ht]; exact hP1, va_K.moved hW.alike hK⟩, hS1.F ht⟩) hS1.2.2 hd hlocks
        | 1, h4, _ => cases h4
        | 2, h4, _ => cases h4
        | 3, h4, _ => cases h4
        | n + 4, h4, _ => cases h4
    have hth : wm_thw tt (fun v' S'' => v' = v ∧ S'' = S') (wm_W p l e rm s m (av.map (wm_cv ad)).toArray below meth c 0 0 (wt_MQ below (wt_Q D cl tys A ad cA L v S') (av.map (wm_cv ad)).toArray s) D cl A ad cA L maxL) := by
      rintro pc k hk lv S2 ⟨rfl, rfl⟩
      obtain ⟨ik, ic, g1, g2, g3, g4, g5, g6, g7, g8, g9, g10, g11, g12⟩ := hT (pc, k) (wm_lp_mem hk)
      exact wt_throw X hl hZ hml hlocks hex g1 g2 g3 g4 g5 g6 g7 g8 g9 g10 g11 g12 hR
    have hW := (hbd _ _ hcl hth).2 (wm_en maxL av) S _ h3 ⟨rfl, rfl⟩ s.heap [] _ hP va_S.rf (wm_en_ls h2 (by rw [wm_sl_len, wm_cs_map]; exact h1) (by rw [wm_el_len _ h2]; exact h1))
    rw [lg_entry_eq]
    obtain ⟨t, a1, o, b1, b2, b3⟩ := hW s₁ hh0 XS
    exact ⟨t, o, a1, b1, b2, b3⟩
end WTD

/-! contracts over the small machine. wm_con: whenever f says that the method comes back from these arguments and numbers with an answer and new numbers, it does. -/
section WMC
def wm_I (D : va_G) (cl : List vw_C) (tys : List (ClassId × FieldType)) (ad : Nat → Nat) (cA : Nat → ClassId) (L : List wm_C) (S : wm_S) (U : State) : Prop := va_P D cl (wm_lay ad cA L S) U.heap ∧ va_K D cl tys U
def wm_Q (D : va_G) (cl : List vw_C) (tys : List (ClassId × FieldType)) (A : Nat → Prop) (ad : Nat → Nat) (cA : Nat → ClassId) (L : List wm_C) (v : Option Value) (S' : wm_S) : Array Value → State → Outcome → State → Prop := fun _ st oc t => oc = .returned (v.map (wm_cv ad)) ∧ wm_I D cl tys ad cA L S' t ∧ va_F A st t
def wm_con (l : Launch) (y : MethodName) (ws : List Cond) (rm : Room) (D : va_G) (cl : List vw_C) (tys : List (ClassId × FieldType)) (A : Nat → Prop) (ad : Nat → Nat) (cA : Nat → ClassId) (L : List wm_C) (f : List Value → wm_S → Option (Option Value × wm_S)) : Prop :=
  ∀ av v S S', f av S = some (v, S') → Met l y ws rm (va_Pc (av.map (wm_cv ad)) (wm_I D cl tys ad cA L S)) (wm_Q D cl tys A ad cA L v S') 0 0 A
/-- the locals as a method begins -/
def wm_el : List Value → List Value
  | [] => []
  | .long x :: r => .long x :: .retAddr 0 :: wm_el r
  | v :: r => v :: wm_el r
def wm_en (n : Nat) (av : List Value) : List Value := wm_el av ++ List.replicate (n - (wm_el av).length) (.retAddr 0)
def wm_nod : List Value → Bool
  | [] => true
  | .double _ :: _ => false
  | _ :: r => wm_nod r
theorem wm_el_in {ad : Nat → Nat} : ∀ {av : List Value} (k i : Nat) {v : Value}, wm_nod av = true → (wm_el av)[i]? = some v → (∀ z, v ≠ .retAddr z) → (k + i, wm_cv ad v) ∈ lv_args k (av.map (wm_cv ad))
  | [], _, _, _, _, h, _ => by simp [wm_el] at h
  | w :: r, k, i, v, hn, h, hv => by
    have step : ∀ d, (wm_el (w :: r)) = w :: (List.replicate d (.retAddr 0) ++ wm_el r) → (if (wm_cv ad w).category = 2 then k + 2 else k + 1) = k + 1 + d → wm_nod r = true → (k + i, wm_cv ad v) ∈ lv_args k ((w :: r).map (wm_cv ad)) := by
      intro d e1 e2 e3
      rw [e1] at h
      show (k + i, wm_cv ad v) ∈ (k, wm_cv ad w) :: lv_args (if (wm_cv ad w).category = 2 then k + 2 else k + 1) (r.map (wm_cv ad))
      rw [e2]
      cases i with
      | zero =>
        simp at h
        subst h
        exact List.mem_cons_self
      | succ i =>
        simp only [List.getElem?_cons_succ] at h
        by_cases hd : i < d
        · rw [List.getElem?_append_left (by simpa using hd)] at h
          simp [hd] at h
          exact absurd h.symm (hv 0)
        · rw [List.getElem?_append_right (by simpa using Nat.not_lt.mp hd)] at h
          simp only [List.length_replicate] at h
          have := wm_el_in (ad := ad) (k + 1 + d) (i - d) e3 h hv
          have e : k + 1 + d + (i - d) = k + (i + 1) := by omega
          rw [e] at this
          exact List.mem_cons_of_mem _ this
    cases w with
    | long x => exact step 1 rfl rfl hn
    | double x => cases hn
    | int x => exact step 0 rfl rfl hn
    | float x => exact step 0 rfl rfl hn
    | null => exact step 0 rfl rfl hn
    | ref x => exact step 0 rfl rfl hn
    | retAddr x => exact step 0 rfl rfl hn
theorem wm_en_ls {ad : Nat → Nat} {av : List Value} {n : Nat} (hn : wm_nod av = true) (h : (lg_sl (av.map (wm_cv ad))).length ≤ n) (h2 : (wm_el av).length ≤ n) : wm_ls ad n (wm_en n av) ((lg_sl (av.map (wm_cv ad)) ++ List.replicate (n - (lg_sl (av.map (wm_cv ad))).length) Slot.unset).toArray) := by
  have hl := lv_entry (av.map (wm_cv ad)) h
  refine ⟨⟨hl.1, hl.2.1, fun _ q => by cases q⟩, by simp [wm_en]; omega, fun i v hi => ?_⟩
  by_cases hr : ∃ z, v = .retAddr z
  · exact Or.inl hr
  · refine Or.inr ?_
    have hv : ∀ z, v ≠ .retAddr z := fun z e => hr ⟨z, e⟩
    unfold wm_en at hi
    by_cases hlt : i < (wm_el av).length
    · rw [List.getElem?_append_left hlt] at hi
      have := wm_el_in (ad := ad) 0 i hn hi hv
      rw [Nat.zero_add] at this
      exact hl.2.2 _ this
    · rw [List.getElem?_append_right (Nat.not_lt.mp hlt), List.getElem?_replicate] at hi
      split at hi
      · cases hi
        exact absurd rfl (hv 0)
      · cases hi
theorem wm_sl_len : ∀ (l : List Value), (lg_sl l).length = wm_cs l
  | [] => rfl
  | v :: r => by
    have h := wm_sl_len r
    have e1 : lg_sl (v :: r) = (if v.category = 2 then [.val v, .second] else [.val v]) ++ lg_sl r := rfl
    have e2 : wm_cs (v :: r) = v.category + wm_cs r := by simp [wm_cs]
    rw [e1, e2, List.length_append, h]
    cases v <;> simp [Value.category]
theorem wm_cs_map {ad : Nat → Nat} (l : List Value) : wm_cs (l.map (wm_cv ad)) = wm_cs l := by
  unfold wm_cs
  rw [List.map_map]
  congr 1
  apply List.map_congr_left
  intro v _
  exact wm_cat ad v
theorem wm_el_len : ∀ (l : List Value), wm_nod l = true → (wm_el l).length = wm_cs l
  | [], _ => rfl
  | v :: r, h => by
    have e2 : wm_cs (v :: r) = v.category + wm_cs r := by simp [wm_cs]
    cases v with
    | double x => cases h
    | long x => simp [wm_el, e2, wm_el_len r h, Value.category]; omega
    | int x => simp [wm_el, e2, wm_el_len r h, Value.category]; omega
    | float x => simp [wm_el, e2, wm_el_len r h, Value.category]; omega
    | null => simp [wm_el, e2, wm_el_len r h, Value.category]; omega
    | ref x => simp [wm_el, e2, wm_el_len r h, Value.category]; omega
    | retAddr x => simp [wm_el, e2, wm_el_len r h, Value.category]; omega
/-- the kinds of answers: 0 none, 1 an int, 2 a long, 3 a boolean -/
def wm_rt (k : Nat) (v : Option Value) : Bool := match k, v with
  | 0, none => true
  | 1, some (.int _) => true
  | 2, some (.long _) => true
  | 3, some (.int x) => decide (x = 0 ∨ x = 1)
  | _, _ => false
def wm_rtT (k : Nat) : Option FieldType := match k with
  | 0 => none
  | 1 => some .int
  | 2 => some .long
  | _ => some .boolean
/-- a method as a function: chk looks at the arguments, rt at the answer -/
def wm_fn (chk : List Value → Bool) (rt n : Nat) (bd : wm_St) (av : List Value) (S : wm_S) : Option (Option Value × wm_S) :=
  bif chk av && (Nat.ble (wm_cs av) n && wm_nod av) then (match bd (wm_en n av) S with
    | some (.inr (v, S')) => bif wm_rt rt v then some (v, S') else none
    | _ => none) else none
theorem wm_fn_some {chk : List Value → Bool} {rt n : Nat} {bd : wm_St} {av : List Value} {S S' : wm_S} {v : Option Value} (h : wm_fn chk rt n bd av S = some (v, S')) : chk av = true ∧ wm_cs av ≤ n ∧ wm_nod av = true ∧ bd (wm_en n av) S = some (.inr (v, S')) ∧ wm_rt rt v = true := by
  unfold wm_fn at h
  cases e : (chk av && (Nat.ble (wm_cs av) n && wm_nod av)) with
  | false => rw [e] at h; cases h
  | true =>
    rw [e] at h
    simp only [Bool.and_eq_true] at e
    simp only [cond_true] at h
    split at h
    · rename_i v1 S1 e2
      cases e3 : wm_rt rt v1 with
      | false => rw [e3] at h; cases h
      | true =>
        rw [e3] at h
        cases h
        exact ⟨e.1, Nat.le_of_ble_eq_true e.2.1, e.2.2, e2, e3⟩
    · cases h
/-- the receiver is an object of class number ci -/
def wm_isc (L : List wm_C) (ci : Nat) (av : List Value) : Bool := match av with
  | .ref q :: _ => (match L[q]? with
    | some (.inl (c, _)) => Nat.beq c ci
    | _ => false)
  | _ => false
theorem wm_isc_ok {L : List wm_C} {ci : Nat} {av : List Value} (h : wm_isc L ci av = true) : ∃ q As fs, av = .ref q :: As ∧ L[q]? = some (.inl (ci, fs)) := by
  unfold wm_isc at h
  split at h
  · rename_i q As
    split at h
    · rename_i c fs e
      have e1 : c = ci := Nat.eq_of_beq_eq_true h
      subst e1
      exact ⟨q, As, fs, rfl, e⟩
    · cases h
  · cases h
def wm_any (_ : List Value) : Bool := true
section WMD
variable {l : Launch} {D : va_G} {cl : List vw_C} {tys : List (ClassId × FieldType)} {A : Nat → Prop} {ad : Nat → Nat} {cA : Nat → ClassId} {L : List wm_C} {fl : List (Nat × Nat × Nat)} {cs : List (Nat × Value)} {S S' : wm_S} {y : MethodName} {ws ws' : List Cond} {rm : Room} {cc : ByteArray} {maxL : Nat}
/-- what does not change with the run: distinct addresses in A, the layout's types, the fields' and constants' words -/
def wm_Y (cl : List vw_C) (tys : List (ClassId × FieldType)) (A : Nat → Prop) (ad : Nat → Nat) (cA : Nat → ClassId) (L : List wm_C) : Prop :=
  (∀ S, va_D A (wm_lay ad cA L S)) ∧ (∀ (q t n kd : Nat) (f : Nat → Nat), L[q]? = some (Sum.inr (t, n, kd, f)) → tys[t]? = some (cA t, wm_ty kd)) ∧ wm_lok cl L
/-- a callee that a method with the words Ts and the room R may call: by its receiver, or a static one -/
def wm_kV (l : Launch) (own : String) (Ts : List Cond) (R : Room) (D : va_G) (cl : List vw_C) (tys : List (ClassId × FieldType)) (A : Nat → Prop) (ad : Nat → Nat) (cA : Nat → ClassId) (L : List wm_C) (ix n : Nat) (f : List Value → wm_S → Option (Option Value × wm_S)) : Prop :=
  ∃ (y : MethodName) (bytes : ByteArray) (maxL : Nat) (ret : Option FieldType) (wc wc' : List Cond) (rc : Room) (k ci N : Nat) (T : u_T), wm_con l y wc rc D cl tys A ad cA L f ∧ wc = Cond.code y bytes maxL ret :: wc' ∧ GoodIn Ts (wsV own ix y.cls y wc) ∧ rc.cells = 0 ∧ rc.slots = 0 ∧
    (y.cls ≠ "java/lang/invoke/MethodHandle" ∧ y.cls ≠ "java/lang/invoke/VarHandle" ∧ (parseMethodDescriptor y.desc).map (fun d => d.parameters.length) = some k) ∧ n = k + 1 ∧ (rc.frames + 1 ≤ R.frames ∧ 8 + (maxL + 11) + rc.locals ≤ R.locals) ∧ cl[ci]? = some (y.cls, T, N) ∧ ∀ vs S r, f vs S = some r → wm_isc L ci vs = true
def wm_kS (l : Launch) (own : String) (Ts : List Cond) (R : Room) (D : va_G) (cl : List vw_C) (tys : List (ClassId × FieldType)) (A : Nat → Prop) (ad : Nat → Nat) (cA : Nat → ClassId) (L : List wm_C) (ix n : Nat) (f : List Value → wm_S → Option (Option Value × wm_S)) : Prop :=
  ∃ (y : MethodName) (bytes : ByteArray) (maxL : Nat) (ret : Option FieldType) (wc wc' : List Cond) (rc : Room), wm_con l y wc rc D cl tys A ad cA L f ∧ wc = Cond.code y bytes maxL ret :: wc' ∧ GoodIn Ts ([.methodLink own ix y, .static y, .initialized y.cls] ++ wc) ∧ rc.cells = 0 ∧ rc.slots = 0 ∧
    (y.cls ≠ "java/lang/invoke/MethodHandle" ∧ y.cls ≠ "java/lang/invoke/VarHandle" ∧ (parseMethodDescriptor y.desc).map (fun d => d.parameters.length) = some n) ∧ (rc.frames + 1 ≤ R.frames ∧ 8 + (maxL + 11) + rc.locals ≤ R.locals)
variable {p : Program} {e : Env} {R : Room} {s : State} {m : MethodId} {args : Array Value} {below : List Frame} {meth : Method} {c : Code} {cells slots : Nat} {Q : State → Prop} {own : String} {Ts : List Cond} {nL pc : Nat} {lv rest : List Value} {sc : Option (Nat × (Nat → Int32))}
theorem wm_blind {av : List Value} : FrameBlind (va_Pc (av.map (wm_cv ad)) (wm_I D cl tys ad cA L S)) := fun a U g mk q => ⟨q.1, q.2.1, va_K.moved (u := U) (U := U.calling g mk a) (Vm.Alike.refl U.vm) q.2.2⟩
/-- behind a call -/
theorem wm_back {H : Heap} {locs : List Loc} {ls : Array Slot} {st0 rest0 : List Value} {a : Array Value} {v : Option Value} (hr : va_Run p l e R s m args below meth c H locs cells slots 0 0 (F0 m pc ls st0) rest0 (wm_Q D cl tys A ad cA L v S' a) A) (hS : va_S A s.heap H locs)
    (k : ∀ (H1 : Heap) (locs1 : List Loc), va_P D cl (wm_lay ad cA L S') H1 → va_S A s.heap H1 locs1 → W p l e R s m args below meth c H1 locs1 cells slots Q (F0 m (pc + 3) ls ((v.map (wm_cv ad)).toList ++ rest0))) : W p l e R s m args below meth c H locs cells slots Q (F0 m pc ls st0) := by
  intro T hT X
  obtain ⟨v', st₀, t, T', L', h0, X', hL, e1, e2, ⟨hv, hI, hz, hk⟩, st⟩ := hr T hT X
  cases hv
  rw [h0] at hz hk
  obtain ⟨t2, a1, b1⟩ := k T'.heap (locs ++ L') (by rw [e1]; exact hI.1) ⟨Nat.le_trans hS.1 (by rw [e1]; exact hz), fun q h1 h2 => by rw [e1, hk q (Nat.lt_of_lt_of_le h1 hS.1) h2]; exact hS.2.1 q h1 h2, fun q hq => by
      rcases List.mem_append.mp hq with h | h
      · exact hS.2.2 q h
      · exact hL q h⟩ T' rfl X'
  exact ⟨t2, st t2 a1, b1⟩
theorem wm_toList {v : Option Value} {rest : List Value} : (v.toList ++ rest).map (wm_cv ad) = (v.map (wm_cv ad)).toList ++ rest.map (wm_cv ad) := by cases v <;> simp
theorem wm_rest (h : wm_cs rest ≤ 8) : ((rest.map (wm_cv ad)).map fun v => v.category).sum ≤ 8 := by
  have := wm_cs_map (ad := ad) rest
  unfold wm_cs at this h
  omega
theorem wm_okV {ix n : Nat} {f : List Value → wm_S → Option (Option Value × wm_S)} (X : wm_X p s m args c cc own Ts D cl tys A ad cA L fl cs sc) (hml : c.maxLocals = nL) (hR : cells ≤ R.cells ∧ slots ≤ R.slots) (hk : wm_kV l own Ts R D cl tys A ad cA L ix n f) :
    ∀ pc lv vs rest v S S', decode cc pc = .ok (.invokevirtual ix, 3) → vs.length = n → wm_cs rest ≤ 8 → f vs S = some (v, S') → wm_W p l e R s m args below meth c cells slots Q D cl A ad cA L nL (pc + 3) lv (v.toList ++ rest) S' → wm_W p l e R s m args below meth c cells slots Q D cl A ad cA L nL pc lv (vs.reverse ++ rest) S := by
  intro pc lv vs rest v S S' hd hn hst hf k
  obtain ⟨y, bytes, maxL, ret, wc, wc', rc, kk, ci, N, T, hM, hw, hG, hc0, hs0, hdd, hnk, hroom, hcl, hchk⟩ := hk
  obtain ⟨q, As, fs, rfl, hq⟩ := wm_isc_ok (hchk _ _ _ hf)
  obtain ⟨hx, hb, hown, hts, hK, -⟩ := X
  have cw : CallW R s args own y.cls ix y bytes maxL ret wc rc 0 0 kk := cwV kk hts hG hw hc0 hs0 ⟨rfl, hdd⟩ hroom
  intro H locs ls hP hS hl
  refine wm_back (rest0 := rest.map (wm_cv ad)) (va_runV (As := As.map (wm_cv ad)) (rest := rest.map (wm_cv ad)) ⟨hx, hb, hml, hown, hts⟩ (hM _ _ _ _ hf) cw ⟨wm_blind, va_recv hK hP hcl (wm_lay_at hq), fun U hU hW => ⟨rfl, by rw [hU]; exact hP, va_K.moved hW.alike hK⟩⟩ rfl (by simp at hn; simp; omega) hl.1.1 (by simp [wm_cv]) (lv_room (wm_rest hst)) hd hR) hS (fun H1 locs1 hP1 hS1 => ?_)
  have := k H1 locs1 ls hP1 hS1 hl
  rw [wm_toList] at this
  exact this
theorem wm_okS {ix n : Nat} {f : List Value → wm_S → Option (Option Value × wm_S)} (X : wm_X p s m args c cc own Ts D cl tys A ad cA L fl cs sc) (hml : c.maxLocals = nL) (hR : cells ≤ R.cells ∧ slots ≤ R.slots) (hk : wm_kS l own Ts R D cl tys A ad cA L ix n f) :
    ∀ pc lv vs rest v S S', decode cc pc = .ok (.invokestatic ix, 3) → vs.length = n → wm_cs rest ≤ 8 → f vs S = some (v, S') → wm_W p l e R s m args below meth c cells slots Q D cl A ad cA L nL (pc + 3) lv (v.toList ++ rest) S' → wm_W p l e R s m args below meth c cells slots Q D cl A ad cA L nL pc lv (vs.reverse ++ rest) S := by
  intro pc lv vs rest v S S' hd hn hst hf k
  obtain ⟨y, bytes, maxL, ret, wc, wc', rc, hM, hw, hG, hc0, hs0, hdd, hroom⟩ := hk
  obtain ⟨hx, hb, hown, hts, hK, -⟩ := X
  have ok : ∀ w ∈ ([.methodLink own ix y, .static y, .initialized y.cls] ++ wc : List Cond), w.before args s = true := fun w h => hts w (hG w h).1
  have cw : CallB R s args own ix y bytes maxL ret wc rc 0 0 n ∧ (Cond.static y).before args s = true := ⟨callB_of n hts (fun w h => hG w (List.mem_append_right _ h)) hw hc0 hs0 (ok _ (by simp)) (ok _ (by simp)) hdd hroom, ok _ (by simp)⟩
  intro H locs ls hP hS hl
  refine wm_back (rest0 := rest.map (wm_cv ad)) (va_runS (As := vs.map (wm_cv ad)) (rest := rest.map (wm_cv ad)) ⟨hx, hb, hml, hown, hts⟩ (hM _ _ _ _ hf) cw ⟨wm_blind, fun U hU hW => ⟨rfl, by rw [hU]; exact hP, va_K.moved hW.alike hK⟩⟩ rfl (by simpa using hn) hl.1.1 (by simp) (lv_room (wm_rest hst)) hd hR) hS (fun H1 locs1 hP1 hS1 => ?_)
  have := k H1 locs1 ls hP1 hS1 hl
  rw [wm_toList] at this
  exact this
/-- a method's contract out of its tree -/
theorem wm_meth {chk : List Value → Bool} {rt pE : Nat} {bd : wm_St} {tb : List wm_R} {cV cS : List (Nat × wm_M)} (hy : plainName y.cls = true) (hw : ws = Cond.code y cc maxL (wm_rtT rt) :: ws') (hY : wm_Y cl tys A ad cA L) (hF : ∀ r ∈ fl, wm_fok y.cls ws cl r) (hC : ∀ r ∈ cs, wm_cok y.cls ws r) (ht : tb.all (wm_rokb cc) = true)
    (hV : ∀ q ∈ cV, wm_kV l y.cls ws rm D cl tys A ad cA L q.1 q.2.1 q.2.2) (hS : ∀ q ∈ cS, wm_kS l y.cls ws rm D cl tys A ad cA L q.1 q.2.1 q.2.2)
    (hbd : ∀ (w : wm_K) (ret : Option Value → wm_S → Prop), wm_cl L fl cs none cV cS ret tb w → wm_T w tb ret 0 pE bd) : wm_con l y ws rm D cl tys A ad cA L (wm_fn chk rt maxL bd) := by
  intro av v S S' hf
  obtain ⟨-, h1, h2, h3, h4⟩ := wm_fn_some hf
  refine Met.ofW (cc := cc) (maxL := maxL) (ret := wm_rtT rt) hy hw ?_
  intro p e s m args below meth c s₁ B hml hv
  obtain ⟨rfl, hP, hK⟩ := hv
  rw [lg_entry_eq]
  have X : wm_X p s m (av.map (wm_cv ad)).toArray c cc y.cls ws D cl tys A ad cA L fl cs none := ⟨B.exec, B.bytes, findClass_of_methodNamed B.named, atoms_spec (ws := ws) B.pre, hK, hY.1, hY.2.1, hY.2.2, hF, hC, fun r h => by cases h⟩
  have hR : (0 : Nat) ≤ rm.cells ∧ (0 : Nat) ≤ rm.slots := ⟨Nat.zero_le _, Nat.zero_le _⟩
  have hret := B.returns
  have hlocks := B.notSynchronized
  have hcl : wm_cl L fl cs none cV cS (fun v' S'' => v' = v ∧ S'' = S') tb (wm_W p l e rm s m (av.map (wm_cv ad)).toArray below meth c 0 0 (MQ below (wm_Q D cl tys A ad cA L v S') (av.map (wm_cv ad)).toArray s 0 0 A) D cl A ad cA L maxL) := by
    intro pc i nx tg lv st S1 hlp hs
    refine wm_step_ok X (fun ix n f hm => wm_okV X hml hR (hV (ix, n, f) hm)) (fun ix n f hm => wm_okS X hml hR (hS (ix, n, f) hm)) ?_ ?_ ?_ (wm_toks ht _ (wm_lp_mem hlp)) (fun _ _ _ _ q => q) hs
    · rintro x S2 ⟨rfl, rfl⟩ pc lv hd H locs ls hP1 hS1 hl1
      match rt, h4, hret with
      | 1, _, hret => exact W.iret (v := x) B.exec B.bytes hret (fun t ht hW => ⟨rfl, ⟨by rw [ht]; exact hP1, va_K.moved hW.alike hK⟩, hS1.F ht⟩) hS1.2.2 hd hlocks
      | 3, h4, hret => exact W.zret (v := x) B.exec B.bytes hret (by rcases of_decide_eq_true h4 with e | e <;> rw [e] <;> rfl) (fun t ht hW => ⟨rfl, ⟨by rw [ht]; exact hP1, va_K.moved hW.alike hK⟩, hS1.F ht⟩) hS1.2.2 hd hlocks
      | 0, h4, _ => cases h4
      | 2, h4, _ => cases h4
      | n + 4, h4, _ => cases h4
    · rintro x S2 ⟨rfl, rfl⟩ pc lv hd H locs ls hP1 hS1 hl1
      match rt, h4, hret with
      | 2, _, hret => exact W.lret (v := x) B.exec B.bytes hret (fun t ht hW => ⟨rfl, ⟨by rw [ht]; exact hP1, va_K.moved hW.alike hK⟩, hS1.F ht⟩) hS1.2.2 hd hlocks
      | 0, h4, _ => cases h4
      | 1, h4, _ => cases h4
      | 3, h4, _ => cases h4
      | n + 4, h4, _ => cases h4
    · rintro S2 ⟨rfl, rfl⟩ pc lv hd H locs ls hP1 hS1 hl1
      match rt, h4, hret with
      | 0, _, hret => exact W.vret B.exec B.bytes hret (fun t ht hW => ⟨rfl, ⟨by rw [ht]; exact hP1, va_K.moved hW.alike hK⟩, hS1.F ht⟩) hS1.2.2 hd hlocks
      | 1, h4, _ => cases h4
      | 2, h4, _ => cases h4
      | 3, h4, _ => cases h4
      | n + 4, h4, _ => cases h4
  exact (hbd _ _ hcl).2 (wm_en maxL av) S _ h3 ⟨rfl, rfl⟩ s.heap [] _ hP va_S.rf (wm_en_ls h2 (by rw [wm_sl_len, wm_cs_map]; exact h1) (by rw [wm_el_len _ h2]; exact h1))
end WMD
end WMC

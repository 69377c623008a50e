/-! constructors' contracts -/
section WND
/-- the words of the constructors that are no good words -/
def wn_AO (U : State) : Prop := (Cond.arrayOver (.array .int)).before #[] U = true
theorem wn_AO.use {A : Array Value} {U : State} (h : wn_AO U) : (Cond.arrayOver (.array .int)).before A U = true := h
theorem wn_idx (f : Kind → Bool) (vm : Vm) : (vm.bare.classes.findIdx? fun (x : Class) => f x.kind) = (vm.classes.findIdx? fun (x : Class) => f x.kind) := by
  simp only [Vm.bare, Array.findIdx?_map]
  rfl
theorem wn_idx2 (f : Kind → Bool) {u U : Vm} (hvm : u.Alike U) : (U.classes.findIdx? fun (x : Class) => f x.kind) = (u.classes.findIdx? fun (x : Class) => f x.kind) := by
  have h1 := wn_idx f u
  have h2 := wn_idx f U
  have h3 : u.bare = U.bare := by first | exact hvm.bare_eq | exact hvm.bare_eq.symm
  rw [← h1, ← h2, h3]
theorem wn_AO.moved {u U : State} (hvm : u.vm.Alike U.vm) (h : wn_AO u) : wn_AO U := by
  unfold wn_AO Cond.before at h ⊢
  simp only [Cond.holds, Cond.value, beq_iff_eq] at h ⊢
  cases hc : u.vm.findClass (FieldType.array .int).toString with
  | none => simp [hc] at h
  | some comp =>
    have f1 : U.vm.findClass (FieldType.array .int).toString = some comp := by rw [hvm.findClass]; exact hc
    simp only [hc, Option.bind_some, Option.bind_eq_some_iff, Option.map_eq_some_iff] at h
    obtain ⟨c, hi, k, hk, hb⟩ := h
    have hi' := (wn_idx2 (fun k => match k with
      | .array component _ => component == comp
      | _ => false) hvm).trans hi
    obtain ⟨k', hk', he⟩ := hvm.2.2 _ _ hk
    simp only [f1, Option.bind_some, Option.bind_eq_some_iff, Option.map_eq_some_iff]
    refine ⟨c, hi', k', hk', ?_⟩
    rw [← hb, he]
    simp only [hvm.findClass]
def wn_N (ns : List (String × Nat × MethodName × String)) (U : State) : Prop := (∀ q ∈ ns, va_Nw (.methodLinkNest q.1 q.2.1 q.2.2.1 q.2.2.2) U) ∧ wn_AO U
theorem wn_N.warm {ns : List (String × Nat × MethodName × String)} {s U : State} (hW : s.WarmedH U.vm) (h : wn_N ns s) : wn_N ns U := ⟨fun q hq => va_Nw.warmM hW (h.1 q hq), h.2.moved hW.alike⟩
theorem wn_N.same {ns : List (String × Nat × MethodName × String)} {s U : State} (e : s.vm = U.vm) (h : wn_N ns s) : wn_N ns U := ⟨fun q hq => va_tabs rfl e (h.1 q hq), h.2.moved (by rw [e]; exact Vm.Alike.refl _)⟩
def wn_P (ns : List (String × Nat × MethodName × String)) (D : va_G) (cl : List vw_C) (cA : Nat → ClassId) (h0 : Nat) (E : List wn_E) (U : State) : Prop := va_P D cl (wn_w h0 cA E) U.heap ∧ va_K D cl (wn_ty cA) U ∧ U.heap.size = h0 + E.length ∧ wn_N ns U
def wn_Q (D : va_G) (cl : List vw_C) (cA : Nat → ClassId) (h0 : Nat) (E' : List wn_E) : Array Value → State → Outcome → State → Prop := fun _ st oc t => oc = .returned none ∧ va_P D cl (wn_w h0 cA E') t.heap ∧ va_F (wn_A h0) st t
def wn_con (ns : List (String × Nat × MethodName × String)) (l : Launch) (y : MethodName) (ws : List Cond) (rm : Room) (D : va_G) (cl : List vw_C) (cA : Nat → ClassId) (h0 : Nat) (f : wn_F) (mc ms : Nat) : Prop := ∀ a E E', f a E = some E' → Met l y ws rm (va_Pc [.ref (h0 + a)] (wn_P ns D cl cA h0 E)) (wn_Q D cl cA h0 E') mc ms (wn_A h0)
variable {ns : List (String × Nat × MethodName × String)} {p : Program} {l : Launch} {e : Env} {R : Room} {s : State} {m : MethodId} {args : Array Value} {below : List Frame} {meth : Method} {c : Code} {Q : State → Prop}
variable {cc : ByteArray} {own : String} {Ts : List Cond} {D : va_G} {cl : List vw_C} {cA : Nat → ClassId} {nL h0 : Nat} {ls : Array Slot}
theorem wn_blind {a : Nat} {E : List wn_E} : FrameBlind (va_Pc [.ref (h0 + a)] (wn_P ns D cl cA h0 E)) := fun v U g mk q => ⟨q.1, q.2.1, va_K.moved (u := U) (U := U.calling g mk v) (Vm.Alike.refl U.vm) q.2.2.1, q.2.2.2.1, wn_N.same (s := U) (U := U.calling g mk v) rfl q.2.2.2.2⟩
theorem wn_back {H : Heap} {locs : List Loc} {st0 rest0 : List Value} {a : Array Value} {pc mc ms cells slots : Nat} {E' : List wn_E} (hr : va_Run p l e R s m args below meth c H locs cells slots mc ms (F0 m pc ls st0) rest0 (wn_Q D cl cA h0 E' a) (wn_A h0)) (hS : va_S (wn_A h0) s.heap H locs)
    (k : ∀ (H1 : Heap) (locs1 : List Loc), va_P D cl (wn_w h0 cA E') H1 → va_S (wn_A h0) s.heap H1 locs1 → W p l e R s m args below meth c H1 locs1 (cells + mc) (slots + ms) Q (F0 m (pc + 3) ls rest0)) : W p l e R s m args below meth c H locs cells slots Q (F0 m pc ls st0) := by
  intro T hT X
  obtain ⟨v', st₀, t, T', L', g0, X', hL, e1, e2, ⟨hv, hI, hz, hk⟩, st⟩ := hr T hT X
  cases hv
  rw [g0] at hz hk
  obtain ⟨t2, a1, b1⟩ := k T'.heap (locs ++ L') (by rw [e1]; exact hI) ⟨Nat.le_trans hS.1 (by rw [e1]; exact hz), fun q h1 h2 => by rw [e1, hk q (Nat.lt_of_lt_of_le h1 hS.1) h2]; exact hS.2.1 q h1 h2, fun q hq => by
      rcases List.mem_append.mp hq with h | h
      · exact hS.2.2 q h
      · exact hL q h⟩ T' rfl X'
  exact ⟨t2, st t2 a1, b1⟩
/-- a constructor of a nest mate -/
theorem wn_callN {ix mc ms maxL : Nat} {f : wn_F} {y : MethodName} {host : String} {bytes : ByteArray} {wc wc' : List Cond} {rc : Room} (hx : p.tables.exec = Jvm.exec) (hb : c.code = cc) (hml : c.maxLocals = ls.size) (hown : s.vm.findClass own = some m.cls) (hts : ∀ w ∈ Ts, w.before args s = true) (hK : va_K D cl (wn_ty cA) s) (hN : wn_N ns s)
    (hM : wn_con ns l y wc rc D cl cA h0 f mc ms) (hG : GoodIn Ts wc) (hw : wc = Cond.code y bytes maxL none :: wc') (hrc : rc.cells = mc) (hrs : rc.slots = ms) (hn : (own, ix, y, host) ∈ ns) (hini : Cond.initialized y.cls ∈ Ts) (hinst : Cond.instanceMethod y ∈ Ts) (hd : y.cls ≠ "java/lang/invoke/MethodHandle" ∧ y.cls ≠ "java/lang/invoke/VarHandle" ∧ (parseMethodDescriptor y.desc).map (fun d => d.parameters.length) = some 0) (hin : y.name = "<init>") (hR : rc.frames + 1 ≤ R.frames ∧ 8 + (maxL + 11) + rc.locals ≤ R.locals) :
    wn_cok p l e R s m args below meth c Q cc D cl cA h0 ls (ix, mc, ms, f) := by
  intro pc a r E E1 H locs cells slots hdc hr hf hc hs hsz hP hS k
  have cn := va_cnB (R := R) (args := args) (s := s) (mc := mc) (ms := ms) 0 hts hG hw hrc hrs (hN.1 _ hn) (hts _ hini) hd hR
  exact wn_back (cA := cA) (va_runIN (As := []) (rest := r.map (wn_cv h0)) ⟨hx, hb, hml, hown, hts⟩ (hM a E E1 hf) ⟨cn, hin, hts _ hinst⟩ ⟨wn_blind, fun U hU hW => ⟨rfl, by rw [hU]; exact hP, va_K.moved hW.alike hK, by rw [hU]; exact hsz, wn_N.warm hW hN⟩⟩ rfl rfl rfl rfl (lv_room (wm_rest hr)) hdc ⟨hc, hs⟩) hS k
/-- a constructor that is linked plainly -/
theorem wn_callI {ix mc ms maxL : Nat} {f : wn_F} {y : MethodName} {bytes : ByteArray} {wc wc' : List Cond} {rc : Room} (hx : p.tables.exec = Jvm.exec) (hb : c.code = cc) (hml : c.maxLocals = ls.size) (hown : s.vm.findClass own = some m.cls) (hts : ∀ w ∈ Ts, w.before args s = true) (hK : va_K D cl (wn_ty cA) s) (hN : wn_N ns s)
    (hM : wn_con ns l y wc rc D cl cA h0 f mc ms) (hG : GoodIn Ts wc) (hw : wc = Cond.code y bytes maxL none :: wc') (hrc : rc.cells = mc) (hrs : rc.slots = ms) (hn : Cond.methodLink own ix y ∈ Ts) (hini : Cond.initialized y.cls ∈ Ts) (hinst : Cond.instanceMethod y ∈ Ts) (hd : y.cls ≠ "java/lang/invoke/MethodHandle" ∧ y.cls ≠ "java/lang/invoke/VarHandle" ∧ (parseMethodDescriptor y.desc).map (fun d => d.parameters.length) = some 0) (hin : y.name = "<init>") (hR : rc.frames + 1 ≤ R.frames ∧ 8 + (maxL + 11) + rc.locals ≤ R.locals) :
    wn_cok p l e R s m args below meth c Q cc D cl cA h0 ls (ix, mc, ms, f) := by
  intro pc a r E E1 H locs cells slots hdc hr hf hc hs hsz hP hS k
  have cn := cwI (R := R) (args := args) (s := s) (mc := mc) (ms := ms) 0 hts hG hw hrc hrs (hts _ hini) (hts _ hn) (hts _ hinst) hin hd hR
  exact wn_back (cA := cA) (va_runI (As := []) (rest := r.map (wn_cv h0)) ⟨hx, hb, hml, hown, hts⟩ (hM a E E1 hf) cn ⟨wn_blind, fun U hU hW => ⟨rfl, by rw [hU]; exact hP, va_K.moved hW.alike hK, by rw [hU]; exact hsz, wn_N.warm hW hN⟩⟩ rfl rfl rfl rfl (lv_room (wm_rest hr)) hdc ⟨hc, hs⟩) hS k
/-- a constructor as a function -/
def wn_fn (ci : Nat) (pf : List (Nat × Nat × FieldType)) (nw : List (Nat × Nat × List Value)) (cf : List (Nat × Nat × Nat × wn_F)) (io : Nat) (mi : List Nat) (mc ms : Nat) (tb : List wm_R) (stop : Nat) : wn_F := fun a E => match wn_run (some a) ci pf nw cf io mi (E.length + mc) (wn_sz E + ms) tb stop 300 0 [] E with
  | some ([], E') => bif Nat.beq E'.length (E.length + mc) && Nat.beq (wn_sz E') (wn_sz E + ms) then some E' else none
  | _ => none
theorem wn_met {y : MethodName} {ws ws' : List Cond} {rm : Room} {ci io mc ms stop : Nat} {pf : List (Nat × Nat × FieldType)} {nw : List (Nat × Nat × List Value)} {cf : List (Nat × Nat × Nat × wn_F)} {mi : List Nat} {tb : List wm_R} (hy : plainName y.cls = true) (hyn : y.name = "<init>") (hw : ws = Cond.code y cc 1 none :: ws') (ht : tb.all (wm_rokb cc) = true) (hd : decode cc stop = .ok (.return_, 1)) (hrm : rm.cells = mc ∧ rm.slots = ms ∧ 1 ≤ rm.frames ∧ 20 ≤ rm.locals)
    (hpf : ∀ r ∈ pf, wn_pok y.cls ws cl ci r) (hnw : ∀ r ∈ nw, wn_nok y.cls ws cl r) (hio : Cond.methodLink y.cls io Lib.objectInit ∈ ws ∧ Cond.instanceMethod Lib.objectInit ∈ ws ∧ Cond.code Lib.objectInit ⟨#[0xb1]⟩ 1 none ∈ ws) (har : Cond.arrayClass .int ∈ ws ∧ Cond.arrayClass .long ∈ ws ∧ Cond.arrayClass .boolean ∈ ws) (hmi : ∀ ix ∈ mi, Cond.classLink y.cls ix ("[" ++ (FieldType.array .int).toString) ∈ ws)
    (hcf : ∀ (p : Program) (e : Env) (s : State) (m : MethodId) (args : Array Value) (below : List Frame) (meth : Method) (c : Code) (Q : State → Prop) (ls : Array Slot), p.tables.exec = Jvm.exec → c.code = cc → c.maxLocals = ls.size → s.vm.findClass y.cls = some m.cls → (∀ w ∈ ws, w.before args s = true) → va_K D cl (wn_ty cA) s → wn_N ns s → ∀ q ∈ cf, wn_cok p l e rm s m args below meth c Q cc D cl cA h0 ls q) :
    wn_con ns l y ws rm D cl cA h0 (wn_fn ci pf nw cf io mi mc ms tb stop) mc ms := by
  intro a E E' hf
  unfold wn_fn at hf
  split at hf
  · rename_i E1 hrun
    cases hq : (Nat.beq E1.length (E.length + mc) && Nat.beq (wn_sz E1) (wn_sz E + ms)) with
    | false => rw [hq] at hf; cases hf
    | true =>
    rw [hq] at hf
    cases hf
    simp only [Bool.and_eq_true] at hq
    have hq1 := Nat.eq_of_beq_eq_true hq.1
    have hq2 := Nat.eq_of_beq_eq_true hq.2
    refine Met.ofW (cc := cc) (maxL := 1) (ret := none) hy hw ?_
    intro p e s m args below meth c s₁ B hml hv
    obtain ⟨rfl, hP, hK, hsz, hN⟩ := hv
    have hl := lv_entry ([.ref (h0 + a)]) (n := 1) (Nat.le_of_ble_eq_true rfl)
    rw [lg_entry_eq]
    generalize (lg_sl ([.ref (h0 + a)]) ++ List.replicate (1 - (lg_sl ([.ref (h0 + a)])).length) Slot.unset).toArray = ls at hl ⊢
    have hts := atoms_spec (ws := ws) B.pre
    have hown : s.vm.findClass y.cls = some m.cls := findClass_of_methodNamed B.named
    have hin : meth.name = "<init>" := (name_of_methodNamed B.named B.method).1.trans hyn
    have hml2 : c.maxLocals = ls.size := by rw [hml]; exact hl.1.symm
    have hret := B.returns
    have hlocks := B.notSynchronized
    refine wn_ok (E0 := E.length) (Z0 := wn_sz E) B.exec B.bytes hml2 hown hts hK (Or.inl hin) (fun x hx => by cases hx; exact hl.2.2 (0, .ref (h0 + a)) List.mem_cons_self) (wm_toks ht) hsz (by show _ + rm.cells = _; rw [hrm.1]) (by show _ + rm.slots = _; rw [hrm.2.1]) hrm.2.2 hpf hnw (hcf p e s m _ below meth c _ ls B.exec B.bytes hml2 hown hts hK hN) (Or.inl hio) har (fun ix hix => ⟨hmi ix hix, hN.2.use⟩) 300 0 [] E [] E' hrun s.heap [] 0 0 hP va_S.rf (by omega) (by omega) ?_
    intro H1 locs1 cells1 slots1 hP1 hS1 hc1 hz1
    refine wn_sized (fun hsz1 => ?_)
    intro T hT X
    have g1 : cells1 ≤ mc ∧ slots1 ≤ ms := by omega
    refine W.widen (k := mc) (n := ms) g1.1 g1.2 ?_ T hT X
    exact W.vret B.exec B.bytes hret (fun t ht hW => ⟨rfl, by rw [ht]; exact hP1, hS1.F ht⟩) hS1.2.2 hd hlocks
  · cases hf
end WND

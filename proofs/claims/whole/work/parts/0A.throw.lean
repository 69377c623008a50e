/-! methods that throw: the exceptions' classes, the statics that making one reads, a contract with two ways out -/
section WTA
def wt_ex (k : Nat) : String := match k with
  | 0 => "java/lang/IllegalStateException"
  | 1 => "java/util/NoSuchElementException"
  | 2 => "java/lang/IllegalArgumentException"
  | _ => "java/lang/UnsupportedOperationException"
abbrev wt_up : List String := ["java/lang/RuntimeException", "java/lang/Exception"]
/-- a static field's place and that a reference (or null) lies there, in a cell outside A -/
def wt_L (C n d : String) (A : Nat → Prop) (U : State) (H : Heap) : Prop := ∃ (c : ClassId) (k : Class) (i : Nat) (f : Field) (a : Nat) (cell : Cell) (v : Value), U.vm.findClass C = some c ∧ U.fieldFound? C n d = some (c, k, i, f) ∧ f.isStatic = true ∧ k.statics = some a ∧ H[a]? = some cell ∧ cell.vm.isStatics = true ∧ cell.cls = c ∧ f.slot < cell.slots.size ∧ k.staticTypes[f.slot]? = some f.type ∧ cell.slots[f.slot]? = some v ∧ (v = .null ∨ ∃ t, v = .ref t) ∧ ¬ A a
variable {C n d : String} {A : Nat → Prop} {u U s : State} {H H1 : Heap} {args : Array Value}
theorem wt_L.moved (hvm : u.vm.Alike U.vm) (h : wt_L C n d A u H) : wt_L C n d A U H := by
  obtain ⟨c, k, i, f, a, cell, v, h1, h2, h3, h4, h5, h6, h7, h8, h9, h10⟩ := h
  obtain ⟨k', hk, he⟩ := State.fieldFound?_setVm hvm h2
  exact ⟨c, k', i, f, a, cell, v, by rw [hvm.findClass]; exact h1, hk, h3, by rw [he]; exact h4, h5, h6, h7, h8, by rw [he]; exact h9, h10⟩
theorem wt_L.kept (h : wt_L C n d A U H) (hq : ∀ a : Nat, a < H.size → ¬ A a → H1[a]? = H[a]?) : wt_L C n d A U H1 := by
  obtain ⟨c, k, i, f, a, cell, v, h1, h2, h3, h4, h5, h6, h7, h8, h9, h10, h11, h12⟩ := h
  exact ⟨c, k, i, f, a, cell, v, h1, h2, h3, h4, by rw [hq a (Array.getElem?_eq_some_iff.mp h5).1 h12]; exact h5, h6, h7, h8, h9, h10, h11, h12⟩
theorem wt_L.lays (h : wt_L C n d A s s.heap) : (Cond.laysStatic C n d).before args s = true := by
  obtain ⟨c, k, i, f, a, cell, v, h1, h2, h3, h4, h5, h6, h7, h8, h9, h10⟩ := h
  exact Cond.laysStatic_of (args := args) (first := s) (o := none) (idx := []) h1 h2 h3 h4 h5 h6 h7 h8 h9
theorem wt_L.isr (h : wt_L C n d A s s.heap) : (Cond.isRef (.static C n d)).before args s = true := by
  obtain ⟨c, k, i, f, a, cell, v, h1, h2, h3, h4, h5, h6, h7, h8, h9, h10, h11, h12⟩ := h
  have he : (Term.static C n d).eval args s none [] s = some v := by simp [Term.eval, State.fieldNamed?, h2, h3, h4, h5, h6, h10]
  simp only [Cond.before, Cond.holds, Cond.value, he]
  rcases h11 with rfl | ⟨t, rfl⟩ <;> rfl
theorem wt_L.of (hl : (Cond.laysStatic C n d).before args s = true) (h : (Cond.isRef (.static C n d)).before args s = true) (hA : ∀ a : Nat, a < s.heap.size → ¬ A a) : wt_L C n d A s s.heap := by
  obtain ⟨c, k, i, f, a, cell, h1, h2, h3, h4, h5, h6, h7, h8, h9⟩ := Cond.laysStatic_spec hl
  have hv : cell.slots[f.slot]? = some cell.slots[f.slot] := Array.getElem?_eq_getElem h8
  have he : (Term.static C n d).eval args s none [] s = some cell.slots[f.slot] := by simp [Term.eval, State.fieldNamed?, h2, h3, h4, h5, h6, hv]
  simp only [Cond.before, Cond.holds, Cond.value, he] at h
  refine ⟨c, k, i, f, a, cell, _, h1, h2, h3, h4, h5, h6, h7, h8, h9, hv, ?_, hA a (Array.getElem?_eq_some_iff.mp h5).1⟩
  cases hc : cell.slots[f.slot] with
  | null => exact Or.inl rfl
  | ref t => exact Or.inr ⟨t, rfl⟩
  | _ => rw [hc] at h; simp at h
/-- the constructors that the exceptions' own ones call -/
def wt_decl : List Cond := [.declares (Bundle.init0 "java/lang/RuntimeException"), .declares (Bundle.init0 "java/lang/Exception"), .declares (Bundle.init0 Bundle.tN)]
theorem wt_decl_ok {w : Cond} (h : w ∈ wt_decl) : ∃ x, w = .declares x := by
  simp only [wt_decl, List.mem_cons, List.not_mem_nil, or_false] at h
  rcases h with h | h | h <;> exact ⟨_, h⟩
/-- an exception of the first kind is passed by a row for the second -/
def wt_nc : List (Nat × Nat) := [(2, 1), (0, 1), (0, 2), (3, 0)]
/-- what making and catching the exceptions needs of a state beyond good words -/
def wt_Z (A : Nat → Prop) (U : State) (H : Heap) : Prop := wt_L Bundle.tN "UNASSIGNED_STACK" Bundle.steD A U H ∧ wt_L Bundle.tN "SUPPRESSED_SENTINEL" Bundle.listD A U H ∧ (∀ k, k < 4 → va_Nw (.castable (wt_ex k) (wt_ex k)) U) ∧ (∀ w ∈ wt_decl, va_Nw w U) ∧ ∀ q ∈ wt_nc, va_Nc (wt_ex q.1) (wt_ex q.2) U
theorem wt_Z.warm (hW : u.WarmedH U.vm) (h : wt_Z A u H) : wt_Z A U H := ⟨h.1.moved hW.alike, h.2.1.moved hW.alike, fun k hk => va_Nw.warmC hW (h.2.2.1 k hk), fun w hw => by
    obtain ⟨x, rfl⟩ := wt_decl_ok hw
    exact va_Nw.warmD hW (h.2.2.2.1 _ hw), fun q hq => (h.2.2.2.2 q hq).moved hW.alike⟩
theorem wt_Z.kept (h : wt_Z A U H) (hq : ∀ a : Nat, a < H.size → ¬ A a → H1[a]? = H[a]?) : wt_Z A U H1 := ⟨h.1.kept hq, h.2.1.kept hq, h.2.2⟩
theorem wt_Z.same (hvm : u.vm = U.vm) (h : wt_Z A u H) : wt_Z A U H := by
  have e : u.vm.Alike U.vm := by rw [hvm]; exact Vm.Alike.refl _
  exact ⟨h.1.moved e, h.2.1.moved e, fun k hk => va_tabs rfl hvm (h.2.2.1 k hk), fun w hw => by
    obtain ⟨x, rfl⟩ := wt_decl_ok hw
    exact va_tabs rfl hvm (h.2.2.2.1 _ hw), fun q hq => (h.2.2.2.2 q hq).moved e⟩
end WTA
section WTB
variable {p : Program} {l : Launch} {e : Env} {R : Room} {s : State} {m : MethodId} {args : Array Value} {below : List Frame} {meth : Method} {c : Code} {T : State} {locs : List Loc} {cells slots : Nat}
/-- the same walk, seen as if the method had been entered just now: nothing written, nothing made -/
theorem wt_again (X : Stand p l e R s m args below meth c T locs cells slots) {Q : Room} (hf : Q.frames ≤ R.frames) (hl : Q.locals ≤ R.locals) (hc : cells + Q.cells ≤ R.cells) (hs : slots + Q.slots ≤ R.slots) :
    Stand p l e Q ((T.setVm s.vm).setFrames (.invoking m args :: below)) m args below meth c T [] 0 0 := by
  have ht : (T.setVm s.vm).topJava?.isSome := X.here.top
  have hF : ((T.setVm s.vm).setFrames (.invoking m args :: below)).frames = .invoking m args :: below := State.frames_setFrames _ (State.cur_lt_of_top ht)
  have hU : ((T.setVm s.vm).setFrames (.invoking m args :: below)).localsInUse = s.localsInUse := by
    rw [State.localsInUse_invoking hF (meth := meth) (c := c) X.method X.code, State.localsInUse_invoking X.frames X.method X.code]
  have hlim : e.platform.stackLimits ((T.setVm s.vm).setFrames (.invoking m args :: below)).me = e.platform.stackLimits s.me := by
    rw [State.stackLimits_setFrames]
    exact X.limits
  have hby : ((T.setVm s.vm).setFrames (.invoking m args :: below)).me.stackBytes = s.me.stackBytes := by
    rw [State.stackBytes_setFrames]
    exact X.bytes
  have z1 := X.heapSize
  have z2 := X.used
  have hroom : ((T.setVm s.vm).setFrames (.invoking m args :: below)).hasRoom e.platform Q = true := by
    have h := X.room
    simp only [State.hasRoom, Bool.and_eq_true, decide_eq_true_eq, X.frames, List.length_cons] at h
    simp only [State.hasRoom, Bool.and_eq_true, decide_eq_true_eq, hF, hU, hlim, hby, List.length_cons]
    obtain ⟨⟨⟨⟨h1, h2, h3, h4, h5, h6⟩, h7⟩, h8⟩, -⟩ := h
    have e1 : ((T.setVm s.vm).setFrames (.invoking m args :: below)).heap = T.heap := rfl
    have e2 : ((T.setVm s.vm).setFrames (.invoking m args :: below)).slotsUsed = T.slotsUsed := rfl
    rw [e1, e2]
    exact ⟨⟨⟨⟨by omega, by omega, by omega, by omega, by omega, h6⟩, by omega⟩, by omega⟩, X.book⟩
  have hd : T.heap.toList.drop T.heap.size = [] := List.drop_eq_nil_of_le (Nat.le_of_eq Array.length_toList)
  refine ⟨X.admits, X.cas, X.clock, hF, hroom, X.hears, X.method, X.code, X.here, X.tail, X.warmed, hlim.symm ▸ X.limits, hby.symm ▸ X.bytes, ?_, Nat.le_refl _, Nat.le_refl _, ?_, ?_, fun a c9 h9 => ⟨c9, h9, rfl, rfl, fun _ _ => rfl⟩⟩
  · obtain ⟨g₀, hg0⟩ := Option.isSome_iff_exists.mp ht
    obtain ⟨r, hr⟩ := State.topJava?_eq_some.mp hg0
    obtain ⟨t, h1, -⟩ := State.frames_cons hr
    show T.setVm s.vm = { ((T.setVm s.vm).setFrames (.invoking m args :: below)).setFrames (T.setVm s.vm).frames with heap := T.heap, slotsUsed := T.slotsUsed }
    rw [State.setFrames_setFrames, State.setFrames_self h1]
    rfl
  · show T.slotsUsed = T.slotsUsed + ((T.heap.toList.drop T.heap.size).map (·.slots.size)).sum
    rw [hd]
    rfl
  · show ((T.heap.toList.drop T.heap.size).map (·.slots.size)).sum ≤ 0
    rw [hd]
    exact Nat.le_refl _
end WTB
section WTC
def wt_Q (D : va_G) (cl : List vw_C) (tys : List (ClassId × FieldType)) (A : Nat → Prop) (ad : Nat → Nat) (cA : Nat → ClassId) (L : List wm_C) (v : Option Value) (S' : wm_S) : Array Value → State → Outcome → State → Prop := fun a st o t =>
  ((∀ k, v ≠ some (.retAddr k)) ∧ wm_Q D cl tys A ad cA L v S' a st o t ∧ ∃ Ls, FrameEnd st o t Ls 1 6 ∧ ∀ q ∈ Ls, A q.base) ∨
  ∃ (k : Nat) (q : Addr) (ce : Cell) (Ls : List Loc), v = some (.retAddr k) ∧ o = .threw q ∧ t.heap[q]? = some ce ∧ ce.vm = .none ∧ st.vm.findClass (wt_ex k) = some ce.cls ∧ st.WarmedH t.vm ∧ st.sameButNew ({ t with vm := st.vm } : State) Ls 1 6 ∧ (∀ z ∈ Ls, A z.base) ∧ wm_I D cl tys ad cA L S' t ∧ va_F A st t
def wt_con (l : Launch) (y : MethodName) (ws : List Cond) (rm : Room) (D : va_G) (cl : List vw_C) (tys : List (ClassId × FieldType)) (A : Nat → Prop) (ad : Nat → Nat) (cA : Nat → ClassId) (L : List wm_C) (f : List Value → wm_S → Option (Option Value × wm_S)) : Prop :=
  ∀ av v S S', f av S = some (v, S') → MetFree l y (headSpec ws rm) (va_Pc (av.map (wm_cv ad)) (fun U => wm_I D cl tys ad cA L S U ∧ wt_Z A U U.heap)) (fun _ _ _ _ _ => True) (wt_Q D cl tys A ad cA L v S')
def wt_MQ (below : List Frame) (Qx : Array Value → State → Outcome → State → Prop) (a : Array Value) (s : State) : State → Prop := fun t => ∃ o, t.status = .running ∧ Ended t below o ∧ Qx a s o t
/-- which words of a throw are no good words -/
def wt_five (X : String) (w : Cond) : Bool := goodWord w || decide (w = .isRef (.static Bundle.tN "UNASSIGNED_STACK" Bundle.steD)) || decide (w = .isRef (.static Bundle.tN "SUPPRESSED_SENTINEL" Bundle.listD)) || decide (w = .laysStatic Bundle.tN "UNASSIGNED_STACK" Bundle.steD) || decide (w = .laysStatic Bundle.tN "SUPPRESSED_SENTINEL" Bundle.listD) || decide (w = .castable X X) || decide (w ∈ wt_decl)
variable {p : Program} {l : Launch} {e : Env} {R : Room} {s : State} {m : MethodId} {args : Array Value} {below : List Frame} {meth : Method} {c : Code} {cells slots : Nat} {Q : State → Prop}
variable {cc : ByteArray} {own : String} {Ts : List Cond} {D : va_G} {cl : List vw_C} {tys : List (ClassId × FieldType)} {A : Nat → Prop} {ad : Nat → Nat} {cA : Nat → ClassId} {L : List wm_C} {nL : Nat} {fl : List (Nat × Nat × Nat)} {cs : List (Nat × Value)} {sc : Option (Nat × (Nat → Int32))} {S : wm_S}
theorem wt_unchanged {U : State} {locs : List Loc} {k n : Nat} (h : s.sameButNew ({ U with vm := s.vm } : State) locs k n) : s.heap.size ≤ U.heap.size ∧ ∀ q : Nat, q < s.heap.size → (∀ z ∈ locs, z.base ≠ q) → U.heap[q]? = s.heap[q]? := by
  obtain ⟨-, h2, -, -, -, h6⟩ := h
  refine ⟨h2, fun q hq hz => ?_⟩
  obtain ⟨c9, e1, e2, -, e4⟩ := h6 q _ (Array.getElem?_eq_getElem hq)
  have hs : c9.slots = (s.heap[q]).slots := Array.ext_getElem? fun i => e4 i fun hm => hz _ hm rfl
  rw [hs] at e2
  have e5 : U.heap[q]? = some c9 := e1
  rw [e5, e2, Array.getElem?_eq_getElem hq]
set_option maxHeartbeats 1000000 in
/-- throw new X(): new, dup, invokespecial, athrow -/
theorem wt_throw (X : wm_X p s m args c cc own Ts D cl tys A ad cA L fl cs sc) (hl : l.stackTraces = false) (hZ : wt_Z A s s.heap) (hml : c.maxLocals = nL) (hlocks : meth.locks = false) (hex : c.exceptionTable.toList = []) {k pc ik ic : Nat} {lv : List Value} (hk : k < 4)
    (d0 : decode cc pc = .ok (.new ik, 3)) (d3 : decode cc (pc + 3) = .ok (.dup, 1)) (d4 : decode cc (pc + 4) = .ok (.invokespecial ic, 3)) (d7 : decode cc (pc + 7) = .ok (.athrow, 1))
    (h1 : Cond.classLink own ik (wt_ex k) ∈ Ts) (h1g : goodWord (Cond.classLink own ik (wt_ex k)) = true) (h2 : Cond.initialized (wt_ex k) ∈ Ts) (h2g : goodWord (Cond.initialized (wt_ex k)) = true) (h3 : ∀ w ∈ Bundle.ownAtoms0 own ic (wt_ex k) wt_up, goodWord w = true → w ∈ Ts) (h4 : (Bundle.ownAtoms0 own ic (wt_ex k) wt_up).all (wt_five (wt_ex k)) = true)
    (hfit : Bundle.fit (wt_ex k) = true) (hR : 6 ≤ R.frames ∧ 81 ≤ R.locals ∧ 1 ≤ R.cells ∧ 6 ≤ R.slots) :
    wm_W p l e R s m args below meth c 0 0 (wt_MQ below (wt_Q D cl tys A ad cA L (some (.retAddr k)) S) args s) D cl A ad cA L nL pc lv [] S := by
  obtain ⟨hx, hb, hown, hts, hK, -⟩ := X
  intro H locs ls hP hS hls T hT X0
  have htr : e.platform.stackTraces = false := (show e.platform.stackTraces = l.stackTraces by rw [X0.admits.platform]).trans hl
  have Y := wt_again X0 (Q := { frames := R.frames, locals := R.locals, cells := 1, slots := 6 }) (Nat.le_refl _) (Nat.le_refl _) (by show 0 + 1 ≤ R.cells; omega) (by show 0 + 6 ≤ R.slots; omega)
  obtain ⟨s', hA⟩ : ∃ z, z = (T.setVm s.vm).setFrames (.invoking m args :: below) := ⟨_, rfl⟩
  rw [← hA] at Y
  have hvm : s'.vm = s.vm := by rw [hA]; rfl
  have hhp : s'.heap = H := by rw [hA]; exact hT
  have hW0 : s.WarmedH s'.vm := by rw [hvm]; exact State.WarmedH.refl s
  have hZ' : wt_Z A s' s'.heap := by
    rw [hhp]
    exact (hZ.kept hS.2.1).same hvm.symm
  have gd : ∀ w ∈ Ts, goodWord w = true → w.before args s' = true := fun w hw hg => word_at hW0 (good_of_word hg) (hts w hw)
  have hat : ∀ w ∈ Bundle.ownAtoms0 own ic (wt_ex k) wt_up, w.before args s' = true := by
    intro w hw
    have h5 := List.all_eq_true.mp h4 w hw
    simp only [wt_five, Bool.or_eq_true, decide_eq_true_eq] at h5
    rcases h5 with (((((h5 | h5) | h5) | h5) | h5) | h5) | h5
    · exact gd w (h3 w hw h5) h5
    · rw [h5]; exact hZ'.1.isr
    · rw [h5]; exact hZ'.2.1.isr
    · rw [h5]; exact hZ'.1.lays
    · rw [h5]; exact hZ'.2.1.lays
    · rw [h5]; exact va_Nw.use rfl (hZ'.2.2.1 k hk)
    · obtain ⟨x, rfl⟩ := wt_decl_ok h5
      exact va_Nw.use rfl (hZ'.2.2.2.1 _ h5)
  have hown' : s'.vm.findClass own = some m.cls := by rw [hvm]; exact hown
  have hins : (Cond.instantiable (wt_ex k) 6).before args s' = true := hat _ (by simp [Bundle.ownAtoms0])
  obtain ⟨vm₁, cX, kX, hfX, hkX, -, -, X₁, st1⟩ := Y.newCold hx (own := own) (C := wt_ex k) (index := ik) (n := 6) hown' (gd _ h1 h1g) hins (gd _ h2 h2g) (g := F0 m pc ls []) rfl (by rw [hb]; exact d0) (Nat.le_refl _) (Nat.le_refl _)
  generalize hT1 : (T.setVm vm₁).pushCell { cls := cX, slots := kX.instanceTypes.map defaultValue, vm := .none } = T1 at X₁ st1
  have hcellA : T1.heap[T.heap.size]? = some (freshCell cX kX) := by rw [← hT1]; exact State.heap_pushCell_size _ _
  have d3' : decode c.code (pc + 3) = .ok (.dup, 1) := by rw [hb]; exact d3
  obtain ⟨U, hsteps, hrun, hend, hW, hsame, ce, hce, hO⟩ := X₁.ctorThrow0 hx htr (own := own) (cls := wt_ex k) (names := wt_up) (ic := ic) hown' hfit (by decide) hat (fun x hx => nomatch hx) hfX hkX hcellA (by rw [hhp, hT]; exact Nat.le_refl _)
    (g := { method := m, pc := pc + 4, locals := ls, stack := [.ref T.heap.size, .ref T.heap.size], locked := none }) rfl (by rw [hml]; exact hls.1.1) rfl rfl (rest := []) rfl
    (by rw [hb]; exact d4) (by rw [hb]; exact d7) (by rw [hex]; intro x hx; cases hx) (by show 2 + 3 < R.frames; omega) (by show 2 * 0 + (1 + 0) + (13 * (2 + 1) + 41) ≤ R.locals; omega) hlocks
  obtain ⟨f1, f2⟩ := wt_unchanged hsame
  rw [hhp] at f1 f2
  have hWs : s.WarmedH U.vm := State.WarmedH.trans hW0 hW
  have hcl : s.vm.findClass (wt_ex k) = some ce.cls := by
    have h9 := hO.cls
    rw [hvm] at h9
    exact h9
  have hall : s.sameButNew ({ U with vm := s.vm } : State) locs 1 6 := by
    subst hA
    obtain ⟨e1, e2⟩ := hsame
    rw [State.setFrames_setFrames] at e1
    have h2 : (T.setVm s.vm).sameButNew ({ U with vm := s.vm } : State) [] (0 + 1) (0 + 6) := ⟨e1, e2⟩
    have h3 := X0.same.trans h2
    rw [List.append_nil] at h3
    exact h3.mono (by omega) (by omega)
  have hkept : ∀ q : Nat, q < H.size → U.heap[q]? = H[q]? := fun q hq => f2 q hq (fun z hz => nomatch hz)
  have hI : wm_I D cl tys ad cA L S U := ⟨fun j z hz => (hP j z hz).kept (hkept z.1 (hP j z hz).lt), va_K.moved hWs.alike hK⟩
  have hF : va_F A s U := ⟨Nat.le_trans hS.1 f1, fun q h1 h2 => by rw [hkept q (Nat.lt_of_lt_of_le h1 hS.1)]; exact hS.2.1 q h1 h2⟩
  refine ⟨U, ?_, .threw T.heap.size, hrun, hend, Or.inr ⟨k, T.heap.size, ce, locs, rfl, rfl, hce, hO.vm, hcl, hWs, hall, hS.2.2, hI, hF⟩⟩
  refine st1 _ ?_
  show Steps p.tables e below (T1.setTop { method := m, pc := pc + 3, locals := ls, stack := [.ref T.heap.size], locked := none }) _
  jvm_step X₁.here [X₁.here.top, hx, d3', Value.category]
  exact hsteps
end WTC

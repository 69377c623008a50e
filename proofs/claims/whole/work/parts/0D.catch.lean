/-! calls of methods that may throw: the answer, and the catching by the caller's table -/
section WTE
/-- a callee that may throw -/
def wt_kV (l : Launch) (own : String) (Ts : List Cond) (R : Room) (D : va_G) (cl : List vw_C) (tys : List (ClassId × FieldType)) (A : Nat → Prop) (ad : Nat → Nat) (cA : Nat → ClassId) (L : List wm_C) (ix n : Nat) (f : List Value → wm_S → Option (Option Value × wm_S)) : Prop :=
  ∃ (y : MethodName) (bytes : ByteArray) (maxL : Nat) (ret : Option FieldType) (wc wc' : List Cond) (rc : Room) (k ci N : Nat) (T : u_T), wt_con l y wc rc D cl tys A ad cA L f ∧ wc = Cond.code y bytes maxL ret :: wc' ∧ GoodIn Ts (wsV own ix y.cls y wc) ∧ rc.cells = 1 ∧ rc.slots = 6 ∧
    (y.cls ≠ "java/lang/invoke/MethodHandle" ∧ y.cls ≠ "java/lang/invoke/VarHandle" ∧ (parseMethodDescriptor y.desc).map (fun d => d.parameters.length) = some k) ∧ n = k + 1 ∧ (rc.frames + 1 ≤ R.frames ∧ 8 + (maxL + 11) + rc.locals ≤ R.locals) ∧ cl[ci]? = some (y.cls, T, N) ∧ ∀ vs S r, f vs S = some r → wm_isc L ci vs = true
variable {p : Program} {l : Launch} {e : Env} {R : Room} {s : State} {m : MethodId} {args : Array Value} {below : List Frame} {meth : Method} {c : Code} {cells slots : Nat} {Q : State → Prop}
variable {cc : ByteArray} {own : String} {Ts : List Cond} {D : va_G} {cl : List vw_C} {tys : List (ClassId × FieldType)} {A : Nat → Prop} {ad : Nat → Nat} {cA : Nat → ClassId} {L : List wm_C} {nL : Nat} {fl : List (Nat × Nat × Nat)} {cs : List (Nat × Value)} {sc : Option (Nat × (Nat → Int32))} {S S' : wm_S}
theorem wt_blind {av : List Value} : FrameBlind (va_Pc (av.map (wm_cv ad)) (fun U => wm_I D cl tys ad cA L S U ∧ wt_Z A U U.heap)) := fun a U g mk q => ⟨q.1, ⟨q.2.1.1, va_K.moved (u := U) (U := U.calling g mk a) (Vm.Alike.refl U.vm) q.2.1.2⟩, wt_Z.same (u := U) (U := U.calling g mk a) rfl q.2.2⟩
theorem wt_toMet {y : MethodName} {ws : List Cond} {rm : Room} {f : List Value → wm_S → Option (Option Value × wm_S)} (h : wt_con l y ws rm D cl tys A ad cA L f) {av : List Value} {v : Option Value} (hf : f av S = some (v, S')) (hv : ∀ k, v ≠ some (.retAddr k)) :
    Met l y ws rm (va_Pc (av.map (wm_cv ad)) (fun U => wm_I D cl tys ad cA L S U ∧ wt_Z A U U.heap)) (wm_Q D cl tys A ad cA L v S') 1 6 A := by
  intro p e ha hc hk s m args below h1 h2 h3 h4
  obtain ⟨n, o, g1, g2, g3, g4⟩ := h av v S S' hf p e ha hc hk s m args below h1 h2 h3 h4
  refine ⟨n, o, g1, g2, g3, ?_⟩
  rcases g4 with g4 | ⟨k, _, _, _, e1, _⟩
  · exact ⟨g4.2.1, g4.2.2⟩
  · exact absurd e1 (hv k)
/-- behind a call that has made cells -/
theorem wt_back {H : Heap} {locs : List Loc} {ls : Array Slot} {st0 rest0 : List Value} {a : Array Value} {v : Option Value} {pc mc ms : Nat} (hr : va_Run p l e R s m args below meth c H locs cells slots mc ms (F0 m pc ls st0) rest0 (wm_Q D cl tys A ad cA L v S' a) A) (hS : va_S A s.heap H locs)
    (k : ∀ (H1 : Heap) (locs1 : List Loc), va_P D cl (wm_lay ad cA L S') H1 → va_S A s.heap H1 locs1 → W p l e R s m args below meth c H1 locs1 (cells + mc) (slots + ms) Q (F0 m (pc + 3) ls ((v.map (wm_cv ad)).toList ++ rest0))) : W p l e R s m args below meth c H locs cells slots Q (F0 m pc ls st0) := by
  intro T hT X
  obtain ⟨v', st₀, t, T', L', h0, X', hL, e1, e2, ⟨hv, hI, hz, hk⟩, st⟩ := hr T hT X
  cases hv
  rw [h0] at hz hk
  obtain ⟨t2, a1, b1⟩ := k T'.heap (locs ++ L') (by rw [e1]; exact hI.1) ⟨Nat.le_trans hS.1 (by rw [e1]; exact hz), fun q h1 h2 => by rw [e1, hk q (Nat.lt_of_lt_of_le h1 hS.1) h2]; exact hS.2.1 q h1 h2, fun q hq => by
      rcases List.mem_append.mp hq with h | h
      · exact hS.2.2 q h
      · exact hL q h⟩ T' rfl X'
  exact ⟨t2, st t2 a1, b1⟩
theorem wt_okN {ix n : Nat} {f : List Value → wm_S → Option (Option Value × wm_S)} (X : wm_X p s m args c cc own Ts D cl tys A ad cA L fl cs sc) (hZ : wt_Z A s s.heap) (hml : c.maxLocals = nL) (hR : cells + 1 ≤ R.cells ∧ slots + 6 ≤ R.slots) (hk : wt_kV l own Ts R D cl tys A ad cA L ix n f) :
    ∀ pc lv vs rest v S S', decode cc pc = .ok (.invokevirtual ix, 3) → vs.length = n → wm_cs rest ≤ 8 → f vs S = some (v, S') → (∀ k, v ≠ some (.retAddr k)) → wm_W p l e R s m args below meth c (cells + 1) (slots + 6) Q D cl A ad cA L nL (pc + 3) lv (v.toList ++ rest) S' → wm_W p l e R s m args below meth c cells slots Q D cl A ad cA L nL pc lv (vs.reverse ++ rest) S := by
  intro pc lv vs rest v S S' hd hn hst hf hv k
  obtain ⟨y, bytes, maxL, ret, wc, wc', rc, kk, ci, N, T, hM, hw, hG, hc0, hs0, hdd, hnk, hroom, hcl, hchk⟩ := hk
  obtain ⟨q, As, fs, rfl, hq⟩ := wm_isc_ok (hchk _ _ _ hf)
  obtain ⟨hx, hb, hown, hts, hK, -⟩ := X
  have cw : CallW R s args own y.cls ix y bytes maxL ret wc rc 1 6 kk := cwV kk hts hG hw hc0 hs0 ⟨rfl, hdd⟩ hroom
  intro H locs ls hP hS hl
  refine wt_back (rest0 := rest.map (wm_cv ad)) (va_runV (As := As.map (wm_cv ad)) (rest := rest.map (wm_cv ad)) ⟨hx, hb, hml, hown, hts⟩ (wt_toMet hM hf hv) cw ⟨wt_blind, va_recv hK hP hcl (wm_lay_at hq), fun U hU hW => ⟨rfl, ⟨by rw [hU]; exact hP, va_K.moved hW.alike hK⟩, by rw [hU]; exact wt_Z.warm hW (hZ.kept hS.2.1)⟩⟩ rfl (by simp at hn; simp; omega) hl.1.1 (by simp [wm_cv]) (lv_room (wm_rest hst)) hd hR) hS (fun H1 locs1 hP1 hS1 => ?_)
  have := k H1 locs1 ls hP1 hS1 hl
  rw [wm_toList] at this
  exact this
set_option maxHeartbeats 1000000 in
/-- thrown by the callee, caught here -/
theorem wt_okC {ix n : Nat} {f : List Value → wm_S → Option (Option Value × wm_S)} (X : wm_X p s m args c cc own Ts D cl tys A ad cA L fl cs sc) (hZ : wt_Z A s s.heap) (hml : c.maxLocals = nL) (hR : cells + 1 ≤ R.cells ∧ slots + 6 ≤ R.slots) (hk : wt_kV l own Ts R D cl tys A ad cA L ix n f)
    {pc k : Nat} (hk4 : k < 4) (pre : List ExceptionTableEntry) (x : ExceptionTableEntry) (suf : List ExceptionTableEntry) (hsplit : c.exceptionTable.toList = pre ++ x :: suf) (hpass : ∀ z ∈ pre, z.catchType ≠ 0 ∧ ∃ j, Cond.classLink own z.catchType (wt_ex j) ∈ Ts ∧ va_Nc (wt_ex k) (wt_ex j) s) (hcov : covers x pc = true) (h0 : x.catchType ≠ 0) (hlink : Cond.classLink own x.catchType (wt_ex k) ∈ Ts) :
    ∀ lv vs rest S S', decode cc pc = .ok (.invokevirtual ix, 3) → vs.length = n → wm_cs rest ≤ 8 → f vs S = some (some (.retAddr k), S') → (∀ (H1 : Heap) (locs1 : List Loc) (ls : Array Slot) (q : Nat), va_P D cl (wm_lay ad cA L S') H1 → va_S A s.heap H1 locs1 → wm_ls ad nL lv ls → W p l e R s m args below meth c H1 locs1 (cells + 1) (slots + 6) Q (F0 m x.handlerPc ls [.ref q])) → wm_W p l e R s m args below meth c cells slots Q D cl A ad cA L nL pc lv (vs.reverse ++ rest) S := by
  intro lv vs rest S S' hd hn hst hf kk
  obtain ⟨y, bytes, maxL, ret, wc, wc', rc, kn, ci, N, T0, hM, hw, hG, hc0, hs0, hdd, hnk, hroom, hcl, hchk⟩ := hk
  obtain ⟨q, As, fs, rfl, hq⟩ := wm_isc_ok (hchk _ _ _ hf)
  obtain ⟨hx, hb, hown, hts, hK, -⟩ := X
  have cw : CallW R s args own y.cls ix y bytes maxL ret wc rc 1 6 kn := cwV kn hts hG hw hc0 hs0 ⟨rfl, hdd⟩ hroom
  obtain ⟨⟨-, -, hfr, hlo, hws, hcw, hcode, hini, hy, hlen, hl⟩, hinst, hsel⟩ := cw
  intro H locs ls hP hS hls T hT X0
  have hM1 := hM _ _ _ _ hf
  have hBT : Free.BackT l R p e below s args y 3 8 (PreOf R 1 6 (va_Pc ((Value.ref q :: As).map (wm_cv ad)) (fun U => wm_I D cl tys ad cA L S U ∧ wt_Z A U U.heap)))
      (fun A0 a v B => ∃ (t st : State) (ce : Cell) (L' : List Loc), B.U.heap = t.heap ∧ B.U.vm = t.vm ∧ st.heap = A0.U.heap ∧ wm_I D cl tys ad cA L S' t ∧ va_F A st t ∧ t.heap[v]? = some ce ∧ ce.vm = .none ∧ A0.U.vm.findClass (wt_ex k) = some ce.cls ∧ B.locs = A0.locs ++ L' ∧ (∀ z ∈ L', A z.base) ∧ B.cells = A0.cells + 1 ∧ B.slots = A0.slots + 6) := by
    refine Free.BackT.of_free (S := headSpec wc rc) (bytes := bytes) (maxL := maxL) (ret := ret)
      (E := fun a st o t L' k' n' => k' = 1 ∧ n' = 6 ∧ (∀ z ∈ L', A z.base) ∧ wm_I D cl tys ad cA L S' t ∧ va_F A st t ∧ ∀ v, o = .threw v → ∃ ce, t.heap[v]? = some ce ∧ ce.vm = .none ∧ st.vm.findClass (wt_ex k) = some ce.cls) hM1 hfr hlo ?_ ?_ (fun _ _ _ _ _ _ _ _ _ => trivial) ?_ ?_
    · intro m meth c A0 a X1 hp
      exact ⟨atoms_intro fun w hw => hws w hw _ _ X1.warmed, hws _ hcw _ _ X1.warmed, word_at X1.warmed (Or.inl (by first | rfl | simp [Cond.onTables, Cond.keeps, Cond.steady])) hini, by rw [show (headSpec wc rc).room.cells = 1 from hc0]; exact hp.1, by rw [show (headSpec wc rc).room.slots = 6 from hs0]; exact hp.2.1⟩
    · intro m meth c A0 a g mk X1 hp
      exact wt_blind _ _ _ _ hp.2.2
    · intro a st o t hq
      rcases hq with hq | ⟨k', v, ce, L', e1, e2, e3, e4, e5, e6, e7, e8, e9, e10⟩
      · exact absurd rfl (hq.1 k)
      · cases e1
        exact ⟨L', 1, 6, ⟨⟨v, e2⟩, e6, e7⟩, rfl, rfl, e8, e9, e10, fun v' hv' => by
          rw [e2] at hv'
          cases hv'
          exact ⟨ce, e3, e4, e5⟩⟩
    · intro m meth c A0 a g mk v t L' k' n' X1 hp hq hF hE
      obtain ⟨rfl, rfl, h8, h9, h10, h11⟩ := hE
      obtain ⟨ce, e3, e4, e5⟩ := h11 v rfl
      exact ⟨t, A0.U.calling g mk a, ce, L', rfl, rfl, rfl, h9, h10, e3, e4, e5, rfl, h8, rfl, rfl⟩
  obtain ⟨mk, methM, hnamed, hmethM, hstM, habM⟩ := Cond.instanceMethod_spec hinst
  obtain ⟨methM', cM, hmethM', -, -, -, -, -, -, hsigM⟩ := Cond.code_spec hnamed hcode
  cases hmethM.symm.trans hmethM'
  obtain ⟨cellB, hcB, hoB, hclB⟩ := va_recv hK hP hcl (wm_lay_at hq)
  obtain ⟨c2, r2, m2, q1, q2, q3, q4, kP, hkP, hkPi⟩ := Cond.selects_spec hsel
  cases hclB.symm.trans q1
  cases (State.methodFound?_of_named hnamed hy).symm.trans q2
  cases hnamed.symm.trans q3
  have hselP : selectMethod e.platform s.vm cellB.cls mk = .method mk := by rw [Launch.admits_selectMethod X0.admits]; exact q4
  have hlen2 : (As.map (wm_cv ad)).length = methM.sig.parameters.length := by
    rw [← hlen _ hsigM]
    simp at hn
    simp
    omega
  obtain ⟨vm₁, X₁, hstep₁⟩ := X0.invokevirtual hx hown hl hnamed hmethM hstM hkP hkPi hy (a := ad q) (cell := cellB) (by rw [hT]; exact hcB)
    (fun z h => by rw [h] at hoB; cases hoB) hselP hmethM habM hkP hkPi (g := F0 m pc ls (((Value.ref q :: As).reverse ++ rest).map (wm_cv ad))) rfl (argsL := As.map (wm_cv ad)) (rest := rest.map (wm_cv ad)) hlen2 (by simp [wm_cv]) (by rw [hb]; exact hd)
  obtain ⟨v, ⟨U', l2, c2, s2⟩, X', ⟨t, st, ce, L', e1, e2, e3, e4, e5, e6, e7, e8, e9, e10, e11, e12⟩, hsteps⟩ := hBT m meth c ⟨T.setVm vm₁, locs, cells, slots⟩ { F0 m pc ls (((Value.ref q :: As).reverse ++ rest).map (wm_cv ad)) with stack := rest.map (wm_cv ad) } (.invokevirtual ix) mk ((Value.ref q :: As).map (wm_cv ad)).toArray X₁ rfl (by rw [hml]; exact hls.1.1) (by rw [hb]; exact hd) (lv_room (wm_rest hst)) (X₁.named hnamed)
    ⟨hR.1, hR.2, rfl, ⟨by show va_P D cl (wm_lay ad cA L S) T.heap; rw [hT]; exact hP, va_K.moved X₁.warmed.alike hK⟩, by show wt_Z A (T.setVm vm₁) T.heap; rw [hT]; exact wt_Z.warm X₁.warmed (hZ.kept hS.2.1)⟩
  dsimp only [Pt.U, Pt.locs, Pt.cells, Pt.slots] at X' e1 e2 e3 e8 e9 e11 e12 hsteps
  subst e9
  subst e11
  subst e12
  have hclE : s.vm.findClass (wt_ex k) = some ce.cls := by
    rw [X₁.warmed.alike.findClass] at e8
    exact e8
  have hsteps2 : Steps p.tables e below (T.setTop (F0 m pc ls (((Value.ref q :: As).reverse ++ rest).map (wm_cv ad)))) ((U'.setTop { F0 m pc ls (((Value.ref q :: As).reverse ++ rest).map (wm_cv ad)) with stack := rest.map (wm_cv ad) }).pushFrame (.throwing v)) := hstep₁ _ fun acts => by
    rw [doInvoke_state]
    exact hsteps
  have hpl : e.platform.magicAccessors = ({} : Platform).magicAccessors := by rw [X0.admits.platform]
  obtain ⟨c3, c4, hc3, hc4, hasg⟩ := Cond.castable_spec (args := args) (va_Nw.use rfl (hZ.2.2.1 k hk4))
  cases Option.some.inj (hc3.symm.trans hclE)
  obtain ⟨c5, hc5, hcl5⟩ := Cond.classLink_spec hown (hts _ hlink) e.platform hpl
  cases Option.some.inj (hc4.symm.trans hc5)
  obtain ⟨vm', XV, st9⟩ := X'.thenCaughtThrough v (g := { F0 m pc ls (((Value.ref q :: As).reverse ++ rest).map (wm_cv ad)) with stack := rest.map (wm_cv ad) }) rfl hsteps2 (by rw [e1]; exact e6) (by rw [e7]; rfl) (by obtain ⟨k9, h9, -⟩ := Vm.findClass_spec hclE; exact ⟨k9, h9⟩) pre x suf hsplit
    (fun z hz => by
      obtain ⟨hz0, j, hl1, a8, b8, g1, g2, g3⟩ := hpass z hz
      obtain ⟨c6, hc6, hcl6⟩ := Cond.classLink_spec hown (hts _ hl1) e.platform hpl
      cases Option.some.inj (g1.symm.trans hclE)
      cases Option.some.inj (g2.symm.trans hc6)
      exact Or.inr ⟨hz0, _, hcl6, g3⟩) hcov (Or.inr ⟨h0, c4, hcl5, hasg⟩)
  have hS1 : va_S A s.heap t.heap (locs ++ L') := by
    obtain ⟨f1, f2⟩ := e5
    rw [e3] at f1 f2
    have f1' : T.heap.size ≤ t.heap.size := f1
    have f2' : ∀ q : Nat, q < T.heap.size → ¬ A q → t.heap[q]? = T.heap[q]? := f2
    rw [hT] at f1' f2'
    exact ⟨Nat.le_trans hS.1 f1', fun q h1 h2 => by rw [f2' q (Nat.lt_of_lt_of_le h1 hS.1) h2]; exact hS.2.1 q h1 h2, fun q hq => by
      rcases List.mem_append.mp hq with h | h
      · exact hS.2.2 q h
      · exact e10 q h⟩
  obtain ⟨t2, a1, b1⟩ := kk t.heap (locs ++ L') ls v e4.1 hS1 hls (U'.setVm vm') (by show U'.heap = t.heap; exact e1) XV
  exact ⟨t2, st9.trans a1, b1⟩
end WTE

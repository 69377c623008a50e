/-! the law's calls of its catching methods: a cell may come with each -/
section WTN
variable {p : Program} {l : Launch} {e : Env} {R : Room} {s : State} {m : MethodId} {args : Array Value} {below : List Frame} {meth : Method} {c : Code} {cells slots : Nat} {Q : State → Prop}
variable {cc : ByteArray} {own : String} {Ts : List Cond} {D : va_G} {cl : List vw_C} {tys : List (ClassId × FieldType)} {A : Nat → Prop} {ad : Nat → Nat} {cA : Nat → ClassId} {L : List wm_C} {nL : Nat} {fl : List (Nat × Nat × Nat)} {cs : List (Nat × Value)} {sc : Option (Nat × (Nat → Int32))} {S S' : wm_S}
/-- a static callee with an exception table that comes back -/
def wt_kL (l : Launch) (own : String) (Ts : List Cond) (R : Room) (D : va_G) (cl : List vw_C) (tys : List (ClassId × FieldType)) (A : Nat → Prop) (ad : Nat → Nat) (cA : Nat → ClassId) (L : List wm_C) (ix n : Nat) (f : List Value → wm_S → Option (Option Value × wm_S)) : Prop :=
  ∃ (y : MethodName) (bytes : ByteArray) (maxL : Nat) (ret : Option FieldType) (hh : List (Nat × Nat × Nat × Nat)) (wc wc' : List Cond) (rc : Room), (∀ av v S S', f av S = some (v, S') → Met l y wc rc (va_Pc (av.map (wm_cv ad)) (fun U => wm_I D cl tys ad cA L S U ∧ wt_Z A U U.heap)) (wm_Q D cl tys A ad cA L v S') 1 6 A) ∧ wc = Cond.codeWith y bytes maxL ret hh :: wc' ∧ GoodIn Ts ([.methodLink own ix y, .static y, .initialized y.cls] ++ wc) ∧ rc.cells = 1 ∧ rc.slots = 6 ∧
    (y.cls ≠ "java/lang/invoke/MethodHandle" ∧ y.cls ≠ "java/lang/invoke/VarHandle" ∧ (parseMethodDescriptor y.desc).map (fun d => d.parameters.length) = some n) ∧ (rc.frames + 1 ≤ R.frames ∧ 8 + (maxL + 11) + rc.locals ≤ R.locals)
theorem wt_okL {ix n : Nat} {f : List Value → wm_S → Option (Option Value × wm_S)} (X : wm_X p s m args c cc own Ts D cl tys A ad cA L fl cs sc) (hZ : wt_Z A s s.heap) (hml : c.maxLocals = nL) (hR : cells + 1 ≤ R.cells ∧ slots + 6 ≤ R.slots) (hk : wt_kL l own Ts R D cl tys A ad cA L ix n f) :
    ∀ pc lv vs rest v S S', decode cc pc = .ok (.invokestatic ix, 3) → vs.length = n → wm_cs rest ≤ 8 → f vs S = some (v, S') → wm_W p l e R s m args below meth c (cells + 1) (slots + 6) Q D cl A ad cA L nL (pc + 3) lv (v.toList ++ rest) S' → wm_W p l e R s m args below meth c cells slots Q D cl A ad cA L nL pc lv (vs.reverse ++ rest) S := by
  intro pc lv vs rest v S S' hd hn hst hf k
  obtain ⟨y, bytes, maxL, ret, hh, wc, wc', rc, hM, hw, hG, hc0, hs0, hdd, hroom⟩ := hk
  obtain ⟨hx, hb, hown, hts, hK, -⟩ := X
  have ok : ∀ w ∈ ([.methodLink own ix y, .static y, .initialized y.cls] ++ wc : List Cond), w.before args s = true := fun w h => hts w (hG w h).1
  have hcw : Cond.codeWith y bytes maxL ret hh ∈ wc := by rw [hw]; exact List.mem_cons_self
  have hcode : (Cond.codeWith y bytes maxL ret hh).before args s = true := ok _ (List.mem_append_right _ hcw)
  have hini : (Cond.initialized y.cls).before args s = true := ok _ (by simp)
  have hlink : (Cond.methodLink own ix y).before args s = true := ok _ (by simp)
  have hstt : (Cond.static y).before args s = true := ok _ (by simp)
  have hB : Back l R p e below s args y 3 8 (PreOf R 1 6 (va_Pc (vs.map (wm_cv ad)) (fun U => wm_I D cl tys ad cA L S U ∧ wt_Z A U U.heap))) (PostOf (wm_Q D cl tys A ad cA L v S') 1 6 A) :=
    va_backW (hh := hh) (bytes := bytes) (maxL := maxL) (ret := ret) (hM _ _ _ _ hf) wt_blind hc0 hs0 hroom.1 hroom.2 (pay_in hts (fun w h => hG w (List.mem_append_right _ h))) hcw (fun a' U hW => word_at hW (Or.inl (by first | rfl | simp [Cond.onTables, Cond.keeps, Cond.steady])) hini)
  intro H locs ls hP hS hl
  have hrun : va_Run p l e R s m args below meth c H locs cells slots 1 6 (F0 m pc ls ((vs.reverse ++ rest).map (wm_cv ad))) (rest.map (wm_cv ad)) (wm_Q D cl tys A ad cA L v S' (vs.map (wm_cv ad)).toArray) A := by
    intro T hT X0
    obtain ⟨mk, methM, cM, hnamed, hmethM, -, -, -, -, -, -, hsigM⟩ := Cond.codeWith_spec hcode
    have hstatic : methM.isStatic = true := Cond.static_spec hnamed hmethM hstt
    obtain ⟨kP, hkP, -⟩ := className_of_methodNamed hnamed
    have hinitP : kP.init = .initialized := Cond.initialized_spec (findClass_of_methodNamed hnamed) hkP hini
    have hlen : (vs.map (wm_cv ad)).length = methM.sig.parameters.length := by
      have h2 := hdd.2.2
      rw [hsigM] at h2
      rw [List.length_map, hn]
      exact (Option.some.inj h2).symm
    obtain ⟨vm₁, X₁, hstep₁⟩ := X0.invokestatic hx hown hlink hnamed hmethM hstatic hkP hinitP ⟨hdd.1, hdd.2.1⟩ (g := F0 m pc ls ((vs.reverse ++ rest).map (wm_cv ad))) rfl (argsL := vs.map (wm_cv ad)) (rest := rest.map (wm_cv ad)) hlen (by simp) (by rw [hb]; exact hd)
    obtain ⟨v1, ⟨U', l2, c2, s2⟩, X', ⟨g', mk', t, L', e1, e2, hq, h1, hL, h2, h3⟩, hsteps⟩ := hB m meth c ⟨T.setVm vm₁, locs, cells, slots⟩ { F0 m pc ls ((vs.reverse ++ rest).map (wm_cv ad)) with stack := rest.map (wm_cv ad) } (.invokestatic ix) mk (vs.map (wm_cv ad)).toArray X₁ rfl (by rw [hml]; exact hl.1.1) (by rw [hb]; exact hd) (lv_room (wm_rest hst)) (X₁.named hnamed)
      ⟨hR.1, hR.2, rfl, ⟨by show va_P D cl (wm_lay ad cA L S) T.heap; rw [hT]; exact hP, va_K.moved X₁.warmed.alike hK⟩, by show wt_Z A (T.setVm vm₁) T.heap; rw [hT]; exact wt_Z.warm X₁.warmed (hZ.kept hS.2.1)⟩
    dsimp only [Pt.U, Pt.locs, Pt.cells, Pt.slots] at X' e1 e2 h1 h2 h3 hsteps
    subst h1
    subst h2
    subst h3
    exact ⟨v1, (T.setVm vm₁).calling g' mk' (vs.map (wm_cv ad)).toArray, t, U', L', hT, X', hL, e1, e2, hq, fun target h => hstep₁ _ fun acts => by rw [doInvoke_state]; exact hsteps.trans h⟩
  refine wt_back hrun hS (fun H1 locs1 hP1 hS1 => ?_)
  have := k H1 locs1 ls hP1 hS1 hl
  rw [wm_toList] at this
  exact this
end WTN
section WTO
variable {L : List wm_C} {fl : List (Nat × Nat × Nat)} {cs : List (Nat × Value)} {sc : Option (Nat × (Nat → Int32))} {cV cS : List (Nat × wm_M)} {ret : Option Value → wm_S → Prop} {tb : List wm_R} {w0 w1 : wm_K}
variable {p0 p1 p2 p3 p4 pX pE tg t2 t3 n ix nx : Nat} {f : List Value → wm_S → Option (Option Value × wm_S)}
def wm_hL (w0 w1 : wm_K) (tb : List wm_R) (cL : List (Nat × wm_M)) : Prop := ∀ ix n f, (ix, n, f) ∈ cL → ∀ pc tg, wm_lp tb pc = some (.invokestatic ix, pc + 3, tg) → ∀ lv vs rest v S S', vs.length = n → wm_cs rest ≤ 8 → f vs S = some (v, S') → w1 (pc + 3) lv (v.toList ++ rest) S' → w0 pc lv (vs.reverse ++ rest) S
/-- int k = helper(..) -/
theorem wm_tt_call {cL : List (Nat × wm_M)} {b : wm_Ex (List Value)} {j : Nat} (hL : wm_hL w0 w1 tb cL) (hc1 : wm_cl L fl cs sc cV cS ret tb w1) (hb : wm_A w0 tb 0 p0 pX n b) (hi : wm_lp tb pX = some (.invokestatic ix, p3, t2)) (h3 : p3 = pX + 3) (hl : wm_lp cL ix = some (n, f)) (h4 : wm_lp tb p3 = some (.istore j, p4, t3)) : wm_TT w0 w1 tb ret p0 p4 (ws_i j (wx_call wm_pi f b)) := by
  subst h3
  intro lv S o hf ho
  obtain ⟨x, S1, g1, hf⟩ := wx_bind_some hf
  obtain ⟨vs, S2, g2, g1⟩ := wx_bind_some g1
  refine hb.2 lv [] S vs S2 wm_cs0 g2 (fun hn => ?_)
  rw [wm_thr_ng hi rfl]
  split at g1
  · rename_i v S3 e
    split at g1
    · rename_i x1 e2
      cases g1
      have ev := wm_pi_ok e2
      subst ev
      split at hf
      · rename_i hlt
        cases hf
        refine hL ix n f (wm_lp_mem hl) pX t2 hi lv vs [] _ S2 _ hn (Nat.zero_le _) e ?_
        refine hc1 _ _ _ _ _ _ _ h4 ?_
        show wm_step L fl cs sc cV cS ret (.istore j) (pX + 3) p4 t3 lv [.int _] _ w1
        simp only [wm_step, wm_blt hlt]
        exact wm_thr_w hc1 ho
      · cases hf
    · cases g1
  · cases g1
theorem wm_tt_of {s : wm_St} (hw : ∀ pc lv st S, w1 pc lv st S → w0 pc lv st S) (h : wm_T w0 tb ret p0 p1 s) : wm_TT w0 w1 tb ret p0 p1 s := by
  intro lv S o hf ho
  refine h.2 lv S o hf ?_
  cases o with
  | inl q => exact hw _ _ _ _ ho
  | inr q => exact ho
/-- the cases of a switch, from w0 to w1 -/
def wm_swt (w0 w1 : wm_K) (tb : List wm_R) (ret : Option Value → wm_S → Prop) (pc pE : Nat) : List Int → List wm_St → Prop
  | [], [] => True
  | o :: os, s :: ss => (∃ t pg : Nat, (pc : Int) + o = (t : Int) ∧ wm_TT w0 w1 tb ret t pg s ∧ wm_thr tb pg = wm_thr tb pE) ∧ wm_swt w0 w1 tb ret pc pE os ss
  | _, _ => False
theorem wm_swt_tsw {pc : Nat} {x : Int32} {sd : wm_St} {lv : List Value} {S : wm_S} {o : wm_O} (ho : match o with
  | .inl (lv', S') => w1 (wm_thr tb pE) lv' [] S'
  | .inr (v, S') => ret v S') : ∀ (os : List Int) (ss : List wm_St) (v : Int), wm_swt w0 w1 tb ret pc pE os ss → (v ≤ x.toInt → ws_pick sd x.toInt v ss lv S = some o) → wm_tsw pc x (fun t => w0 t lv [] S) v os
  | [], [], _, _, _ => trivial
  | [], _ :: _, _, h, _ => h.elim
  | _ :: _, [], _, h, _ => h.elim
  | o1 :: os, s :: ss, v, h, hf => by
    obtain ⟨⟨t, pg, h1, h2, h3⟩, h4⟩ := h
    refine ⟨fun e => wm_jmp_of h1 ?_, wm_swt_tsw (sd := sd) ho os ss (v + 1) h4 (fun hv => ?_)⟩
    · have := hf (by omega)
      simp only [ws_pick, e, if_true] at this
      exact h2 lv S o this (by rw [h3]; exact ho)
    · have := hf (by omega)
      have hne : ¬ x.toInt = v := by omega
      simp only [ws_pick, hne, if_false] at this
      exact this
theorem wm_swt_len {pc : Nat} : ∀ {os : List Int} {ss : List wm_St}, wm_swt w0 w1 tb ret pc pE os ss → os.length = ss.length
  | [], [], _ => rfl
  | [], _ :: _, h => h.elim
  | _ :: _, [], h => h.elim
  | _ :: os, _ :: ss, h => by rw [List.length_cons, List.length_cons, wm_swt_len h.2]
theorem wm_tt_sw {a : wm_Ex Int32} {ss : List wm_St} {sd : wm_St} {dd lo hi : Int} {offs : Array Int} (hc : wm_cl L fl cs sc cV cS ret tb w0) (ha : wm_E w0 tb 0 p0 p1 .int a) (h : wm_lp tb p1 = some (.tableswitch dd lo hi offs, nx, tg)) (hz : (offs.size == (hi - lo + 1).toNat) = true) (hS : wm_swt w0 w1 tb ret p1 pE offs.toList ss) (hD : ∃ t pg : Nat, (p1 : Int) + dd = (t : Int) ∧ wm_TT w0 w1 tb ret t pg sd ∧ wm_thr tb pg = wm_thr tb pE) : wm_TT w0 w1 tb ret p0 pE (ws_sw a lo ss sd) := by
  intro lv S o hf ho
  obtain ⟨x, S1, h1, hf⟩ := wx_bind_some hf
  refine ha.2 lv [] S x S1 wm_cs0 h1 (wm_at hc h rfl ?_)
  simp only [wm_step, hz]
  have hl : offs.size = ss.length := by rw [← wm_swt_len hS, Array.length_toList]
  have hz2 : offs.size = (hi - lo + 1).toNat := by simpa using hz
  refine ⟨fun hq => ?_, wm_swt_tsw (w0 := w0) (w1 := w1) (tb := tb) (ret := ret) (pE := pE) (sd := sd) ho _ _ _ hS (fun _ => hf)⟩
  rw [ws_pick_out ss lo (by omega)] at hf
  obtain ⟨t, pg, g1, g2, g3⟩ := hD
  exact wm_jmp_of g1 (g2 lv S1 o hf (by rw [g3]; exact ho))
/-- the law's loop: each round from w k to w (k + 1) -/
theorem wm_law_loop {w : Nat → wm_K} {c : wm_Ex Bool} {b : wm_St} {M pT pG : Nat} (hm : ∀ k pc lv st S, w (k + 1) pc lv st S → w k pc lv st S) (hcd : ∀ k, wm_B (w k) tb 0 p0 pT p1 c) (hb : ∀ k, k < M → wm_TT (w k) (w (k + 1)) tb ret pT pG b) (hT : wm_thr tb pT = pT) (hg : wm_thr tb pG = p0) : ∀ (n k : Nat), k + n ≤ M → ∀ lv S o, ws_loop c b n lv S = some o → (match o with
    | .inl (lv', S') => w M (wm_thr tb p1) lv' [] S'
    | .inr (v, S') => ret v S') → w k p0 lv [] S := by
  have hdown : ∀ d k pc lv st S, w (k + d) pc lv st S → w k pc lv st S := by
    intro d
    induction d with
    | zero => exact fun k pc lv st S h => h
    | succ d ih => exact fun k pc lv st S h => ih k pc lv st S (hm (k + d) pc lv st S h)
  intro n
  induction n with
  | zero => intro k _ lv S o hf; cases hf
  | succ n ih =>
    intro k hk lv S o hf ho
    unfold ws_loop at hf
    obtain ⟨t, S1, h1, hf⟩ := wx_bind_some hf
    refine (hcd k).2 lv [] S t S1 wm_cs0 h1 ?_
    cases t with
    | true =>
      show w k (wm_thr tb pT) lv [] S1
      rw [hT]
      simp only [cond_true] at hf
      split at hf
      · rename_i lv2 S2 e
        refine hb k (by omega) lv S1 _ e ?_
        show w (k + 1) (wm_thr tb pG) lv2 [] S2
        rw [hg]
        exact ih (k + 1) (by omega) lv2 S2 o hf ho
      · rename_i hne
        refine hb k (by omega) lv S1 o hf ?_
        cases o with
        | inl q => exact absurd hf (hne q.1 q.2)
        | inr q => exact ho
    | false =>
      cases hf
      show w k (wm_thr tb p1) lv [] S1
      have e : M = k + (M - k) := by omega
      rw [e] at ho
      exact hdown (M - k) k _ _ _ _ ho
end WTO

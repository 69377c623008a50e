/-! the law's methods that catch: out[0] = the answer, and 0; or the number of the exception's row -/
section WTL
variable {L : List wm_C} {fl : List (Nat × Nat × Nat)} {cs : List (Nat × Value)} {sc : Option (Nat × (Nat → Int32))} {cV cS : List (Nat × wm_M)} {ret : Option Value → wm_S → Prop} {tb : List wm_R} {w0 w1 : wm_K}
variable {p0 p1 p2 p3 p4 p5 pX pE tg t1 t2 t3 t4 n ix : Nat} {f : List Value → wm_S → Option (Option Value × wm_S)} {hs : List (Nat × Int32)}
/-- a call whose exceptions are caught: hs says what the method answers then -/
def ws_tl (L : List wm_C) (cv : Int32 → Int64) (hs : List (Nat × Int32)) (f : List Value → wm_S → Option (Option Value × wm_S)) (a : wm_Ex Nat) (b : wm_Ex (List Value)) : wm_St := fun lv S => wx_bind a (fun q S1 => wx_bind b (fun vs S2 => match f vs S2 with
  | some (some (.int x), S3) => (match wm_ak L q 1 with
    | some (m, _) => if m = 0 then none else some (.inl (lv, (S3.1, wm_up S3.2 q 0 (cv x))))
    | none => none)
  | some (some (.retAddr k), S3) => (match wm_lp hs k with
    | some r => some (.inr (some (.int r), S3))
    | none => none)
  | _ => none) lv S1) lv S
def ws_tv (hs : List (Nat × Int32)) (f : List Value → wm_S → Option (Option Value × wm_S)) (b : wm_Ex (List Value)) : wm_St := fun lv S => wx_bind b (fun vs S2 => match f vs S2 with
  | some (none, S3) => some (.inl (lv, S3))
  | some (some (.retAddr k), S3) => (match wm_lp hs k with
    | some r => some (.inr (some (.int r), S3))
    | none => none)
  | _ => none) lv S
/-- the call comes back, or is caught -/
def wm_hN (w0 w1 : wm_K) (pX n : Nat) (f : List Value → wm_S → Option (Option Value × wm_S)) : Prop := ∀ lv vs rest v S S', vs.length = n → wm_cs rest ≤ 8 → f vs S = some (v, S') → (∀ k, v ≠ some (.retAddr k)) → w1 (pX + 3) lv (v.toList ++ rest) S' → w0 pX lv (vs.reverse ++ rest) S
def wm_hX (w0 : wm_K) (ret : Option Value → wm_S → Prop) (pX n : Nat) (f : List Value → wm_S → Option (Option Value × wm_S)) (hs : List (Nat × Int32)) : Prop := ∀ lv vs rest S k S' r, vs.length = n → wm_cs rest ≤ 8 → f vs S = some (some (.retAddr k), S') → wm_lp hs k = some r → ret (some (.int r)) S' → w0 pX lv (vs.reverse ++ rest) S
/-- from w0 to w1 -/
def wm_TT (w0 w1 : wm_K) (tb : List wm_R) (ret : Option Value → wm_S → Prop) (p0 p1 : Nat) (s : wm_St) : Prop := ∀ lv S o, s lv S = some o → (match o with
  | .inl (lv', S') => w1 (wm_thr tb p1) lv' [] S'
  | .inr (v, S') => ret v S') → w0 p0 lv [] S
def wm_pst (L : List wm_C) (cv : Int32 → Int64) (w1 : wm_K) (tb : List wm_R) (p3 p5 : Nat) : Prop := ∀ lv x q S m g, wm_ak L q 1 = some (m, g) → m ≠ 0 → w1 (wm_thr tb p5) lv [] (S.1, wm_up S.2 q 0 (cv x)) → w1 p3 lv [.int x, .int 0, .ref q] S
theorem wm_try_l {cv : Int32 → Int64} {a : wm_Ex Nat} {b : wm_Ex (List Value)} {ii : Instr} (hc : wm_cl L fl cs sc cV cS ret tb w0) (ha : wm_E w0 tb 0 p0 p1 .ref a) (h1 : wm_lp tb p1 = some (.iconst 0, p2, t1)) (hb : wm_A w0 tb (0 + 2 + 2) p2 pX n b) (hi : wm_lp tb pX = some (ii, p3, t2)) (hg : wm_ng ii = true) (h3 : p3 = pX + 3) (hN : wm_hN w0 w1 pX n f) (hX : wm_hX w0 ret pX n f hs) (hp : wm_pst L cv w1 tb p3 p5) : wm_TT w0 w1 tb ret p0 p5 (ws_tl L cv hs f a b) := by
  subst h3
  intro lv S o hf ho
  obtain ⟨q, S1, g1, hf⟩ := wx_bind_some hf
  obtain ⟨vs, S2, g2, hf⟩ := wx_bind_some hf
  refine ha.2 lv [] S q S1 wm_cs0 g1 (wm_at hc h1 rfl ?_)
  show w0 p2 lv (.int 0 :: .ref q :: []) S1
  refine hb.2 lv [.int 0, .ref q] S1 vs S2 (wm_cs_cons (wm_cs_cons wm_cs0)) g2 (fun hn => ?_)
  rw [wm_thr_ng hi hg]
  split at hf
  · rename_i x S3 e
    split at hf
    · rename_i m g e2
      split at hf
      · cases hf
      · rename_i hm
        cases hf
        exact hN lv vs [.int 0, .ref q] _ S2 S3 hn (by show 1 + (1 + 0) ≤ 8; omega) e (fun k h => by cases h) (hp lv x q S3 m g e2 hm ho)
    · cases hf
  · rename_i k S3 e
    split at hf
    · rename_i r e2
      cases hf
      exact hX lv vs [.int 0, .ref q] S2 k S3 r hn (by show 1 + (1 + 0) ≤ 8; omega) e e2 ho
    · cases hf
  · cases hf
theorem wm_try_v {b : wm_Ex (List Value)} {ii : Instr} (hc1 : wm_cl L fl cs sc cV cS ret tb w1) (hb : wm_A w0 tb 0 p0 pX n b) (hi : wm_lp tb pX = some (ii, p3, t2)) (hg : wm_ng ii = true) (h3 : p3 = pX + 3) (hN : wm_hN w0 w1 pX n f) (hX : wm_hX w0 ret pX n f hs) : wm_TT w0 w1 tb ret p0 p3 (ws_tv hs f b) := by
  subst h3
  intro lv S o hf ho
  obtain ⟨vs, S2, g2, hf⟩ := wx_bind_some hf
  refine hb.2 lv [] S vs S2 wm_cs0 g2 (fun hn => ?_)
  rw [wm_thr_ng hi hg]
  split at hf
  · rename_i S3 e
    cases hf
    exact hN lv vs [] none S2 S3 hn (Nat.zero_le _) e (fun k h => by cases h) (wm_thr_w hc1 ho)
  · rename_i k S3 e
    split at hf
    · rename_i r e2
      cases hf
      exact hX lv vs [] S2 k S3 r hn (Nat.zero_le _) e e2 ho
    · cases hf
  · cases hf
theorem wm_in0 {m : Nat} (h : m ≠ 0) : vp_in 0 m := by
  intro q
  rcases q with q | q
  · exact absurd q (by decide)
  · have : (0 : Int32).toNatClampNeg = 0 := by decide
    omega
theorem wm_pst_i (hc : wm_cl L fl cs sc cV cS ret tb w1) (h3 : wm_lp tb p3 = some (.i2l, p4, t3)) (h4 : wm_lp tb p4 = some (.lastore, p5, t4)) : wm_pst L wo_i2l w1 tb p3 p5 := by
  intro lv x q S m g e hm ho
  refine hc _ _ _ _ _ _ _ h3 (hc _ _ _ _ _ _ _ h4 ?_)
  simp only [wm_step, e]
  exact ⟨wm_in0 hm, wm_thr_w hc ho⟩
theorem wm_pst_z {pa pb pc pd t5 t6 t7 : Nat} {o : Int} (hc : wm_cl L fl cs sc cV cS ret tb w1) (h3 : wm_lp tb p3 = some (.ifCond .eq o, pa, pb)) (h4 : wm_lp tb pa = some (.lconst 1, pd, t4)) (h5 : wm_thr tb pd = pc) (h6 : wm_lp tb pb = some (.lconst 0, pc, t6)) (h7 : wm_lp tb pc = some (.lastore, p5, t7)) : wm_pst L (fun x => bif wr_ne x 0 then 1 else 0) w1 tb p3 p5 := by
  intro lv x q S m g e hm ho
  have last : ∀ z : Int64, w1 (wm_thr tb p5) lv [] (S.1, wm_up S.2 q 0 z) → w1 pc lv [.long z, .int 0, .ref q] S := by
    intro z hz
    refine hc _ _ _ _ _ _ _ h7 ?_
    simp only [wm_step, e]
    exact ⟨wm_in0 hm, wm_thr_w hc hz⟩
  refine hc _ _ _ _ _ _ _ h3 ?_
  refine ⟨fun hx => ?_, fun hx => ?_⟩
  · refine hc _ _ _ _ _ _ _ h6 ?_
    have hz : wr_ne x 0 = false := by simp [wr_ne, hx]
    dsimp only at ho
    rw [hz] at ho
    exact last _ ho
  · refine hc _ _ _ _ _ _ _ h4 ?_
    have hz : wr_ne x 0 = true := by simp [wr_ne, hx]
    dsimp only at ho
    rw [hz] at ho
    refine wm_thr_w hc ?_
    rw [h5]
    exact last _ ho
theorem wm_tt_seq {a b : wm_St} (ha : wm_TT w0 w1 tb ret p0 p1 a) (hb : wm_T w1 tb ret p2 pE b) (he : wm_thr tb p1 = wm_thr tb p2) : wm_TT w0 w1 tb ret p0 pE (ws_seq a b) := by
  intro lv S o hf ho
  unfold ws_seq at hf
  split at hf
  · rename_i lv1 S1 e
    refine ha lv S _ e ?_
    show w1 (wm_thr tb p1) lv1 [] S1
    rw [he, hb.1]
    exact hb.2 lv1 S1 o hf ho
  · rename_i hne
    refine ha lv S o hf ?_
    cases o with
    | inl q => exact absurd hf (hne q.1 q.2)
    | inr q => exact ho
end WTL
section WTM
variable {l : Launch} {D : va_G} {cl : List vw_C} {tys : List (ClassId × FieldType)} {A : Nat → Prop} {ad : Nat → Nat} {cA : Nat → ClassId} {L : List wm_C}
/-- the row that catches exception k, and what its code answers -/
def wt_hand (cc : ByteArray) (own : String) (Ts : List Cond) (hh : List (Nat × Nat × Nat × Nat)) (pX maxL k : Nat) (r : Int32) : Prop := ∃ (h1 h2 : List (Nat × Nat × Nat × Nat)) (st en h t j : Nat) (z : Int) (ln : Nat), k < 4 ∧ hh = h1 ++ (st, en, h, t) :: h2 ∧ st ≤ pX ∧ pX < en ∧ t ≠ 0 ∧ Cond.classLink own t (wt_ex k) ∈ Ts ∧ (∀ q ∈ h1, q.2.2.2 ≠ 0 ∧ ∃ j, Cond.classLink own q.2.2.2 (wt_ex j) ∈ Ts ∧ (k, j) ∈ wt_nc) ∧ j < maxL ∧
  ((ln = 1 ∧ ∃ jj : Fin 4, jj.val = j ∧ decode cc h = .ok (.astore_n jj, 1)) ∨ (ln = 2 ∧ decode cc h = .ok (.astore j, 2))) ∧ decode cc (h + ln) = .ok (.iconst z, 1) ∧ decode cc (h + ln + 1) = .ok (.ireturn, 1) ∧ Int32.ofInt z = r
set_option maxHeartbeats 1000000 in
theorem wt_law {y : MethodName} {ws ws' : List Cond} {rm : Room} {cc : ByteArray} {maxL : Nat} {hh : List (Nat × Nat × Nat × Nat)} {bd : wm_St} {tb : List wm_R} {pX ix n pE : Nat} {f : List Value → wm_S → Option (Option Value × wm_S)} {hs : List (Nat × Int32)} (hy : plainName y.cls = true) (hw : ws = Cond.codeWith y cc maxL (some .int) hh :: ws') (hY : wm_Y cl tys A ad cA L) (ht : tb.all (wm_rokb cc) = true)
    (hk : wt_kV l y.cls ws rm D cl tys A ad cA L ix n f) (hd : decode cc pX = .ok (.invokevirtual ix, 3)) (hh1 : ∀ q ∈ hs, wt_hand cc y.cls ws hh pX maxL q.1 q.2) (hR : 1 ≤ rm.cells ∧ 6 ≤ rm.slots)
    (hbd : ∀ (w0 w1 : wm_K) (ret : Option Value → wm_S → Prop), wm_cl L [] [] none [] [] ret tb w0 → wm_cl L [] [] none [] [] ret tb w1 → wm_hN w0 w1 pX n f → wm_hX w0 ret pX n f hs → wm_TT w0 w1 tb ret 0 pE bd) {av : List Value} {v : Option Value} {S S' : wm_S} (hf : wm_fn wm_any 1 maxL bd av S = some (v, S')) :
    Met l y ws rm (va_Pc (av.map (wm_cv ad)) (fun U => wm_I D cl tys ad cA L S U ∧ wt_Z A U U.heap)) (wm_Q D cl tys A ad cA L v S') 1 6 A := by
  obtain ⟨-, h1, h2, h3, h4⟩ := wm_fn_some hf
  refine va_MetW (cc := cc) (maxL := maxL) (ret := some .int) (hh := hh) hy hw ?_
  intro p e s m args below meth c s₁ B hml hv
  obtain ⟨rfl, ⟨hP, hK⟩, hZ⟩ := hv
  rw [lg_entry_eq]
  have XS := Stand.of_body B
  have hex : c.exceptionTable.toList.map (fun h => (h.startPc, h.endPc, h.handlerPc, h.catchType)) = hh := by
    obtain ⟨m9, meth', c', hn9, q1, q2, -, -, q3, -⟩ := Cond.codeWith_spec (atoms_spec (ws := ws) B.pre _ (by rw [hw]; exact List.mem_cons_self))
    cases hn9.symm.trans B.named
    cases q1.symm.trans B.method
    cases q2.symm.trans XS.code
    exact q3
  have X : wm_X p s m (av.map (wm_cv ad)).toArray c cc y.cls ws D cl tys A ad cA L [] [] none := ⟨B.exec, B.bytes, findClass_of_methodNamed B.named, atoms_spec (ws := ws) B.pre, hK, hY.1, hY.2.1, hY.2.2, (fun r h => nomatch h), (fun r h => nomatch h), fun r h => by cases h⟩
  have hret := B.returns
  have hlocks := B.notSynchronized
  have hri : ∀ x S2, (some (Value.int x) = v ∧ S2 = S') → ∀ pc lv, decode cc pc = .ok (.ireturn, 1) → wm_W p l e rm s m (av.map (wm_cv ad)).toArray below meth c 1 6 (MQ below (wm_Q D cl tys A ad cA L v S') (av.map (wm_cv ad)).toArray s 1 6 A) D cl A ad cA L maxL pc lv [.int x] S2 := by
    rintro x S2 ⟨rfl, rfl⟩ pc lv hd H locs ls hP1 hS1 hl1
    exact W.iret (v := x) B.exec B.bytes hret (fun t ht hW => ⟨rfl, ⟨by rw [ht]; exact hP1, va_K.moved hW.alike hK⟩, hS1.F ht⟩) hS1.2.2 hd hlocks
  have hcl1 : wm_cl L [] [] none [] [] (fun v' S'' => v' = v ∧ S'' = S') tb (wm_W p l e rm s m (av.map (wm_cv ad)).toArray below meth c 1 6 (MQ below (wm_Q D cl tys A ad cA L v S') (av.map (wm_cv ad)).toArray s 1 6 A) D cl A ad cA L maxL) := by
    intro pc i nx tg lv st S1 hlp hs
    refine wm_step_ok (cV := []) (cS := []) X (fun ix n f hm => nomatch hm) (fun ix n f hm => nomatch hm) hri ?_ ?_ (wm_toks ht _ (wm_lp_mem hlp)) (fun _ _ _ _ q => q) hs
    · rintro x S2 ⟨rfl, rfl⟩
      cases h4
    · rintro S2 ⟨rfl, rfl⟩
      cases h4
  have hcl0 : wm_cl L [] [] none [] [] (fun v' S'' => v' = v ∧ S'' = S') tb (wm_W p l e rm s m (av.map (wm_cv ad)).toArray below meth c 0 0 (MQ below (wm_Q D cl tys A ad cA L v S') (av.map (wm_cv ad)).toArray s 1 6 A) D cl A ad cA L maxL) := by
    intro pc i nx tg lv st S1 hlp hs
    refine wm_step_ok (cV := []) (cS := []) X (fun ix n f hm => nomatch hm) (fun ix n f hm => nomatch hm) ?_ ?_ ?_ (wm_toks ht _ (wm_lp_mem hlp)) (fun _ _ _ _ q => q) hs
    · intro x S2 hr pc lv hd H locs ls hP1 hS1 hl1
      exact W.widen (k := 1) (n := 6) (by omega) (by omega) (hri x S2 hr pc lv hd H locs ls hP1 hS1 hl1)
    · rintro x S2 ⟨rfl, rfl⟩
      cases h4
    · rintro S2 ⟨rfl, rfl⟩
      cases h4
  refine hbd _ _ _ hcl0 hcl1 ?_ ?_ (wm_en maxL av) S _ h3 ⟨rfl, rfl⟩ s.heap [] _ hP va_S.rf (wm_en_ls h2 (by rw [wm_sl_len, wm_cs_map]; exact h1) (by rw [wm_el_len _ h2]; exact h1))
  · intro lv vs rest v1 S1 S2 g1 g2 g3 g4 g5
    exact wt_okN X hZ hml (cells := 0) (slots := 0) (by omega) hk pX lv vs rest v1 S1 S2 hd g1 g2 g3 g4 g5
  · intro lv vs rest S1 k S2 r g1 g2 g3 g4 g5
    obtain ⟨ha, hb, st, en, h, t, j, z, ln, q1, q2, q3, q4, q5, q6, q7, q8, q9, q10, q11, q12⟩ := hh1 (k, r) (wm_lp_mem g4)
    rw [q2] at hex
    obtain ⟨pre, r1, e1, e2, e3⟩ := List.map_eq_append_iff.mp hex
    obtain ⟨x, suf, e4, e5, e6⟩ := List.map_eq_cons_iff.mp e3
    rw [e4] at e1
    have e5a : x.startPc = st := congrArg (fun q => q.1) e5
    have e5b : x.endPc = en := congrArg (fun q => q.2.1) e5
    have e5c : x.handlerPc = h := congrArg (fun q => q.2.2.1) e5
    have e5d : x.catchType = t := congrArg (fun q => q.2.2.2) e5
    refine wt_okC X hZ hml (cells := 0) (slots := 0) (by omega) hk q1 pre x suf e1 (fun z hz => ?_) (by simp [covers, e5a, e5b, q3, q4]) (by rw [e5d]; exact q5) (by rw [e5d]; exact q6) lv vs rest S1 S2 hd g1 g2 g3 (fun H1 locs1 ls qa hP1 hS1 hl1 => ?_)
    · have hm : (z.startPc, z.endPc, z.handlerPc, z.catchType) ∈ ha := by
        rw [← e2]
        exact List.mem_map.mpr ⟨z, hz, rfl⟩
      obtain ⟨u1, j, u2, u3⟩ := q7 _ hm
      exact ⟨u1, j, u2, hZ.2.2.2.2 _ u3⟩
    · rw [e5c]
      have fin : ∀ ls' : Array Slot, lv_has ls' maxL [] → W p l e rm s m (av.map (wm_cv ad)).toArray below meth c H1 locs1 (0 + 1) (0 + 6) (MQ below (wm_Q D cl tys A ad cA L v S') (av.map (wm_cv ad)).toArray s 1 6 A) (F0 m (h + ln) ls' []) := by
        intro ls' hl'
        refine lv_iconst B.exec B.bytes q10 q12 ?_
        obtain ⟨rfl, rfl⟩ := g5
        exact W.iret (v := r) B.exec B.bytes hret (fun t ht hW => ⟨rfl, ⟨by rw [ht]; exact hP1, va_K.moved hW.alike hK⟩, hS1.F ht⟩) hS1.2.2 q11 hlocks
      rcases q9 with ⟨rfl, jj, hj, hd1⟩ | ⟨rfl, hd1⟩
      · exact lv_astore_n B.exec B.bytes hd1 hj hl1.1 q8 rfl (fun ls' hl' => fin ls' ⟨hl'.1, hl'.2.1, fun _ h => nomatch h⟩)
      · exact lv_astore B.exec B.bytes hd1 hl1.1 q8 rfl (fun ls' hl' => fin ls' ⟨hl'.1, hl'.2.1, fun _ h => nomatch h⟩)
end WTM

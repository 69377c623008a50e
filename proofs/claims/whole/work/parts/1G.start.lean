/-! the law's start: what the tables say, the cells that the law makes, the layout -/
section WNT
theorem ls_w {args : Array Value} {s : State} (hts : ∀ w ∈ lw_tbl, w.before args s = true) {w : Cond} (i : Nat) (h : tables_1[i]? = some w) : w.before args s = true := hts w (List.mem_append_right _ (List.mem_of_getElem? h))
theorem ls_n {args : Array Value} {s : State} (hts : ∀ w ∈ lw_tbl, w.before args s = true) {w : Cond} (i : Nat) (h : tables_1[i]? = some w) (hw : w.before #[] s = w.before args s) : va_Nw w s := hw.trans (ls_w hts i h)
theorem ls_arr {args : Array Value} {s : State} {ty : FieldType} (h : (Cond.arrayClass ty).before args s = true) : ∃ c, ArrOfT s c ty ∧ s.vm.findClass ("[" ++ ty.toString) = some c := by
  obtain ⟨c, k, comp, h1, h2, h3⟩ := Cond.arrayClass_spec h
  exact ⟨c, fun n z => ⟨fun k h => (by cases h), k, h2, comp, h3⟩, h1⟩
theorem ls_arrA {args : Array Value} {s : State} (h : (Cond.arrayOver (.array .int)).before args s = true) : ∃ c, ArrOfT s c (.array .int) ∧ s.vm.findClass ("[" ++ (FieldType.array .int).toString) = some c := by
  obtain ⟨comp, c, k, -, h2, h3, h1⟩ := Cond.arrayOver_specA h
  exact ⟨c, fun n z => ⟨fun k h => (by cases h), k, h2, comp, h3⟩, h1⟩
theorem ls_K {args : Array Value} {s : State} (hts : ∀ w ∈ lw_tbl, w.before args s = true) : ∃ (D : va_G) (cA : Nat → ClassId), va_K D cl0 (tys0 cA) s := by
  have hgw : ∀ w ∈ gw, w.before args s = true := fun w h => hts w (List.mem_filter.mp h).1
  have hc : ∀ c : Nat, ∃ q : ClassId × (Nat → Nat), ∀ r : vw_C, cl0[c]? = some r → u_Kn s r.1 r.2.1 r.2.2 q.1 q.2 := by
    intro c
    match c with
    | 0 => obtain ⟨x, y, h⟩ := u_known (n := 4) hgw uw_P (ls_w hts 20 (by decide +kernel)); exact ⟨(x, y), fun r hr => by cases hr; exact h⟩
    | 1 => obtain ⟨x, y, h⟩ := u_known (n := 10) hgw uw_G (ls_w hts 28 (by decide +kernel)); exact ⟨(x, y), fun r hr => by cases hr; exact h⟩
    | 2 => obtain ⟨x, y, h⟩ := u_known (n := 5) hgw uw_E (ls_w hts 36 (by decide +kernel)); exact ⟨(x, y), fun r hr => by cases hr; exact h⟩
    | 3 => obtain ⟨x, y, h⟩ := u_known (n := 6) hgw uw_R (ls_w hts 130 (by decide +kernel)); exact ⟨(x, y), fun r hr => by cases hr; exact h⟩
    | 4 => obtain ⟨x, y, h⟩ := u_known (n := 3) hgw uw_F (ls_w hts 136 (by decide +kernel)); exact ⟨(x, y), fun r hr => by cases hr; exact h⟩
    | 5 => obtain ⟨x, y, h⟩ := u_known (n := 4) hgw uw_U (ls_w hts 156 (by decide +kernel)); exact ⟨(x, y), fun r hr => by cases hr; exact h⟩
    | 6 => obtain ⟨x, y, h⟩ := u_known (n := 2) hgw uw_N (ls_w hts 178 (by decide +kernel)); exact ⟨(x, y), fun r hr => by cases hr; exact h⟩
    | 7 => obtain ⟨x, y, h⟩ := u_known (n := 8) hgw uw_M (ls_w hts 219 (by decide +kernel)); exact ⟨(x, y), fun r hr => by cases hr; exact h⟩
    | 8 => obtain ⟨x, y, h⟩ := u_known (n := 29) hgw uw_Z (ls_w hts 658 (by decide +kernel)); exact ⟨(x, y), fun r hr => by cases hr; exact h⟩
    | n + 9 =>
      obtain ⟨x, y, h⟩ := u_known (n := 4) hgw uw_P (ls_w hts 20 (by decide +kernel))
      exact ⟨(x, y), fun r hr => by cases hr⟩
  obtain ⟨c0, a0, b0⟩ := ls_arr (ls_w hts 71 (by decide +kernel) : (Cond.arrayClass .int).before args s = true)
  obtain ⟨c1, a1, b1⟩ := ls_arr (ls_w hts 176 (by decide +kernel) : (Cond.arrayClass .long).before args s = true)
  obtain ⟨c3, a3, b3⟩ := ls_arr (ls_w hts 751 (by decide +kernel) : (Cond.arrayClass .boolean).before args s = true)
  obtain ⟨c2, a2, b2⟩ := ls_arrA (ls_w hts 34 (by decide +kernel) : (Cond.arrayOver (.array .int)).before args s = true)
  refine ⟨(fun c => (Classical.choose (hc c)).1, fun c => (Classical.choose (hc c)).2), (fun k => match k with
    | 0 => c0
    | 1 => c1
    | 2 => c2
    | _ => c3), fun c q hq => Classical.choose_spec (hc c) q hq, fun k q hq => ?_⟩
  match k with
  | 0 => cases hq; exact ⟨a0, b0⟩
  | 1 => cases hq; exact ⟨a1, b1⟩
  | 2 => cases hq; exact ⟨a2, b2⟩
  | 3 => cases hq; exact ⟨a3, b3⟩
  | n + 4 => cases hq
theorem ls_N {args : Array Value} {s : State} (hts : ∀ w ∈ lw_tbl, w.before args s = true) : wn_N w_ns s := by
  refine ⟨?_, ls_n hts 34 (by decide +kernel) rfl⟩
  exact List.forall_mem_cons.mpr ⟨ls_n hts 29 (by decide +kernel) rfl, List.forall_mem_cons.mpr ⟨ls_n hts 37 (by decide +kernel) rfl, List.forall_mem_cons.mpr ⟨ls_n hts 131 (by decide +kernel) rfl, List.forall_mem_cons.mpr ⟨ls_n hts 137 (by decide +kernel) rfl, List.forall_mem_cons.mpr ⟨ls_n hts 157 (by decide +kernel) rfl, List.forall_mem_cons.mpr ⟨ls_n hts 179 (by decide +kernel) rfl, List.forall_mem_cons.mpr ⟨ls_n hts 193 (by decide +kernel) rfl, List.forall_mem_cons.mpr ⟨ls_n hts 220 (by decide +kernel) rfl, fun _ h => nomatch h⟩⟩⟩⟩⟩⟩⟩⟩
theorem ls_Z {args : Array Value} {s : State} {A : Nat → Prop} (hts : ∀ w ∈ lw_tbl, w.before args s = true) (hgv : (Cond.and given_1 narrow_1).before args s = true) (hA : ∀ a : Nat, a < s.heap.size → ¬ A a) : wt_Z A s s.heap := by
  have hs := flat_of_before _ hgv
  refine ⟨wt_L.of (args := args) (ls_w hts 325 (by decide +kernel)) (hs _ (by decide +kernel)) hA, wt_L.of (args := args) (ls_w hts 327 (by decide +kernel)) (hs _ (by decide +kernel)) hA, fun k hk => ?_, ?_, ?_⟩
  · match k, hk with
    | 0, _ => exact ls_n hts 300 (by decide +kernel) rfl
    | 1, _ => exact ls_n hts 388 (by decide +kernel) rfl
    | 2, _ => exact ls_n hts 409 (by decide +kernel) rfl
    | 3, _ => exact ls_n hts 466 (by decide +kernel) rfl
  · exact List.forall_mem_cons.mpr ⟨ls_n hts 301 (by decide +kernel) rfl, List.forall_mem_cons.mpr ⟨ls_n hts 303 (by decide +kernel) rfl, List.forall_mem_cons.mpr ⟨ls_n hts 305 (by decide +kernel) rfl, fun _ h => nomatch h⟩⟩⟩
  · exact List.forall_mem_cons.mpr ⟨va_Nc.of (args := args) (hs _ (by decide +kernel)), List.forall_mem_cons.mpr ⟨va_Nc.of (args := args) (hs _ (by decide +kernel)), List.forall_mem_cons.mpr ⟨va_Nc.of (args := args) (hs _ (by decide +kernel)), List.forall_mem_cons.mpr ⟨va_Nc.of (args := args) (hs _ (by decide +kernel)), fun _ h => nomatch h⟩⟩⟩⟩
def w_E3 : List wn_E := w_E1 ++ w_E2
def w_E4 : List wn_E := w_E3 ++ [wn_ar 1 1]
abbrev nw_law : List (Nat × Nat × List Value) := [(8, 0, [.null, .null, .null, .int 0]), (56, 8, [.int 0, .int 0, .null, .null, .null, .null, .int 0, .null, .null, .null, .null, .null, .int 0, .null, .null, .null, .null, .null, .null, .null, .null, .null, .null, .int 0, .int 0, .int 0, .int 0, .int 0, .null])]
abbrev cf_law : List (Nat × Nat × Nat × wn_F) := [(55, 46, 1393, f_P_init), (58, 20, 4990, f_Z_init)]
theorem w_r1 : wn_run none 0 [] nw_law cf_law 9999 [] 601024 7293034 tb_law_0 7 9 0 [] [] = some ([.ref 0], w_E1) := by decide +kernel
theorem w_r2 : wn_run none 0 [] nw_law cf_law 9999 [] 601024 7293034 tb_law_0 15 9 8 [] w_E1 = some ([.ref 47], w_E3) := by decide +kernel
theorem w_r3 : wn_run none 0 [] nw_law cf_law 9999 [] 601024 7293034 tb_law_0 19 9 16 [] w_E3 = some ([.ref 68], w_E4) := by decide +kernel
/-- a cell of the layout is a cell that was made -/
def w_mt (c : wm_C) (e : wn_E) : Bool := match c, e with
  | .inl (ci, fs), .inr (cj, vs) => Nat.beq ci cj && (Nat.beq fs.length vs.length && (fs.zip vs).all (fun q => match q with
    | (0, .int x) => decide (x = 0)
    | (1, .long x) => decide (x = 0)
    | (2, .int x) => decide (x = 0)
    | (n + 3, .ref a) => Nat.blt n 69 && Nat.beq (w_pi.getD n 0) a
    | _ => false))
  | .inr (t, n, 0, _), .inl (k, n', _) => Nat.beq t 0 && (Nat.beq k 0 && Nat.beq n n')
  | .inr (t, n, 1, _), .inl (k, n', _) => Nat.beq t 1 && (Nat.beq k 1 && Nat.beq n n')
  | .inr (t, n, 2, f), .inl (k, n', b) => Nat.beq t 2 && (Nat.beq k 2 && (Nat.beq n n' && (List.range n).all (fun i => Nat.blt (f i) 69 && Nat.beq (w_pi.getD (f i) 0) (b + i))))
  | .inr (t, n, 3, _), .inl (k, n', _) => Nat.beq t 3 && (Nat.beq k 3 && Nat.beq n n')
  | _, _ => false
def w_mtk (k : Nat) : Bool := match w_L[k]?, w_E4[w_pi.getD k 0]? with
  | some c, some e => w_mt c e
  | _, _ => false
theorem w_mta : (List.range 69).all w_mtk = true := by decide +kernel
theorem w_inj : ∀ i, i < 69 → ∀ j, j < 69 → w_pi.getD i 0 = w_pi.getD j 0 → i = j := by decide +kernel
def w_S0 : wm_S := (fun _ _ => 0, fun _ _ => 0)
theorem w_mt_ok {D : va_G} {ad : Nat → Nat} {cA : Nat → ClassId} {h0 a k : Nat} {c : wm_C} {e : wn_E} {H : Heap} (had : ∀ n, n < 69 → ad n = h0 + w_pi.getD n 0) (hm : w_mt c e = true) (h : va_at D cl0 (a, wn_ce h0 cA e) H) : va_at D cl0 (a, wm_ce ad cA w_S0 k c) H := by
  unfold w_mt at hm
  split at hm
  · rename_i ci fs cj vs
    simp only [Bool.and_eq_true] at hm
    obtain ⟨h1, h2, h3⟩ := hm
    have h1 : ci = cj := Nat.eq_of_beq_eq_true h1
    have h2 : fs.length = vs.length := Nat.eq_of_beq_eq_true h2
    subst h1
    have he : fs.mapIdx (fun k' f => wm_cv ad (wm_av w_S0 k k' f)) = vs.map (wn_cv h0) := by
      apply List.ext_getElem
      · simpa using h2
      · intro i g1 g2
        simp only [List.getElem_mapIdx, List.getElem_map]
        have g1' : i < fs.length := by simpa using g1
        have g2' : i < vs.length := by simpa using g2
        have h4 := List.all_eq_true.mp h3 (fs[i], vs[i]) (by
          have : (fs.zip vs)[i]? = some (fs[i], vs[i]) := by simp [List.getElem?_zip_eq_some, g1', g2']
          exact List.mem_of_getElem? this)
        generalize fs[i] = f at h4
        generalize vs[i] = v at h4
        split at h4
        · rename_i e1
          cases e1
          rw [of_decide_eq_true h4]
          rfl
        · rename_i e1
          cases e1
          rw [of_decide_eq_true h4]
          rfl
        · rename_i e1
          cases e1
          rw [of_decide_eq_true h4]
          rfl
        · rename_i n a' e1
          cases e1
          simp only [Bool.and_eq_true] at h4
          have e2 : n < 69 := Nat.le_of_ble_eq_true h4.1
          have e3 := Nat.eq_of_beq_eq_true h4.2
          show Value.ref (ad n) = Value.ref (h0 + a')
          rw [had n e2, e3]
        · cases h4
    show va_at D cl0 (a, .inr (ci, fs.mapIdx (fun k' f => wm_cv ad (wm_av w_S0 k k' f)))) H
    rw [he]
    exact h
  · rename_i t n f k' n' b
    simp only [Bool.and_eq_true] at hm
    have h1 : t = 0 := Nat.eq_of_beq_eq_true hm.1
    have h2 : k' = 0 := Nat.eq_of_beq_eq_true hm.2.1
    have h3 : n = n' := Nat.eq_of_beq_eq_true hm.2.2
    subst h1; subst h2; subst h3
    exact h
  · rename_i t n f k' n' b
    simp only [Bool.and_eq_true] at hm
    have h1 : t = 1 := Nat.eq_of_beq_eq_true hm.1
    have h2 : k' = 1 := Nat.eq_of_beq_eq_true hm.2.1
    have h3 : n = n' := Nat.eq_of_beq_eq_true hm.2.2
    subst h1; subst h2; subst h3
    exact h
  · rename_i t n f k' n' b
    simp only [Bool.and_eq_true] at hm
    have h1 : t = 2 := Nat.eq_of_beq_eq_true hm.1
    have h2 : k' = 2 := Nat.eq_of_beq_eq_true hm.2.1
    have h3 : n = n' := Nat.eq_of_beq_eq_true hm.2.2.1
    have h4 := List.all_eq_true.mp hm.2.2.2
    subst h1; subst h2; subst h3
    show H[a]? = some (vp_cell (cA 2) (n, .inr (.inr (.inr (.inr (fun i => some (ad (f i))))))))
    have h : H[a]? = some (vp_cell (cA 2) (n, .inr (.inr (.inr (.inr (fun i => some (h0 + (b + i)))))))) := h
    rw [h, vp_cell_q, vp_cell_q]
    refine congrArg some (arrV_ext (fun j hj => ?_))
    have h5 := h4 j (List.mem_range.mpr hj)
    simp only [Bool.and_eq_true] at h5
    rw [had (f j) (Nat.le_of_ble_eq_true h5.1), Nat.eq_of_beq_eq_true h5.2]
  · rename_i t n f k' n' b
    simp only [Bool.and_eq_true] at hm
    have h1 : t = 3 := Nat.eq_of_beq_eq_true hm.1
    have h2 : k' = 3 := Nat.eq_of_beq_eq_true hm.2.1
    have h3 : n = n' := Nat.eq_of_beq_eq_true hm.2.2
    subst h1; subst h2; subst h3
    exact h
  · cases hm
theorem w_start {D : va_G} {ad : Nat → Nat} {cA : Nat → ClassId} {h0 : Nat} {H : Heap} (had : ∀ n, n < 69 → ad n = h0 + w_pi.getD n 0) (hP : va_P D cl0 (wn_w h0 cA w_E4) H) : va_P D cl0 (wm_lay ad cA w_L w_S0) H := by
  intro k q hq
  simp only [wm_lay, List.getElem?_mapIdx, Option.map_eq_some_iff] at hq
  obtain ⟨c, h1, rfl⟩ := hq
  have hk : k < 69 := (List.getElem?_eq_some_iff.mp h1).1
  have h2 := List.all_eq_true.mp w_mta k (List.mem_range.mpr hk)
  unfold w_mtk at h2
  rw [h1] at h2
  split at h2
  · rename_i c' e' g1 g2
    cases g1
    have h3 := hP _ _ (wn_at (h0 := h0) (cA := cA) g2)
    rw [had k hk]
    exact w_mt_ok had h2 h3
  · cases h2
end WNT

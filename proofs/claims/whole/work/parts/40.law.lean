/-! the law: its helpers, its script, what it keeps -/
section LWA
variable {S Sa S1 S2 : wm_S} {P : PG} {M : MG} {pr : Bool}
theorem a68 : wm_ak w_L 68 1 = some (1, fun _ => 0) := rfl
theorem a69 : wm_ak w_L 69 0 = none := rfl
theorem l69 : w_L.length = 69 := rfl
theorem e_tl {cv : Int32 → Int64} {hs : List (Nat × Int32)} {f : List Value → wm_S → Option (Option Value × wm_S)} {a : wm_Ex Nat} {b : wm_Ex (List Value)} {lv vs : List Value} {x : Int32} (ha : a lv S = some (68, S)) (hb : b lv S = some (vs, S)) (hf : f vs S = some (some (.int x), Sa)) : ws_tl w_L cv hs f a b lv S = some (.inl (lv, (Sa.1, wm_up Sa.2 68 0 (cv x)))) := by
  unfold ws_tl wx_bind
  rw [ha]
  dsimp only
  rw [hb]
  dsimp only
  rw [hf]
  dsimp only
  rw [a68]
  rfl
theorem e_tlx {cv : Int32 → Int64} {hs : List (Nat × Int32)} {f : List Value → wm_S → Option (Option Value × wm_S)} {a : wm_Ex Nat} {b : wm_Ex (List Value)} {lv vs : List Value} {k : Nat} {r : Int32} (ha : a lv S = some (68, S)) (hb : b lv S = some (vs, S)) (hf : f vs S = some (some (.retAddr k), Sa)) (hk : wm_lp hs k = some r) : ws_tl w_L cv hs f a b lv S = some (.inr (some (.int r), Sa)) := by
  unfold ws_tl wx_bind
  rw [ha]
  dsimp only
  rw [hb]
  dsimp only
  rw [hf]
  dsimp only
  rw [hk]
theorem e_tv {hs : List (Nat × Int32)} {f : List Value → wm_S → Option (Option Value × wm_S)} {b : wm_Ex (List Value)} {lv vs : List Value} (hb : b lv S = some (vs, S)) (hf : f vs S = some (none, Sa)) : ws_tv hs f b lv S = some (.inl (lv, Sa)) := by
  unfold ws_tv wx_bind
  rw [hb]
  dsimp only
  rw [hf]
theorem e_tvx {hs : List (Nat × Int32)} {f : List Value → wm_S → Option (Option Value × wm_S)} {b : wm_Ex (List Value)} {lv vs : List Value} {k : Nat} {r : Int32} (hb : b lv S = some (vs, S)) (hf : f vs S = some (some (.retAddr k), Sa)) (hk : wm_lp hs k = some r) : ws_tv hs f b lv S = some (.inr (some (.int r), Sa)) := by
  unfold ws_tv wx_bind
  rw [hb]
  dsimp only
  rw [hf]
  dsimp only
  rw [hk]
theorem e_L_block {v : Int32} (h : f_P_block [.ref 0] S = some (some (.int v), Sa)) : f_L_block [.ref 0, .ref 68] S = some (some (.int (nI 0)), (Sa.1, wm_up Sa.2 68 0 (v.toInt64))) := by
  refine wq_eq (wq_fn rfl rfl rfl ?_)
  show wq (t_L_block [.ref 0, .ref 68, .retAddr 0] S) _
  unfold t_L_block
  exact wq_step (e_tl rfl rfl h) (wq_rets rfl ⟨rfl, rfl⟩)
theorem e_L_block_no {k r : Nat} (h : f_P_block [.ref 0] S = some (some (.retAddr k), Sa)) (hk : wm_lp hs_L_block k = some (nI r)) : f_L_block [.ref 0, .ref 68] S = some (some (.int (nI r)), Sa) := by
  refine wq_eq (wq_fn rfl rfl rfl ?_)
  show wq (t_L_block [.ref 0, .ref 68, .retAddr 0] S) _
  unfold t_L_block
  exact wq_seq.mpr ⟨_, e_tlx rfl rfl h hk, rfl, rfl⟩
theorem e_L_add {x op a b c : Int32} {v : Int32} (h : f_P_add [.ref 0, .int x, .int op, .int a, .int b, .int c] S = some (some (.int v), Sa)) : f_L_add [.ref 0, .int x, .int op, .int a, .int b, .int c, .ref 68] S = some (some (.int (nI 0)), (Sa.1, wm_up Sa.2 68 0 (v.toInt64))) := by
  refine wq_eq (wq_fn rfl rfl rfl ?_)
  show wq (t_L_add [.ref 0, .int x, .int op, .int a, .int b, .int c, .ref 68, .retAddr 0] S) _
  unfold t_L_add
  exact wq_step (e_tl rfl rfl h) (wq_rets rfl ⟨rfl, rfl⟩)
theorem e_L_add_no {x op a b c : Int32} {k r : Nat} (h : f_P_add [.ref 0, .int x, .int op, .int a, .int b, .int c] S = some (some (.retAddr k), Sa)) (hk : wm_lp hs_L_add k = some (nI r)) : f_L_add [.ref 0, .int x, .int op, .int a, .int b, .int c, .ref 68] S = some (some (.int (nI r)), Sa) := by
  refine wq_eq (wq_fn rfl rfl rfl ?_)
  show wq (t_L_add [.ref 0, .int x, .int op, .int a, .int b, .int c, .ref 68, .retAddr 0] S) _
  unfold t_L_add
  exact wq_seq.mpr ⟨_, e_tlx rfl rfl h hk, rfl, rfl⟩
theorem e_L_prune {v : Int32} (h : f_P_prune [.ref 0] S = some (some (.int v), Sa)) : f_L_prune [.ref 0, .ref 68] S = some (some (.int (nI 0)), (Sa.1, wm_up Sa.2 68 0 (v.toInt64))) := by
  refine wq_eq (wq_fn rfl rfl rfl ?_)
  show wq (t_L_prune [.ref 0, .ref 68, .retAddr 0] S) _
  unfold t_L_prune
  exact wq_step (e_tl rfl rfl h) (wq_rets rfl ⟨rfl, rfl⟩)
theorem e_L_prune_no {k r : Nat} (h : f_P_prune [.ref 0] S = some (some (.retAddr k), Sa)) (hk : wm_lp hs_L_prune k = some (nI r)) : f_L_prune [.ref 0, .ref 68] S = some (some (.int (nI r)), Sa) := by
  refine wq_eq (wq_fn rfl rfl rfl ?_)
  show wq (t_L_prune [.ref 0, .ref 68, .retAddr 0] S) _
  unfold t_L_prune
  exact wq_seq.mpr ⟨_, e_tlx rfl rfl h hk, rfl, rfl⟩
theorem e_L_next {x : Int32} {v : Int32} (h : f_P_next [.ref 0, .int x] S = some (some (.int v), Sa)) : f_L_next [.ref 0, .int x, .ref 68] S = some (some (.int (nI 0)), (Sa.1, wm_up Sa.2 68 0 (v.toInt64))) := by
  refine wq_eq (wq_fn rfl rfl rfl ?_)
  show wq (t_L_next [.ref 0, .int x, .ref 68, .retAddr 0] S) _
  unfold t_L_next
  exact wq_step (e_tl rfl rfl h) (wq_rets rfl ⟨rfl, rfl⟩)
theorem e_L_next_no {x : Int32} {k r : Nat} (h : f_P_next [.ref 0, .int x] S = some (some (.retAddr k), Sa)) (hk : wm_lp hs_L_next k = some (nI r)) : f_L_next [.ref 0, .int x, .ref 68] S = some (some (.int (nI r)), Sa) := by
  refine wq_eq (wq_fn rfl rfl rfl ?_)
  show wq (t_L_next [.ref 0, .int x, .ref 68, .retAddr 0] S) _
  unfold t_L_next
  exact wq_seq.mpr ⟨_, e_tlx rfl rfl h hk, rfl, rfl⟩
theorem e_L_depends {x b : Int32} {v : Int32} (h : f_P_depends [.ref 0, .int x, .int b] S = some (some (.int v), Sa)) : f_L_depends [.ref 0, .int x, .int b, .ref 68] S = some (some (.int (nI 0)), (Sa.1, wm_up Sa.2 68 0 (bif wr_ne v 0 then 1 else 0))) := by
  refine wq_eq (wq_fn rfl rfl rfl ?_)
  show wq (t_L_depends [.ref 0, .int x, .int b, .ref 68, .retAddr 0] S) _
  unfold t_L_depends
  exact wq_step (e_tl rfl rfl h) (wq_rets rfl ⟨rfl, rfl⟩)
theorem e_L_depends_no {x b : Int32} {k r : Nat} (h : f_P_depends [.ref 0, .int x, .int b] S = some (some (.retAddr k), Sa)) (hk : wm_lp hs_L_depends k = some (nI r)) : f_L_depends [.ref 0, .int x, .int b, .ref 68] S = some (some (.int (nI r)), Sa) := by
  refine wq_eq (wq_fn rfl rfl rfl ?_)
  show wq (t_L_depends [.ref 0, .int x, .int b, .ref 68, .retAddr 0] S) _
  unfold t_L_depends
  exact wq_seq.mpr ⟨_, e_tlx rfl rfl h hk, rfl, rfl⟩
theorem e_L_needed {x : Int32} {v : Int32} (h : f_P_needed [.ref 0, .int x] S = some (some (.int v), Sa)) : f_L_needed [.ref 0, .int x, .ref 68] S = some (some (.int (nI 0)), (Sa.1, wm_up Sa.2 68 0 (bif wr_ne v 0 then 1 else 0))) := by
  refine wq_eq (wq_fn rfl rfl rfl ?_)
  show wq (t_L_needed [.ref 0, .int x, .ref 68, .retAddr 0] S) _
  unfold t_L_needed
  exact wq_step (e_tl rfl rfl h) (wq_rets rfl ⟨rfl, rfl⟩)
theorem e_L_needed_no {x : Int32} {k r : Nat} (h : f_P_needed [.ref 0, .int x] S = some (some (.retAddr k), Sa)) (hk : wm_lp hs_L_needed k = some (nI r)) : f_L_needed [.ref 0, .int x, .ref 68] S = some (some (.int (nI r)), Sa) := by
  refine wq_eq (wq_fn rfl rfl rfl ?_)
  show wq (t_L_needed [.ref 0, .int x, .ref 68, .retAddr 0] S) _
  unfold t_L_needed
  exact wq_seq.mpr ⟨_, e_tlx rfl rfl h hk, rfl, rfl⟩
theorem e_L_ends {x w : Int32} {v : Int32} (h : f_P_ends [.ref 0, .int x, .int w] S = some (some (.int v), Sa)) : f_L_ends [.ref 0, .int x, .int w, .ref 68] S = some (some (.int (nI 0)), (Sa.1, wm_up Sa.2 68 0 (v.toInt64))) := by
  refine wq_eq (wq_fn rfl rfl rfl ?_)
  show wq (t_L_ends [.ref 0, .int x, .int w, .ref 68, .retAddr 0] S) _
  unfold t_L_ends
  exact wq_step (e_tl rfl rfl h) (wq_rets rfl ⟨rfl, rfl⟩)
theorem e_L_ends_no {x w : Int32} {k r : Nat} (h : f_P_ends [.ref 0, .int x, .int w] S = some (some (.retAddr k), Sa)) (hk : wm_lp hs_L_ends k = some (nI r)) : f_L_ends [.ref 0, .int x, .int w, .ref 68] S = some (some (.int (nI r)), Sa) := by
  refine wq_eq (wq_fn rfl rfl rfl ?_)
  show wq (t_L_ends [.ref 0, .int x, .int w, .ref 68, .retAddr 0] S) _
  unfold t_L_ends
  exact wq_seq.mpr ⟨_, e_tlx rfl rfl h hk, rfl, rfl⟩
theorem e_L_run {t i f : Int32} {v : Int32} (h : f_P_run [.ref 0, .int t, .int i, .int f] S = some (some (.int v), Sa)) : f_L_run [.ref 0, .int t, .int i, .int f, .ref 68] S = some (some (.int (nI 0)), (Sa.1, wm_up Sa.2 68 0 (v.toInt64))) := by
  refine wq_eq (wq_fn rfl rfl rfl ?_)
  show wq (t_L_run [.ref 0, .int t, .int i, .int f, .ref 68, .retAddr 0] S) _
  unfold t_L_run
  exact wq_step (e_tl rfl rfl h) (wq_rets rfl ⟨rfl, rfl⟩)
theorem e_L_run_no {t i f : Int32} {k r : Nat} (h : f_P_run [.ref 0, .int t, .int i, .int f] S = some (some (.retAddr k), Sa)) (hk : wm_lp hs_L_run k = some (nI r)) : f_L_run [.ref 0, .int t, .int i, .int f, .ref 68] S = some (some (.int (nI r)), Sa) := by
  refine wq_eq (wq_fn rfl rfl rfl ?_)
  show wq (t_L_run [.ref 0, .int t, .int i, .int f, .ref 68, .retAddr 0] S) _
  unfold t_L_run
  exact wq_seq.mpr ⟨_, e_tlx rfl rfl h hk, rfl, rfl⟩
theorem e_L_out {x : Int32} {v : Int32} (h : f_P_out [.ref 0, .int x] S = some (some (.int v), Sa)) : f_L_out [.ref 0, .int x, .ref 68] S = some (some (.int (nI 0)), (Sa.1, wm_up Sa.2 68 0 (v.toInt64))) := by
  refine wq_eq (wq_fn rfl rfl rfl ?_)
  show wq (t_L_out [.ref 0, .int x, .ref 68, .retAddr 0] S) _
  unfold t_L_out
  exact wq_step (e_tl rfl rfl h) (wq_rets rfl ⟨rfl, rfl⟩)
theorem e_L_out_no {x : Int32} {k r : Nat} (h : f_P_out [.ref 0, .int x] S = some (some (.retAddr k), Sa)) (hk : wm_lp hs_L_out k = some (nI r)) : f_L_out [.ref 0, .int x, .ref 68] S = some (some (.int (nI r)), Sa) := by
  refine wq_eq (wq_fn rfl rfl rfl ?_)
  show wq (t_L_out [.ref 0, .int x, .ref 68, .retAddr 0] S) _
  unfold t_L_out
  exact wq_seq.mpr ⟨_, e_tlx rfl rfl h hk, rfl, rfl⟩
theorem e_L_end {x kd a b c : Int32} (h : f_P_end [.ref 0, .int x, .int kd, .int a, .int b, .int c] S = some (none, Sa)) : f_L_end [.ref 0, .int x, .int kd, .int a, .int b, .int c] S = some (some (.int (nI 0)), Sa) := by
  refine wq_eq (wq_fn rfl rfl rfl ?_)
  show wq (t_L_end [.ref 0, .int x, .int kd, .int a, .int b, .int c, .retAddr 0] S) _
  unfold t_L_end
  exact wq_step (e_tv rfl h) (wq_rets rfl ⟨rfl, rfl⟩)
theorem e_L_end_no {x kd a b c : Int32} {k r : Nat} (h : f_P_end [.ref 0, .int x, .int kd, .int a, .int b, .int c] S = some (some (.retAddr k), Sa)) (hk : wm_lp hs_L_end k = some (nI r)) : f_L_end [.ref 0, .int x, .int kd, .int a, .int b, .int c] S = some (some (.int (nI r)), Sa) := by
  refine wq_eq (wq_fn rfl rfl rfl ?_)
  show wq (t_L_end [.ref 0, .int x, .int kd, .int a, .int b, .int c, .retAddr 0] S) _
  unfold t_L_end
  exact wq_seq.mpr ⟨_, e_tvx rfl h hk, rfl, rfl⟩
/-- the locals of the law's loop -/
abbrev lwv (i : Nat) (v5 v6 : Value) : List Value := [.ref 69, .ref 0, .ref 47, .ref 68, .int (nI i), v5, v6]
theorem e_si {n i m : Nat} {xs : Nat → Int32} {v5 v6 : Value} {b : wm_Ex Int32} (hb : b (lwv i v5 v6) S = some (nI m, S)) (hm : m < n) (hn : n < 2147483648) : wx_si w_L (some (n, xs)) (wx_r 0) b (lwv i v5 v6) S = some (xs m, S) := by
  unfold wx_si
  show wx_bind (wx_r 0) _ (lwv i v5 v6) S = _
  unfold wx_bind
  have h0 : wx_r 0 (lwv i v5 v6) S = some (69, S) := rfl
  rw [h0]
  dsimp only
  rw [hb]
  dsimp only
  rw [a69]
  dsimp only
  rw [if_pos l69.symm, if_neg (nI_in hm (by omega)), ev_cl (by omega)]
theorem e_sc {n i j : Nat} {xs : Nat → Int32} {v5 v6 : Value} {c : Int32} (hc : c = nI j) (hm : i + j < n) (hn : n < 2147483648) : wx_si w_L (some (n, xs)) (wx_r 0) (wx_bin wo_iadd (wx_i 4) (wx_c c)) (lwv i v5 v6) S = some (xs (i + j), S) := by
  refine e_si ?_ hm hn
  show some (nI i + c, S) = _
  rw [hc, nI_add]
/-- the end of a call's comparison -/
theorem lw_tail {fL fZ : List Value → wm_S → Option (Option Value × wm_S)} {bL bZ : wm_Ex (List Value)} {i c : Nat} {v5 v6 : Value} {aL aZ : List Value} {b : Int32} {x : Int64} {g : wm_Ex Int64}
    (h1 : bL (lwv i v5 v6) S = some (aL, S)) (h2 : fL aL S = some (some (.int (nI c)), S1)) (h3 : bZ (lwv i (.int (nI c)) v6) S1 = some (aZ, S1)) (h4 : fZ aZ S1 = some (some (.int b), S2)) (h5 : S2.1 47 0 = nI c) (hc : c < 4) (hg : g (lwv i (.int (nI c)) (.int b)) S2 = some (x, S2)) (hv : c = 0 → S2.2 68 0 = x) :
    ws_seq (ws_i 5 (wx_call wm_pi fL bL)) (ws_seq (ws_i 6 (wx_call wm_pi fZ bZ)) (ws_seq (ws_if (wx_bin wr_ne (wx_call wm_pi f_Z_thrown (wx_a1 .ref (wx_r 2))) (wx_i 5)) (ws_ret .int (wx_c (0 : Int32)))) (ws_if (wb_and (wx_un (fun v => wr_eq v 0) (wx_i 5)) (wx_un (fun v => wr_ne v 0) (wx_bin lg_cmp (wx_al w_L (wx_r 3) (wx_c (0 : Int32))) g))) (ws_ret .int (wx_c (0 : Int32)))))) (lwv i v5 v6) S = some (.inl (lwv i (.int (nI c)) (.int b), S2)) := by
  refine wq_eq ?_
  have s1 : ws_i 5 (wx_call wm_pi fL bL) (lwv i v5 v6) S = some (.inl (lwv i (.int (nI c)) v6, S1)) := by
    simp only [ws_i, wx_call, wx_bind, h1, h2, wm_pi]
    rfl
  have s2 : ws_i 6 (wx_call wm_pi fZ bZ) (lwv i (.int (nI c)) v6) S1 = some (.inl (lwv i (.int (nI c)) (.int b), S2)) := by
    simp only [ws_i, wx_call, wx_bind, h3, h4, wm_pi]
    rfl
  have e3 : wx_call wm_pi f_Z_thrown (wx_a1 .ref (wx_r 2)) (lwv i (.int (nI c)) (.int b)) S2 = some (nI c, S2) := by
    have : wx_a1 .ref (wx_r 2) (lwv i (.int (nI c)) (.int b)) S2 = some ([.ref 47], S2) := rfl
    simp only [wx_call, wx_bind, this, e_Z_thrown, wm_pi, h5]
  refine wq_step s1 (wq_step s2 (wq_ifs (t := false) ?_ (fun h => nomatch h) (fun _ => ?_)))
  · have e5 : wx_i 5 (lwv i (.int (nI c)) (.int b)) S2 = some (nI c, S2) := rfl
    have e6 : wr_ne (nI c) (nI c) = false := by unfold wr_ne; simp
    simp only [wx_bin, wx_bind, e3, e5, e6]
  · refine wq_if (t := false) ?_ (fun h => nomatch h) (fun _ => rfl)
    have e5 : wx_i 5 (lwv i (.int (nI c)) (.int b)) S2 = some (nI c, S2) := rfl
    have e7 : wx_al w_L (wx_r 3) (wx_c (0 : Int32)) (lwv i (.int (nI c)) (.int b)) S2 = some (S2.2 68 0, S2) := by
      rw [kx_al]
      show wk (wm_ak w_L 68 1) 0 (fun j _ => some (S2.2 68 j, S2)) = _
      rw [a68, wk_in0 (by omega)]
    by_cases h0 : c = 0
    · have e8 : wr_ne (lg_cmp (S2.2 68 0) x) 0 = false := by rw [l_cmp, hv h0]; simp
      subst h0
      have e9 : wr_eq (nI 0) 0 = true := by decide
      simp only [wb_and, wx_un, wx_bin, wx_bind, e5, e7, hg, e8, e9, cond_true]
    · have e9 : wr_eq (nI c) 0 = false := by
        refine Eq.trans (ev_eqn (a := c) (b := 0) (by omega) (by omega)) ?_
        simpa using h0
      simp only [wb_and, wx_un, wx_bind, e5, e9, cond_false]
/-- what holds at the head of the loop -/
def wI (P : PG) (M : MG) (pr : Bool) (S : wm_S) : Prop := pg_wf P ∧ pg_C P S ∧ pg_R P S ∧ mg_C M S ∧ mg_R M S ∧ M.2.1 < 2147483648 ∧ S.1 0 3 = (bif pr then 1 else 0) ∧ S.1 47 12 = (bif pr then 1 else 0) ∧ (pr = true → rc_C P S ∧ rc_R P S)
theorem rc_C_same {W : Nat → Nat → Prop} (h : rc_C P S) (hs : ws_same W S Sa) (hW : ∀ q k, W q k → ¬ (15 ≤ q ∧ q ≤ 31)) : rc_C P Sa := by
  have e : ∀ q k, 15 ≤ q → q ≤ 31 → Sa.1 q k = S.1 q k ∧ Sa.2 q k = S.2 q k := fun q k h1 h2 => hs q k (fun w => hW q k w ⟨h1, h2⟩)
  obtain ⟨h1, h2, h3, h4, h5, h6⟩ := h
  refine ⟨fun x hx => ?_, ⟨fun k hk => ?_, fun x hx => ?_⟩, fun x hx => ?_, ?_, ?_, h6⟩
  · rw [(e 18 x (by omega) (by omega)).1, (e 19 x (by omega) (by omega)).1]; exact h1 x hx
  · rw [(e 25 0 (by omega) (by omega)).2]; exact h2.1 k hk
  · rw [(e 25 1 (by omega) (by omega)).1]; exact h2.2 x hx
  · have q := h3 x hx
    unfold ct_C at q ⊢
    rw [(e 27 x (by omega) (by omega)).1, (e 28 x (by omega) (by omega)).1, (e 29 x (by omega) (by omega)).1, (e 30 x (by omega) (by omega)).1]
    exact q
  · rw [(e 15 4 (by omega) (by omega)).1]; exact h4
  · rw [(e 15 5 (by omega) (by omega)).1]; exact h5
theorem rc_R_same {W : Nat → Nat → Prop} (h : rc_R P S) (hs : ws_same W S Sa) (hW : ∀ q k, W q k → ¬ (57 ≤ q ∧ q ≤ 65)) : rc_R P Sa := by
  have e : ∀ q k, 57 ≤ q → q ≤ 65 → Sa.1 q k = S.1 q k := fun q k h1 h2 => (hs q k (fun w => hW q k w ⟨h1, h2⟩)).1
  obtain ⟨h1, h2, h3, h4, h5⟩ := h
  refine ⟨fun x hx => ?_, fun x hx b hb => ?_, ⟨fun k hk => ?_, fun b hb => ?_⟩, fun x hx => ?_, h5⟩
  · rw [e 58 x (by omega) (by omega)]; exact h1 x hx
  · rw [e 57 _ (by omega) (by omega)]; exact h2 x hx b hb
  · rw [e 61 k (by omega) (by omega)]; exact h3.1 k hk
  · rw [e 62 b (by omega) (by omega)]; exact h3.2 b hb
  · have q := h4 x hx
    unfold ct_R at q ⊢
    rw [e 63 x (by omega) (by omega), e 64 x (by omega) (by omega), e 65 x (by omega) (by omega)]
    exact q
theorem mg_R_same {W : Nat → Nat → Prop} (h : mg_R M S) (hs : ws_same W S Sa) (hW : ∀ q k, W q k → ¬ ((q = 47 ∧ 23 ≤ k ∧ k ≤ 25) ∨ q = 67)) : mg_R M Sa := by
  have e : ∀ q k, ((q = 47 ∧ 23 ≤ k ∧ k ≤ 25) ∨ q = 67) → Sa.1 q k = S.1 q k := fun q k h1 => (hs q k (fun w => hW q k w h1)).1
  exact ⟨(e 47 23 (by omega)).trans h.1, (e 47 24 (by omega)).trans h.2.1, (e 47 25 (by omega)).trans h.2.2.1, fun k h1 h2 => (e 67 k (by omega)).trans (h.2.2.2 k h1 h2)⟩
def lwW (q k : Nat) : Prop := (q = 47 ∧ k = 0) ∨ q = 68
theorem wI_same (h : wI P M pr S) (hs : ws_same lwW S Sa) : wI P M pr Sa := by
  obtain ⟨h1, h2, h3, h4, h5, h6, h7, h8, h9⟩ := h
  refine ⟨h1, pg_C_same h2 hs h1.1 (fun q k hq => by unfold lwW at hq; unfold pg_Cw; omega), pg_R_same h3 hs (fun q k hq => by unfold lwW at hq; omega), mg_C_same h4 hs (fun q k hq => by unfold lwW at hq; omega), mg_R_same h5 hs (fun q k hq => by unfold lwW at hq; omega), h6, ?_, ?_, fun q => ⟨rc_C_same (h9 q).1 hs (fun q k hq => by unfold lwW at hq; omega), rc_R_same (h9 q).2 hs (fun q k hq => by unfold lwW at hq; omega)⟩⟩
  · rw [(hs 0 3 (by unfold lwW; omega)).1]; exact h7
  · rw [(hs 47 12 (by unfold lwW; omega)).1]; exact h8
theorem lw_up {v : Int64} : ws_same lwW S (S.1, wm_up S.2 68 0 v) := ws_same_upL (Or.inr rfl)
theorem lw_c {v : Int32} : ws_same lwW S (wm_up S.1 47 0 v, S.2) := ws_same_up (Or.inl ⟨rfl, rfl⟩)
/-- a change of the program on both sides -/
theorem wI_new {P' : PG} (hw : pg_wf P') (h1 : pg_left P' S Sa) (h2 : ws_same (fun q _ => q = 68) Sa S1) (h3 : pg_leftR P' S1 S2) : wI P' mg_0 false S2 := by
  obtain ⟨a1, a2, a3, a4⟩ := h1
  obtain ⟨b1, b2, b3, b4, b5⟩ := h3
  have e : ws_same (fun q _ => 47 ≤ q) Sa S2 := ws_same_tr (ws_same_to h2 (fun q k hq => by omega)) (ws_same_to b5 (fun q k hq => by omega))
  refine ⟨hw, pg_C_same a1 e hw.1 (fun q k hq => by unfold pg_Cw; omega), b1, mg_C_same a2 e (fun q k hq => by omega), b2, by decide, ?_, b3, fun q => (nomatch q)⟩
  rw [(e 0 3 (by omega)).1]; exact a3
end LWA

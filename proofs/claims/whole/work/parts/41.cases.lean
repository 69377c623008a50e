/-! the law's cases -/
section LWB
variable {S : wm_S} {P : PG} {M : MG} {pr : Bool} {n i : Nat} {xs : Nat → Int32} {v5 v6 : Value}
def lwK (i : Nat) (o : wm_O) : Prop := ∃ v5 v6 S' P M pr, o = .inl (lwv i v5 v6, S') ∧ wI P M pr S'
theorem lw_R {Sa S1 : wm_S} (h : pg_R P S) (h1 : ws_same (fun q _ => q < 47) S Sa) (h2 : ws_same (fun q _ => q = 68) Sa S1) : pg_R P S1 := pg_R_same h (ws_same_tr (ws_same_to h1 (fun q k hq => Or.inl hq)) (ws_same_to h2 (fun q k hq => Or.inr hq)) : ws_same (fun q _ => q < 47 ∨ q = 68) S S1) (fun q k hq => by omega)
theorem lw_u8 {Sa : wm_S} {v : Int64} : ws_same (fun q _ => q = 68) Sa (Sa.1, wm_up Sa.2 68 0 v) := ws_same_upL rfl
theorem lw_u8v {Sa : wm_S} {v : Int64} : (Sa.1, wm_up Sa.2 68 0 v).2 68 0 = v := wm_up_same (g := Sa.2) (q := 68) (j := 0) (v := v)
theorem lw_c0 {I : Nat → Nat → Int32} {T : Nat → Nat → Int64} {v : Int32} : ((wm_up I 47 0 v, T) : wm_S).1 47 0 = v := wm_up_same (g := I) (q := 47) (j := 0) (v := v)
theorem lw_i6 {b : Int32} {v : Value} : wx_un wo_i2l (wx_i 6) (lwv i v (.int b)) S = some (b.toInt64, S) := rfl
theorem lw_b6 {b : Int32} {v : Value} : wx_cond (wx_un (fun v => wr_ne v 0) (wx_i 6)) (wx_c (1 : Int64)) (wx_c (0 : Int64)) (lwv i v (.int b)) S = some ((bif wr_ne b 0 then 1 else 0), S) := by
  show (bif wr_ne b 0 then some ((1 : Int64), S) else some ((0 : Int64), S)) = _
  exact ev_pair
theorem lw_0 (h : wI P M pr S) : wq (t_law_0 (some (n, xs)) (lwv i v5 v6) S) (lwK i) := by
  have h' := h
  obtain ⟨h1, h2, h3, -⟩ := h'
  by_cases hf : P.1.1 = 12
  · exact ⟨_, lw_tail (c := 1) rfl (e_L_block_no (e_P_block_full h2 hf) rfl) rfl (e_Z_block_full h3 hf) lw_c0 (by omega) lw_i6 (fun q => by omega), _, _, _, P, M, pr, rfl, wI_same h lw_c⟩
  · have hlt : P.1.1 < 12 := by have := h1.1; omega
    obtain ⟨⟨v, Sa⟩, e, hv, hl⟩ := e_P_block h1 h2 hlt
    dsimp only at hv hl
    subst hv
    obtain ⟨⟨v', S2⟩, e2, hv2, hl2⟩ := e_Z_block (S := (Sa.1, wm_up Sa.2 68 0 ((nI P.1.1).toInt64))) h1 (lw_R h3 hl.2.2.2 lw_u8) hlt
    dsimp only at hv2 hl2
    subst hv2
    exact ⟨_, lw_tail (c := 0) rfl (e_L_block e) rfl e2 hl2.2.2.2.1 (by omega) lw_i6 (fun _ => by rw [(hl2.2.2.2.2 68 0 (by omega)).2]; exact lw_u8v), _, _, _, pa_block P, mg_0, false, rfl, wI_new (pg_wf_block h1 hlt) hl lw_u8 hl2⟩
theorem lw_1 (hi : i + 6 ≤ n) (hn : n < 2147483648) (h : wI P M pr S) : wq (t_law_1 (some (n, xs)) (lwv i v5 v6) S) (lwK i) := by
  have h' := h
  obtain ⟨h1, h2, h3, -⟩ := h'
  have g1 : ∀ v5 v6 S, wx_si w_L (some (n, xs)) (wx_r 0) (wx_bin wo_iadd (wx_i 4) (wx_c (1 : Int32))) (lwv i v5 v6) S = some (xs (i + 1), S) := fun v5 v6 S => e_sc (j := 1) rfl (by omega) hn
  have g2 : ∀ v5 v6 S, wx_si w_L (some (n, xs)) (wx_r 0) (wx_bin wo_iadd (wx_i 4) (wx_c (2 : Int32))) (lwv i v5 v6) S = some (xs (i + 2), S) := fun v5 v6 S => e_sc (j := 2) rfl (by omega) hn
  have g3 : ∀ v5 v6 S, wx_si w_L (some (n, xs)) (wx_r 0) (wx_bin wo_iadd (wx_i 4) (wx_c (3 : Int32))) (lwv i v5 v6) S = some (xs (i + 3), S) := fun v5 v6 S => e_sc (j := 3) rfl (by omega) hn
  have g4 : ∀ v5 v6 S, wx_si w_L (some (n, xs)) (wx_r 0) (wx_bin wo_iadd (wx_i 4) (wx_c (4 : Int32))) (lwv i v5 v6) S = some (xs (i + 4), S) := fun v5 v6 S => e_sc (j := 4) rfl (by omega) hn
  have g5 : ∀ v5 v6 S, wx_si w_L (some (n, xs)) (wx_r 0) (wx_bin wo_iadd (wx_i 4) (wx_c (5 : Int32))) (lwv i v5 v6) S = some (xs (i + 5), S) := fun v5 v6 S => e_sc (j := 5) rfl (by omega) hn
  obtain ⟨x, hx⟩ : ∃ x, x = xs (i + 1) := ⟨_, rfl⟩
  obtain ⟨op, hop⟩ : ∃ x, x = xs (i + 2) := ⟨_, rfl⟩
  obtain ⟨a, ha⟩ : ∃ x, x = xs (i + 3) := ⟨_, rfl⟩
  obtain ⟨b, hb⟩ : ∃ x, x = xs (i + 4) := ⟨_, rfl⟩
  obtain ⟨c, hc⟩ : ∃ x, x = xs (i + 5) := ⟨_, rfl⟩
  rw [← hx] at g1
  rw [← hop] at g2
  rw [← ha] at g3
  rw [← hb] at g4
  rw [← hc] at g5
  have bL : ∀ v5 v6 S, (wx_ac .ref (wx_r 1) (wx_ac .int (wx_si w_L (some (n, xs)) (wx_r 0) (wx_bin wo_iadd (wx_i 4) (wx_c (1 : Int32)))) (wx_ac .int (wx_si w_L (some (n, xs)) (wx_r 0) (wx_bin wo_iadd (wx_i 4) (wx_c (2 : Int32)))) (wx_ac .int (wx_si w_L (some (n, xs)) (wx_r 0) (wx_bin wo_iadd (wx_i 4) (wx_c (3 : Int32)))) (wx_ac .int (wx_si w_L (some (n, xs)) (wx_r 0) (wx_bin wo_iadd (wx_i 4) (wx_c (4 : Int32)))) (wx_ac .int (wx_si w_L (some (n, xs)) (wx_r 0) (wx_bin wo_iadd (wx_i 4) (wx_c (5 : Int32)))) (wx_a1 .ref (wx_r 3)))))))) (lwv i v5 v6) S = some ([.ref 0, .int x, .int op, .int a, .int b, .int c, .ref 68], S) := by
    intro v5 v6 S
    simp only [wx_ac, wx_a1, wx_bind, g1, g2, g3, g4, g5]
    rfl
  have bZ : ∀ v5 v6 S, (wx_ac .ref (wx_r 2) (wx_ac .int (wx_si w_L (some (n, xs)) (wx_r 0) (wx_bin wo_iadd (wx_i 4) (wx_c (1 : Int32)))) (wx_ac .int (wx_si w_L (some (n, xs)) (wx_r 0) (wx_bin wo_iadd (wx_i 4) (wx_c (2 : Int32)))) (wx_ac .int (wx_si w_L (some (n, xs)) (wx_r 0) (wx_bin wo_iadd (wx_i 4) (wx_c (3 : Int32)))) (wx_ac .int (wx_si w_L (some (n, xs)) (wx_r 0) (wx_bin wo_iadd (wx_i 4) (wx_c (4 : Int32)))) (wx_a1 .int (wx_si w_L (some (n, xs)) (wx_r 0) (wx_bin wo_iadd (wx_i 4) (wx_c (5 : Int32)))))))))) (lwv i v5 v6) S = some ([.ref 47, .int x, .int op, .int a, .int b, .int c], S) := by
    intro v5 v6 S
    simp only [wx_ac, wx_a1, wx_bind, g1, g2, g3, g4, g5]
    rfl
  have nop : ∀ {k w : Nat}, w < 4 → w ≠ 0 → f_P_add [.ref 0, .int x, .int op, .int a, .int b, .int c] S = some (some (.retAddr k), S) → wm_lp hs_L_add k = some (nI w) → f_Z_add [.ref 47, .int x, .int op, .int a, .int b, .int c] S = some (some (.int 0), (wm_up S.1 47 0 (nI w), S.2)) → wq (t_law_1 (some (n, xs)) (lwv i v5 v6) S) (lwK i) := fun hw4 hw0 e1 e2 e3 =>
    ⟨_, lw_tail (bL _ _ _) (e_L_add_no e1 e2) (bZ _ _ _) e3 lw_c0 hw4 lw_i6 (fun q => absurd q hw0), _, _, _, P, M, pr, rfl, wI_same h lw_c⟩
  cases hb1 : pg_isb P.1.1 x with
  | false => exact nop (w := 1) (by omega) (by omega) (e_P_add_bad h1 h2 hb1) rfl (e_Z_add_no h1 h3 (Or.inl ⟨hb1, rfl⟩))
  | true =>
    cases hb2 : pg_okI op a b c with
    | false => exact nop (w := 2) (by omega) (by omega) (e_P_add_arg h1 h2 hb1 hb2) rfl (e_Z_add_no h1 h3 (Or.inr (Or.inl ⟨hb1, hb2, rfl⟩)))
    | true =>
      by_cases hm : P.1.2 = 60
      · exact nop (w := 3) (by omega) (by omega) (e_P_add_full h1 h2 hb1 hb2 hm) rfl (e_Z_add_no h1 h3 (Or.inr (Or.inr ⟨hb1, hb2, hm, rfl⟩)))
      · have hlt : P.1.2 < 60 := by have := h1.2.1; omega
        obtain ⟨y, hy, rfl⟩ := (pg_isb_iff (by have := h1.1; omega)).mp hb1
        obtain ⟨⟨v, Sa⟩, e, hv, hl⟩ := e_P_add h1 h2 hy hb2 hlt
        dsimp only at hv hl
        subst hv
        obtain ⟨⟨v', S2⟩, e2, hv2, hl2⟩ := e_Z_add (S := (Sa.1, wm_up Sa.2 68 0 ((nI P.1.2).toInt64))) h1 (lw_R h3 hl.2.2.2 lw_u8) hy hb2 hlt
        dsimp only at hv2 hl2
        subst hv2
        exact ⟨_, lw_tail (c := 0) (bL _ _ _) (e_L_add e) (bZ _ _ _) e2 hl2.2.2.2.1 (by omega) lw_i6 (fun _ => by rw [(hl2.2.2.2.2 68 0 (by omega)).2]; exact lw_u8v), _, _, _, pa_add P (nI y) op a b c, mg_0, false, rfl, wI_new (pg_wf_add h1 hy hlt hb2) hl lw_u8 hl2⟩
theorem lw_tail2 {S1 S2 : wm_S} {fL fZ : List Value → wm_S → Option (Option Value × wm_S)} {bL bZ : wm_Ex (List Value)} {c : Nat} {aL aZ : List Value}
    (h1 : bL (lwv i v5 v6) S = some (aL, S)) (h2 : fL aL S = some (some (.int (nI c)), S1)) (h3 : bZ (lwv i (.int (nI c)) v6) S1 = some (aZ, S1)) (h4 : fZ aZ S1 = some (none, S2)) (h5 : S2.1 47 0 = nI c) :
    ws_seq (ws_i 5 (wx_call wm_pi fL bL)) (ws_seq (ws_call fZ bZ) (ws_if (wx_bin wr_ne (wx_call wm_pi f_Z_thrown (wx_a1 .ref (wx_r 2))) (wx_i 5)) (ws_ret .int (wx_c (0 : Int32))))) (lwv i v5 v6) S = some (.inl (lwv i (.int (nI c)) v6, S2)) := by
  refine wq_eq ?_
  have s1 : ws_i 5 (wx_call wm_pi fL bL) (lwv i v5 v6) S = some (.inl (lwv i (.int (nI c)) v6, S1)) := by
    simp only [ws_i, wx_call, wx_bind, h1, h2, wm_pi]
    rfl
  have s2 : ws_call fZ bZ (lwv i (.int (nI c)) v6) S1 = some (.inl (lwv i (.int (nI c)) v6, S2)) := by
    simp only [ws_call, wx_bind, h3, h4]
  have e3 : wx_call wm_pi f_Z_thrown (wx_a1 .ref (wx_r 2)) (lwv i (.int (nI c)) v6) S2 = some (nI c, S2) := by
    have : wx_a1 .ref (wx_r 2) (lwv i (.int (nI c)) v6) S2 = some ([.ref 47], S2) := rfl
    simp only [wx_call, wx_bind, this, e_Z_thrown, wm_pi, h5]
  refine wq_step s1 (wq_step s2 (wq_if (t := false) ?_ (fun h => nomatch h) (fun _ => rfl)))
  have e5 : wx_i 5 (lwv i (.int (nI c)) v6) S2 = some (nI c, S2) := rfl
  have e6 : wr_ne (nI c) (nI c) = false := by unfold wr_ne; simp
  simp only [wx_bin, wx_bind, e3, e5, e6]
theorem lw_2 (hi : i + 6 ≤ n) (hn : n < 2147483648) (h : wI P M pr S) : wq (t_law_2 (some (n, xs)) (lwv i v5 v6) S) (lwK i) := by
  have h' := h
  obtain ⟨h1, h2, h3, -⟩ := h'
  have g1 : ∀ v5 v6 S, wx_si w_L (some (n, xs)) (wx_r 0) (wx_bin wo_iadd (wx_i 4) (wx_c (1 : Int32))) (lwv i v5 v6) S = some (xs (i + 1), S) := fun v5 v6 S => e_sc (j := 1) rfl (by omega) hn
  have g2 : ∀ v5 v6 S, wx_si w_L (some (n, xs)) (wx_r 0) (wx_bin wo_iadd (wx_i 4) (wx_c (2 : Int32))) (lwv i v5 v6) S = some (xs (i + 2), S) := fun v5 v6 S => e_sc (j := 2) rfl (by omega) hn
  have g3 : ∀ v5 v6 S, wx_si w_L (some (n, xs)) (wx_r 0) (wx_bin wo_iadd (wx_i 4) (wx_c (3 : Int32))) (lwv i v5 v6) S = some (xs (i + 3), S) := fun v5 v6 S => e_sc (j := 3) rfl (by omega) hn
  have g4 : ∀ v5 v6 S, wx_si w_L (some (n, xs)) (wx_r 0) (wx_bin wo_iadd (wx_i 4) (wx_c (4 : Int32))) (lwv i v5 v6) S = some (xs (i + 4), S) := fun v5 v6 S => e_sc (j := 4) rfl (by omega) hn
  have g5 : ∀ v5 v6 S, wx_si w_L (some (n, xs)) (wx_r 0) (wx_bin wo_iadd (wx_i 4) (wx_c (5 : Int32))) (lwv i v5 v6) S = some (xs (i + 5), S) := fun v5 v6 S => e_sc (j := 5) rfl (by omega) hn
  obtain ⟨x, hx⟩ : ∃ x, x = xs (i + 1) := ⟨_, rfl⟩
  obtain ⟨op, hop⟩ : ∃ x, x = xs (i + 2) := ⟨_, rfl⟩
  obtain ⟨a, ha⟩ : ∃ x, x = xs (i + 3) := ⟨_, rfl⟩
  obtain ⟨b, hb⟩ : ∃ x, x = xs (i + 4) := ⟨_, rfl⟩
  obtain ⟨c, hc⟩ : ∃ x, x = xs (i + 5) := ⟨_, rfl⟩
  rw [← hx] at g1
  rw [← hop] at g2
  rw [← ha] at g3
  rw [← hb] at g4
  rw [← hc] at g5
  have bL : ∀ v5 v6 S, (wx_ac .ref (wx_r 1) (wx_ac .int (wx_si w_L (some (n, xs)) (wx_r 0) (wx_bin wo_iadd (wx_i 4) (wx_c (1 : Int32)))) (wx_ac .int (wx_si w_L (some (n, xs)) (wx_r 0) (wx_bin wo_iadd (wx_i 4) (wx_c (2 : Int32)))) (wx_ac .int (wx_si w_L (some (n, xs)) (wx_r 0) (wx_bin wo_iadd (wx_i 4) (wx_c (3 : Int32)))) (wx_ac .int (wx_si w_L (some (n, xs)) (wx_r 0) (wx_bin wo_iadd (wx_i 4) (wx_c (4 : Int32)))) (wx_a1 .int (wx_si w_L (some (n, xs)) (wx_r 0) (wx_bin wo_iadd (wx_i 4) (wx_c (5 : Int32)))))))))) (lwv i v5 v6) S = some ([.ref 0, .int x, .int op, .int a, .int b, .int c], S) := by
    intro v5 v6 S
    simp only [wx_ac, wx_a1, wx_bind, g1, g2, g3, g4, g5]
    rfl
  have bZ : ∀ v5 v6 S, (wx_ac .ref (wx_r 2) (wx_ac .int (wx_si w_L (some (n, xs)) (wx_r 0) (wx_bin wo_iadd (wx_i 4) (wx_c (1 : Int32)))) (wx_ac .int (wx_si w_L (some (n, xs)) (wx_r 0) (wx_bin wo_iadd (wx_i 4) (wx_c (2 : Int32)))) (wx_ac .int (wx_si w_L (some (n, xs)) (wx_r 0) (wx_bin wo_iadd (wx_i 4) (wx_c (3 : Int32)))) (wx_ac .int (wx_si w_L (some (n, xs)) (wx_r 0) (wx_bin wo_iadd (wx_i 4) (wx_c (4 : Int32)))) (wx_a1 .int (wx_si w_L (some (n, xs)) (wx_r 0) (wx_bin wo_iadd (wx_i 4) (wx_c (5 : Int32)))))))))) (lwv i v5 v6) S = some ([.ref 47, .int x, .int op, .int a, .int b, .int c], S) := by
    intro v5 v6 S
    simp only [wx_ac, wx_a1, wx_bind, g1, g2, g3, g4, g5]
    rfl
  have nop : ∀ {k w : Nat}, f_P_end [.ref 0, .int x, .int op, .int a, .int b, .int c] S = some (some (.retAddr k), S) → wm_lp hs_L_end k = some (nI w) → f_Z_end [.ref 47, .int x, .int op, .int a, .int b, .int c] S = some (none, (wm_up S.1 47 0 (nI w), S.2)) → wq (t_law_2 (some (n, xs)) (lwv i v5 v6) S) (lwK i) := fun e1 e2 e3 =>
    ⟨_, lw_tail2 (bL _ _ _) (e_L_end_no e1 e2) (bZ _ _ _) e3 lw_c0, _, _, _, P, M, pr, rfl, wI_same h lw_c⟩
  cases hb1 : pg_isb P.1.1 x with
  | false => exact nop (w := 1) (e_P_end_bad h2 hb1) rfl (e_Z_end_no h1 h3 (Or.inl ⟨hb1, rfl⟩))
  | true =>
    cases hb2 : pg_okE op a b c with
    | false => exact nop (w := 2) (e_P_end_arg h2 hb1 hb2) rfl (e_Z_end_no h1 h3 (Or.inr ⟨hb1, hb2, rfl⟩))
    | true =>
      obtain ⟨y, hy, rfl⟩ := (pg_isb_iff (by have := h1.1; omega)).mp hb1
      obtain ⟨⟨v, Sa⟩, e, hv, hl⟩ := e_P_end h1 h2 hy hb2
      dsimp only at hv hl
      subst hv
      obtain ⟨⟨v', S2⟩, e2, hv2, hl2⟩ := e_Z_end (S := Sa) h1 (lw_R h3 hl.2.2.2 ws_same_rf) hy hb2
      dsimp only at hv2 hl2
      subst hv2
      exact ⟨_, lw_tail2 (c := 0) (bL _ _ _) (e_L_end e) (bZ _ _ _) e2 hl2.2.2.2.1, _, _, _, pa_end P y op a b c, mg_0, false, rfl, wI_new (pg_wf_end h1 hb2) hl ws_same_rf hl2⟩
theorem lw_3 (h : wI P M pr S) : wq (t_law_3 (some (n, xs)) (lwv i v5 v6) S) (lwK i) := by
  have h' := h
  obtain ⟨h1, h2, h3, -⟩ := h'
  obtain ⟨⟨v, Sa⟩, e, hv, hl⟩ := e_P_clear (S := S) (P := P)
  dsimp only at hv hl
  subst hv
  obtain ⟨⟨v', S2⟩, e2, hv2, hl2⟩ := e_Z_clear (S := Sa) (P := P)
  dsimp only at hv2 hl2
  subst hv2
  have hw : pg_wf (pa_none P) := ⟨Nat.zero_le _, Nat.zero_le _, fun x q => absurd q (Nat.not_lt_zero _), fun x q => absurd q (Nat.not_lt_zero _), fun x q => absurd q (Nat.not_lt_zero _)⟩
  have s1 : ws_call f_P_clear (wx_a1 .ref (wx_r 1)) (lwv i v5 v6) S = some (.inl (lwv i v5 v6, Sa)) := by
    have : wx_a1 .ref (wx_r 1) (lwv i v5 v6) S = some ([.ref 0], S) := rfl
    simp only [ws_call, wx_bind, this, e]
  have s2 : ws_call f_Z_clear (wx_a1 .ref (wx_r 2)) (lwv i v5 v6) Sa = some (.inl (lwv i v5 v6, S2)) := by
    have : wx_a1 .ref (wx_r 2) (lwv i v5 v6) Sa = some ([.ref 47], Sa) := rfl
    simp only [ws_call, wx_bind, this, e2]
  unfold t_law_3
  exact wq_step s1 ⟨_, s2, _, _, _, pa_none P, mg_0, false, rfl, wI_new hw hl ws_same_rf hl2⟩
theorem lw_4 (h : wI P M pr S) : wq (t_law_4 (some (n, xs)) (lwv i v5 v6) S) (lwK i) := by
  have h' := h
  obtain ⟨h1, h2, h3, h4, h5, h6, h7, h8, h9⟩ := h'
  by_cases hz : P.1.1 = 0
  · exact ⟨_, lw_tail (c := 1) rfl (e_L_prune_no (e_P_prune_0 h2 hz) rfl) rfl (e_Z_prune_no h1 h3 (Or.inl ⟨hz, rfl⟩)) lw_c0 (by omega) lw_i6 (fun q => by omega), _, _, _, P, M, pr, rfl, wI_same h lw_c⟩
  · have hlt : 0 < P.1.1 := by omega
    by_cases hs : gc P ∧ gs P
    · obtain ⟨⟨v, Sa⟩, e, hv, hl1, hl2, hl3⟩ := e_P_prune h1 h2 hlt hs.1 hs.2 h7 (fun q => (h9 q).1)
      dsimp only at hv hl1 hl2 hl3
      subst hv
      obtain ⟨S1, hS1⟩ : ∃ S1 : wm_S, S1 = (Sa.1, wm_up Sa.2 68 0 ((nI (P.1.2 - cN P)).toInt64)) := ⟨_, rfl⟩
      have sm1 : ws_same (fun q k => (15 ≤ q ∧ q ≤ 31) ∨ (q = 0 ∧ k = 3) ∨ q = 68) S S1 := ws_same_tr (ws_same_to hl3 (fun q k hq => by omega)) (by rw [hS1]; exact ws_same_to lw_u8 (fun q k hq => by omega))
      have hR1 : pg_R P S1 := pg_R_same h3 sm1 (fun q k hq => by omega)
      obtain ⟨⟨v', S2⟩, e2, hv2, k1, k2, k3, k4⟩ := e_Z_prune h1 hR1 hlt hs.1 hs.2
      dsimp only at hv2 k1 k2 k3 k4
      subst hv2
      have sm2 : ws_same (fun q k => (15 ≤ q ∧ q ≤ 31) ∨ (q = 0 ∧ k = 3) ∨ q = 68 ∨ (57 ≤ q ∧ q ≤ 65) ∨ (q = 47 ∧ (k = 0 ∨ k = 12))) S S2 := ws_same_tr (ws_same_to sm1 (fun q k hq => by omega)) (ws_same_to k4 (fun q k hq => by unfold zpW at hq; omega))
      have sm3 : ws_same (fun q k => q = 68 ∨ (57 ≤ q ∧ q ≤ 65) ∨ (q = 47 ∧ (k = 0 ∨ k = 12))) Sa S2 := ws_same_tr (S1 := S1) (by rw [hS1]; exact ws_same_to lw_u8 (fun q k hq => by omega)) (ws_same_to k4 (fun q k hq => by unfold zpW at hq; omega))
      refine ⟨_, lw_tail (c := 0) (S1 := S1) rfl (by rw [hS1]; exact e_L_prune e) rfl e2 k3 (by omega) lw_i6 (fun _ => by rw [(k4 68 0 (by unfold zpW; omega)).2, hS1]; exact lw_u8v), _, _, _, P, M, true, rfl, h1, pg_C_same h2 sm2 h1.1 (fun q k hq => by unfold pg_Cw; omega), pg_R_same h3 sm2 (fun q k hq => by omega), mg_C_same h4 sm2 (fun q k hq => by omega), mg_R_same h5 sm2 (fun q k hq => by omega), h6, ?_, k2, fun _ => ⟨rc_C_same hl1 sm3 (fun q k hq => by omega), k1⟩⟩
      rw [(sm3 0 3 (by omega)).1]; exact hl2
    · exact ⟨_, lw_tail (c := 2) rfl (e_L_prune_no (e_P_prune_1 h1 h2 hlt hs) rfl) rfl (e_Z_prune_no h1 h3 (Or.inr ⟨hlt, hs, rfl⟩)) lw_c0 (by omega) lw_i6 (fun q => by omega), _, _, _, P, M, pr, rfl, wI_same h lw_c⟩
theorem lw_cmp {S2 : wm_S} {fP fZ : List Value → wm_S → Option (Option Value × wm_S)} {bP bZ : wm_Ex (List Value)} {A : wm_St} {lv aP aZ : List Value} {v : Int32} (h1 : bP lv S = some (aP, S)) (h2 : fP aP S = some (some (.int v), S)) (h3 : bZ lv S = some (aZ, S)) (h4 : fZ aZ S = some (some (.int v), S2)) : ws_if (wx_bin wr_ne (wx_call wm_pi fP bP) (wx_call wm_pi fZ bZ)) A lv S = some (.inl (lv, S2)) := by
  have e6 : wr_ne v v = false := by unfold wr_ne; simp
  simp only [ws_if, wx_bin, wx_bind, wx_call, h1, h2, h3, h4, wm_pi, e6, cond_false]
theorem lw_g1 (hi : i + 6 ≤ n) (hn : n < 2147483648) : ∀ v5 v6 S, wx_si w_L (some (n, xs)) (wx_r 0) (wx_bin wo_iadd (wx_i 4) (wx_c (1 : Int32))) (lwv i v5 v6) S = some (xs (i + 1), S) := fun v5 v6 S => e_sc (j := 1) rfl (by omega) hn
theorem lw_g2 (hi : i + 6 ≤ n) (hn : n < 2147483648) : ∀ v5 v6 S, wx_si w_L (some (n, xs)) (wx_r 0) (wx_bin wo_iadd (wx_i 4) (wx_c (2 : Int32))) (lwv i v5 v6) S = some (xs (i + 2), S) := fun v5 v6 S => e_sc (j := 2) rfl (by omega) hn
theorem lw_g3 (hi : i + 6 ≤ n) (hn : n < 2147483648) : ∀ v5 v6 S, wx_si w_L (some (n, xs)) (wx_r 0) (wx_bin wo_iadd (wx_i 4) (wx_c (3 : Int32))) (lwv i v5 v6) S = some (xs (i + 3), S) := fun v5 v6 S => e_sc (j := 3) rfl (by omega) hn
theorem lw_5 (hi : i + 6 ≤ n) (hn : n < 2147483648) (h : wI P M pr S) : wq (t_law_5 (some (n, xs)) (lwv i v5 v6) S) (lwK i) := by
  have h' := h
  obtain ⟨h1, h2, h3, h4, h5, h6, h7, h8, h9⟩ := h'
  have g1 := lw_g1 (xs := xs) hi hn
  have e1 := e_P_count (x := xs (i + 1)) h7
  have e2 := e_Z_count (x := xs (i + 1)) h1 h3 h8 (fun q => (h9 q).2.2.2.2.1)
  have e3 : ev4 (xs (i + 1)) (S.1 1 0) (S.1 1 1) (bif pr then S.1 15 5 else -1) (-1) = ev4 (xs (i + 1)) (nI P.1.1) (nI P.1.2) (bif pr then nI (cJ P P.1.1) else -1) (-1) := by
    rw [h2.1, h2.2.1]
    cases q : pr with
    | false => rfl
    | true => rw [(h9 q).1.2.2.2.2.1]
  rw [e3] at e1
  unfold t_law_5
  exact ⟨_, lw_cmp (aP := [.ref 0, .int (xs (i + 1))]) (aZ := [.ref 47, .int (xs (i + 1))]) (by simp only [wx_ac, wx_a1, wx_bind, g1]; rfl) e1 (by simp only [wx_ac, wx_a1, wx_bind, g1]; rfl) e2, _, _, _, P, M, pr, rfl, wI_same h lw_c⟩
theorem lw_6 (hi : i + 6 ≤ n) (hn : n < 2147483648) (h : wI P M pr S) : wq (t_law_6 (some (n, xs)) (lwv i v5 v6) S) (lwK i) := by
  have h' := h
  obtain ⟨h1, h2, h3, h4, h5, h6, h7, h8, h9⟩ := h'
  have g1 := lw_g1 (xs := xs) hi hn
  have bL : ∀ v5 v6 S, (wx_ac .ref (wx_r 1) (wx_ac .int (wx_si w_L (some (n, xs)) (wx_r 0) (wx_bin wo_iadd (wx_i 4) (wx_c (1 : Int32)))) (wx_a1 .ref (wx_r 3)))) (lwv i v5 v6) S = some ([.ref 0, .int (xs (i + 1)), .ref 68], S) := fun v5 v6 S => by
    simp only [wx_ac, wx_a1, wx_bind, g1]; rfl
  have bZ : ∀ v5 v6 S, (wx_ac .ref (wx_r 2) (wx_a1 .int (wx_si w_L (some (n, xs)) (wx_r 0) (wx_bin wo_iadd (wx_i 4) (wx_c (1 : Int32)))))) (lwv i v5 v6) S = some ([.ref 47, .int (xs (i + 1))], S) := fun v5 v6 S => by
    simp only [wx_ac, wx_a1, wx_bind, g1]; rfl
  cases hb : (bif pr then pg_isb P.1.1 (xs (i + 1)) else false) with
  | false => exact ⟨_, lw_tail (c := 1) (bL _ _ _) (e_L_next_no (e_P_next_no h2 h7 hb) rfl) (bZ _ _ _) (e_Z_next_no h1 h3 h8 hb) lw_c0 (by omega) lw_i6 (fun q => by omega), _, _, _, P, M, pr, rfl, wI_same h lw_c⟩
  | true =>
    have hp : pr = true := by cases pr with
      | true => rfl
      | false => exact absurd hb (by simp)
    rw [hp] at h7 h8 hb
    obtain ⟨j, hj, ej⟩ := (pg_isb_iff (by have := h1.1; omega)).mp hb
    obtain ⟨r1, r2⟩ := h9 hp
    rw [ej] at bL bZ
    have ev : S.1 18 j = S.1 58 j := nx_unique r1.2.2.2.2.2.2 (r1.1 j hj).1 (r2.1 j hj)
    have e2 := e_Z_next (S := (S.1, wm_up S.2 68 0 ((S.1 18 j).toInt64))) h1 (pg_R_same (W := fun q _ => q = 68) h3 lw_u8 (fun q k hq => by omega)) h8 hj
    exact ⟨_, lw_tail (c := 0) (bL _ _ _) (e_L_next (e_P_next h1.1 h2 h7 hj)) (bZ _ _ _) e2 lw_c0 (by omega) lw_i6 (fun _ => by rw [← ev]; exact lw_u8v (Sa := S)), _, _, _, P, M, pr, rfl, wI_same h (ws_same_tr lw_up lw_c)⟩
theorem lw_12 (hi : i + 6 ≤ n) (hn : n < 2147483648) (h : wI P M pr S) : wq (t_law_12 (some (n, xs)) (lwv i v5 v6) S) (lwK i) := by
  have h' := h
  obtain ⟨h1, h2, h3, h4, h5, h6, h7, h8, h9⟩ := h'
  have g1 := lw_g1 (xs := xs) hi hn
  have bL : ∀ v5 v6 S, (wx_ac .ref (wx_r 1) (wx_ac .int (wx_si w_L (some (n, xs)) (wx_r 0) (wx_bin wo_iadd (wx_i 4) (wx_c (1 : Int32)))) (wx_a1 .ref (wx_r 3)))) (lwv i v5 v6) S = some ([.ref 0, .int (xs (i + 1)), .ref 68], S) := fun v5 v6 S => by
    simp only [wx_ac, wx_a1, wx_bind, g1]; rfl
  have bZ : ∀ v5 v6 S, (wx_ac .ref (wx_r 2) (wx_a1 .int (wx_si w_L (some (n, xs)) (wx_r 0) (wx_bin wo_iadd (wx_i 4) (wx_c (1 : Int32)))))) (lwv i v5 v6) S = some ([.ref 47, .int (xs (i + 1))], S) := fun v5 v6 S => by
    simp only [wx_ac, wx_a1, wx_bind, g1]; rfl
  cases hb : (bif pg_isb M.2.1 (xs (i + 1)) then pg_isb 50 (xs (i + 1)) else false) with
  | false => exact ⟨_, lw_tail (c := 1) (bL _ _ _) (e_L_out_no (e_P_out_no h4.2.1 hb) rfl) (bZ _ _ _) (e_Z_out_no h5.2.1 h6 hb) lw_c0 (by omega) lw_i6 (fun q => by omega), _, _, _, P, M, pr, rfl, wI_same h lw_c⟩
  | true =>
    have hb1 : pg_isb M.2.1 (xs (i + 1)) = true := by
      cases q : pg_isb M.2.1 (xs (i + 1)) with
      | true => rfl
      | false => rw [q] at hb; exact absurd hb (by simp)
    rw [hb1, cond_true] at hb
    obtain ⟨j, hj, ej⟩ := (pg_isb_iff h6).mp hb1
    rw [ej] at bL bZ hb
    have h50 : j < 50 := by
      rw [pg_isb_nI (by omega) (by omega)] at hb
      simpa using hb
    have ev : S.1 34 j = S.1 67 j := by rw [h4.2.2.2 j hj h50, h5.2.2.2 j hj h50]
    have e2 := e_Z_out (S := (S.1, wm_up S.2 68 0 ((S.1 34 j).toInt64))) h5.2.1 h6 hj h50
    exact ⟨_, lw_tail (c := 0) (bL _ _ _) (e_L_out (e_P_out h4.2.1 h6 hj h50)) (bZ _ _ _) e2 lw_c0 (by omega) lw_i6 (fun _ => by rw [← ev]; exact lw_u8v (Sa := S)), _, _, _, P, M, pr, rfl, wI_same h (ws_same_tr lw_up lw_c)⟩
theorem lw_7 (hi : i + 6 ≤ n) (hn : n < 2147483648) (h : wI P M pr S) : wq (t_law_7 (some (n, xs)) (lwv i v5 v6) S) (lwK i) := by
  have h' := h
  obtain ⟨h1, h2, h3, h4, h5, h6, h7, h8, h9⟩ := h'
  have g1 := lw_g1 (xs := xs) hi hn
  have g2 := lw_g2 (xs := xs) hi hn
  have bL : ∀ v5 v6 S, (wx_ac .ref (wx_r 1) (wx_ac .int (wx_si w_L (some (n, xs)) (wx_r 0) (wx_bin wo_iadd (wx_i 4) (wx_c (1 : Int32)))) (wx_ac .int (wx_si w_L (some (n, xs)) (wx_r 0) (wx_bin wo_iadd (wx_i 4) (wx_c (2 : Int32)))) (wx_a1 .ref (wx_r 3))))) (lwv i v5 v6) S = some ([.ref 0, .int (xs (i + 1)), .int (xs (i + 2)), .ref 68], S) := fun v5 v6 S => by
    simp only [wx_ac, wx_a1, wx_bind, g1, g2]; rfl
  have bZ : ∀ v5 v6 S, (wx_ac .ref (wx_r 2) (wx_ac .int (wx_si w_L (some (n, xs)) (wx_r 0) (wx_bin wo_iadd (wx_i 4) (wx_c (1 : Int32)))) (wx_a1 .int (wx_si w_L (some (n, xs)) (wx_r 0) (wx_bin wo_iadd (wx_i 4) (wx_c (2 : Int32))))))) (lwv i v5 v6) S = some ([.ref 47, .int (xs (i + 1)), .int (xs (i + 2))], S) := fun v5 v6 S => by
    simp only [wx_ac, wx_a1, wx_bind, g1, g2]; rfl
  cases hb : (bif (bif pr then pg_isb P.1.1 (xs (i + 1)) else false) then pg_isb P.1.1 (xs (i + 2)) else false) with
  | false => exact ⟨_, lw_tail (c := 1) (bL _ _ _) (e_L_depends_no (e_P_depends_no h2 h7 hb) rfl) (bZ _ _ _) (e_Z_depends_no h1 h3 h8 hb) lw_c0 (by omega) lw_b6 (fun q => by omega), _, _, _, P, M, pr, rfl, wI_same h lw_c⟩
  | true =>
    have e3 : ∀ a b c : Bool, (bif (bif a then b else false) then c else false) = true → a = true ∧ b = true ∧ c = true := by decide
    obtain ⟨hp, hb1, hb2⟩ := e3 _ _ _ hb
    rw [hp] at h7 h8
    obtain ⟨j, hj, ej⟩ := (pg_isb_iff (by have := h1.1; omega)).mp hb1
    obtain ⟨k, hk, ek⟩ := (pg_isb_iff (by have := h1.1; omega)).mp hb2
    obtain ⟨r1, r2⟩ := h9 hp
    rw [ej, ek] at bL bZ
    have hn12 := h1.1
    have ev : bt (S.1 19 j) k = gB (gd P j k) := by
      rw [(r1.1 j hj).2 k (by omega)]
      exact gB_cg ⟨fun q => q.2, fun q => ⟨hk, q⟩⟩
    have e2 := e_Z_depends (S := (S.1, wm_up S.2 68 0 (bif wr_ne (bif bt (S.1 19 j) k then (1 : Int32) else 0) 0 then 1 else 0))) h1 (pg_R_same (W := fun q _ => q = 68) h3 lw_u8 (fun q k hq => by omega)) r2.2.2.2.2.1 r2.2.1 h8 hj hk
    exact ⟨_, lw_tail (c := 0) (bL _ _ _) (e_L_depends (e_P_depends h1.1 h2 h7 hj hk)) (bZ _ _ _) e2 lw_c0 (by omega) lw_b6 (fun _ => by rw [← ev]; exact lw_u8v (Sa := S)), _, _, _, P, M, pr, rfl, wI_same h (ws_same_tr lw_up lw_c)⟩
theorem lw_8 (hi : i + 6 ≤ n) (hn : n < 2147483648) (h : wI P M pr S) : wq (t_law_8 (some (n, xs)) (lwv i v5 v6) S) (lwK i) := by
  have h' := h
  obtain ⟨h1, h2, h3, h4, h5, h6, h7, h8, h9⟩ := h'
  have g1 := lw_g1 (xs := xs) hi hn
  have bL : ∀ v5 v6 S, (wx_ac .ref (wx_r 1) (wx_ac .int (wx_si w_L (some (n, xs)) (wx_r 0) (wx_bin wo_iadd (wx_i 4) (wx_c (1 : Int32)))) (wx_a1 .ref (wx_r 3)))) (lwv i v5 v6) S = some ([.ref 0, .int (xs (i + 1)), .ref 68], S) := fun v5 v6 S => by
    simp only [wx_ac, wx_a1, wx_bind, g1]; rfl
  have bZ : ∀ v5 v6 S, (wx_ac .ref (wx_r 2) (wx_a1 .int (wx_si w_L (some (n, xs)) (wx_r 0) (wx_bin wo_iadd (wx_i 4) (wx_c (1 : Int32)))))) (lwv i v5 v6) S = some ([.ref 47, .int (xs (i + 1))], S) := fun v5 v6 S => by
    simp only [wx_ac, wx_a1, wx_bind, g1]; rfl
  cases hb : (bif pr then pg_isb P.1.2 (xs (i + 1)) else false) with
  | false => exact ⟨_, lw_tail (c := 1) (bL _ _ _) (e_L_needed_no (e_P_needed_no h1 h2 h7 hb) rfl) (bZ _ _ _) (e_Z_needed_no h1 h3 h8 hb) lw_c0 (by omega) lw_b6 (fun q => by omega), _, _, _, P, M, pr, rfl, wI_same h lw_c⟩
  | true =>
    have e3 : ∀ a b : Bool, (bif a then b else false) = true → a = true ∧ b = true := by decide
    obtain ⟨hp, hb1⟩ := e3 _ _ hb
    rw [hp] at h7 h8
    obtain ⟨j, hj, ej⟩ := (pg_isb_iff (by have := h1.2.1; omega)).mp hb1
    obtain ⟨r1, r2⟩ := h9 hp
    rw [ej] at bL bZ
    have hm60 := h1.2.1
    have ev : bl (S.2 25 0) j = gB (j < P.1.2 ∧ gNI P j) := r1.2.1.1 j (by omega)
    have e2 := e_Z_needed (t := gB (j < P.1.2 ∧ gNI P j)) (S := (S.1, wm_up S.2 68 0 (bif wr_ne (bif bl (S.2 25 0) j then (1 : Int32) else 0) 0 then 1 else 0))) h1 (pg_R_same (W := fun q _ => q = 68) h3 lw_u8 (fun q k hq => by omega)) h8 hj (r2.2.2.1.1 j (by omega))
    exact ⟨_, lw_tail (c := 0) (bL _ _ _) (e_L_needed (e_P_needed h1 h2 h7 hj)) (bZ _ _ _) e2 lw_c0 (by omega) lw_b6 (fun _ => by rw [← ev]; exact lw_u8v (Sa := S)), _, _, _, P, M, pr, rfl, wI_same h (ws_same_tr lw_up lw_c)⟩
theorem lw_9 (hi : i + 6 ≤ n) (hn : n < 2147483648) (h : wI P M pr S) : wq (t_law_9 (some (n, xs)) (lwv i v5 v6) S) (lwK i) := by
  have h' := h
  obtain ⟨h1, h2, h3, h4, h5, h6, h7, h8, h9⟩ := h'
  have g1 := lw_g1 (xs := xs) hi hn
  have g2 := lw_g2 (xs := xs) hi hn
  have bL : ∀ v5 v6 S, (wx_ac .ref (wx_r 1) (wx_ac .int (wx_si w_L (some (n, xs)) (wx_r 0) (wx_bin wo_iadd (wx_i 4) (wx_c (1 : Int32)))) (wx_ac .int (wx_si w_L (some (n, xs)) (wx_r 0) (wx_bin wo_iadd (wx_i 4) (wx_c (2 : Int32)))) (wx_a1 .ref (wx_r 3))))) (lwv i v5 v6) S = some ([.ref 0, .int (xs (i + 1)), .int (xs (i + 2)), .ref 68], S) := fun v5 v6 S => by
    simp only [wx_ac, wx_a1, wx_bind, g1, g2]; rfl
  have bZ : ∀ v5 v6 S, (wx_ac .ref (wx_r 2) (wx_ac .int (wx_si w_L (some (n, xs)) (wx_r 0) (wx_bin wo_iadd (wx_i 4) (wx_c (1 : Int32)))) (wx_a1 .int (wx_si w_L (some (n, xs)) (wx_r 0) (wx_bin wo_iadd (wx_i 4) (wx_c (2 : Int32))))))) (lwv i v5 v6) S = some ([.ref 47, .int (xs (i + 1)), .int (xs (i + 2))], S) := fun v5 v6 S => by
    simp only [wx_ac, wx_a1, wx_bind, g1, g2]; rfl
  cases hb : (bif (bif pr then pg_isb P.1.1 (xs (i + 1)) else false) then pg_isb 3 (xs (i + 2)) else false) with
  | false => exact ⟨_, lw_tail (c := 1) (bL _ _ _) (e_L_ends_no (e_P_ends_no h2 h7 hb) rfl) (bZ _ _ _) (e_Z_ends_no h1 h3 h8 hb) lw_c0 (by omega) lw_i6 (fun q => by omega), _, _, _, P, M, pr, rfl, wI_same h lw_c⟩
  | true =>
    have e3 : ∀ a b c : Bool, (bif (bif a then b else false) then c else false) = true → a = true ∧ b = true ∧ c = true := by decide
    obtain ⟨hp, hb1, hb2⟩ := e3 _ _ _ hb
    rw [hp] at h7 h8
    obtain ⟨j, hj, ej⟩ := (pg_isb_iff (by have := h1.1; omega)).mp hb1
    obtain ⟨w, hw, ew⟩ := (pg_isb_iff (by omega)).mp hb2
    obtain ⟨r1, r2⟩ := h9 hp
    rw [ej, ew] at bL bZ
    obtain ⟨u1, u2, u3⟩ := ct_unique r1.2.2.2.2.2.2 (r1.2.2.1 j hj).1 (r2.2.2.2.1 j hj)
    have ev : ev3 w (S.1 27 j) (S.1 29 j) (S.1 30 j) = ev3 w (S.1 63 j) (S.1 64 j) (S.1 65 j) := by rw [u1, u2, u3]
    have e2 := e_Z_ends (S := (S.1, wm_up S.2 68 0 ((ev3 w (S.1 27 j) (S.1 29 j) (S.1 30 j)).toInt64))) h1 (pg_R_same (W := fun q _ => q = 68) h3 lw_u8 (fun q k hq => by omega)) h8 hj hw
    exact ⟨_, lw_tail (c := 0) (bL _ _ _) (e_L_ends (e_P_ends h1.1 h2 h7 hj hw)) (bZ _ _ _) e2 lw_c0 (by omega) lw_i6 (fun _ => by rw [← ev]; exact lw_u8v (Sa := S)), _, _, _, P, M, pr, rfl, wI_same h (ws_same_tr lw_up lw_c)⟩
theorem lw_11 (hi : i + 6 ≤ n) (hn : n < 2147483648) (h : wI P M pr S) : wq (t_law_11 (some (n, xs)) (lwv i v5 v6) S) (lwK i) := by
  have h' := h
  obtain ⟨h1, h2, h3, h4, h5, h6, h7, h8, h9⟩ := h'
  have g1 := lw_g1 (xs := xs) hi hn
  have e1 := e_P_ran (S := S) (x := xs (i + 1))
  have e2 := e_Z_ran (S := S) (x := xs (i + 1))
  rw [h4.1, h4.2.1, h4.2.2.1] at e1
  rw [h5.1, h5.2.1, h5.2.2.1] at e2
  unfold t_law_11
  exact ⟨_, lw_cmp (aP := [.ref 0, .int (xs (i + 1))]) (aZ := [.ref 47, .int (xs (i + 1))]) (by simp only [wx_ac, wx_a1, wx_bind, g1]; rfl) e1 (by simp only [wx_ac, wx_a1, wx_bind, g1]; rfl) e2, _, _, _, P, M, pr, rfl, wI_same h lw_c⟩
end LWB

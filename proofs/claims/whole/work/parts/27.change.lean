/-! a new block, a new instruction, a new end, an empty program: on the class's side -/
section PGU
variable {S : wm_S} {n : Nat}
def pa_end (P : PG) (x : Nat) (kd a b c : Int32) : PG := (P.1, wm_up (wm_up (wm_up (wm_up P.2 0 x kd) 1 x (pe_r kd a)) 2 x (pe_f kd b)) 3 x (pe_s kd c))
def pa_block (P : PG) : PG := ((P.1.1 + 1, P.1.2), (pa_end P P.1.1 0 0 (-1) (-1)).2)
def pa_add (P : PG) (x op a b c : Int32) : PG := ((P.1.1, P.1.2 + 1), wm_up (wm_up (wm_up (wm_up (wm_up P.2 4 P.1.2 op) 5 P.1.2 a) 6 P.1.2 b) 7 P.1.2 c) 8 P.1.2 x)
def pa_none (P : PG) : PG := ((0, 0), P.2)
def mg_0 : MG := (0, 0, 0, fun _ => 0)
theorem pe_ok {kd a b c : Int32} (h : pg_okE kd a b c = true) : pg_end kd (pe_r kd a) (pe_f kd b) (pe_s kd c) := by
  unfold pg_okE wr_eq at h
  unfold pg_end pe_r pe_f pe_s wr_eq
  have r0 : pg_reg 0 := ⟨0, by omega, rfl⟩
  by_cases h0 : kd = 0
  · subst h0
    simp at h
    have := pg_isb8.mp h
    exact ⟨by simpa using this, Or.inl ⟨rfl, rfl, rfl⟩⟩
  · by_cases h1 : kd = 1
    · subst h1
      simp at h
      exact ⟨r0, Or.inr (Or.inl ⟨rfl, rfl, by simpa using pg_isb12.mp h, rfl⟩)⟩
    · by_cases h2 : kd = 2
      · subst h2
        simp at h
        exact ⟨by simpa using pg_isb8.mp h.1.1, Or.inr (Or.inr ⟨rfl, by simpa using pg_isb12.mp h.1.2, by simpa using pg_isb12.mp h.2⟩)⟩
      · simp [h0, h1, h2] at h
theorem pg_wf_end {P : PG} {x : Nat} {kd a b c : Int32} (h : pg_wf P) (ho : pg_okE kd a b c = true) : pg_wf (pa_end P x kd a b c) := by
  obtain ⟨h1, h2, h3, h4, h5⟩ := h
  refine ⟨h1, h2, fun y hy => ?_, fun k hk => ?_, fun k hk => ?_⟩
  · by_cases e : y = x
    · subst e
      have := pe_ok ho
      simpa [pa_end, wm_up] using this
    · have := h3 y hy
      simpa [pa_end, wm_up, e] using this
  · have := h4 k hk
    simpa [pa_end, wm_up] using this
  · have := h5 k hk
    simpa [pa_end, wm_up] using this
theorem pg_wf_block {P : PG} (h : pg_wf P) (hn : P.1.1 < 12) : pg_wf (pa_block P) := by
  have h' := pg_wf_end (x := P.1.1) (kd := 0) (a := 0) (b := -1) (c := -1) h (by decide)
  obtain ⟨h1, h2, h3, h4, h5⟩ := h'
  refine ⟨hn, h2, fun y hy => ?_, h4, fun k hk => ?_⟩
  · by_cases e : y = P.1.1
    · subst e
      have := pe_ok (kd := 0) (a := 0) (b := -1) (c := -1) (by decide)
      simpa [pa_block, pa_end, wm_up] using this
    · have hy' : y < P.1.1 + 1 := hy
      exact h3 y (by show y < P.1.1; omega)
  · obtain ⟨q, q1, q2⟩ := h5 k hk
    exact ⟨q, Nat.lt_succ_of_lt q1, q2⟩
theorem pg_wf_add {P : PG} {x : Nat} {op a b c : Int32} (h : pg_wf P) (hx : x < P.1.1) (hm : P.1.2 < 60) (ho : pg_okI op a b c = true) : pg_wf (pa_add P (nI x) op a b c) := by
  obtain ⟨h1, h2, h3, h4, h5⟩ := h
  refine ⟨h1, hm, fun y hy => ?_, fun k hk => ?_, fun k hk => ?_⟩
  · have := h3 y hy
    simpa [pa_add, wm_up] using this
  · by_cases e : k = P.1.2
    · subst e
      have := pg_okI_iff.mp ho
      simpa [pa_add, wm_up] using this
    · have hk' : k < P.1.2 + 1 := hk
      have := h4 k (by omega)
      simpa [pa_add, wm_up, e] using this
  · by_cases e : k = P.1.2
    · subst e
      exact ⟨x, hx, by simp [pa_add, wm_up]⟩
    · have hk' : k < P.1.2 + 1 := hk
      obtain ⟨q, q1, q2⟩ := h5 k (by omega)
      exact ⟨q, q1, by simpa [pa_add, wm_up, e] using q2⟩
theorem pg_row_le {P : PG} {x : Nat} : (pg_row P x).length ≤ P.1.2 := by
  unfold pg_row
  have := List.length_filter_le (fun k => decide (P.2 8 k = nI x)) (List.range P.1.2)
  simpa using this
theorem pg_row_end {P : PG} {x y : Nat} {kd a b c : Int32} : pg_row (pa_end P x kd a b c) y = pg_row P y := by
  unfold pg_row pa_end
  simp [wm_up]
theorem pg_row_new {P : PG} (h : pg_wf P) {y : Nat} (hy : P.1.1 ≤ y) (hy2 : y < 2147483648) : pg_row P y = [] := by
  unfold pg_row
  rw [List.filter_eq_nil_iff]
  intro k hk
  obtain ⟨q, q1, q2⟩ := h.2.2.2.2 k (List.mem_range.mp hk)
  have := h.1
  rw [q2, decide_eq_true_eq]
  intro e
  have := (nI_eq (a := q) (b := y) (by omega) (by omega)).mp e
  omega
theorem pg_row_add {P : PG} {x y : Nat} {op a b c : Int32} (hx : x < 2147483648) (hy : y < 2147483648) : pg_row (pa_add P (nI x) op a b c) y = pg_row P y ++ (if x = y then [P.1.2] else []) := by
  unfold pg_row
  show (List.range (P.1.2 + 1)).filter (fun k => decide ((pa_add P (nI x) op a b c).2 8 k = nI y)) = _
  rw [List.range_succ, List.filter_append]
  congr 1
  · apply List.filter_congr
    intro k hk
    have := List.mem_range.mp hk
    have e : ¬ k = P.1.2 := by omega
    simp [pa_add, wm_up, e]
  · by_cases e : x = y
    · subst e
      simp [pa_add, wm_up]
    · have : ¬ nI x = nI y := fun q => e ((nI_eq hx hy).mp q)
      simp [pa_add, wm_up, this, e]
theorem e_P_forgetResults : wq (f_P_forgetResults [.ref 0] S) (fun r => r.1 = none ∧ r.2.1 0 3 = 0 ∧ mg_C mg_0 r.2 ∧ ws_same (fun q k => q = 33 ∨ (q = 32 ∧ 2 ≤ k) ∨ (q = 0 ∧ k = 3)) S r.2) := by
  refine wq_fn rfl rfl rfl ?_
  show wq (t_P_forgetResults [.ref 0] S) _
  unfold t_P_forgetResults
  obtain ⟨L, N, M1, M2, hL, hN0, hF, hA, hR, hN, hM1, hM2⟩ := w_ex; (try simp only [hL, hN0])
  refine wq_step (by simp (disch := first | omega | decide) only [wx_bind, wx_i, wx_l, wx_r, wx_c, wx_bin, wx_un, wx_div, wx_rem, kx_fi, wx_fl, kx_fr, wf3_4, wf3_5, wf3_6, wf3_7, wf3_8, wf3_9, wf3_10, wf3_11, wf3_12, wf3_13, wf3_14, wf3_15, wf3_16, wf3_17, wf3_18, wf3_19, wf3_20, wf3_21, wf3_22, wf3_23, wf3_24, wf3_25, wf3_26, wf3_27, wf3_28, wf3_29, wf3_30, wf3_31, wf3_32, wf3_33, wf3_34, wf3_35, wf3_36, wf3_37, wf3_38, wf3_39, wf3_40, wf3_41, wf3_42, wf3_43, wf3_44, wf3_45, wf3_46, wf3_47, wf3_48, wf3_49, wf3_50, wf3_51, wf3_52, wf3_53, wf3_54, wf3_55, wf3_56, wf3_57, wf3_58, wf3_59, wf3_60, wf3_61, wf3_62, wf3_63, wf3_64, wf3_65, wf3_66, wf3_67, wf3_68, wf3_69, wf3_70, kx_ai, kx_al, kx_ar, wx_cond, wx_a1, wx_ac, wx_call, wm_pi, wm_pl, wb_and, wb_or, wb_not, ws_seq, ws_i, ws_l, ws_inc, ks_fi, ws_fl, ws_ofi, ws_ofl, ks_ai, ks_az, ks_al, ks_oai, ks_oal, wk_in, wk_in0, wz_0, wz_1, wz_b, wf0_0, wf0_2, ws_call, ws_if, ws_ife, ws_ret, ws_skip, ws_retv, ws_thr, wo_iadd, wo_isub, wo_imul, wo_iand, wo_ior, wo_ixor, wo_ishl, wo_ishr, wo_iushr, wo_ladd, wo_lsub, wo_land, wo_lor, wo_lxor, wo_lshl, wo_lushr, wo_i2l, wo_l2i, List.getElem?_cons_zero, List.getElem?_cons_succ, List.length_cons, List.length_nil, wm_st, wm_st2, List.set_cons_zero, List.set_cons_succ, hF, hA, hR, ev_cl, ev_cl0, ev_lt, ev_ge, ev_gt, ev_le, ev_eqn, ev_nen, ev_ltc, ev_gec, ev_gtc, ev_lec, ev_eqc, ev_nec, ev_pair, ev_pairL, ev_b0, ev_b1, Bool.not_not, ev_sw,  cond_true, cond_false, nI_1, Nat.zero_add, Nat.reduceAdd, Nat.reduceLT, if_true, ite_true, if_false, ite_false, reduceIte, wm_up_same, wm_up_qne, wm_up_kne] <;> rfl) (wq_seq.mpr (wq_call (by simp (disch := first | omega | decide) only [wx_bind, wx_i, wx_l, wx_r, wx_c, wx_bin, wx_un, wx_div, wx_rem, kx_fi, wx_fl, kx_fr, wf3_4, wf3_5, wf3_6, wf3_7, wf3_8, wf3_9, wf3_10, wf3_11, wf3_12, wf3_13, wf3_14, wf3_15, wf3_16, wf3_17, wf3_18, wf3_19, wf3_20, wf3_21, wf3_22, wf3_23, wf3_24, wf3_25, wf3_26, wf3_27, wf3_28, wf3_29, wf3_30, wf3_31, wf3_32, wf3_33, wf3_34, wf3_35, wf3_36, wf3_37, wf3_38, wf3_39, wf3_40, wf3_41, wf3_42, wf3_43, wf3_44, wf3_45, wf3_46, wf3_47, wf3_48, wf3_49, wf3_50, wf3_51, wf3_52, wf3_53, wf3_54, wf3_55, wf3_56, wf3_57, wf3_58, wf3_59, wf3_60, wf3_61, wf3_62, wf3_63, wf3_64, wf3_65, wf3_66, wf3_67, wf3_68, wf3_69, wf3_70, kx_ai, kx_al, kx_ar, wx_cond, wx_a1, wx_ac, wx_call, wm_pi, wm_pl, wb_and, wb_or, wb_not, ws_seq, ws_i, ws_l, ws_inc, ks_fi, ws_fl, ws_ofi, ws_ofl, ks_ai, ks_az, ks_al, ks_oai, ks_oal, wk_in, wk_in0, wz_0, wz_1, wz_b, wf0_0, wf0_2, ws_call, ws_if, ws_ife, ws_ret, ws_skip, ws_retv, ws_thr, wo_iadd, wo_isub, wo_imul, wo_iand, wo_ior, wo_ixor, wo_ishl, wo_ishr, wo_iushr, wo_ladd, wo_lsub, wo_land, wo_lor, wo_lxor, wo_lshl, wo_lushr, wo_i2l, wo_l2i, List.getElem?_cons_zero, List.getElem?_cons_succ, List.length_cons, List.length_nil, wm_st, wm_st2, List.set_cons_zero, List.set_cons_succ, hF, hA, hR, ev_cl, ev_cl0, ev_lt, ev_ge, ev_gt, ev_le, ev_eqn, ev_nen, ev_ltc, ev_gec, ev_gtc, ev_lec, ev_eqc, ev_nec, ev_pair, ev_pairL, ev_b0, ev_b1, Bool.not_not, ev_sw,  cond_true, cond_false, nI_1, Nat.zero_add, Nat.reduceAdd, Nat.reduceLT, if_true, ite_true, if_false, ite_false, reduceIte, wm_up_same, wm_up_qne, wm_up_kne] <;> rfl) (wq_mono e_M_begin ?_)))
  rintro ⟨v, S1⟩ ⟨h0, h1, h2, h3, h4, -, -, -, h5⟩
  refine ⟨h0, _, rfl, rfl, rfl, ?_, ⟨h2, h3, h4, fun k h => absurd h (Nat.not_lt_zero _)⟩, ?_⟩
  · rw [(h5 0 3 (by omega)).1]
    simp [wm_up]
  · exact ws_same_tr (ws_same_up (Or.inr (Or.inr ⟨rfl, rfl⟩))) (ws_same_to h5 (fun q k h => h.elim Or.inl (fun h => Or.inr (Or.inl h))))
theorem e_G_openBlock (hn : S.1 1 0 = nI n) (h : n < 12) : f_G_openBlock [.ref 1] S = some (some (.int (nI n)), (wm_up (pe_S 10 n 0 0 (-1) (-1) (wm_up S.1 7 n 0, S.2)).1 1 0 (nI (n + 1)), S.2)) := by
  refine wq_eq (wq_fn rfl rfl rfl ?_)
  show wq (t_G_openBlock [.ref 1, .retAddr 0] S) _
  unfold t_G_openBlock
  obtain ⟨L, N, M1, M2, hL, hN0, hF, hA, hR, hN, hM1, hM2⟩ := w_ex; (try simp only [hL, hN0])
  refine wq_rets (by simp (disch := first | omega | decide) only [wx_bind, wx_i, wx_l, wx_r, wx_c, wx_bin, wx_un, wx_div, wx_rem, kx_fi, wx_fl, kx_fr, wf3_4, wf3_5, wf3_6, wf3_7, wf3_8, wf3_9, wf3_10, wf3_11, wf3_12, wf3_13, wf3_14, wf3_15, wf3_16, wf3_17, wf3_18, wf3_19, wf3_20, wf3_21, wf3_22, wf3_23, wf3_24, wf3_25, wf3_26, wf3_27, wf3_28, wf3_29, wf3_30, wf3_31, wf3_32, wf3_33, wf3_34, wf3_35, wf3_36, wf3_37, wf3_38, wf3_39, wf3_40, wf3_41, wf3_42, wf3_43, wf3_44, wf3_45, wf3_46, wf3_47, wf3_48, wf3_49, wf3_50, wf3_51, wf3_52, wf3_53, wf3_54, wf3_55, wf3_56, wf3_57, wf3_58, wf3_59, wf3_60, wf3_61, wf3_62, wf3_63, wf3_64, wf3_65, wf3_66, wf3_67, wf3_68, wf3_69, wf3_70, kx_ai, kx_al, kx_ar, wx_cond, wx_a1, wx_ac, wx_call, wm_pi, wm_pl, wb_and, wb_or, wb_not, ws_seq, ws_i, ws_l, ws_inc, ks_fi, ws_fl, ws_ofi, ws_ofl, ks_ai, ks_az, ks_al, ks_oai, ks_oal, wk_in, wk_in0, wz_0, wz_1, wz_b, wf0_0, wf0_2, ws_call, ws_if, ws_ife, ws_ret, ws_skip, ws_retv, ws_thr, wo_iadd, wo_isub, wo_imul, wo_iand, wo_ior, wo_ixor, wo_ishl, wo_ishr, wo_iushr, wo_ladd, wo_lsub, wo_land, wo_lor, wo_lxor, wo_lshl, wo_lushr, wo_i2l, wo_l2i, List.getElem?_cons_zero, List.getElem?_cons_succ, List.length_cons, List.length_nil, wm_st, wm_st2, List.set_cons_zero, List.set_cons_succ, hF, hA, hR, ev_cl, ev_cl0, ev_lt, ev_ge, ev_gt, ev_le, ev_eqn, ev_nen, ev_ltc, ev_gec, ev_gtc, ev_lec, ev_eqc, ev_nec, ev_pair, ev_pairL, ev_b0, ev_b1, Bool.not_not, ev_sw,  cond_true, cond_false, nI_1, Nat.zero_add, Nat.reduceAdd, Nat.reduceLT, if_true, ite_true, if_false, ite_false, reduceIte, wm_up_same, wm_up_qne, wm_up_kne, hn, e_E_put9, pe_S] <;> rfl) ⟨rfl, rfl⟩
theorem e_G_append {x m l : Nat} {op a b c : Int32} (hm : S.1 1 1 = nI m) (h : m < 60) (hx : x < 12) (hl : S.1 7 x = nI l) (h2 : l < 60) : f_G_append [.ref 1, .int (nI x), .int op, .int a, .int b, .int c] S = some (some (.int (nI m)), (wm_up (wm_up (wm_up (wm_up (wm_up (wm_up (wm_up (wm_up S.1 2 m op) 3 m a) 4 m b) 5 m c) 6 m (nI x)) (35 + x) l (nI m)) 7 x (nI (l + 1))) 1 1 (nI (m + 1)), S.2)) := by
  refine wq_eq (wq_fn rfl rfl rfl ?_)
  show wq (t_G_append [.ref 1, .int (nI x), .int op, .int a, .int b, .int c, .retAddr 0] S) _
  unfold t_G_append
  obtain ⟨L, N, M1, M2, hL, hN0, hF, hA, hR, hN, hM1, hM2⟩ := w_ex; (try simp only [hL, hN0])
  refine wq_rets (by simp (disch := first | omega | decide) only [wx_bind, wx_i, wx_l, wx_r, wx_c, wx_bin, wx_un, wx_div, wx_rem, kx_fi, wx_fl, kx_fr, wf3_4, wf3_5, wf3_6, wf3_7, wf3_8, wf3_9, wf3_10, wf3_11, wf3_12, wf3_13, wf3_14, wf3_15, wf3_16, wf3_17, wf3_18, wf3_19, wf3_20, wf3_21, wf3_22, wf3_23, wf3_24, wf3_25, wf3_26, wf3_27, wf3_28, wf3_29, wf3_30, wf3_31, wf3_32, wf3_33, wf3_34, wf3_35, wf3_36, wf3_37, wf3_38, wf3_39, wf3_40, wf3_41, wf3_42, wf3_43, wf3_44, wf3_45, wf3_46, wf3_47, wf3_48, wf3_49, wf3_50, wf3_51, wf3_52, wf3_53, wf3_54, wf3_55, wf3_56, wf3_57, wf3_58, wf3_59, wf3_60, wf3_61, wf3_62, wf3_63, wf3_64, wf3_65, wf3_66, wf3_67, wf3_68, wf3_69, wf3_70, kx_ai, kx_al, kx_ar, wx_cond, wx_a1, wx_ac, wx_call, wm_pi, wm_pl, wb_and, wb_or, wb_not, ws_seq, ws_i, ws_l, ws_inc, ks_fi, ws_fl, ws_ofi, ws_ofl, ks_ai, ks_az, ks_al, ks_oai, ks_oal, wk_in, wk_in0, wz_0, wz_1, wz_b, wf0_0, wf0_2, ws_call, ws_if, ws_ife, ws_ret, ws_skip, ws_retv, ws_thr, wo_iadd, wo_isub, wo_imul, wo_iand, wo_ior, wo_ixor, wo_ishl, wo_ishr, wo_iushr, wo_ladd, wo_lsub, wo_land, wo_lor, wo_lxor, wo_lshl, wo_lushr, wo_i2l, wo_l2i, List.getElem?_cons_zero, List.getElem?_cons_succ, List.length_cons, List.length_nil, wm_st, wm_st2, List.set_cons_zero, List.set_cons_succ, hF, hA, hR, ev_cl, ev_cl0, ev_lt, ev_ge, ev_gt, ev_le, ev_eqn, ev_nen, ev_ltc, ev_gec, ev_gtc, ev_lec, ev_eqc, ev_nec, ev_pair, ev_pairL, ev_b0, ev_b1, Bool.not_not, ev_sw,  cond_true, cond_false, nI_1, Nat.zero_add, Nat.reduceAdd, Nat.reduceLT, if_true, ite_true, if_false, ite_false, reduceIte, wm_up_same, wm_up_qne, wm_up_kne, hm, hl] <;> rfl) ⟨rfl, rfl⟩
end PGU

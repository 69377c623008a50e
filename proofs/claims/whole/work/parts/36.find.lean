/-! passOn and find of Sources -/
section PGJ
variable {S : wm_S} {P : PG}
def gCl (P : PG) (T : Nat → Nat → Int64) (i : Nat) : Prop := ∀ b s, b < P.1.1 → s < P.1.1 → gE P b s → gJ P (fun z => bl (T 22 z) i = true) i b → bl (T 22 s) i = true
def us_in (P : PG) (T : Nat → Nat → Int64) : Prop := ∀ x, x < P.1.1 → ∀ i, i < 64 → bl (T 22 x) i = true → i < P.1.2 ∧ gsb P i ≠ -1 ∧ gX P i x
def us_up (P : PG) (T T1 : Nat → Nat → Int64) : Prop := ∀ z, z < P.1.1 → ∀ i, i < 64 → bl (T 22 z) i = true → bl (T1 22 z) i = true
def us_st (P : PG) (T T1 : Nat → Nat → Int64) : Prop := ∀ i, i < 64 → gCl P T i → ∀ z, z < P.1.1 → bl (T1 22 z) i = true → bl (T 22 z) i = true
def us_go (P : PG) (T T1 : Nat → Nat → Int64) (x y : Nat) : Prop := gE P x y → ∀ i, i < P.1.2 → gsb P i ≠ -1 → gJ P (fun z => bl (T 22 z) i = true) i x → bl (T1 22 y) i = true
def us_cm (P : PG) (T T1 : Nat → Nat → Int64) (x : Nat) : Prop := (∀ k, k < P.1.2 → P.2 8 k = nI x → ∀ i, i < 64 → bl (T1 23 k) i = gB (gt_I P x (fun i => bl (T 22 x) i = true) k i)) ∧ ∀ i, i < 64 → bl (T1 24 x) i = gB (gt_E P x (fun i => bl (T 22 x) i = true) i)
def us_nw (P : PG) (T T1 : Nat → Nat → Int64) : Prop := ∃ i, i < 64 ∧ ∃ z, z < P.1.1 ∧ bl (T1 22 z) i = true ∧ bl (T 22 z) i = false
def us_fr (T T1 : Nat → Nat → Int64) : Prop := ∀ q k, q ≠ 22 → q ≠ 23 → q ≠ 24 → T1 q k = T q k
def us_I (P : PG) (T : Nat → Nat → Int64) (t : Bool) (T1 : Nat → Nat → Int64) (m : Nat) (G : Nat → Nat → Prop) : Prop := us_ok P T1 ∧ us_in P T1 ∧ us_up P T T1 ∧ us_st P T T1 ∧ (∀ x y, G x y → us_go P T T1 x y) ∧ (t = false → (∀ z, z < P.1.1 → T1 22 z = T 22 z) ∧ ∀ x, x < m → us_cm P T T1 x) ∧ (t = true → us_nw P T T1) ∧ us_fr T T1
theorem e_U_passOn (hw : pg_wf P) (h : pg_C P S) {T : Nat → Nat → Int64} (hu : us_ok P T) (hin : us_in P T) : ∃ t T', f_U_passOn [.ref 20, .ref 1] (S.1, T) = some (some (.int (bif t then 1 else 0)), (S.1, T')) ∧ us_I P T t T' P.1.1 (fun x y => x < P.1.1 ∧ y < P.1.1) := by
  suffices hq : wq (f_U_passOn [.ref 20, .ref 1] (S.1, T)) (fun z => ∃ t T', z = (some (.int (bif t then 1 else 0)), (S.1, T')) ∧ us_I P T t T' P.1.1 (fun x y => x < P.1.1 ∧ y < P.1.1)) by
    obtain ⟨z, e, t, T', rfl, hb⟩ := hq
    exact ⟨t, T', e, hb⟩
  refine wq_fn rfl rfl rfl ?_
  show wq (t_U_passOn [.ref 20, .ref 1, .retAddr 0, .retAddr 0, .retAddr 0, .retAddr 0, .retAddr 0, .retAddr 0] (S.1, T)) _
  unfold t_U_passOn
  obtain ⟨L, N, M1, M2, hL, hN0, hF, hA, hR, hN, hM1, hM2⟩ := w_ex; (try simp only [hL, hN0])
  have hn := hw.1
  have hm := hw.2.1
  have h1 := h.1
  refine wq_step (by simp (disch := first | omega | decide) only [wx_bind, wx_i, wx_l, wx_r, wx_c, wx_bin, wx_un, wx_div, wx_rem, kx_fi, wx_fl, kx_fr, wf3_4, wf3_5, wf3_6, wf3_7, wf3_8, wf3_9, wf3_10, wf3_11, wf3_12, wf3_13, wf3_14, wf3_15, wf3_16, wf3_17, wf3_18, wf3_19, wf3_20, wf3_21, wf3_22, wf3_23, wf3_24, wf3_25, wf3_26, wf3_27, wf3_28, wf3_29, wf3_30, wf3_31, wf3_32, wf3_33, wf3_34, wf3_35, wf3_36, wf3_37, wf3_38, wf3_39, wf3_40, wf3_41, wf3_42, wf3_43, wf3_44, wf3_45, wf3_46, wf3_47, wf3_48, wf3_49, wf3_50, wf3_51, wf3_52, wf3_53, wf3_54, wf3_55, wf3_56, wf3_57, wf3_58, wf3_59, wf3_60, wf3_61, wf3_62, wf3_63, wf3_64, wf3_65, wf3_66, wf3_67, wf3_68, wf3_69, wf3_70, kx_ai, kx_al, kx_ar, wx_cond, wx_a1, wx_ac, wx_call, wm_pi, wm_pl, wb_and, wb_or, wb_not, ws_seq, ws_i, ws_l, ws_inc, ks_fi, ws_fl, ws_ofi, ws_ofl, ks_ai, ks_az, ks_al, ks_oai, ks_oal, wk_in, wk_in0, wz_0, wz_1, wz_b, wf0_0, wf0_2, ws_call, ws_if, ws_ife, ws_ret, ws_skip, ws_retv, ws_thr, wo_iadd, wo_isub, wo_imul, wo_iand, wo_ior, wo_ixor, wo_ishl, wo_ishr, wo_iushr, wo_ladd, wo_lsub, wo_land, wo_lor, wo_lxor, wo_lshl, wo_lushr, wo_i2l, wo_l2i, List.getElem?_cons_zero, List.getElem?_cons_succ, List.length_cons, List.length_nil, wm_st, wm_st2, List.set_cons_zero, List.set_cons_succ, hF, hA, hR, ev_cl, ev_cl0, ev_lt, ev_ge, ev_gt, ev_le, ev_eqn, ev_nen, ev_ltc, ev_gec, ev_gtc, ev_lec, ev_eqc, ev_nec, ev_pair, ev_pairL, ev_b0, ev_b1, Bool.not_not, ev_sw,  cond_true, cond_false, nI_1, Nat.zero_add, Nat.reduceAdd, Nat.reduceLT, if_true, ite_true, if_false, ite_false, reduceIte, wm_up_same, wm_up_qne, wm_up_kne] <;> rfl) (wq_assoc (wq_step (by simp (disch := first | omega | decide) only [wx_bind, wx_i, wx_l, wx_r, wx_c, wx_bin, wx_un, wx_div, wx_rem, kx_fi, wx_fl, kx_fr, wf3_4, wf3_5, wf3_6, wf3_7, wf3_8, wf3_9, wf3_10, wf3_11, wf3_12, wf3_13, wf3_14, wf3_15, wf3_16, wf3_17, wf3_18, wf3_19, wf3_20, wf3_21, wf3_22, wf3_23, wf3_24, wf3_25, wf3_26, wf3_27, wf3_28, wf3_29, wf3_30, wf3_31, wf3_32, wf3_33, wf3_34, wf3_35, wf3_36, wf3_37, wf3_38, wf3_39, wf3_40, wf3_41, wf3_42, wf3_43, wf3_44, wf3_45, wf3_46, wf3_47, wf3_48, wf3_49, wf3_50, wf3_51, wf3_52, wf3_53, wf3_54, wf3_55, wf3_56, wf3_57, wf3_58, wf3_59, wf3_60, wf3_61, wf3_62, wf3_63, wf3_64, wf3_65, wf3_66, wf3_67, wf3_68, wf3_69, wf3_70, kx_ai, kx_al, kx_ar, wx_cond, wx_a1, wx_ac, wx_call, wm_pi, wm_pl, wb_and, wb_or, wb_not, ws_seq, ws_i, ws_l, ws_inc, ks_fi, ws_fl, ws_ofi, ws_ofl, ks_ai, ks_az, ks_al, ks_oai, ks_oal, wk_in, wk_in0, wz_0, wz_1, wz_b, wf0_0, wf0_2, ws_call, ws_if, ws_ife, ws_ret, ws_skip, ws_retv, ws_thr, wo_iadd, wo_isub, wo_imul, wo_iand, wo_ior, wo_ixor, wo_ishl, wo_ishr, wo_iushr, wo_ladd, wo_lsub, wo_land, wo_lor, wo_lxor, wo_lshl, wo_lushr, wo_i2l, wo_l2i, List.getElem?_cons_zero, List.getElem?_cons_succ, List.length_cons, List.length_nil, wm_st, wm_st2, List.set_cons_zero, List.set_cons_succ, hF, hA, hR, ev_cl, ev_cl0, ev_lt, ev_ge, ev_gt, ev_le, ev_eqn, ev_nen, ev_ltc, ev_gec, ev_gtc, ev_lec, ev_eqc, ev_nec, ev_pair, ev_pairL, ev_b0, ev_b1, Bool.not_not, ev_sw,  cond_true, cond_false, nI_1, Nat.zero_add, Nat.reduceAdd, Nat.reduceLT, if_true, ite_true, if_false, ite_false, reduceIte, wm_up_same, wm_up_qne, wm_up_kne] <;> rfl) ?_))
  refine wq_seq.mpr (wq_for P.1.1 (fun k (s : Bool × (Nat → Nat → Int64) × Value × Value × Value × Value) => [.ref 20, .ref 1, .int (bif s.1 then 1 else 0), .int (nI k), s.2.2.1, s.2.2.2.1, s.2.2.2.2.1, s.2.2.2.2.2]) (fun _ s => (S.1, s.2.1)) (fun k s => us_I P T s.1 s.2.1 k (fun x y => x < k ∧ y < P.1.1)) ?_ ?_ ?_ (by omega) (false, T, .retAddr 0, .retAddr 0, .retAddr 0, .retAddr 0) rfl rfl ⟨hu, hin, fun _ _ _ _ q => q, fun _ _ _ _ _ q => q, fun x y q => absurd q.1 (Nat.not_lt_zero _), fun _ => ⟨fun _ _ => rfl, fun x hx => absurd hx (Nat.not_lt_zero _)⟩, fun e => (nomatch e), fun _ _ _ _ _ => rfl⟩)
  · intro k s hk _
    simp (disch := first | omega | decide) only [wx_bind, wx_i, wx_l, wx_r, wx_c, wx_bin, wx_un, wx_div, wx_rem, kx_fi, wx_fl, kx_fr, wf3_4, wf3_5, wf3_6, wf3_7, wf3_8, wf3_9, wf3_10, wf3_11, wf3_12, wf3_13, wf3_14, wf3_15, wf3_16, wf3_17, wf3_18, wf3_19, wf3_20, wf3_21, wf3_22, wf3_23, wf3_24, wf3_25, wf3_26, wf3_27, wf3_28, wf3_29, wf3_30, wf3_31, wf3_32, wf3_33, wf3_34, wf3_35, wf3_36, wf3_37, wf3_38, wf3_39, wf3_40, wf3_41, wf3_42, wf3_43, wf3_44, wf3_45, wf3_46, wf3_47, wf3_48, wf3_49, wf3_50, wf3_51, wf3_52, wf3_53, wf3_54, wf3_55, wf3_56, wf3_57, wf3_58, wf3_59, wf3_60, wf3_61, wf3_62, wf3_63, wf3_64, wf3_65, wf3_66, wf3_67, wf3_68, wf3_69, wf3_70, kx_ai, kx_al, kx_ar, wx_cond, wx_a1, wx_ac, wx_call, wm_pi, wm_pl, wb_and, wb_or, wb_not, ws_seq, ws_i, ws_l, ws_inc, ks_fi, ws_fl, ws_ofi, ws_ofl, ks_ai, ks_az, ks_al, ks_oai, ks_oal, wk_in, wk_in0, wz_0, wz_1, wz_b, wf0_0, wf0_2, ws_call, ws_if, ws_ife, ws_ret, ws_skip, ws_retv, ws_thr, wo_iadd, wo_isub, wo_imul, wo_iand, wo_ior, wo_ixor, wo_ishl, wo_ishr, wo_iushr, wo_ladd, wo_lsub, wo_land, wo_lor, wo_lxor, wo_lshl, wo_lushr, wo_i2l, wo_l2i, List.getElem?_cons_zero, List.getElem?_cons_succ, List.length_cons, List.length_nil, wm_st, wm_st2, List.set_cons_zero, List.set_cons_succ, hF, hA, hR, ev_cl, ev_cl0, ev_lt, ev_ge, ev_gt, ev_le, ev_eqn, ev_nen, ev_ltc, ev_gec, ev_gtc, ev_lec, ev_eqc, ev_nec, ev_pair, ev_pairL, ev_b0, ev_b1, Bool.not_not, ev_sw,  cond_true, cond_false, nI_1, Nat.zero_add, Nat.reduceAdd, Nat.reduceLT, if_true, ite_true, if_false, ite_false, reduceIte, wm_up_same, wm_up_qne, wm_up_kne, h1]
  · rintro x ⟨t, T1, v4, v5, v6, v7⟩ hx ⟨b1, b2, b3, b4, b5, b6, b7, b8⟩
    dsimp only at b1 b2 b3 b4 b5 b6 b7 b8 ⊢
    have hC : pg_C P (S.1, T1) := h
    obtain ⟨w, T2, e, g1, g2, g3, g4⟩ := e_U_goThrough hw h b1 hx (fun i hi q => ⟨(b2 x hx i hi q).1, (b2 x hx i hi q).2.1⟩)
    have g22 : ∀ z, T2 22 z = T1 22 z := fun z => g4 22 z (by omega)
    have gw : ∀ i, i < 64 → (bl w i = true ↔ i < P.1.2 ∧ gsb P i ≠ -1 ∧ gJ P (fun z => bl (T1 22 z) i = true) i x) := by
      intro i hi
      rw [g1 i hi, gB_iff]
      refine and_congr_right fun q => and_congr_right fun _ => ?_
      exact gT_end (A := fun z => bl (T1 22 z) i = true) q
    refine wq_assoc (wq_step (by simp (disch := first | omega | decide) only [wx_bind, wx_i, wx_l, wx_r, wx_c, wx_bin, wx_un, wx_div, wx_rem, kx_fi, wx_fl, kx_fr, wf3_4, wf3_5, wf3_6, wf3_7, wf3_8, wf3_9, wf3_10, wf3_11, wf3_12, wf3_13, wf3_14, wf3_15, wf3_16, wf3_17, wf3_18, wf3_19, wf3_20, wf3_21, wf3_22, wf3_23, wf3_24, wf3_25, wf3_26, wf3_27, wf3_28, wf3_29, wf3_30, wf3_31, wf3_32, wf3_33, wf3_34, wf3_35, wf3_36, wf3_37, wf3_38, wf3_39, wf3_40, wf3_41, wf3_42, wf3_43, wf3_44, wf3_45, wf3_46, wf3_47, wf3_48, wf3_49, wf3_50, wf3_51, wf3_52, wf3_53, wf3_54, wf3_55, wf3_56, wf3_57, wf3_58, wf3_59, wf3_60, wf3_61, wf3_62, wf3_63, wf3_64, wf3_65, wf3_66, wf3_67, wf3_68, wf3_69, wf3_70, kx_ai, kx_al, kx_ar, wx_cond, wx_a1, wx_ac, wx_call, wm_pi, wm_pl, wb_and, wb_or, wb_not, ws_seq, ws_i, ws_l, ws_inc, ks_fi, ws_fl, ws_ofi, ws_ofl, ks_ai, ks_az, ks_al, ks_oai, ks_oal, wk_in, wk_in0, wz_0, wz_1, wz_b, wf0_0, wf0_2, ws_call, ws_if, ws_ife, ws_ret, ws_skip, ws_retv, ws_thr, wo_iadd, wo_isub, wo_imul, wo_iand, wo_ior, wo_ixor, wo_ishl, wo_ishr, wo_iushr, wo_ladd, wo_lsub, wo_land, wo_lor, wo_lxor, wo_lshl, wo_lushr, wo_i2l, wo_l2i, List.getElem?_cons_zero, List.getElem?_cons_succ, List.length_cons, List.length_nil, wm_st, wm_st2, List.set_cons_zero, List.set_cons_succ, hF, hA, hR, ev_cl, ev_cl0, ev_lt, ev_ge, ev_gt, ev_le, ev_eqn, ev_nen, ev_ltc, ev_gec, ev_gtc, ev_lec, ev_eqc, ev_nec, ev_pair, ev_pairL, ev_b0, ev_b1, Bool.not_not, ev_sw,  cond_true, cond_false, nI_1, Nat.zero_add, Nat.reduceAdd, Nat.reduceLT, if_true, ite_true, if_false, ite_false, reduceIte, wm_up_same, wm_up_qne, wm_up_kne, e] <;> rfl) (wq_assoc (wq_step (by simp (disch := first | omega | decide) only [wx_bind, wx_i, wx_l, wx_r, wx_c, wx_bin, wx_un, wx_div, wx_rem, kx_fi, wx_fl, kx_fr, wf3_4, wf3_5, wf3_6, wf3_7, wf3_8, wf3_9, wf3_10, wf3_11, wf3_12, wf3_13, wf3_14, wf3_15, wf3_16, wf3_17, wf3_18, wf3_19, wf3_20, wf3_21, wf3_22, wf3_23, wf3_24, wf3_25, wf3_26, wf3_27, wf3_28, wf3_29, wf3_30, wf3_31, wf3_32, wf3_33, wf3_34, wf3_35, wf3_36, wf3_37, wf3_38, wf3_39, wf3_40, wf3_41, wf3_42, wf3_43, wf3_44, wf3_45, wf3_46, wf3_47, wf3_48, wf3_49, wf3_50, wf3_51, wf3_52, wf3_53, wf3_54, wf3_55, wf3_56, wf3_57, wf3_58, wf3_59, wf3_60, wf3_61, wf3_62, wf3_63, wf3_64, wf3_65, wf3_66, wf3_67, wf3_68, wf3_69, wf3_70, kx_ai, kx_al, kx_ar, wx_cond, wx_a1, wx_ac, wx_call, wm_pi, wm_pl, wb_and, wb_or, wb_not, ws_seq, ws_i, ws_l, ws_inc, ks_fi, ws_fl, ws_ofi, ws_ofl, ks_ai, ks_az, ks_al, ks_oai, ks_oal, wk_in, wk_in0, wz_0, wz_1, wz_b, wf0_0, wf0_2, ws_call, ws_if, ws_ife, ws_ret, ws_skip, ws_retv, ws_thr, wo_iadd, wo_isub, wo_imul, wo_iand, wo_ior, wo_ixor, wo_ishl, wo_ishr, wo_iushr, wo_ladd, wo_lsub, wo_land, wo_lor, wo_lxor, wo_lshl, wo_lushr, wo_i2l, wo_l2i, List.getElem?_cons_zero, List.getElem?_cons_succ, List.length_cons, List.length_nil, wm_st, wm_st2, List.set_cons_zero, List.set_cons_succ, hF, hA, hR, ev_cl, ev_cl0, ev_lt, ev_ge, ev_gt, ev_le, ev_eqn, ev_nen, ev_ltc, ev_gec, ev_gtc, ev_lec, ev_eqc, ev_nec, ev_pair, ev_pairL, ev_b0, ev_b1, Bool.not_not, ev_sw,  cond_true, cond_false, nI_1, Nat.zero_add, Nat.reduceAdd, Nat.reduceLT, if_true, ite_true, if_false, ite_false, reduceIte, wm_up_same, wm_up_qne, wm_up_kne] <;> rfl) ?_)))
    refine wq_seq.mpr (wq_for P.1.1 (fun y (s : Bool × (Nat → Nat → Int64) × Value) => [.ref 20, .ref 1, .int (bif s.1 then 1 else 0), .int (nI x), .long w, .retAddr 0, .int (nI y), s.2.2]) (fun _ s => (S.1, s.2.1)) (fun k s => us_I P T s.1 s.2.1 (x + 1) (fun x' y => (x' < x ∧ y < P.1.1) ∨ (x' = x ∧ y < k))) ?_ ?_ ?_ (by omega) (t, T2, v7) rfl rfl ⟨?_, ?_, ?_, ?_, ?_, ?_, ?_, ?_⟩)
    · intro k s hk _
      simp (disch := first | omega | decide) only [wx_bind, wx_i, wx_l, wx_r, wx_c, wx_bin, wx_un, wx_div, wx_rem, kx_fi, wx_fl, kx_fr, wf3_4, wf3_5, wf3_6, wf3_7, wf3_8, wf3_9, wf3_10, wf3_11, wf3_12, wf3_13, wf3_14, wf3_15, wf3_16, wf3_17, wf3_18, wf3_19, wf3_20, wf3_21, wf3_22, wf3_23, wf3_24, wf3_25, wf3_26, wf3_27, wf3_28, wf3_29, wf3_30, wf3_31, wf3_32, wf3_33, wf3_34, wf3_35, wf3_36, wf3_37, wf3_38, wf3_39, wf3_40, wf3_41, wf3_42, wf3_43, wf3_44, wf3_45, wf3_46, wf3_47, wf3_48, wf3_49, wf3_50, wf3_51, wf3_52, wf3_53, wf3_54, wf3_55, wf3_56, wf3_57, wf3_58, wf3_59, wf3_60, wf3_61, wf3_62, wf3_63, wf3_64, wf3_65, wf3_66, wf3_67, wf3_68, wf3_69, wf3_70, kx_ai, kx_al, kx_ar, wx_cond, wx_a1, wx_ac, wx_call, wm_pi, wm_pl, wb_and, wb_or, wb_not, ws_seq, ws_i, ws_l, ws_inc, ks_fi, ws_fl, ws_ofi, ws_ofl, ks_ai, ks_az, ks_al, ks_oai, ks_oal, wk_in, wk_in0, wz_0, wz_1, wz_b, wf0_0, wf0_2, ws_call, ws_if, ws_ife, ws_ret, ws_skip, ws_retv, ws_thr, wo_iadd, wo_isub, wo_imul, wo_iand, wo_ior, wo_ixor, wo_ishl, wo_ishr, wo_iushr, wo_ladd, wo_lsub, wo_land, wo_lor, wo_lxor, wo_lshl, wo_lushr, wo_i2l, wo_l2i, List.getElem?_cons_zero, List.getElem?_cons_succ, List.length_cons, List.length_nil, wm_st, wm_st2, List.set_cons_zero, List.set_cons_succ, hF, hA, hR, ev_cl, ev_cl0, ev_lt, ev_ge, ev_gt, ev_le, ev_eqn, ev_nen, ev_ltc, ev_gec, ev_gtc, ev_lec, ev_eqc, ev_nec, ev_pair, ev_pairL, ev_b0, ev_b1, Bool.not_not, ev_sw,  cond_true, cond_false, nI_1, Nat.zero_add, Nat.reduceAdd, Nat.reduceLT, if_true, ite_true, if_false, ite_false, reduceIte, wm_up_same, wm_up_qne, wm_up_kne, h1]
    · rintro y ⟨t1, T3, u7⟩ hy ⟨c1, c2, c3, c4, c5, c6, c7, c8⟩
      dsimp only at c1 c2 c3 c4 c5 c6 c7 c8 ⊢
      have hy32 : y < 32 := by omega
      have e1 : wr_ne (S.1 14 x &&& ((1 : Int32) <<< (nI y &&& 31))) 0 = gB (gE P x y) := by rw [b_tst hy32]; exact gl_bit hw h hx hy32
      refine wq_assoc (wq_step (by simp (disch := first | omega | decide) only [wx_bind, wx_i, wx_l, wx_r, wx_c, wx_bin, wx_un, wx_div, wx_rem, kx_fi, wx_fl, kx_fr, wf3_4, wf3_5, wf3_6, wf3_7, wf3_8, wf3_9, wf3_10, wf3_11, wf3_12, wf3_13, wf3_14, wf3_15, wf3_16, wf3_17, wf3_18, wf3_19, wf3_20, wf3_21, wf3_22, wf3_23, wf3_24, wf3_25, wf3_26, wf3_27, wf3_28, wf3_29, wf3_30, wf3_31, wf3_32, wf3_33, wf3_34, wf3_35, wf3_36, wf3_37, wf3_38, wf3_39, wf3_40, wf3_41, wf3_42, wf3_43, wf3_44, wf3_45, wf3_46, wf3_47, wf3_48, wf3_49, wf3_50, wf3_51, wf3_52, wf3_53, wf3_54, wf3_55, wf3_56, wf3_57, wf3_58, wf3_59, wf3_60, wf3_61, wf3_62, wf3_63, wf3_64, wf3_65, wf3_66, wf3_67, wf3_68, wf3_69, wf3_70, kx_ai, kx_al, kx_ar, wx_cond, wx_a1, wx_ac, wx_call, wm_pi, wm_pl, wb_and, wb_or, wb_not, ws_seq, ws_i, ws_l, ws_inc, ks_fi, ws_fl, ws_ofi, ws_ofl, ks_ai, ks_az, ks_al, ks_oai, ks_oal, wk_in, wk_in0, wz_0, wz_1, wz_b, wf0_0, wf0_2, ws_call, ws_if, ws_ife, ws_ret, ws_skip, ws_retv, ws_thr, wo_iadd, wo_isub, wo_imul, wo_iand, wo_ior, wo_ixor, wo_ishl, wo_ishr, wo_iushr, wo_ladd, wo_lsub, wo_land, wo_lor, wo_lxor, wo_lshl, wo_lushr, wo_i2l, wo_l2i, List.getElem?_cons_zero, List.getElem?_cons_succ, List.length_cons, List.length_nil, wm_st, wm_st2, List.set_cons_zero, List.set_cons_succ, hF, hA, hR, ev_cl, ev_cl0, ev_lt, ev_ge, ev_gt, ev_le, ev_eqn, ev_nen, ev_ltc, ev_gec, ev_gtc, ev_lec, ev_eqc, ev_nec, ev_pair, ev_pairL, ev_b0, ev_b1, Bool.not_not, ev_sw,  cond_true, cond_false, nI_1, Nat.zero_add, Nat.reduceAdd, Nat.reduceLT, if_true, ite_true, if_false, ite_false, reduceIte, wm_up_same, wm_up_qne, wm_up_kne, e1] <;> rfl) ?_)
      refine wq_ifs (t := bif gB (gE P x y) then !decide (w &&& (T3 22 y ^^^ (-1)) = 0) else false) (by simp (disch := first | omega | decide) only [wx_bind, wx_i, wx_l, wx_r, wx_c, wx_bin, wx_un, wx_div, wx_rem, kx_fi, wx_fl, kx_fr, wf3_4, wf3_5, wf3_6, wf3_7, wf3_8, wf3_9, wf3_10, wf3_11, wf3_12, wf3_13, wf3_14, wf3_15, wf3_16, wf3_17, wf3_18, wf3_19, wf3_20, wf3_21, wf3_22, wf3_23, wf3_24, wf3_25, wf3_26, wf3_27, wf3_28, wf3_29, wf3_30, wf3_31, wf3_32, wf3_33, wf3_34, wf3_35, wf3_36, wf3_37, wf3_38, wf3_39, wf3_40, wf3_41, wf3_42, wf3_43, wf3_44, wf3_45, wf3_46, wf3_47, wf3_48, wf3_49, wf3_50, wf3_51, wf3_52, wf3_53, wf3_54, wf3_55, wf3_56, wf3_57, wf3_58, wf3_59, wf3_60, wf3_61, wf3_62, wf3_63, wf3_64, wf3_65, wf3_66, wf3_67, wf3_68, wf3_69, wf3_70, kx_ai, kx_al, kx_ar, wx_cond, wx_a1, wx_ac, wx_call, wm_pi, wm_pl, wb_and, wb_or, wb_not, ws_seq, ws_i, ws_l, ws_inc, ks_fi, ws_fl, ws_ofi, ws_ofl, ks_ai, ks_az, ks_al, ks_oai, ks_oal, wk_in, wk_in0, wz_0, wz_1, wz_b, wf0_0, wf0_2, ws_call, ws_if, ws_ife, ws_ret, ws_skip, ws_retv, ws_thr, wo_iadd, wo_isub, wo_imul, wo_iand, wo_ior, wo_ixor, wo_ishl, wo_ishr, wo_iushr, wo_ladd, wo_lsub, wo_land, wo_lor, wo_lxor, wo_lshl, wo_lushr, wo_i2l, wo_l2i, List.getElem?_cons_zero, List.getElem?_cons_succ, List.length_cons, List.length_nil, wm_st, wm_st2, List.set_cons_zero, List.set_cons_succ, hF, hA, hR, ev_cl, ev_cl0, ev_lt, ev_ge, ev_gt, ev_le, ev_eqn, ev_nen, ev_ltc, ev_gec, ev_gtc, ev_lec, ev_eqc, ev_nec, ev_pair, ev_pairL, ev_b0, ev_b1, Bool.not_not, ev_sw,  cond_true, cond_false, nI_1, Nat.zero_add, Nat.reduceAdd, Nat.reduceLT, if_true, ite_true, if_false, ite_false, reduceIte, wm_up_same, wm_up_qne, wm_up_kne, l_cmp] <;> rfl) (fun hc => ?_) (fun hc => ?_)
      · have hE : gE P x y := by
          cases q : gB (gE P x y) with
          | true => exact gB_iff.mp q
          | false => rw [q] at hc; exact absurd hc (by simp)
        rw [gB_iff.mpr hE, cond_true, l_ne0] at hc
        obtain ⟨j, hj, qj⟩ := hc
        rw [l_and, l_not hj, Bool.and_eq_true, Bool.not_eq_true'] at qj
        have up : ∀ z i, bl (T3 22 z) i = true → bl (wm_up T3 22 y (T3 22 y ||| w) 22 z) i = true := by
          intro z i q
          by_cases ez : z = y
          · subst ez; rw [wm_up_same, l_or, q]; rfl
          · rw [wm_up_kne ez]; exact q
        have dn : ∀ z i, bl (wm_up T3 22 y (T3 22 y ||| w) 22 z) i = true → bl (T3 22 z) i = true ∨ (z = y ∧ bl w i = true) := by
          intro z i q
          by_cases ez : z = y
          · subst ez
            rw [wm_up_same, l_or, Bool.or_eq_true] at q
            exact q.imp id (fun q => ⟨rfl, q⟩)
          · rw [wm_up_kne ez] at q; exact Or.inl q
        refine wq_assoc (wq_step (by simp (disch := first | omega | decide) only [wx_bind, wx_i, wx_l, wx_r, wx_c, wx_bin, wx_un, wx_div, wx_rem, kx_fi, wx_fl, kx_fr, wf3_4, wf3_5, wf3_6, wf3_7, wf3_8, wf3_9, wf3_10, wf3_11, wf3_12, wf3_13, wf3_14, wf3_15, wf3_16, wf3_17, wf3_18, wf3_19, wf3_20, wf3_21, wf3_22, wf3_23, wf3_24, wf3_25, wf3_26, wf3_27, wf3_28, wf3_29, wf3_30, wf3_31, wf3_32, wf3_33, wf3_34, wf3_35, wf3_36, wf3_37, wf3_38, wf3_39, wf3_40, wf3_41, wf3_42, wf3_43, wf3_44, wf3_45, wf3_46, wf3_47, wf3_48, wf3_49, wf3_50, wf3_51, wf3_52, wf3_53, wf3_54, wf3_55, wf3_56, wf3_57, wf3_58, wf3_59, wf3_60, wf3_61, wf3_62, wf3_63, wf3_64, wf3_65, wf3_66, wf3_67, wf3_68, wf3_69, wf3_70, kx_ai, kx_al, kx_ar, wx_cond, wx_a1, wx_ac, wx_call, wm_pi, wm_pl, wb_and, wb_or, wb_not, ws_seq, ws_i, ws_l, ws_inc, ks_fi, ws_fl, ws_ofi, ws_ofl, ks_ai, ks_az, ks_al, ks_oai, ks_oal, wk_in, wk_in0, wz_0, wz_1, wz_b, wf0_0, wf0_2, ws_call, ws_if, ws_ife, ws_ret, ws_skip, ws_retv, ws_thr, wo_iadd, wo_isub, wo_imul, wo_iand, wo_ior, wo_ixor, wo_ishl, wo_ishr, wo_iushr, wo_ladd, wo_lsub, wo_land, wo_lor, wo_lxor, wo_lshl, wo_lushr, wo_i2l, wo_l2i, List.getElem?_cons_zero, List.getElem?_cons_succ, List.length_cons, List.length_nil, wm_st, wm_st2, List.set_cons_zero, List.set_cons_succ, hF, hA, hR, ev_cl, ev_cl0, ev_lt, ev_ge, ev_gt, ev_le, ev_eqn, ev_nen, ev_ltc, ev_gec, ev_gtc, ev_lec, ev_eqc, ev_nec, ev_pair, ev_pairL, ev_b0, ev_b1, Bool.not_not, ev_sw,  cond_true, cond_false, nI_1, Nat.zero_add, Nat.reduceAdd, Nat.reduceLT, if_true, ite_true, if_false, ite_false, reduceIte, wm_up_same, wm_up_qne, wm_up_kne] <;> rfl) ?_)
        refine ⟨.inl ([.ref 20, .ref 1, .int 1, .int (nI x), .long w, .retAddr 0, .int (nI (y + 1)), _], (S.1, wm_up T3 22 y (T3 22 y ||| w))), by simp (disch := first | omega | decide) only [wx_bind, wx_i, wx_l, wx_r, wx_c, wx_bin, wx_un, wx_div, wx_rem, kx_fi, wx_fl, kx_fr, wf3_4, wf3_5, wf3_6, wf3_7, wf3_8, wf3_9, wf3_10, wf3_11, wf3_12, wf3_13, wf3_14, wf3_15, wf3_16, wf3_17, wf3_18, wf3_19, wf3_20, wf3_21, wf3_22, wf3_23, wf3_24, wf3_25, wf3_26, wf3_27, wf3_28, wf3_29, wf3_30, wf3_31, wf3_32, wf3_33, wf3_34, wf3_35, wf3_36, wf3_37, wf3_38, wf3_39, wf3_40, wf3_41, wf3_42, wf3_43, wf3_44, wf3_45, wf3_46, wf3_47, wf3_48, wf3_49, wf3_50, wf3_51, wf3_52, wf3_53, wf3_54, wf3_55, wf3_56, wf3_57, wf3_58, wf3_59, wf3_60, wf3_61, wf3_62, wf3_63, wf3_64, wf3_65, wf3_66, wf3_67, wf3_68, wf3_69, wf3_70, kx_ai, kx_al, kx_ar, wx_cond, wx_a1, wx_ac, wx_call, wm_pi, wm_pl, wb_and, wb_or, wb_not, ws_seq, ws_i, ws_l, ws_inc, ks_fi, ws_fl, ws_ofi, ws_ofl, ks_ai, ks_az, ks_al, ks_oai, ks_oal, wk_in, wk_in0, wz_0, wz_1, wz_b, wf0_0, wf0_2, ws_call, ws_if, ws_ife, ws_ret, ws_skip, ws_retv, ws_thr, wo_iadd, wo_isub, wo_imul, wo_iand, wo_ior, wo_ixor, wo_ishl, wo_ishr, wo_iushr, wo_ladd, wo_lsub, wo_land, wo_lor, wo_lxor, wo_lshl, wo_lushr, wo_i2l, wo_l2i, List.getElem?_cons_zero, List.getElem?_cons_succ, List.length_cons, List.length_nil, wm_st, wm_st2, List.set_cons_zero, List.set_cons_succ, hF, hA, hR, ev_cl, ev_cl0, ev_lt, ev_ge, ev_gt, ev_le, ev_eqn, ev_nen, ev_ltc, ev_gec, ev_gtc, ev_lec, ev_eqc, ev_nec, ev_pair, ev_pairL, ev_b0, ev_b1, Bool.not_not, ev_sw,  cond_true, cond_false, nI_1, Nat.zero_add, Nat.reduceAdd, Nat.reduceLT, if_true, ite_true, if_false, ite_false, reduceIte, wm_up_same, wm_up_qne, wm_up_kne] <;> rfl, (true, wm_up T3 22 y (T3 22 y ||| w), _), rfl, ⟨?_, ?_, ?_, ?_, ?_, fun q => (nomatch q), fun _ => ?_, ?_⟩⟩
        · intro r hr i hi
          dsimp only
          rw [wm_up_qne (by omega)]; exact c1 r hr i hi
        · intro z hz i hi q
          rcases dn z i q with q | ⟨rfl, qw⟩
          · exact c2 z hz i hi q
          · obtain ⟨q1, q2, q3⟩ := (gw i hi).mp qw
            exact ⟨q1, q2, gX_step hx hz hE (gJ_mono q3 (fun k => (b2 x hx i hi k).2.2))⟩
        · exact fun z hz i hi q => up z i (c3 z hz i hi q)
        · intro i hi q z hz k
          rcases dn z i k with k | ⟨rfl, kw⟩
          · exact c4 i hi q z hz k
          · obtain ⟨q1, q2, q3⟩ := (gw i hi).mp kw
            exact q x z hx hz hE (gJ_mono q3 (fun k => b4 i hi q x hx k))
        · intro x' y' q hE' i hi hs hJ
          by_cases ey : x' = x ∧ y' = y
          · obtain ⟨rfl, rfl⟩ := ey
            dsimp only
            rw [wm_up_same, l_or, (gw i (by omega)).mpr ⟨hi, hs, gJ_mono hJ (fun k => b3 x' hx i (by omega) k)⟩, Bool.or_true]
          · exact up y' i (c5 x' y' (by omega) hE' i hi hs hJ)
        · refine ⟨j, hj, y, hy, ?_, ?_⟩
          · dsimp only
            rw [wm_up_same, l_or, qj.1, Bool.or_true]
          · cases ez : bl (T 22 y) j with
            | false => rfl
            | true => rw [c3 y hy j hj ez] at qj; exact absurd qj.2 (by decide)
        · intro q k q1 q2 q3
          dsimp only
          rw [wm_up_qne q1]; exact c8 q k q1 q2 q3
      · refine ⟨.inl ([.ref 20, .ref 1, .int (bif t1 then 1 else 0), .int (nI x), .long w, .retAddr 0, .int (nI (y + 1)), _], (S.1, T3)), by simp (disch := first | omega | decide) only [wx_bind, wx_i, wx_l, wx_r, wx_c, wx_bin, wx_un, wx_div, wx_rem, kx_fi, wx_fl, kx_fr, wf3_4, wf3_5, wf3_6, wf3_7, wf3_8, wf3_9, wf3_10, wf3_11, wf3_12, wf3_13, wf3_14, wf3_15, wf3_16, wf3_17, wf3_18, wf3_19, wf3_20, wf3_21, wf3_22, wf3_23, wf3_24, wf3_25, wf3_26, wf3_27, wf3_28, wf3_29, wf3_30, wf3_31, wf3_32, wf3_33, wf3_34, wf3_35, wf3_36, wf3_37, wf3_38, wf3_39, wf3_40, wf3_41, wf3_42, wf3_43, wf3_44, wf3_45, wf3_46, wf3_47, wf3_48, wf3_49, wf3_50, wf3_51, wf3_52, wf3_53, wf3_54, wf3_55, wf3_56, wf3_57, wf3_58, wf3_59, wf3_60, wf3_61, wf3_62, wf3_63, wf3_64, wf3_65, wf3_66, wf3_67, wf3_68, wf3_69, wf3_70, kx_ai, kx_al, kx_ar, wx_cond, wx_a1, wx_ac, wx_call, wm_pi, wm_pl, wb_and, wb_or, wb_not, ws_seq, ws_i, ws_l, ws_inc, ks_fi, ws_fl, ws_ofi, ws_ofl, ks_ai, ks_az, ks_al, ks_oai, ks_oal, wk_in, wk_in0, wz_0, wz_1, wz_b, wf0_0, wf0_2, ws_call, ws_if, ws_ife, ws_ret, ws_skip, ws_retv, ws_thr, wo_iadd, wo_isub, wo_imul, wo_iand, wo_ior, wo_ixor, wo_ishl, wo_ishr, wo_iushr, wo_ladd, wo_lsub, wo_land, wo_lor, wo_lxor, wo_lshl, wo_lushr, wo_i2l, wo_l2i, List.getElem?_cons_zero, List.getElem?_cons_succ, List.length_cons, List.length_nil, wm_st, wm_st2, List.set_cons_zero, List.set_cons_succ, hF, hA, hR, ev_cl, ev_cl0, ev_lt, ev_ge, ev_gt, ev_le, ev_eqn, ev_nen, ev_ltc, ev_gec, ev_gtc, ev_lec, ev_eqc, ev_nec, ev_pair, ev_pairL, ev_b0, ev_b1, Bool.not_not, ev_sw,  cond_true, cond_false, nI_1, Nat.zero_add, Nat.reduceAdd, Nat.reduceLT, if_true, ite_true, if_false, ite_false, reduceIte, wm_up_same, wm_up_qne, wm_up_kne] <;> rfl, (t1, T3, _), rfl, ⟨c1, c2, c3, c4, fun x' y' q hE' i hi hs hJ => ?_, c6, c7, c8⟩⟩
        dsimp only
        by_cases ey : x' = x ∧ y' = y
        · obtain ⟨rfl, rfl⟩ := ey
          have hwi := (gw i (by omega)).mpr ⟨hi, hs, gJ_mono hJ (fun k => b3 x' hx i (by omega) k)⟩
          rw [gB_iff.mpr hE', cond_true] at hc
          cases ez : bl (T3 22 y') i with
          | true => rfl
          | false =>
            have := l_ne0 (w := w &&& (T3 22 y' ^^^ (-1))).mpr ⟨i, by omega, by rw [l_and, l_not (by omega), hwi, ez]; rfl⟩
            rw [hc] at this
            exact absurd this (by decide)
        · exact c5 x' y' (by omega) hE' i hi hs hJ
    · rintro ⟨t1, T3, u7⟩ ⟨c1, c2, c3, c4, c5, c6, c7, c8⟩
      dsimp only at c1 c2 c3 c4 c5 c6 c7 c8 ⊢
      exact ⟨.inl ([.ref 20, .ref 1, .int (bif t1 then 1 else 0), .int (nI (x + 1)), .long w, .retAddr 0, .int (nI P.1.1), u7], (S.1, T3)), by simp (disch := first | omega | decide) only [wx_bind, wx_i, wx_l, wx_r, wx_c, wx_bin, wx_un, wx_div, wx_rem, kx_fi, wx_fl, kx_fr, wf3_4, wf3_5, wf3_6, wf3_7, wf3_8, wf3_9, wf3_10, wf3_11, wf3_12, wf3_13, wf3_14, wf3_15, wf3_16, wf3_17, wf3_18, wf3_19, wf3_20, wf3_21, wf3_22, wf3_23, wf3_24, wf3_25, wf3_26, wf3_27, wf3_28, wf3_29, wf3_30, wf3_31, wf3_32, wf3_33, wf3_34, wf3_35, wf3_36, wf3_37, wf3_38, wf3_39, wf3_40, wf3_41, wf3_42, wf3_43, wf3_44, wf3_45, wf3_46, wf3_47, wf3_48, wf3_49, wf3_50, wf3_51, wf3_52, wf3_53, wf3_54, wf3_55, wf3_56, wf3_57, wf3_58, wf3_59, wf3_60, wf3_61, wf3_62, wf3_63, wf3_64, wf3_65, wf3_66, wf3_67, wf3_68, wf3_69, wf3_70, kx_ai, kx_al, kx_ar, wx_cond, wx_a1, wx_ac, wx_call, wm_pi, wm_pl, wb_and, wb_or, wb_not, ws_seq, ws_i, ws_l, ws_inc, ks_fi, ws_fl, ws_ofi, ws_ofl, ks_ai, ks_az, ks_al, ks_oai, ks_oal, wk_in, wk_in0, wz_0, wz_1, wz_b, wf0_0, wf0_2, ws_call, ws_if, ws_ife, ws_ret, ws_skip, ws_retv, ws_thr, wo_iadd, wo_isub, wo_imul, wo_iand, wo_ior, wo_ixor, wo_ishl, wo_ishr, wo_iushr, wo_ladd, wo_lsub, wo_land, wo_lor, wo_lxor, wo_lshl, wo_lushr, wo_i2l, wo_l2i, List.getElem?_cons_zero, List.getElem?_cons_succ, List.length_cons, List.length_nil, wm_st, wm_st2, List.set_cons_zero, List.set_cons_succ, hF, hA, hR, ev_cl, ev_cl0, ev_lt, ev_ge, ev_gt, ev_le, ev_eqn, ev_nen, ev_ltc, ev_gec, ev_gtc, ev_lec, ev_eqc, ev_nec, ev_pair, ev_pairL, ev_b0, ev_b1, Bool.not_not, ev_sw,  cond_true, cond_false, nI_1, Nat.zero_add, Nat.reduceAdd, Nat.reduceLT, if_true, ite_true, if_false, ite_false, reduceIte, wm_up_same, wm_up_qne, wm_up_kne] <;> rfl, (t1, T3, .long w, .retAddr 0, .int (nI P.1.1), u7), rfl, ⟨c1, c2, c3, c4, fun x' y' q => c5 x' y' (by omega), c6, c7, c8⟩⟩
    · intro r hr i hi
      dsimp only
      rw [g4 21 r (by omega)]; exact b1 r hr i hi
    · intro z hz i hi q
      dsimp only at q
      rw [g22 z] at q; exact b2 z hz i hi q
    · intro z hz i hi q
      dsimp only
      rw [g22 z]; exact b3 z hz i hi q
    · intro i hi q z hz k
      dsimp only at k
      rw [g22 z] at k; exact b4 i hi q z hz k
    · intro x' y' q hE' i hi hs hJ
      dsimp only
      rw [g22 y']
      exact b5 x' y' (by omega) hE' i hi hs hJ
    · intro et
      obtain ⟨d1, d2⟩ := b6 et
      refine ⟨fun z hz => by dsimp only; rw [g22 z]; exact d1 z hz, fun x' hx' => ?_⟩
      dsimp only
      by_cases ex : x' = x
      · subst ex
        have e22 := d1 x' hx
        unfold us_cm
        rw [← e22]
        exact ⟨g2, g3⟩
      · obtain ⟨f1, f2⟩ := d2 x' (by omega)
        refine ⟨fun k hk hh i hi => ?_, fun i hi => ?_⟩
        · rw [g4 23 k (fun z => ?_)]
          · exact f1 k hk hh i hi
          · rcases z with ⟨_, z⟩ | ⟨z, _⟩
            · rw [hh] at z
              exact ex ((nI_eq (a := x') (b := x) (by omega) (by omega)).mp z)
            · omega
        · rw [g4 24 x' (by omega)]; exact f2 i hi
    · intro et
      obtain ⟨i, hi, z, hz, q1, q2⟩ := b7 et
      exact ⟨i, hi, z, hz, by dsimp only; rw [g22 z]; exact q1, q2⟩
    · intro q k q1 q2 q3
      dsimp only
      rw [g4 q k (by omega)]; exact b8 q k q1 q2 q3
  · rintro ⟨t, T1, v4, v5, v6, v7⟩ hI
    exact wq_rets (by simp (disch := first | omega | decide) only [wx_bind, wx_i, wx_l, wx_r, wx_c, wx_bin, wx_un, wx_div, wx_rem, kx_fi, wx_fl, kx_fr, wf3_4, wf3_5, wf3_6, wf3_7, wf3_8, wf3_9, wf3_10, wf3_11, wf3_12, wf3_13, wf3_14, wf3_15, wf3_16, wf3_17, wf3_18, wf3_19, wf3_20, wf3_21, wf3_22, wf3_23, wf3_24, wf3_25, wf3_26, wf3_27, wf3_28, wf3_29, wf3_30, wf3_31, wf3_32, wf3_33, wf3_34, wf3_35, wf3_36, wf3_37, wf3_38, wf3_39, wf3_40, wf3_41, wf3_42, wf3_43, wf3_44, wf3_45, wf3_46, wf3_47, wf3_48, wf3_49, wf3_50, wf3_51, wf3_52, wf3_53, wf3_54, wf3_55, wf3_56, wf3_57, wf3_58, wf3_59, wf3_60, wf3_61, wf3_62, wf3_63, wf3_64, wf3_65, wf3_66, wf3_67, wf3_68, wf3_69, wf3_70, kx_ai, kx_al, kx_ar, wx_cond, wx_a1, wx_ac, wx_call, wm_pi, wm_pl, wb_and, wb_or, wb_not, ws_seq, ws_i, ws_l, ws_inc, ks_fi, ws_fl, ws_ofi, ws_ofl, ks_ai, ks_az, ks_al, ks_oai, ks_oal, wk_in, wk_in0, wz_0, wz_1, wz_b, wf0_0, wf0_2, ws_call, ws_if, ws_ife, ws_ret, ws_skip, ws_retv, ws_thr, wo_iadd, wo_isub, wo_imul, wo_iand, wo_ior, wo_ixor, wo_ishl, wo_ishr, wo_iushr, wo_ladd, wo_lsub, wo_land, wo_lor, wo_lxor, wo_lshl, wo_lushr, wo_i2l, wo_l2i, List.getElem?_cons_zero, List.getElem?_cons_succ, List.length_cons, List.length_nil, wm_st, wm_st2, List.set_cons_zero, List.set_cons_succ, hF, hA, hR, ev_cl, ev_cl0, ev_lt, ev_ge, ev_gt, ev_le, ev_eqn, ev_nen, ev_ltc, ev_gec, ev_gtc, ev_lec, ev_eqc, ev_nec, ev_pair, ev_pairL, ev_b0, ev_b1, Bool.not_not, ev_sw,  cond_true, cond_false, nI_1, Nat.zero_add, Nat.reduceAdd, Nat.reduceLT, if_true, ite_true, if_false, ite_false, reduceIte, wm_up_same, wm_up_qne, wm_up_kne] <;> rfl) ⟨wm_rt3, t, T1, rfl, hI⟩
def gI (P : PG) (i k : Nat) : Prop := ∃ x, x < P.1.1 ∧ P.2 8 k = nI x ∧ gT P x (gX P i x) i k
/-- i feeds k; i feeds the end of x -/
def gfI (P : PG) (i k : Nat) : Prop := i < P.1.2 ∧ gsb P i ≠ -1 ∧ gI P i k ∧ ∃ r, r < 8 ∧ gu P k r ∧ gsb P i = nI r
def gfE (P : PG) (i x : Nat) : Prop := i < P.1.2 ∧ gsb P i ≠ -1 ∧ gJ P (gX P i) i x ∧ ∃ r, r < 8 ∧ gue P x r ∧ gsb P i = nI r
def so_ok (P : PG) (T : Nat → Nat → Int64) : Prop := (∀ k, k < P.1.2 → ∀ i, i < 64 → bl (T 23 k) i = gB (gfI P i k)) ∧ ∀ x, x < P.1.1 → ∀ i, i < 64 → bl (T 24 x) i = gB (gfE P i x)
theorem so_of (hw : pg_wf P) {T T1 : Nat → Nat → Int64} (hin : us_in P T) (hcl : ∀ i, i < P.1.2 → gsb P i ≠ -1 → gCl P T i) (hc : ∀ x, x < P.1.1 → us_cm P T T1 x) : so_ok P T1 := by
  have hm := hw.2.1
  have key : ∀ i, i < P.1.2 → gsb P i ≠ -1 → ∀ x, x < P.1.1 → (bl (T 22 x) i = true ↔ gX P i x) := by
    intro i hi hs x hx
    refine ⟨fun q => (hin x hx i (by omega) q).2.2, fun q => ?_⟩
    have := q (fun z => z < P.1.1 ∧ bl (T 22 z) i = true) (fun b s hb hs' hE hJ => ⟨hs', hcl i hi hs b s hb hs' hE (hJ.imp id (fun k => ⟨k.1.2, k.2⟩))⟩)
    exact this.2
  refine ⟨fun k hk i hi => ?_, fun x hx i hi => ?_⟩
  · obtain ⟨x, hx, hh⟩ := hw.2.2.2.2 k hk
    rw [(hc x hx).1 k hk hh i hi]
    refine gB_cg ?_
    unfold gt_I gfI gI
    constructor
    · rintro ⟨q1, q2, q3, q4⟩
      exact ⟨q1, q2, ⟨x, hx, hh, q3.imp id (fun q => ⟨(key i q1 q2 x hx).mp q.1, q.2⟩)⟩, q4⟩
    · rintro ⟨q1, q2, ⟨y, hy, hh', q3⟩, q4⟩
      have hn := hw.1
      have : y = x := (nI_eq (a := y) (b := x) (by omega) (by omega)).mp (hh'.symm.trans hh)
      subst this
      exact ⟨q1, q2, q3.imp id (fun q => ⟨(key i q1 q2 y hx).mpr q.1, q.2⟩), q4⟩
  · rw [(hc x hx).2 i hi]
    refine gB_cg ?_
    unfold gt_E gfE
    constructor
    · rintro ⟨q1, q2, q3, q4⟩
      exact ⟨q1, q2, (gT_end (A := fun z => gX P i z) q1).mp (q3.imp id (fun q => ⟨(key i q1 q2 x hx).mp q.1, q.2⟩)), q4⟩
    · rintro ⟨q1, q2, q3, q4⟩
      exact ⟨q1, q2, ((gT_end (A := fun z => gX P i z) q1).mpr q3).imp id (fun q => ⟨(key i q1 q2 x hx).mpr q.1, q.2⟩), q4⟩
theorem e_U_find (hw : pg_wf P) (h : pg_C P S) : ∃ T', f_U_find [.ref 20, .ref 1] S = some (none, (S.1, T')) ∧ so_ok P T' ∧ ∀ q k, ¬ (21 ≤ q ∧ q ≤ 24) → T' q k = S.2 q k := by
  suffices hq : wq (f_U_find [.ref 20, .ref 1] S) (fun z => ∃ T', z = (none, (S.1, T')) ∧ so_ok P T' ∧ ∀ q k, ¬ (21 ≤ q ∧ q ≤ 24) → T' q k = S.2 q k) by
    obtain ⟨z, e, T', rfl, hb⟩ := hq
    exact ⟨T', e, hb⟩
  refine wq_fn rfl rfl rfl ?_
  show wq (t_U_find [.ref 20, .ref 1, .retAddr 0, .retAddr 0] S) _
  unfold t_U_find
  obtain ⟨L, N, M1, M2, hL, hN0, hF, hA, hR, hN, hM1, hM2⟩ := w_ex; (try simp only [hL, hN0])
  have hn := hw.1
  have hm := hw.2.1
  have h1 := h.1
  obtain ⟨⟨v, S1⟩, e, rfl, e1, hu, hf⟩ := e_U_findSetters hw h
  obtain ⟨I1, T0⟩ := S1
  dsimp only at e1 hu hf
  subst e1
  refine wq_step (by simp (disch := first | omega | decide) only [wx_bind, wx_i, wx_l, wx_r, wx_c, wx_bin, wx_un, wx_div, wx_rem, kx_fi, wx_fl, kx_fr, wf3_4, wf3_5, wf3_6, wf3_7, wf3_8, wf3_9, wf3_10, wf3_11, wf3_12, wf3_13, wf3_14, wf3_15, wf3_16, wf3_17, wf3_18, wf3_19, wf3_20, wf3_21, wf3_22, wf3_23, wf3_24, wf3_25, wf3_26, wf3_27, wf3_28, wf3_29, wf3_30, wf3_31, wf3_32, wf3_33, wf3_34, wf3_35, wf3_36, wf3_37, wf3_38, wf3_39, wf3_40, wf3_41, wf3_42, wf3_43, wf3_44, wf3_45, wf3_46, wf3_47, wf3_48, wf3_49, wf3_50, wf3_51, wf3_52, wf3_53, wf3_54, wf3_55, wf3_56, wf3_57, wf3_58, wf3_59, wf3_60, wf3_61, wf3_62, wf3_63, wf3_64, wf3_65, wf3_66, wf3_67, wf3_68, wf3_69, wf3_70, kx_ai, kx_al, kx_ar, wx_cond, wx_a1, wx_ac, wx_call, wm_pi, wm_pl, wb_and, wb_or, wb_not, ws_seq, ws_i, ws_l, ws_inc, ks_fi, ws_fl, ws_ofi, ws_ofl, ks_ai, ks_az, ks_al, ks_oai, ks_oal, wk_in, wk_in0, wz_0, wz_1, wz_b, wf0_0, wf0_2, ws_call, ws_if, ws_ife, ws_ret, ws_skip, ws_retv, ws_thr, wo_iadd, wo_isub, wo_imul, wo_iand, wo_ior, wo_ixor, wo_ishl, wo_ishr, wo_iushr, wo_ladd, wo_lsub, wo_land, wo_lor, wo_lxor, wo_lshl, wo_lushr, wo_i2l, wo_l2i, List.getElem?_cons_zero, List.getElem?_cons_succ, List.length_cons, List.length_nil, wm_st, wm_st2, List.set_cons_zero, List.set_cons_succ, hF, hA, hR, ev_cl, ev_cl0, ev_lt, ev_ge, ev_gt, ev_le, ev_eqn, ev_nen, ev_ltc, ev_gec, ev_gtc, ev_lec, ev_eqc, ev_nec, ev_pair, ev_pairL, ev_b0, ev_b1, Bool.not_not, ev_sw,  cond_true, cond_false, nI_1, Nat.zero_add, Nat.reduceAdd, Nat.reduceLT, if_true, ite_true, if_false, ite_false, reduceIte, wm_up_same, wm_up_qne, wm_up_kne, e] <;> rfl) (wq_assoc (wq_step (by simp (disch := first | omega | decide) only [wx_bind, wx_i, wx_l, wx_r, wx_c, wx_bin, wx_un, wx_div, wx_rem, kx_fi, wx_fl, kx_fr, wf3_4, wf3_5, wf3_6, wf3_7, wf3_8, wf3_9, wf3_10, wf3_11, wf3_12, wf3_13, wf3_14, wf3_15, wf3_16, wf3_17, wf3_18, wf3_19, wf3_20, wf3_21, wf3_22, wf3_23, wf3_24, wf3_25, wf3_26, wf3_27, wf3_28, wf3_29, wf3_30, wf3_31, wf3_32, wf3_33, wf3_34, wf3_35, wf3_36, wf3_37, wf3_38, wf3_39, wf3_40, wf3_41, wf3_42, wf3_43, wf3_44, wf3_45, wf3_46, wf3_47, wf3_48, wf3_49, wf3_50, wf3_51, wf3_52, wf3_53, wf3_54, wf3_55, wf3_56, wf3_57, wf3_58, wf3_59, wf3_60, wf3_61, wf3_62, wf3_63, wf3_64, wf3_65, wf3_66, wf3_67, wf3_68, wf3_69, wf3_70, kx_ai, kx_al, kx_ar, wx_cond, wx_a1, wx_ac, wx_call, wm_pi, wm_pl, wb_and, wb_or, wb_not, ws_seq, ws_i, ws_l, ws_inc, ks_fi, ws_fl, ws_ofi, ws_ofl, ks_ai, ks_az, ks_al, ks_oai, ks_oal, wk_in, wk_in0, wz_0, wz_1, wz_b, wf0_0, wf0_2, ws_call, ws_if, ws_ife, ws_ret, ws_skip, ws_retv, ws_thr, wo_iadd, wo_isub, wo_imul, wo_iand, wo_ior, wo_ixor, wo_ishl, wo_ishr, wo_iushr, wo_ladd, wo_lsub, wo_land, wo_lor, wo_lxor, wo_lshl, wo_lushr, wo_i2l, wo_l2i, List.getElem?_cons_zero, List.getElem?_cons_succ, List.length_cons, List.length_nil, wm_st, wm_st2, List.set_cons_zero, List.set_cons_succ, hF, hA, hR, ev_cl, ev_cl0, ev_lt, ev_ge, ev_gt, ev_le, ev_eqn, ev_nen, ev_ltc, ev_gec, ev_gtc, ev_lec, ev_eqc, ev_nec, ev_pair, ev_pairL, ev_b0, ev_b1, Bool.not_not, ev_sw,  cond_true, cond_false, nI_1, Nat.zero_add, Nat.reduceAdd, Nat.reduceLT, if_true, ite_true, if_false, ite_false, reduceIte, wm_up_same, wm_up_qne, wm_up_kne] <;> rfl) ?_))
  refine wq_seq.mpr (wq_for P.1.1 (fun k (_ : Nat → Nat → Int64) => [.ref 20, .ref 1, .int (nI k), .retAddr 0]) (fun _ T => (S.1, T)) (fun k T => us_ok P T ∧ (∀ x, x < k → T 22 x = 0) ∧ ∀ q k, ¬ (21 ≤ q ∧ q ≤ 24) → T q k = S.2 q k) ?_ ?_ ?_ (by omega) T0 rfl rfl ⟨hu, fun r hr => absurd hr (Nat.not_lt_zero _), fun q k hq => hf q k (by omega)⟩)
  · intro k s hk _
    simp (disch := first | omega | decide) only [wx_bind, wx_i, wx_l, wx_r, wx_c, wx_bin, wx_un, wx_div, wx_rem, kx_fi, wx_fl, kx_fr, wf3_4, wf3_5, wf3_6, wf3_7, wf3_8, wf3_9, wf3_10, wf3_11, wf3_12, wf3_13, wf3_14, wf3_15, wf3_16, wf3_17, wf3_18, wf3_19, wf3_20, wf3_21, wf3_22, wf3_23, wf3_24, wf3_25, wf3_26, wf3_27, wf3_28, wf3_29, wf3_30, wf3_31, wf3_32, wf3_33, wf3_34, wf3_35, wf3_36, wf3_37, wf3_38, wf3_39, wf3_40, wf3_41, wf3_42, wf3_43, wf3_44, wf3_45, wf3_46, wf3_47, wf3_48, wf3_49, wf3_50, wf3_51, wf3_52, wf3_53, wf3_54, wf3_55, wf3_56, wf3_57, wf3_58, wf3_59, wf3_60, wf3_61, wf3_62, wf3_63, wf3_64, wf3_65, wf3_66, wf3_67, wf3_68, wf3_69, wf3_70, kx_ai, kx_al, kx_ar, wx_cond, wx_a1, wx_ac, wx_call, wm_pi, wm_pl, wb_and, wb_or, wb_not, ws_seq, ws_i, ws_l, ws_inc, ks_fi, ws_fl, ws_ofi, ws_ofl, ks_ai, ks_az, ks_al, ks_oai, ks_oal, wk_in, wk_in0, wz_0, wz_1, wz_b, wf0_0, wf0_2, ws_call, ws_if, ws_ife, ws_ret, ws_skip, ws_retv, ws_thr, wo_iadd, wo_isub, wo_imul, wo_iand, wo_ior, wo_ixor, wo_ishl, wo_ishr, wo_iushr, wo_ladd, wo_lsub, wo_land, wo_lor, wo_lxor, wo_lshl, wo_lushr, wo_i2l, wo_l2i, List.getElem?_cons_zero, List.getElem?_cons_succ, List.length_cons, List.length_nil, wm_st, wm_st2, List.set_cons_zero, List.set_cons_succ, hF, hA, hR, ev_cl, ev_cl0, ev_lt, ev_ge, ev_gt, ev_le, ev_eqn, ev_nen, ev_ltc, ev_gec, ev_gtc, ev_lec, ev_eqc, ev_nec, ev_pair, ev_pairL, ev_b0, ev_b1, Bool.not_not, ev_sw,  cond_true, cond_false, nI_1, Nat.zero_add, Nat.reduceAdd, Nat.reduceLT, if_true, ite_true, if_false, ite_false, reduceIte, wm_up_same, wm_up_qne, wm_up_kne, h1]
  · rintro k T hk ⟨a1, a2, a3⟩
    refine ⟨.inl ([.ref 20, .ref 1, .int (nI (k + 1)), .retAddr 0], (S.1, wm_up T 22 k 0)), by simp (disch := first | omega | decide) only [wx_bind, wx_i, wx_l, wx_r, wx_c, wx_bin, wx_un, wx_div, wx_rem, kx_fi, wx_fl, kx_fr, wf3_4, wf3_5, wf3_6, wf3_7, wf3_8, wf3_9, wf3_10, wf3_11, wf3_12, wf3_13, wf3_14, wf3_15, wf3_16, wf3_17, wf3_18, wf3_19, wf3_20, wf3_21, wf3_22, wf3_23, wf3_24, wf3_25, wf3_26, wf3_27, wf3_28, wf3_29, wf3_30, wf3_31, wf3_32, wf3_33, wf3_34, wf3_35, wf3_36, wf3_37, wf3_38, wf3_39, wf3_40, wf3_41, wf3_42, wf3_43, wf3_44, wf3_45, wf3_46, wf3_47, wf3_48, wf3_49, wf3_50, wf3_51, wf3_52, wf3_53, wf3_54, wf3_55, wf3_56, wf3_57, wf3_58, wf3_59, wf3_60, wf3_61, wf3_62, wf3_63, wf3_64, wf3_65, wf3_66, wf3_67, wf3_68, wf3_69, wf3_70, kx_ai, kx_al, kx_ar, wx_cond, wx_a1, wx_ac, wx_call, wm_pi, wm_pl, wb_and, wb_or, wb_not, ws_seq, ws_i, ws_l, ws_inc, ks_fi, ws_fl, ws_ofi, ws_ofl, ks_ai, ks_az, ks_al, ks_oai, ks_oal, wk_in, wk_in0, wz_0, wz_1, wz_b, wf0_0, wf0_2, ws_call, ws_if, ws_ife, ws_ret, ws_skip, ws_retv, ws_thr, wo_iadd, wo_isub, wo_imul, wo_iand, wo_ior, wo_ixor, wo_ishl, wo_ishr, wo_iushr, wo_ladd, wo_lsub, wo_land, wo_lor, wo_lxor, wo_lshl, wo_lushr, wo_i2l, wo_l2i, List.getElem?_cons_zero, List.getElem?_cons_succ, List.length_cons, List.length_nil, wm_st, wm_st2, List.set_cons_zero, List.set_cons_succ, hF, hA, hR, ev_cl, ev_cl0, ev_lt, ev_ge, ev_gt, ev_le, ev_eqn, ev_nen, ev_ltc, ev_gec, ev_gtc, ev_lec, ev_eqc, ev_nec, ev_pair, ev_pairL, ev_b0, ev_b1, Bool.not_not, ev_sw,  cond_true, cond_false, nI_1, Nat.zero_add, Nat.reduceAdd, Nat.reduceLT, if_true, ite_true, if_false, ite_false, reduceIte, wm_up_same, wm_up_qne, wm_up_kne] <;> rfl, _, rfl, fun r hr i hi => by rw [wm_up_qne (by omega)]; exact a1 r hr i hi, fun r hr => ?_, fun q j hq => by rw [wm_up_qne (by omega)]; exact a3 q j hq⟩
    by_cases e : r = k
    · subst e; exact wm_up_same
    · rw [wm_up_kne e]; exact a2 r (by omega)
  · rintro T1 ⟨a1, a2, a3⟩
    refine wq_step (by simp (disch := first | omega | decide) only [wx_bind, wx_i, wx_l, wx_r, wx_c, wx_bin, wx_un, wx_div, wx_rem, kx_fi, wx_fl, kx_fr, wf3_4, wf3_5, wf3_6, wf3_7, wf3_8, wf3_9, wf3_10, wf3_11, wf3_12, wf3_13, wf3_14, wf3_15, wf3_16, wf3_17, wf3_18, wf3_19, wf3_20, wf3_21, wf3_22, wf3_23, wf3_24, wf3_25, wf3_26, wf3_27, wf3_28, wf3_29, wf3_30, wf3_31, wf3_32, wf3_33, wf3_34, wf3_35, wf3_36, wf3_37, wf3_38, wf3_39, wf3_40, wf3_41, wf3_42, wf3_43, wf3_44, wf3_45, wf3_46, wf3_47, wf3_48, wf3_49, wf3_50, wf3_51, wf3_52, wf3_53, wf3_54, wf3_55, wf3_56, wf3_57, wf3_58, wf3_59, wf3_60, wf3_61, wf3_62, wf3_63, wf3_64, wf3_65, wf3_66, wf3_67, wf3_68, wf3_69, wf3_70, kx_ai, kx_al, kx_ar, wx_cond, wx_a1, wx_ac, wx_call, wm_pi, wm_pl, wb_and, wb_or, wb_not, ws_seq, ws_i, ws_l, ws_inc, ks_fi, ws_fl, ws_ofi, ws_ofl, ks_ai, ks_az, ks_al, ks_oai, ks_oal, wk_in, wk_in0, wz_0, wz_1, wz_b, wf0_0, wf0_2, ws_call, ws_if, ws_ife, ws_ret, ws_skip, ws_retv, ws_thr, wo_iadd, wo_isub, wo_imul, wo_iand, wo_ior, wo_ixor, wo_ishl, wo_ishr, wo_iushr, wo_ladd, wo_lsub, wo_land, wo_lor, wo_lxor, wo_lshl, wo_lushr, wo_i2l, wo_l2i, List.getElem?_cons_zero, List.getElem?_cons_succ, List.length_cons, List.length_nil, wm_st, wm_st2, List.set_cons_zero, List.set_cons_succ, hF, hA, hR, ev_cl, ev_cl0, ev_lt, ev_ge, ev_gt, ev_le, ev_eqn, ev_nen, ev_ltc, ev_gec, ev_gtc, ev_lec, ev_eqc, ev_nec, ev_pair, ev_pairL, ev_b0, ev_b1, Bool.not_not, ev_sw,  cond_true, cond_false, nI_1, Nat.zero_add, Nat.reduceAdd, Nat.reduceLT, if_true, ite_true, if_false, ite_false, reduceIte, wm_up_same, wm_up_qne, wm_up_kne] <;> rfl) (wq_assoc (wq_step (by simp (disch := first | omega | decide) only [wx_bind, wx_i, wx_l, wx_r, wx_c, wx_bin, wx_un, wx_div, wx_rem, kx_fi, wx_fl, kx_fr, wf3_4, wf3_5, wf3_6, wf3_7, wf3_8, wf3_9, wf3_10, wf3_11, wf3_12, wf3_13, wf3_14, wf3_15, wf3_16, wf3_17, wf3_18, wf3_19, wf3_20, wf3_21, wf3_22, wf3_23, wf3_24, wf3_25, wf3_26, wf3_27, wf3_28, wf3_29, wf3_30, wf3_31, wf3_32, wf3_33, wf3_34, wf3_35, wf3_36, wf3_37, wf3_38, wf3_39, wf3_40, wf3_41, wf3_42, wf3_43, wf3_44, wf3_45, wf3_46, wf3_47, wf3_48, wf3_49, wf3_50, wf3_51, wf3_52, wf3_53, wf3_54, wf3_55, wf3_56, wf3_57, wf3_58, wf3_59, wf3_60, wf3_61, wf3_62, wf3_63, wf3_64, wf3_65, wf3_66, wf3_67, wf3_68, wf3_69, wf3_70, kx_ai, kx_al, kx_ar, wx_cond, wx_a1, wx_ac, wx_call, wm_pi, wm_pl, wb_and, wb_or, wb_not, ws_seq, ws_i, ws_l, ws_inc, ks_fi, ws_fl, ws_ofi, ws_ofl, ks_ai, ks_az, ks_al, ks_oai, ks_oal, wk_in, wk_in0, wz_0, wz_1, wz_b, wf0_0, wf0_2, ws_call, ws_if, ws_ife, ws_ret, ws_skip, ws_retv, ws_thr, wo_iadd, wo_isub, wo_imul, wo_iand, wo_ior, wo_ixor, wo_ishl, wo_ishr, wo_iushr, wo_ladd, wo_lsub, wo_land, wo_lor, wo_lxor, wo_lshl, wo_lushr, wo_i2l, wo_l2i, List.getElem?_cons_zero, List.getElem?_cons_succ, List.length_cons, List.length_nil, wm_st, wm_st2, List.set_cons_zero, List.set_cons_succ, hF, hA, hR, ev_cl, ev_cl0, ev_lt, ev_ge, ev_gt, ev_le, ev_eqn, ev_nen, ev_ltc, ev_gec, ev_gtc, ev_lec, ev_eqc, ev_nec, ev_pair, ev_pairL, ev_b0, ev_b1, Bool.not_not, ev_sw,  cond_true, cond_false, nI_1, Nat.zero_add, Nat.reduceAdd, Nat.reduceLT, if_true, ite_true, if_false, ite_false, reduceIte, wm_up_same, wm_up_qne, wm_up_kne] <;> rfl) ?_))
    refine wq_seq.mpr (wq_wh (β := Bool × Nat × (Nat → Nat → Int64)) (fun s => [.ref 20, .ref 1, .int (bif s.1 then 1 else 0), .int (nI s.2.1)]) (fun s => (S.1, s.2.2)) (fun s => s.2.1 ≤ P.1.1 + 1 ∧ us_ok P s.2.2 ∧ us_in P s.2.2 ∧ (s.1 = true → s.2.1 ≤ P.1.1 ∧ ∀ i, i < P.1.2 → gsb P i ≠ -1 → s.2.1 ≤ gC (fun z => bl (s.2.2 22 z) i) P.1.1 ∨ gCl P s.2.2 i) ∧ (s.1 = false → so_ok P s.2.2) ∧ ∀ q k, ¬ (21 ≤ q ∧ q ≤ 24) → s.2.2 q k = S.2 q k) (fun s => P.1.1 + 1 - s.2.1) (fun s => bif decide (s.2.1 ≤ P.1.1) then s.1 else false) ?_ ?_ ?_ (true, 0, T1) rfl rfl ⟨Nat.zero_le _, a1, fun x hx i hi q => ?_, fun _ => ⟨Nat.zero_le _, fun _ _ _ => Or.inl (Nat.zero_le _)⟩, fun q => (nomatch q), a3⟩ (by dsimp only; omega))
    · rintro ⟨t, r, T⟩ ⟨b1, -⟩
      dsimp only at b1
      simp (disch := first | omega | decide) only [wx_bind, wx_i, wx_l, wx_r, wx_c, wx_bin, wx_un, wx_div, wx_rem, kx_fi, wx_fl, kx_fr, wf3_4, wf3_5, wf3_6, wf3_7, wf3_8, wf3_9, wf3_10, wf3_11, wf3_12, wf3_13, wf3_14, wf3_15, wf3_16, wf3_17, wf3_18, wf3_19, wf3_20, wf3_21, wf3_22, wf3_23, wf3_24, wf3_25, wf3_26, wf3_27, wf3_28, wf3_29, wf3_30, wf3_31, wf3_32, wf3_33, wf3_34, wf3_35, wf3_36, wf3_37, wf3_38, wf3_39, wf3_40, wf3_41, wf3_42, wf3_43, wf3_44, wf3_45, wf3_46, wf3_47, wf3_48, wf3_49, wf3_50, wf3_51, wf3_52, wf3_53, wf3_54, wf3_55, wf3_56, wf3_57, wf3_58, wf3_59, wf3_60, wf3_61, wf3_62, wf3_63, wf3_64, wf3_65, wf3_66, wf3_67, wf3_68, wf3_69, wf3_70, kx_ai, kx_al, kx_ar, wx_cond, wx_a1, wx_ac, wx_call, wm_pi, wm_pl, wb_and, wb_or, wb_not, ws_seq, ws_i, ws_l, ws_inc, ks_fi, ws_fl, ws_ofi, ws_ofl, ks_ai, ks_az, ks_al, ks_oai, ks_oal, wk_in, wk_in0, wz_0, wz_1, wz_b, wf0_0, wf0_2, ws_call, ws_if, ws_ife, ws_ret, ws_skip, ws_retv, ws_thr, wo_iadd, wo_isub, wo_imul, wo_iand, wo_ior, wo_ixor, wo_ishl, wo_ishr, wo_iushr, wo_ladd, wo_lsub, wo_land, wo_lor, wo_lxor, wo_lshl, wo_lushr, wo_i2l, wo_l2i, List.getElem?_cons_zero, List.getElem?_cons_succ, List.length_cons, List.length_nil, wm_st, wm_st2, List.set_cons_zero, List.set_cons_succ, hF, hA, hR, ev_cl, ev_cl0, ev_lt, ev_ge, ev_gt, ev_le, ev_eqn, ev_nen, ev_ltc, ev_gec, ev_gtc, ev_lec, ev_eqc, ev_nec, ev_pair, ev_pairL, ev_b0, ev_b1, Bool.not_not, ev_sw,  cond_true, cond_false, nI_1, Nat.zero_add, Nat.reduceAdd, Nat.reduceLT, if_true, ite_true, if_false, ite_false, reduceIte, wm_up_same, wm_up_qne, wm_up_kne, h1]
    · rintro ⟨t, r, T⟩ ⟨b1, b2, b3, b4, b5, b6⟩ hc
      dsimp only at b1 b2 b3 b4 b5 b6 hc ⊢
      have hr : r ≤ P.1.1 := by
        by_cases q : r ≤ P.1.1
        · exact q
        · simp [q] at hc
      have ht : t = true := by simpa [hr] using hc
      obtain ⟨-, b4'⟩ := b4 ht
      obtain ⟨t', T', e', d1, d2, d3, d4, d5, d6, d7, d8⟩ := e_U_passOn hw h b2 b3
      have d9 : ∀ q k, ¬ (21 ≤ q ∧ q ≤ 24) → T' q k = S.2 q k := fun q k hq => by rw [d8 q k (by omega) (by omega) (by omega)]; exact b6 q k hq
      refine ⟨.inl ([.ref 20, .ref 1, .int (bif t' then 1 else 0), .int (nI (r + 1))], (S.1, T')), by simp (disch := first | omega | decide) only [wx_bind, wx_i, wx_l, wx_r, wx_c, wx_bin, wx_un, wx_div, wx_rem, kx_fi, wx_fl, kx_fr, wf3_4, wf3_5, wf3_6, wf3_7, wf3_8, wf3_9, wf3_10, wf3_11, wf3_12, wf3_13, wf3_14, wf3_15, wf3_16, wf3_17, wf3_18, wf3_19, wf3_20, wf3_21, wf3_22, wf3_23, wf3_24, wf3_25, wf3_26, wf3_27, wf3_28, wf3_29, wf3_30, wf3_31, wf3_32, wf3_33, wf3_34, wf3_35, wf3_36, wf3_37, wf3_38, wf3_39, wf3_40, wf3_41, wf3_42, wf3_43, wf3_44, wf3_45, wf3_46, wf3_47, wf3_48, wf3_49, wf3_50, wf3_51, wf3_52, wf3_53, wf3_54, wf3_55, wf3_56, wf3_57, wf3_58, wf3_59, wf3_60, wf3_61, wf3_62, wf3_63, wf3_64, wf3_65, wf3_66, wf3_67, wf3_68, wf3_69, wf3_70, kx_ai, kx_al, kx_ar, wx_cond, wx_a1, wx_ac, wx_call, wm_pi, wm_pl, wb_and, wb_or, wb_not, ws_seq, ws_i, ws_l, ws_inc, ks_fi, ws_fl, ws_ofi, ws_ofl, ks_ai, ks_az, ks_al, ks_oai, ks_oal, wk_in, wk_in0, wz_0, wz_1, wz_b, wf0_0, wf0_2, ws_call, ws_if, ws_ife, ws_ret, ws_skip, ws_retv, ws_thr, wo_iadd, wo_isub, wo_imul, wo_iand, wo_ior, wo_ixor, wo_ishl, wo_ishr, wo_iushr, wo_ladd, wo_lsub, wo_land, wo_lor, wo_lxor, wo_lshl, wo_lushr, wo_i2l, wo_l2i, List.getElem?_cons_zero, List.getElem?_cons_succ, List.length_cons, List.length_nil, wm_st, wm_st2, List.set_cons_zero, List.set_cons_succ, hF, hA, hR, ev_cl, ev_cl0, ev_lt, ev_ge, ev_gt, ev_le, ev_eqn, ev_nen, ev_ltc, ev_gec, ev_gtc, ev_lec, ev_eqc, ev_nec, ev_pair, ev_pairL, ev_b0, ev_b1, Bool.not_not, ev_sw,  cond_true, cond_false, nI_1, Nat.zero_add, Nat.reduceAdd, Nat.reduceLT, if_true, ite_true, if_false, ite_false, reduceIte, wm_up_same, wm_up_qne, wm_up_kne, e'] <;> rfl, (t', r + 1, T'), rfl, ⟨by dsimp only; omega, d1, d2, fun et => ?_, fun et => ?_, d9⟩, by dsimp only; omega⟩
      · dsimp only at et ⊢
        constructor
        · obtain ⟨i, hi, z, hz, q1, q2⟩ := d7 et
          have q3 := d2 z hz i hi q1
          have q4 : ¬ gCl P T i := fun k => by rw [d4 i hi k z hz q1] at q2; exact absurd q2 (by decide)
          have q5 := (b4' i q3.1 q3.2.1).resolve_right q4
          have q6 := gC_le (fun z => bl (T 22 z) i) P.1.1
          refine Classical.byContradiction fun k => ?_
          have := gC_full (f := fun z => bl (T 22 z) i) (n := P.1.1) (by omega) z hz
          rw [q2] at this
          exact absurd this (by decide)
        · intro i hi hs
          have hi64 : i < 64 := by omega
          by_cases hex : ∃ z, z < P.1.1 ∧ bl (T 22 z) i = false ∧ bl (T' 22 z) i = true
          · rcases b4' i hi hs with q | q
            · exact Or.inl (Nat.lt_of_le_of_lt q (gC_lt (fun z hz k => d3 z hz i hi64 k) hex))
            · obtain ⟨z, hz, k1, k2⟩ := hex
              rw [d4 i hi64 q z hz k2] at k1
              exact absurd k1 (by decide)
          · right
            have q : ∀ z, z < P.1.1 → bl (T' 22 z) i = true → bl (T 22 z) i = true := by
              intro z hz k
              cases e0 : bl (T 22 z) i with
              | true => rfl
              | false => exact absurd ⟨z, hz, e0, k⟩ hex
            exact fun b s hb hs' hE hJ => d5 b s ⟨hb, hs'⟩ hE i hi hs (gJ_mono hJ (q b hb))
      · obtain ⟨k1, k2⟩ := d6 et
        refine so_of hw b3 (fun i hi hs b s hb hs' hE hJ => ?_) k2
        have := d5 b s ⟨hb, hs'⟩ hE i hi hs hJ
        rw [k1 s hs'] at this
        exact this
    · rintro ⟨t, r, T⟩ ⟨b1, b2, b3, b4, b5, b6⟩ hc
      dsimp only at b1 b2 b3 b4 b5 b6 hc ⊢
      have ht : t = false := by
        cases et : t with
        | false => rfl
        | true =>
          have := (b4 et).1
          rw [et] at hc
          simp [this] at hc
      exact wq_rets (by simp (disch := first | omega | decide) only [wx_bind, wx_i, wx_l, wx_r, wx_c, wx_bin, wx_un, wx_div, wx_rem, kx_fi, wx_fl, kx_fr, wf3_4, wf3_5, wf3_6, wf3_7, wf3_8, wf3_9, wf3_10, wf3_11, wf3_12, wf3_13, wf3_14, wf3_15, wf3_16, wf3_17, wf3_18, wf3_19, wf3_20, wf3_21, wf3_22, wf3_23, wf3_24, wf3_25, wf3_26, wf3_27, wf3_28, wf3_29, wf3_30, wf3_31, wf3_32, wf3_33, wf3_34, wf3_35, wf3_36, wf3_37, wf3_38, wf3_39, wf3_40, wf3_41, wf3_42, wf3_43, wf3_44, wf3_45, wf3_46, wf3_47, wf3_48, wf3_49, wf3_50, wf3_51, wf3_52, wf3_53, wf3_54, wf3_55, wf3_56, wf3_57, wf3_58, wf3_59, wf3_60, wf3_61, wf3_62, wf3_63, wf3_64, wf3_65, wf3_66, wf3_67, wf3_68, wf3_69, wf3_70, kx_ai, kx_al, kx_ar, wx_cond, wx_a1, wx_ac, wx_call, wm_pi, wm_pl, wb_and, wb_or, wb_not, ws_seq, ws_i, ws_l, ws_inc, ks_fi, ws_fl, ws_ofi, ws_ofl, ks_ai, ks_az, ks_al, ks_oai, ks_oal, wk_in, wk_in0, wz_0, wz_1, wz_b, wf0_0, wf0_2, ws_call, ws_if, ws_ife, ws_ret, ws_skip, ws_retv, ws_thr, wo_iadd, wo_isub, wo_imul, wo_iand, wo_ior, wo_ixor, wo_ishl, wo_ishr, wo_iushr, wo_ladd, wo_lsub, wo_land, wo_lor, wo_lxor, wo_lshl, wo_lushr, wo_i2l, wo_l2i, List.getElem?_cons_zero, List.getElem?_cons_succ, List.length_cons, List.length_nil, wm_st, wm_st2, List.set_cons_zero, List.set_cons_succ, hF, hA, hR, ev_cl, ev_cl0, ev_lt, ev_ge, ev_gt, ev_le, ev_eqn, ev_nen, ev_ltc, ev_gec, ev_gtc, ev_lec, ev_eqc, ev_nec, ev_pair, ev_pairL, ev_b0, ev_b1, Bool.not_not, ev_sw,  cond_true, cond_false, nI_1, Nat.zero_add, Nat.reduceAdd, Nat.reduceLT, if_true, ite_true, if_false, ite_false, reduceIte, wm_up_same, wm_up_qne, wm_up_kne] <;> rfl) ⟨rfl, T, rfl, b5 ht, b6⟩
    · dsimp only at q
      rw [a2 x hx, l_0] at q
      exact absurd q (by decide)
end PGJ

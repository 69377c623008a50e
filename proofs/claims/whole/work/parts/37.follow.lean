/-! setBy, uses, through, follow of the reference -/
section PGK
variable {S : wm_S} {P : PG}
theorem e_Z_setBy (h : pg_R P S) {k : Nat} (hm : P.1.2 ≤ 60) (hk : k < P.1.2) : f_Z_setBy [.ref 47, .int (nI k)] S = some (some (.int (gsb P k)), S) := by
  refine wq_eq (wq_fn rfl rfl rfl ?_)
  show wq (t_Z_setBy [.ref 47, .int (nI k)] S) _
  unfold t_Z_setBy
  obtain ⟨L, N, M1, M2, hL, hN0, hF, hA, hR, hN, hM1, hM2⟩ := w_ex; (try simp only [hL, hN0])
  obtain ⟨a1, a2, -⟩ := h.2.2.2 k hk
  refine wq_rets (by simp (disch := first | omega | decide) only [wx_bind, wx_i, wx_l, wx_r, wx_c, wx_bin, wx_un, wx_div, wx_rem, kx_fi, wx_fl, kx_fr, wf3_4, wf3_5, wf3_6, wf3_7, wf3_8, wf3_9, wf3_10, wf3_11, wf3_12, wf3_13, wf3_14, wf3_15, wf3_16, wf3_17, wf3_18, wf3_19, wf3_20, wf3_21, wf3_22, wf3_23, wf3_24, wf3_25, wf3_26, wf3_27, wf3_28, wf3_29, wf3_30, wf3_31, wf3_32, wf3_33, wf3_34, wf3_35, wf3_36, wf3_37, wf3_38, wf3_39, wf3_40, wf3_41, wf3_42, wf3_43, wf3_44, wf3_45, wf3_46, wf3_47, wf3_48, wf3_49, wf3_50, wf3_51, wf3_52, wf3_53, wf3_54, wf3_55, wf3_56, wf3_57, wf3_58, wf3_59, wf3_60, wf3_61, wf3_62, wf3_63, wf3_64, wf3_65, wf3_66, wf3_67, wf3_68, wf3_69, wf3_70, kx_ai, kx_al, kx_ar, wx_cond, wx_a1, wx_ac, wx_call, wm_pi, wm_pl, wb_and, wb_or, wb_not, ws_seq, ws_i, ws_l, ws_inc, ks_fi, ws_fl, ws_ofi, ws_ofl, ks_ai, ks_az, ks_al, ks_oai, ks_oal, wk_in, wk_in0, wz_0, wz_1, wz_b, wf0_0, wf0_2, ws_call, ws_if, ws_ife, ws_ret, ws_skip, ws_retv, ws_thr, wo_iadd, wo_isub, wo_imul, wo_iand, wo_ior, wo_ixor, wo_ishl, wo_ishr, wo_iushr, wo_ladd, wo_lsub, wo_land, wo_lor, wo_lxor, wo_lshl, wo_lushr, wo_i2l, wo_l2i, List.getElem?_cons_zero, List.getElem?_cons_succ, List.length_cons, List.length_nil, wm_st, wm_st2, List.set_cons_zero, List.set_cons_succ, hF, hA, hR, ev_cl, ev_cl0, ev_lt, ev_ge, ev_gt, ev_le, ev_eqn, ev_nen, ev_ltc, ev_gec, ev_gtc, ev_lec, ev_eqc, ev_nec, ev_pair, ev_pairL, ev_b0, ev_b1, Bool.not_not, ev_sw,  cond_true, cond_false, nI_1, Nat.zero_add, Nat.reduceAdd, Nat.reduceLT, if_true, ite_true, if_false, ite_false, reduceIte, wm_up_same, wm_up_qne, wm_up_kne, a1, a2] <;> rfl) ⟨rfl, rfl⟩
theorem e_Z_uses (hw : pg_wf P) (h : pg_R P S) {k r : Nat} (hk : k < P.1.2) : f_Z_uses [.ref 47, .int (nI k), .int (nI r)] S = some (some (.int (bif gB (gu P k r) then 1 else 0)), S) := by
  refine wq_eq (wq_fn rfl rfl rfl ?_)
  show wq (t_Z_uses [.ref 47, .int (nI k), .int (nI r)] S) _
  unfold t_Z_uses
  obtain ⟨L, N, M1, M2, hL, hN0, hF, hA, hR, hN, hM1, hM2⟩ := w_ex; (try simp only [hL, hN0])
  have hm := hw.2.1
  obtain ⟨a1, a2, a3, a4, -⟩ := h.2.2.2 k hk
  obtain ⟨o, ho, eo, -, hb, hc⟩ := hw.2.2.2.1 k hk
  rw [eo] at a1
  have hgu : gu P k r ↔ ((o = 7 ∧ P.2 5 k = nI r) ∨ (1 ≤ o ∧ o ≤ 5 ∧ P.2 6 k = nI r) ∨ (2 ≤ o ∧ o ≤ 5 ∧ P.2 7 k = nI r)) := by
    constructor
    · rintro ⟨o', ho', e', q⟩
      rw [eo] at e'
      have := (nI_eq (a := o) (b := o') (by omega) (by omega)).mp e'
      subst this
      exact q
    · exact fun q => ⟨o, ho, eo, q⟩
  by_cases h7 : o = 7
  · have d7 : decide (o = 7) = true := by simpa using h7
    refine wq_rets (v := some (.int (bif gB (gu P k r) then 1 else 0))) (S1 := S) (by
      have e : wr_eq (P.2 5 k) (nI r) = gB (gu P k r) := by
        refine gB_eq ?_
        rw [i32_eq, hgu]
        exact ⟨fun q => Or.inl ⟨h7, q⟩, fun q => by
          rcases q with ⟨_, q⟩ | ⟨_, q, _⟩ | ⟨_, q, _⟩
          · exact q
          · omega
          · omega⟩
      simp (disch := first | omega | decide) only [wx_bind, wx_i, wx_l, wx_r, wx_c, wx_bin, wx_un, wx_div, wx_rem, kx_fi, wx_fl, kx_fr, wf3_4, wf3_5, wf3_6, wf3_7, wf3_8, wf3_9, wf3_10, wf3_11, wf3_12, wf3_13, wf3_14, wf3_15, wf3_16, wf3_17, wf3_18, wf3_19, wf3_20, wf3_21, wf3_22, wf3_23, wf3_24, wf3_25, wf3_26, wf3_27, wf3_28, wf3_29, wf3_30, wf3_31, wf3_32, wf3_33, wf3_34, wf3_35, wf3_36, wf3_37, wf3_38, wf3_39, wf3_40, wf3_41, wf3_42, wf3_43, wf3_44, wf3_45, wf3_46, wf3_47, wf3_48, wf3_49, wf3_50, wf3_51, wf3_52, wf3_53, wf3_54, wf3_55, wf3_56, wf3_57, wf3_58, wf3_59, wf3_60, wf3_61, wf3_62, wf3_63, wf3_64, wf3_65, wf3_66, wf3_67, wf3_68, wf3_69, wf3_70, kx_ai, kx_al, kx_ar, wx_cond, wx_a1, wx_ac, wx_call, wm_pi, wm_pl, wb_and, wb_or, wb_not, ws_seq, ws_i, ws_l, ws_inc, ks_fi, ws_fl, ws_ofi, ws_ofl, ks_ai, ks_az, ks_al, ks_oai, ks_oal, wk_in, wk_in0, wz_0, wz_1, wz_b, wf0_0, wf0_2, ws_call, ws_if, ws_ife, ws_ret, ws_skip, ws_retv, ws_thr, wo_iadd, wo_isub, wo_imul, wo_iand, wo_ior, wo_ixor, wo_ishl, wo_ishr, wo_iushr, wo_ladd, wo_lsub, wo_land, wo_lor, wo_lxor, wo_lshl, wo_lushr, wo_i2l, wo_l2i, List.getElem?_cons_zero, List.getElem?_cons_succ, List.length_cons, List.length_nil, wm_st, wm_st2, List.set_cons_zero, List.set_cons_succ, hF, hA, hR, ev_cl, ev_cl0, ev_lt, ev_ge, ev_gt, ev_le, ev_eqn, ev_nen, ev_ltc, ev_gec, ev_gtc, ev_lec, ev_eqc, ev_nec, ev_pair, ev_pairL, ev_b0, ev_b1, Bool.not_not, ev_sw,  cond_true, cond_false, nI_1, Nat.zero_add, Nat.reduceAdd, Nat.reduceLT, if_true, ite_true, if_false, ite_false, reduceIte, wm_up_same, wm_up_qne, wm_up_kne, a1, d7, a2, e] <;> rfl) ⟨wm_rt3, rfl⟩
  · have d7 : decide (o = 7) = false := by simpa using h7
    refine wq_rets (v := some (.int (bif gB (gu P k r) then 1 else 0))) (S1 := S) (by
      have e : (bif (bif decide (1 ≤ o ∧ o ≤ 5) then wr_eq (P.2 6 k) (nI r) else false) then true else (bif decide (2 ≤ o ∧ o ≤ 5) then wr_eq (P.2 7 k) (nI r) else false)) = gB (gu P k r) := by
        refine gB_eq ?_
        have e : ∀ a b c d : Bool, (bif (bif a then b else false) then true else (bif c then d else false)) = true ↔ (a = true ∧ b = true) ∨ (c = true ∧ d = true) := by decide
        rw [e, hgu, decide_eq_true_eq, decide_eq_true_eq, i32_eq, i32_eq]
        constructor
        · rintro (⟨q1, q2⟩ | ⟨q1, q2⟩)
          · exact Or.inr (Or.inl ⟨q1.1, q1.2, q2⟩)
          · exact Or.inr (Or.inr ⟨q1.1, q1.2, q2⟩)
        · rintro (⟨q, _⟩ | ⟨q1, q2, q3⟩ | ⟨q1, q2, q3⟩)
          · exact absurd q h7
          · exact Or.inl ⟨⟨q1, q2⟩, q3⟩
          · exact Or.inr ⟨⟨q1, q2⟩, q3⟩
      rw [← e]
      simp (disch := first | omega | decide) only [wx_bind, wx_i, wx_l, wx_r, wx_c, wx_bin, wx_un, wx_div, wx_rem, kx_fi, wx_fl, kx_fr, wf3_4, wf3_5, wf3_6, wf3_7, wf3_8, wf3_9, wf3_10, wf3_11, wf3_12, wf3_13, wf3_14, wf3_15, wf3_16, wf3_17, wf3_18, wf3_19, wf3_20, wf3_21, wf3_22, wf3_23, wf3_24, wf3_25, wf3_26, wf3_27, wf3_28, wf3_29, wf3_30, wf3_31, wf3_32, wf3_33, wf3_34, wf3_35, wf3_36, wf3_37, wf3_38, wf3_39, wf3_40, wf3_41, wf3_42, wf3_43, wf3_44, wf3_45, wf3_46, wf3_47, wf3_48, wf3_49, wf3_50, wf3_51, wf3_52, wf3_53, wf3_54, wf3_55, wf3_56, wf3_57, wf3_58, wf3_59, wf3_60, wf3_61, wf3_62, wf3_63, wf3_64, wf3_65, wf3_66, wf3_67, wf3_68, wf3_69, wf3_70, kx_ai, kx_al, kx_ar, wx_cond, wx_a1, wx_ac, wx_call, wm_pi, wm_pl, wb_and, wb_or, wb_not, ws_seq, ws_i, ws_l, ws_inc, ks_fi, ws_fl, ws_ofi, ws_ofl, ks_ai, ks_az, ks_al, ks_oai, ks_oal, wk_in, wk_in0, wz_0, wz_1, wz_b, wf0_0, wf0_2, ws_call, ws_if, ws_ife, ws_ret, ws_skip, ws_retv, ws_thr, wo_iadd, wo_isub, wo_imul, wo_iand, wo_ior, wo_ixor, wo_ishl, wo_ishr, wo_iushr, wo_ladd, wo_lsub, wo_land, wo_lor, wo_lxor, wo_lshl, wo_lushr, wo_i2l, wo_l2i, List.getElem?_cons_zero, List.getElem?_cons_succ, List.length_cons, List.length_nil, wm_st, wm_st2, List.set_cons_zero, List.set_cons_succ, hF, hA, hR, ev_cl, ev_cl0, ev_lt, ev_ge, ev_gt, ev_le, ev_eqn, ev_nen, ev_ltc, ev_gec, ev_gtc, ev_lec, ev_eqc, ev_nec, ev_pair, ev_pairL, ev_b0, ev_b1, Bool.not_not, ev_sw,  cond_true, cond_false, nI_1, Nat.zero_add, Nat.reduceAdd, Nat.reduceLT, if_true, ite_true, if_false, ite_false, reduceIte, wm_up_same, wm_up_qne, wm_up_kne, a1, d7, a3, a4, e_Z_hasFirst, e_Z_hasSecond, zf_nI ho, zs_nI ho] <;> rfl) ⟨wm_rt3, rfl⟩
theorem e_Z_usesEnd (hn : P.1.1 ≤ 12) (h : pg_R P S) {b r : Nat} (hb : b < P.1.1) : f_Z_usesEnd [.ref 47, .int (nI b), .int (nI r)] S = some (some (.int (bif gB (gue P b r) then 1 else 0)), S) := by
  refine wq_eq (wq_fn rfl rfl rfl ?_)
  show wq (t_Z_usesEnd [.ref 47, .int (nI b), .int (nI r)] S) _
  unfold t_Z_usesEnd
  obtain ⟨L, N, M1, M2, hL, hN0, hF, hA, hR, hN, hM1, hM2⟩ := w_ex; (try simp only [hL, hN0])
  obtain ⟨a1, a2, -⟩ := h.2.2.1 b hb
  refine wq_rets (by simp (disch := first | omega | decide) only [wx_bind, wx_i, wx_l, wx_r, wx_c, wx_bin, wx_un, wx_div, wx_rem, kx_fi, wx_fl, kx_fr, wf3_4, wf3_5, wf3_6, wf3_7, wf3_8, wf3_9, wf3_10, wf3_11, wf3_12, wf3_13, wf3_14, wf3_15, wf3_16, wf3_17, wf3_18, wf3_19, wf3_20, wf3_21, wf3_22, wf3_23, wf3_24, wf3_25, wf3_26, wf3_27, wf3_28, wf3_29, wf3_30, wf3_31, wf3_32, wf3_33, wf3_34, wf3_35, wf3_36, wf3_37, wf3_38, wf3_39, wf3_40, wf3_41, wf3_42, wf3_43, wf3_44, wf3_45, wf3_46, wf3_47, wf3_48, wf3_49, wf3_50, wf3_51, wf3_52, wf3_53, wf3_54, wf3_55, wf3_56, wf3_57, wf3_58, wf3_59, wf3_60, wf3_61, wf3_62, wf3_63, wf3_64, wf3_65, wf3_66, wf3_67, wf3_68, wf3_69, wf3_70, kx_ai, kx_al, kx_ar, wx_cond, wx_a1, wx_ac, wx_call, wm_pi, wm_pl, wb_and, wb_or, wb_not, ws_seq, ws_i, ws_l, ws_inc, ks_fi, ws_fl, ws_ofi, ws_ofl, ks_ai, ks_az, ks_al, ks_oai, ks_oal, wk_in, wk_in0, wz_0, wz_1, wz_b, wf0_0, wf0_2, ws_call, ws_if, ws_ife, ws_ret, ws_skip, ws_retv, ws_thr, wo_iadd, wo_isub, wo_imul, wo_iand, wo_ior, wo_ixor, wo_ishl, wo_ishr, wo_iushr, wo_ladd, wo_lsub, wo_land, wo_lor, wo_lxor, wo_lshl, wo_lushr, wo_i2l, wo_l2i, List.getElem?_cons_zero, List.getElem?_cons_succ, List.length_cons, List.length_nil, wm_st, wm_st2, List.set_cons_zero, List.set_cons_succ, hF, hA, hR, ev_cl, ev_cl0, ev_lt, ev_ge, ev_gt, ev_le, ev_eqn, ev_nen, ev_ltc, ev_gec, ev_gtc, ev_lec, ev_eqc, ev_nec, ev_pair, ev_pairL, ev_b0, ev_b1, Bool.not_not, ev_sw,  cond_true, cond_false, nI_1, Nat.zero_add, Nat.reduceAdd, Nat.reduceLT, if_true, ite_true, if_false, ite_false, reduceIte, wm_up_same, wm_up_qne, wm_up_kne, a1, a2] <;> rfl) ⟨wm_rt3, ?_⟩
  have : (bif wr_ne (P.2 0 b) 1 then wr_eq (P.2 1 b) (nI r) else false) = gB (gue P b r) := by
    refine gB_eq ?_
    have e : ∀ a b : Bool, (bif a then b else false) = true ↔ a = true ∧ b = true := by decide
    rw [e, i32_ne, i32_eq]
    rfl
  rw [this]
theorem ix60 {x b : Nat} : (60 : Int32) * nI x + nI b = nI (60 * x + b) := by
  rw [← nI_add, ← pk_mul]; rfl
theorem ks_azq {L : List wm_C} {a : wm_Ex Nat} {b c : wm_Ex Int32} {lv : List Value} {S : wm_S} {q j n : Nat} {f : Nat → Nat} {v : Int32} (ha : a lv S = some (q, S)) (hb : b lv S = some (nI j, S)) (hc : c lv S = some (v, S)) (hk : wm_ak L q 3 = some (n, f)) (hj : j < n) (hj2 : j < 2147483648) (hv : v = 0 ∨ v = 1) : ws_az L a b c lv S = some (.inl (lv, (wm_up S.1 q j v, S.2))) := by
  rw [ks_az]
  unfold wx_bind
  rw [ha]
  dsimp only
  rw [hb]
  dsimp only
  rw [hc]
  dsimp only
  rw [hk, wk_in hj hj2]
  exact if_pos hv
def fw_fr (i : Nat) (I I' : Nat → Nat → Int32) : Prop := ∀ q k, ¬ ((q = 59 ∧ 60 * i ≤ k ∧ k < 60 * i + 60) ∨ (q = 60 ∧ 12 * i ≤ k ∧ k < 12 * i + 12)) → I' q k = I q k
theorem fw_R {i : Nat} {I' : Nat → Nat → Int32} (h : pg_R P S) (hf : fw_fr i S.1 I') : pg_R P (I', S.2) := pg_R_same (S := S) (S' := (I', S.2)) (W := fun q _ => q = 59 ∨ q = 60) h (fun q k hq => ⟨hf q k (by omega), rfl⟩) (fun q k hq => by omega)
theorem e_Z_through (hw : pg_wf P) (h : pg_R P S) {i b k0 : Nat} {j : Int32} (hi : i < P.1.2) (hb : b < P.1.1) (hj : j + 1 = nI k0) (hk0 : k0 ≤ P.1.2) : ∃ I', f_Z_through [.ref 47, .int (nI i), .int (nI b), .int j] S = some (some (.int (bif gB (gfree P i b k0 P.1.2) then 1 else 0)), (I', S.2)) ∧ (∀ k, k < 60 → I' 59 (60 * i + k) = bif gB (k0 ≤ k ∧ k < P.1.2 ∧ P.2 8 k = nI b ∧ gfree P i b k0 k) then 1 else S.1 59 (60 * i + k)) ∧ I' 60 (12 * i + b) = (bif gB (gfree P i b k0 P.1.2) then 1 else S.1 60 (12 * i + b)) ∧ ∀ q k, ¬ ((q = 59 ∧ 60 * i ≤ k ∧ k < 60 * i + 60) ∨ (q = 60 ∧ k = 12 * i + b)) → I' q k = S.1 q k := by
  suffices hq : wq (f_Z_through [.ref 47, .int (nI i), .int (nI b), .int j] S) (fun z => ∃ I', z = (some (.int (bif gB (gfree P i b k0 P.1.2) then 1 else 0)), (I', S.2)) ∧ (∀ k, k < 60 → I' 59 (60 * i + k) = bif gB (k0 ≤ k ∧ k < P.1.2 ∧ P.2 8 k = nI b ∧ gfree P i b k0 k) then 1 else S.1 59 (60 * i + k)) ∧ I' 60 (12 * i + b) = (bif gB (gfree P i b k0 P.1.2) then 1 else S.1 60 (12 * i + b)) ∧ ∀ q k, ¬ ((q = 59 ∧ 60 * i ≤ k ∧ k < 60 * i + 60) ∨ (q = 60 ∧ k = 12 * i + b)) → I' q k = S.1 q k) by
    obtain ⟨z, e, I', rfl, hb⟩ := hq
    exact ⟨I', e, hb⟩
  refine wq_fn rfl rfl rfl ?_
  show wq (t_Z_through [.ref 47, .int (nI i), .int (nI b), .int j, .retAddr 0, .retAddr 0] S) _
  unfold t_Z_through
  obtain ⟨L, N, M1, M2, hL, hN0, hF, hA, hR, hN, hM1, hM2⟩ := w_ex; (try simp only [hL, hN0])
  have hn := hw.1
  have hm := hw.2.1
  refine wq_step (by simp (disch := first | omega | decide) only [wx_bind, wx_i, wx_l, wx_r, wx_c, wx_bin, wx_un, wx_div, wx_rem, kx_fi, wx_fl, kx_fr, wf3_4, wf3_5, wf3_6, wf3_7, wf3_8, wf3_9, wf3_10, wf3_11, wf3_12, wf3_13, wf3_14, wf3_15, wf3_16, wf3_17, wf3_18, wf3_19, wf3_20, wf3_21, wf3_22, wf3_23, wf3_24, wf3_25, wf3_26, wf3_27, wf3_28, wf3_29, wf3_30, wf3_31, wf3_32, wf3_33, wf3_34, wf3_35, wf3_36, wf3_37, wf3_38, wf3_39, wf3_40, wf3_41, wf3_42, wf3_43, wf3_44, wf3_45, wf3_46, wf3_47, wf3_48, wf3_49, wf3_50, wf3_51, wf3_52, wf3_53, wf3_54, wf3_55, wf3_56, wf3_57, wf3_58, wf3_59, wf3_60, wf3_61, wf3_62, wf3_63, wf3_64, wf3_65, wf3_66, wf3_67, wf3_68, wf3_69, wf3_70, kx_ai, kx_al, kx_ar, wx_cond, wx_a1, wx_ac, wx_call, wm_pi, wm_pl, wb_and, wb_or, wb_not, ws_seq, ws_i, ws_l, ws_inc, ks_fi, ws_fl, ws_ofi, ws_ofl, ks_ai, ks_az, ks_al, ks_oai, ks_oal, wk_in, wk_in0, wz_0, wz_1, wz_b, wf0_0, wf0_2, ws_call, ws_if, ws_ife, ws_ret, ws_skip, ws_retv, ws_thr, wo_iadd, wo_isub, wo_imul, wo_iand, wo_ior, wo_ixor, wo_ishl, wo_ishr, wo_iushr, wo_ladd, wo_lsub, wo_land, wo_lor, wo_lxor, wo_lshl, wo_lushr, wo_i2l, wo_l2i, List.getElem?_cons_zero, List.getElem?_cons_succ, List.length_cons, List.length_nil, wm_st, wm_st2, List.set_cons_zero, List.set_cons_succ, hF, hA, hR, ev_cl, ev_cl0, ev_lt, ev_ge, ev_gt, ev_le, ev_eqn, ev_nen, ev_ltc, ev_gec, ev_gtc, ev_lec, ev_eqc, ev_nec, ev_pair, ev_pairL, ev_b0, ev_b1, Bool.not_not, ev_sw,  cond_true, cond_false, nI_1, Nat.zero_add, Nat.reduceAdd, Nat.reduceLT, if_true, ite_true, if_false, ite_false, reduceIte, wm_up_same, wm_up_qne, wm_up_kne] <;> rfl) (wq_assoc (wq_step (by simp (disch := first | omega | decide) only [wx_bind, wx_i, wx_l, wx_r, wx_c, wx_bin, wx_un, wx_div, wx_rem, kx_fi, wx_fl, kx_fr, wf3_4, wf3_5, wf3_6, wf3_7, wf3_8, wf3_9, wf3_10, wf3_11, wf3_12, wf3_13, wf3_14, wf3_15, wf3_16, wf3_17, wf3_18, wf3_19, wf3_20, wf3_21, wf3_22, wf3_23, wf3_24, wf3_25, wf3_26, wf3_27, wf3_28, wf3_29, wf3_30, wf3_31, wf3_32, wf3_33, wf3_34, wf3_35, wf3_36, wf3_37, wf3_38, wf3_39, wf3_40, wf3_41, wf3_42, wf3_43, wf3_44, wf3_45, wf3_46, wf3_47, wf3_48, wf3_49, wf3_50, wf3_51, wf3_52, wf3_53, wf3_54, wf3_55, wf3_56, wf3_57, wf3_58, wf3_59, wf3_60, wf3_61, wf3_62, wf3_63, wf3_64, wf3_65, wf3_66, wf3_67, wf3_68, wf3_69, wf3_70, kx_ai, kx_al, kx_ar, wx_cond, wx_a1, wx_ac, wx_call, wm_pi, wm_pl, wb_and, wb_or, wb_not, ws_seq, ws_i, ws_l, ws_inc, ks_fi, ws_fl, ws_ofi, ws_ofl, ks_ai, ks_az, ks_al, ks_oai, ks_oal, wk_in, wk_in0, wz_0, wz_1, wz_b, wf0_0, wf0_2, ws_call, ws_if, ws_ife, ws_ret, ws_skip, ws_retv, ws_thr, wo_iadd, wo_isub, wo_imul, wo_iand, wo_ior, wo_ixor, wo_ishl, wo_ishr, wo_iushr, wo_ladd, wo_lsub, wo_land, wo_lor, wo_lxor, wo_lshl, wo_lushr, wo_i2l, wo_l2i, List.getElem?_cons_zero, List.getElem?_cons_succ, List.length_cons, List.length_nil, wm_st, wm_st2, List.set_cons_zero, List.set_cons_succ, hF, hA, hR, ev_cl, ev_cl0, ev_lt, ev_ge, ev_gt, ev_le, ev_eqn, ev_nen, ev_ltc, ev_gec, ev_gtc, ev_lec, ev_eqc, ev_nec, ev_pair, ev_pairL, ev_b0, ev_b1, Bool.not_not, ev_sw,  cond_true, cond_false, nI_1, Nat.zero_add, Nat.reduceAdd, Nat.reduceLT, if_true, ite_true, if_false, ite_false, reduceIte, wm_up_same, wm_up_qne, wm_up_kne, hj] <;> rfl) ?_))
  have hRI : ∀ I : Nat → Nat → Int32, (∀ q k, ¬ (q = 59 ∧ 60 * i ≤ k ∧ k < 60 * i + 60) → I q k = S.1 q k) → pg_R P (I, S.2) := fun I hI => fw_R (i := i) h (fun q k hq => hI q k (by omega))
  refine wq_seq.mpr (wq_wh (β := Bool × Nat × (Nat → Nat → Int32)) (fun s => [.ref 47, .int (nI i), .int (nI b), .int j, .int (bif s.1 then 1 else 0), .int (nI s.2.1)]) (fun s => (s.2.2, S.2)) (fun s => k0 ≤ s.2.1 ∧ s.2.1 ≤ P.1.2 ∧ s.1 = gB (gfree P i b k0 s.2.1) ∧ (∀ k, k < 60 → s.2.2 59 (60 * i + k) = bif gB (k0 ≤ k ∧ k < s.2.1 ∧ P.2 8 k = nI b ∧ gfree P i b k0 k) then 1 else S.1 59 (60 * i + k)) ∧ ∀ q k, ¬ (q = 59 ∧ 60 * i ≤ k ∧ k < 60 * i + 60) → s.2.2 q k = S.1 q k) (fun s => P.1.2 - s.2.1) (fun s => bif decide (s.2.1 < P.1.2) then s.1 else false) ?_ ?_ ?_ (true, k0, S.1) rfl rfl ⟨Nat.le_refl _, hk0, gB_eq ⟨fun _ k q1 q2 => by dsimp only at q2; omega, fun _ => rfl⟩, fun k hk => ?_, fun _ _ _ => rfl⟩ (by dsimp only; omega))
  · rintro ⟨t, k, I⟩ ⟨-, a2, -, -, a5⟩
    dsimp only at a2 a5
    have h1 : I 47 6 = nI P.1.2 := (hRI I a5).2.1
    simp (disch := first | omega | decide) only [wx_bind, wx_i, wx_l, wx_r, wx_c, wx_bin, wx_un, wx_div, wx_rem, kx_fi, wx_fl, kx_fr, wf3_4, wf3_5, wf3_6, wf3_7, wf3_8, wf3_9, wf3_10, wf3_11, wf3_12, wf3_13, wf3_14, wf3_15, wf3_16, wf3_17, wf3_18, wf3_19, wf3_20, wf3_21, wf3_22, wf3_23, wf3_24, wf3_25, wf3_26, wf3_27, wf3_28, wf3_29, wf3_30, wf3_31, wf3_32, wf3_33, wf3_34, wf3_35, wf3_36, wf3_37, wf3_38, wf3_39, wf3_40, wf3_41, wf3_42, wf3_43, wf3_44, wf3_45, wf3_46, wf3_47, wf3_48, wf3_49, wf3_50, wf3_51, wf3_52, wf3_53, wf3_54, wf3_55, wf3_56, wf3_57, wf3_58, wf3_59, wf3_60, wf3_61, wf3_62, wf3_63, wf3_64, wf3_65, wf3_66, wf3_67, wf3_68, wf3_69, wf3_70, kx_ai, kx_al, kx_ar, wx_cond, wx_a1, wx_ac, wx_call, wm_pi, wm_pl, wb_and, wb_or, wb_not, ws_seq, ws_i, ws_l, ws_inc, ks_fi, ws_fl, ws_ofi, ws_ofl, ks_ai, ks_az, ks_al, ks_oai, ks_oal, wk_in, wk_in0, wz_0, wz_1, wz_b, wf0_0, wf0_2, ws_call, ws_if, ws_ife, ws_ret, ws_skip, ws_retv, ws_thr, wo_iadd, wo_isub, wo_imul, wo_iand, wo_ior, wo_ixor, wo_ishl, wo_ishr, wo_iushr, wo_ladd, wo_lsub, wo_land, wo_lor, wo_lxor, wo_lshl, wo_lushr, wo_i2l, wo_l2i, List.getElem?_cons_zero, List.getElem?_cons_succ, List.length_cons, List.length_nil, wm_st, wm_st2, List.set_cons_zero, List.set_cons_succ, hF, hA, hR, ev_cl, ev_cl0, ev_lt, ev_ge, ev_gt, ev_le, ev_eqn, ev_nen, ev_ltc, ev_gec, ev_gtc, ev_lec, ev_eqc, ev_nec, ev_pair, ev_pairL, ev_b0, ev_b1, Bool.not_not, ev_sw,  cond_true, cond_false, nI_1, Nat.zero_add, Nat.reduceAdd, Nat.reduceLT, if_true, ite_true, if_false, ite_false, reduceIte, wm_up_same, wm_up_qne, wm_up_kne, h1]
  · rintro ⟨t, k, I⟩ ⟨a1, a2, a3, a4, a5⟩ hc
    dsimp only at a1 a2 a3 a4 a5 hc ⊢
    have hk : k < P.1.2 := by
      by_cases q : k < P.1.2
      · exact q
      · simp [q] at hc
    have ht : t = true := by simpa [hk] using hc
    have hfr : gfree P i b k0 k := gB_iff.mp (by rw [← a3]; exact ht)
    have hR := hRI I a5
    have ehm : I 52 k = P.2 8 k := (hR.2.2.2 k hk).2.2.2.2
    have hk60 : k < 60 := by omega
    have hi60 : i < 60 := by omega
    refine wq_ifs (t := wr_eq (P.2 8 k) (nI b)) (by simp (disch := first | omega | decide) only [wx_bind, wx_i, wx_l, wx_r, wx_c, wx_bin, wx_un, wx_div, wx_rem, kx_fi, wx_fl, kx_fr, wf3_4, wf3_5, wf3_6, wf3_7, wf3_8, wf3_9, wf3_10, wf3_11, wf3_12, wf3_13, wf3_14, wf3_15, wf3_16, wf3_17, wf3_18, wf3_19, wf3_20, wf3_21, wf3_22, wf3_23, wf3_24, wf3_25, wf3_26, wf3_27, wf3_28, wf3_29, wf3_30, wf3_31, wf3_32, wf3_33, wf3_34, wf3_35, wf3_36, wf3_37, wf3_38, wf3_39, wf3_40, wf3_41, wf3_42, wf3_43, wf3_44, wf3_45, wf3_46, wf3_47, wf3_48, wf3_49, wf3_50, wf3_51, wf3_52, wf3_53, wf3_54, wf3_55, wf3_56, wf3_57, wf3_58, wf3_59, wf3_60, wf3_61, wf3_62, wf3_63, wf3_64, wf3_65, wf3_66, wf3_67, wf3_68, wf3_69, wf3_70, kx_ai, kx_al, kx_ar, wx_cond, wx_a1, wx_ac, wx_call, wm_pi, wm_pl, wb_and, wb_or, wb_not, ws_seq, ws_i, ws_l, ws_inc, ks_fi, ws_fl, ws_ofi, ws_ofl, ks_ai, ks_az, ks_al, ks_oai, ks_oal, wk_in, wk_in0, wz_0, wz_1, wz_b, wf0_0, wf0_2, ws_call, ws_if, ws_ife, ws_ret, ws_skip, ws_retv, ws_thr, wo_iadd, wo_isub, wo_imul, wo_iand, wo_ior, wo_ixor, wo_ishl, wo_ishr, wo_iushr, wo_ladd, wo_lsub, wo_land, wo_lor, wo_lxor, wo_lshl, wo_lushr, wo_i2l, wo_l2i, List.getElem?_cons_zero, List.getElem?_cons_succ, List.length_cons, List.length_nil, wm_st, wm_st2, List.set_cons_zero, List.set_cons_succ, hF, hA, hR, ev_cl, ev_cl0, ev_lt, ev_ge, ev_gt, ev_le, ev_eqn, ev_nen, ev_ltc, ev_gec, ev_gtc, ev_lec, ev_eqc, ev_nec, ev_pair, ev_pairL, ev_b0, ev_b1, Bool.not_not, ev_sw,  cond_true, cond_false, nI_1, Nat.zero_add, Nat.reduceAdd, Nat.reduceLT, if_true, ite_true, if_false, ite_false, reduceIte, wm_up_same, wm_up_qne, wm_up_kne, ehm] <;> rfl) (fun hh => ?_) (fun hh => ?_)
    · have hh := i32_eq.mp hh
      have a6 : ∀ q k', ¬ (q = 59 ∧ 60 * i ≤ k' ∧ k' < 60 * i + 60) → wm_up I 59 (60 * i + k) 1 q k' = S.1 q k' := by
        intro q k' hq
        by_cases e : q = 59
        · subst e
          rw [wm_up_kne (by omega)]; exact a5 _ _ hq
        · rw [wm_up_qne e]; exact a5 _ _ hq
      have hR2 := hRI _ a6
      refine wq_assoc (wq_step (lv1 := [.ref 47, .int (nI i), .int (nI b), .int j, .int (bif t then 1 else 0), .int (nI k)]) (S1 := (wm_up I 59 (60 * i + k) 1, S.2)) (ks_azq (q := 59) (n := M1) (by simp (disch := first | omega | decide) only [wx_bind, wx_i, wx_l, wx_r, wx_c, wx_bin, wx_un, wx_div, wx_rem, kx_fi, wx_fl, kx_fr, wf3_4, wf3_5, wf3_6, wf3_7, wf3_8, wf3_9, wf3_10, wf3_11, wf3_12, wf3_13, wf3_14, wf3_15, wf3_16, wf3_17, wf3_18, wf3_19, wf3_20, wf3_21, wf3_22, wf3_23, wf3_24, wf3_25, wf3_26, wf3_27, wf3_28, wf3_29, wf3_30, wf3_31, wf3_32, wf3_33, wf3_34, wf3_35, wf3_36, wf3_37, wf3_38, wf3_39, wf3_40, wf3_41, wf3_42, wf3_43, wf3_44, wf3_45, wf3_46, wf3_47, wf3_48, wf3_49, wf3_50, wf3_51, wf3_52, wf3_53, wf3_54, wf3_55, wf3_56, wf3_57, wf3_58, wf3_59, wf3_60, wf3_61, wf3_62, wf3_63, wf3_64, wf3_65, wf3_66, wf3_67, wf3_68, wf3_69, wf3_70, kx_ai, kx_al, kx_ar, wx_cond, wx_a1, wx_ac, wx_call, wm_pi, wm_pl, wb_and, wb_or, wb_not, ws_seq, ws_i, ws_l, ws_inc, ks_fi, ws_fl, ws_ofi, ws_ofl, ks_ai, ks_az, ks_al, ks_oai, ks_oal, wk_in, wk_in0, wz_0, wz_1, wz_b, wf0_0, wf0_2, ws_call, ws_if, ws_ife, ws_ret, ws_skip, ws_retv, ws_thr, wo_iadd, wo_isub, wo_imul, wo_iand, wo_ior, wo_ixor, wo_ishl, wo_ishr, wo_iushr, wo_ladd, wo_lsub, wo_land, wo_lor, wo_lxor, wo_lshl, wo_lushr, wo_i2l, wo_l2i, List.getElem?_cons_zero, List.getElem?_cons_succ, List.length_cons, List.length_nil, wm_st, wm_st2, List.set_cons_zero, List.set_cons_succ, hF, hA, hR, ev_cl, ev_cl0, ev_lt, ev_ge, ev_gt, ev_le, ev_eqn, ev_nen, ev_ltc, ev_gec, ev_gtc, ev_lec, ev_eqc, ev_nec, ev_pair, ev_pairL, ev_b0, ev_b1, Bool.not_not, ev_sw,  cond_true, cond_false, nI_1, Nat.zero_add, Nat.reduceAdd, Nat.reduceLT, if_true, ite_true, if_false, ite_false, reduceIte, wm_up_same, wm_up_qne, wm_up_kne]) (by simp (disch := first | omega | decide) only [wx_bind, wx_i, wx_l, wx_r, wx_c, wx_bin, wx_un, wx_div, wx_rem, kx_fi, wx_fl, kx_fr, wf3_4, wf3_5, wf3_6, wf3_7, wf3_8, wf3_9, wf3_10, wf3_11, wf3_12, wf3_13, wf3_14, wf3_15, wf3_16, wf3_17, wf3_18, wf3_19, wf3_20, wf3_21, wf3_22, wf3_23, wf3_24, wf3_25, wf3_26, wf3_27, wf3_28, wf3_29, wf3_30, wf3_31, wf3_32, wf3_33, wf3_34, wf3_35, wf3_36, wf3_37, wf3_38, wf3_39, wf3_40, wf3_41, wf3_42, wf3_43, wf3_44, wf3_45, wf3_46, wf3_47, wf3_48, wf3_49, wf3_50, wf3_51, wf3_52, wf3_53, wf3_54, wf3_55, wf3_56, wf3_57, wf3_58, wf3_59, wf3_60, wf3_61, wf3_62, wf3_63, wf3_64, wf3_65, wf3_66, wf3_67, wf3_68, wf3_69, wf3_70, kx_ai, kx_al, kx_ar, wx_cond, wx_a1, wx_ac, wx_call, wm_pi, wm_pl, wb_and, wb_or, wb_not, ws_seq, ws_i, ws_l, ws_inc, ks_fi, ws_fl, ws_ofi, ws_ofl, ks_ai, ks_az, ks_al, ks_oai, ks_oal, wk_in, wk_in0, wz_0, wz_1, wz_b, wf0_0, wf0_2, ws_call, ws_if, ws_ife, ws_ret, ws_skip, ws_retv, ws_thr, wo_iadd, wo_isub, wo_imul, wo_iand, wo_ior, wo_ixor, wo_ishl, wo_ishr, wo_iushr, wo_ladd, wo_lsub, wo_land, wo_lor, wo_lxor, wo_lshl, wo_lushr, wo_i2l, wo_l2i, List.getElem?_cons_zero, List.getElem?_cons_succ, List.length_cons, List.length_nil, wm_st, wm_st2, List.set_cons_zero, List.set_cons_succ, hF, hA, hR, ev_cl, ev_cl0, ev_lt, ev_ge, ev_gt, ev_le, ev_eqn, ev_nen, ev_ltc, ev_gec, ev_gtc, ev_lec, ev_eqc, ev_nec, ev_pair, ev_pairL, ev_b0, ev_b1, Bool.not_not, ev_sw,  cond_true, cond_false, nI_1, Nat.zero_add, Nat.reduceAdd, Nat.reduceLT, if_true, ite_true, if_false, ite_false, reduceIte, wm_up_same, wm_up_qne, wm_up_kne, ix60]) (by simp (disch := first | omega | decide) only [wx_bind, wx_i, wx_l, wx_r, wx_c, wx_bin, wx_un, wx_div, wx_rem, kx_fi, wx_fl, kx_fr, wf3_4, wf3_5, wf3_6, wf3_7, wf3_8, wf3_9, wf3_10, wf3_11, wf3_12, wf3_13, wf3_14, wf3_15, wf3_16, wf3_17, wf3_18, wf3_19, wf3_20, wf3_21, wf3_22, wf3_23, wf3_24, wf3_25, wf3_26, wf3_27, wf3_28, wf3_29, wf3_30, wf3_31, wf3_32, wf3_33, wf3_34, wf3_35, wf3_36, wf3_37, wf3_38, wf3_39, wf3_40, wf3_41, wf3_42, wf3_43, wf3_44, wf3_45, wf3_46, wf3_47, wf3_48, wf3_49, wf3_50, wf3_51, wf3_52, wf3_53, wf3_54, wf3_55, wf3_56, wf3_57, wf3_58, wf3_59, wf3_60, wf3_61, wf3_62, wf3_63, wf3_64, wf3_65, wf3_66, wf3_67, wf3_68, wf3_69, wf3_70, kx_ai, kx_al, kx_ar, wx_cond, wx_a1, wx_ac, wx_call, wm_pi, wm_pl, wb_and, wb_or, wb_not, ws_seq, ws_i, ws_l, ws_inc, ks_fi, ws_fl, ws_ofi, ws_ofl, ks_ai, ks_az, ks_al, ks_oai, ks_oal, wk_in, wk_in0, wz_0, wz_1, wz_b, wf0_0, wf0_2, ws_call, ws_if, ws_ife, ws_ret, ws_skip, ws_retv, ws_thr, wo_iadd, wo_isub, wo_imul, wo_iand, wo_ior, wo_ixor, wo_ishl, wo_ishr, wo_iushr, wo_ladd, wo_lsub, wo_land, wo_lor, wo_lxor, wo_lshl, wo_lushr, wo_i2l, wo_l2i, List.getElem?_cons_zero, List.getElem?_cons_succ, List.length_cons, List.length_nil, wm_st, wm_st2, List.set_cons_zero, List.set_cons_succ, hF, hA, hR, ev_cl, ev_cl0, ev_lt, ev_ge, ev_gt, ev_le, ev_eqn, ev_nen, ev_ltc, ev_gec, ev_gtc, ev_lec, ev_eqc, ev_nec, ev_pair, ev_pairL, ev_b0, ev_b1, Bool.not_not, ev_sw,  cond_true, cond_false, nI_1, Nat.zero_add, Nat.reduceAdd, Nat.reduceLT, if_true, ite_true, if_false, ite_false, reduceIte, wm_up_same, wm_up_qne, wm_up_kne]) (by simp only [hA]; rfl) (by omega) (by omega) (Or.inr rfl)) ?_)
      refine ⟨.inl ([.ref 47, .int (nI i), .int (nI b), .int j, .int (bif wr_ne (gsb P k) (gsb P i) then 1 else 0), .int (nI (k + 1))], (wm_up I 59 (60 * i + k) 1, S.2)), by simp (disch := first | omega | decide) only [wx_bind, wx_i, wx_l, wx_r, wx_c, wx_bin, wx_un, wx_div, wx_rem, kx_fi, wx_fl, kx_fr, wf3_4, wf3_5, wf3_6, wf3_7, wf3_8, wf3_9, wf3_10, wf3_11, wf3_12, wf3_13, wf3_14, wf3_15, wf3_16, wf3_17, wf3_18, wf3_19, wf3_20, wf3_21, wf3_22, wf3_23, wf3_24, wf3_25, wf3_26, wf3_27, wf3_28, wf3_29, wf3_30, wf3_31, wf3_32, wf3_33, wf3_34, wf3_35, wf3_36, wf3_37, wf3_38, wf3_39, wf3_40, wf3_41, wf3_42, wf3_43, wf3_44, wf3_45, wf3_46, wf3_47, wf3_48, wf3_49, wf3_50, wf3_51, wf3_52, wf3_53, wf3_54, wf3_55, wf3_56, wf3_57, wf3_58, wf3_59, wf3_60, wf3_61, wf3_62, wf3_63, wf3_64, wf3_65, wf3_66, wf3_67, wf3_68, wf3_69, wf3_70, kx_ai, kx_al, kx_ar, wx_cond, wx_a1, wx_ac, wx_call, wm_pi, wm_pl, wb_and, wb_or, wb_not, ws_seq, ws_i, ws_l, ws_inc, ks_fi, ws_fl, ws_ofi, ws_ofl, ks_ai, ks_az, ks_al, ks_oai, ks_oal, wk_in, wk_in0, wz_0, wz_1, wz_b, wf0_0, wf0_2, ws_call, ws_if, ws_ife, ws_ret, ws_skip, ws_retv, ws_thr, wo_iadd, wo_isub, wo_imul, wo_iand, wo_ior, wo_ixor, wo_ishl, wo_ishr, wo_iushr, wo_ladd, wo_lsub, wo_land, wo_lor, wo_lxor, wo_lshl, wo_lushr, wo_i2l, wo_l2i, List.getElem?_cons_zero, List.getElem?_cons_succ, List.length_cons, List.length_nil, wm_st, wm_st2, List.set_cons_zero, List.set_cons_succ, hF, hA, hR, ev_cl, ev_cl0, ev_lt, ev_ge, ev_gt, ev_le, ev_eqn, ev_nen, ev_ltc, ev_gec, ev_gtc, ev_lec, ev_eqc, ev_nec, ev_pair, ev_pairL, ev_b0, ev_b1, Bool.not_not, ev_sw,  cond_true, cond_false, nI_1, Nat.zero_add, Nat.reduceAdd, Nat.reduceLT, if_true, ite_true, if_false, ite_false, reduceIte, wm_up_same, wm_up_qne, wm_up_kne, e_Z_setBy hR2 hm hk, e_Z_setBy hR2 hm hi] <;> rfl, (wr_ne (gsb P k) (gsb P i), k + 1, wm_up I 59 (60 * i + k) 1), rfl, ⟨by dsimp only; omega, hk, gB_eq ?_, fun k' hk' => ?_, a6⟩, by dsimp only; omega⟩
      · dsimp only
        rw [i32_ne]
        constructor
        · intro q j' q1 q2 q3
          by_cases e : j' = k
          · subst e; exact q
          · exact hfr j' q1 (by omega) q3
        · intro q
          exact q k a1 (by omega) hh
      · dsimp only
        by_cases e : k' = k
        · subst e
          have : k0 ≤ k' ∧ k' < k' + 1 ∧ P.2 8 k' = nI b ∧ gfree P i b k0 k' := ⟨a1, by omega, hh, hfr⟩
          rw [wm_up_same, gB_iff.mpr this]; rfl
        · rw [wm_up_kne (by omega), a4 k' hk']
          congr 1
          exact gB_cg ⟨fun q => ⟨q.1, by omega, q.2.2⟩, fun q => ⟨q.1, by omega, q.2.2⟩⟩
    · have hh : P.2 8 k ≠ nI b := fun e => by rw [i32_eq.mpr e] at hh; exact absurd hh (by decide)
      refine ⟨.inl ([.ref 47, .int (nI i), .int (nI b), .int j, .int (bif t then 1 else 0), .int (nI (k + 1))], (I, S.2)), by simp (disch := first | omega | decide) only [wx_bind, wx_i, wx_l, wx_r, wx_c, wx_bin, wx_un, wx_div, wx_rem, kx_fi, wx_fl, kx_fr, wf3_4, wf3_5, wf3_6, wf3_7, wf3_8, wf3_9, wf3_10, wf3_11, wf3_12, wf3_13, wf3_14, wf3_15, wf3_16, wf3_17, wf3_18, wf3_19, wf3_20, wf3_21, wf3_22, wf3_23, wf3_24, wf3_25, wf3_26, wf3_27, wf3_28, wf3_29, wf3_30, wf3_31, wf3_32, wf3_33, wf3_34, wf3_35, wf3_36, wf3_37, wf3_38, wf3_39, wf3_40, wf3_41, wf3_42, wf3_43, wf3_44, wf3_45, wf3_46, wf3_47, wf3_48, wf3_49, wf3_50, wf3_51, wf3_52, wf3_53, wf3_54, wf3_55, wf3_56, wf3_57, wf3_58, wf3_59, wf3_60, wf3_61, wf3_62, wf3_63, wf3_64, wf3_65, wf3_66, wf3_67, wf3_68, wf3_69, wf3_70, kx_ai, kx_al, kx_ar, wx_cond, wx_a1, wx_ac, wx_call, wm_pi, wm_pl, wb_and, wb_or, wb_not, ws_seq, ws_i, ws_l, ws_inc, ks_fi, ws_fl, ws_ofi, ws_ofl, ks_ai, ks_az, ks_al, ks_oai, ks_oal, wk_in, wk_in0, wz_0, wz_1, wz_b, wf0_0, wf0_2, ws_call, ws_if, ws_ife, ws_ret, ws_skip, ws_retv, ws_thr, wo_iadd, wo_isub, wo_imul, wo_iand, wo_ior, wo_ixor, wo_ishl, wo_ishr, wo_iushr, wo_ladd, wo_lsub, wo_land, wo_lor, wo_lxor, wo_lshl, wo_lushr, wo_i2l, wo_l2i, List.getElem?_cons_zero, List.getElem?_cons_succ, List.length_cons, List.length_nil, wm_st, wm_st2, List.set_cons_zero, List.set_cons_succ, hF, hA, hR, ev_cl, ev_cl0, ev_lt, ev_ge, ev_gt, ev_le, ev_eqn, ev_nen, ev_ltc, ev_gec, ev_gtc, ev_lec, ev_eqc, ev_nec, ev_pair, ev_pairL, ev_b0, ev_b1, Bool.not_not, ev_sw,  cond_true, cond_false, nI_1, Nat.zero_add, Nat.reduceAdd, Nat.reduceLT, if_true, ite_true, if_false, ite_false, reduceIte, wm_up_same, wm_up_qne, wm_up_kne] <;> rfl, (t, k + 1, I), rfl, ⟨by dsimp only; omega, hk, ?_, fun k' hk' => ?_, a5⟩, by dsimp only; omega⟩
      · dsimp only
        rw [ht]
        refine gB_eq ⟨fun _ j' q1 q2 q3 => ?_, fun _ => rfl⟩
        by_cases e : j' = k
        · subst e; exact absurd q3 hh
        · exact hfr j' q1 (by omega) q3
      · dsimp only
        rw [a4 k' hk']
        congr 1
        refine gB_cg ⟨fun q => ⟨q.1, by omega, q.2.2⟩, fun q => ⟨q.1, ?_, q.2.2⟩⟩
        by_cases e : k' = k
        · subst e; exact absurd q.2.2.1 hh
        · omega
  · rintro ⟨t, k, I⟩ ⟨a1, a2, a3, a4, a5⟩ hc
    dsimp only at a1 a2 a3 a4 a5 hc ⊢
    have ht : t = gB (gfree P i b k0 P.1.2) := by
      cases et : t with
      | true =>
        have : k = P.1.2 := by
          refine Classical.byContradiction fun q => ?_
          have : k < P.1.2 := by omega
          simp [this, et] at hc
        rw [← this, ← a3, et]
      | false =>
        refine (gB_not.mpr fun q => ?_).symm
        rw [et] at a3
        exact gB_not.mp a3.symm (fun j' q1 q2 => q j' q1 (by omega))
    have a6 : ∀ k', k' < 60 → I 59 (60 * i + k') = bif gB (k0 ≤ k' ∧ k' < P.1.2 ∧ P.2 8 k' = nI b ∧ gfree P i b k0 k') then 1 else S.1 59 (60 * i + k') := by
      intro k' hk'
      rw [a4 k' hk']
      congr 1
      refine gB_cg ⟨fun q => ⟨q.1, by omega, q.2.2⟩, fun q => ⟨q.1, ?_, q.2.2⟩⟩
      refine Classical.byContradiction fun z => ?_
      have hkm : k < P.1.2 := by omega
      have et : t = false := by
        cases et : t with
        | false => rfl
        | true => simp [hkm, et] at hc
      rw [et] at a3
      exact gB_not.mp a3.symm (fun j' q1 q2 => q.2.2.2 j' q1 (by omega))
    have hi60 : i < 60 := by omega
    refine wq_ifs (t := t) (by simp (disch := first | omega | decide) only [wx_bind, wx_i, wx_l, wx_r, wx_c, wx_bin, wx_un, wx_div, wx_rem, kx_fi, wx_fl, kx_fr, wf3_4, wf3_5, wf3_6, wf3_7, wf3_8, wf3_9, wf3_10, wf3_11, wf3_12, wf3_13, wf3_14, wf3_15, wf3_16, wf3_17, wf3_18, wf3_19, wf3_20, wf3_21, wf3_22, wf3_23, wf3_24, wf3_25, wf3_26, wf3_27, wf3_28, wf3_29, wf3_30, wf3_31, wf3_32, wf3_33, wf3_34, wf3_35, wf3_36, wf3_37, wf3_38, wf3_39, wf3_40, wf3_41, wf3_42, wf3_43, wf3_44, wf3_45, wf3_46, wf3_47, wf3_48, wf3_49, wf3_50, wf3_51, wf3_52, wf3_53, wf3_54, wf3_55, wf3_56, wf3_57, wf3_58, wf3_59, wf3_60, wf3_61, wf3_62, wf3_63, wf3_64, wf3_65, wf3_66, wf3_67, wf3_68, wf3_69, wf3_70, kx_ai, kx_al, kx_ar, wx_cond, wx_a1, wx_ac, wx_call, wm_pi, wm_pl, wb_and, wb_or, wb_not, ws_seq, ws_i, ws_l, ws_inc, ks_fi, ws_fl, ws_ofi, ws_ofl, ks_ai, ks_az, ks_al, ks_oai, ks_oal, wk_in, wk_in0, wz_0, wz_1, wz_b, wf0_0, wf0_2, ws_call, ws_if, ws_ife, ws_ret, ws_skip, ws_retv, ws_thr, wo_iadd, wo_isub, wo_imul, wo_iand, wo_ior, wo_ixor, wo_ishl, wo_ishr, wo_iushr, wo_ladd, wo_lsub, wo_land, wo_lor, wo_lxor, wo_lshl, wo_lushr, wo_i2l, wo_l2i, List.getElem?_cons_zero, List.getElem?_cons_succ, List.length_cons, List.length_nil, wm_st, wm_st2, List.set_cons_zero, List.set_cons_succ, hF, hA, hR, ev_cl, ev_cl0, ev_lt, ev_ge, ev_gt, ev_le, ev_eqn, ev_nen, ev_ltc, ev_gec, ev_gtc, ev_lec, ev_eqc, ev_nec, ev_pair, ev_pairL, ev_b0, ev_b1, Bool.not_not, ev_sw,  cond_true, cond_false, nI_1, Nat.zero_add, Nat.reduceAdd, Nat.reduceLT, if_true, ite_true, if_false, ite_false, reduceIte, wm_up_same, wm_up_qne, wm_up_kne] <;> rfl) (fun hc' => ?_) (fun hc' => ?_)
    · refine wq_step (lv1 := [.ref 47, .int (nI i), .int (nI b), .int j, .int (bif t then 1 else 0), .int (nI k)]) (S1 := (wm_up I 60 (12 * i + b) 1, S.2)) (ks_azq (q := 60) (n := M2) (by simp (disch := first | omega | decide) only [wx_bind, wx_i, wx_l, wx_r, wx_c, wx_bin, wx_un, wx_div, wx_rem, kx_fi, wx_fl, kx_fr, wf3_4, wf3_5, wf3_6, wf3_7, wf3_8, wf3_9, wf3_10, wf3_11, wf3_12, wf3_13, wf3_14, wf3_15, wf3_16, wf3_17, wf3_18, wf3_19, wf3_20, wf3_21, wf3_22, wf3_23, wf3_24, wf3_25, wf3_26, wf3_27, wf3_28, wf3_29, wf3_30, wf3_31, wf3_32, wf3_33, wf3_34, wf3_35, wf3_36, wf3_37, wf3_38, wf3_39, wf3_40, wf3_41, wf3_42, wf3_43, wf3_44, wf3_45, wf3_46, wf3_47, wf3_48, wf3_49, wf3_50, wf3_51, wf3_52, wf3_53, wf3_54, wf3_55, wf3_56, wf3_57, wf3_58, wf3_59, wf3_60, wf3_61, wf3_62, wf3_63, wf3_64, wf3_65, wf3_66, wf3_67, wf3_68, wf3_69, wf3_70, kx_ai, kx_al, kx_ar, wx_cond, wx_a1, wx_ac, wx_call, wm_pi, wm_pl, wb_and, wb_or, wb_not, ws_seq, ws_i, ws_l, ws_inc, ks_fi, ws_fl, ws_ofi, ws_ofl, ks_ai, ks_az, ks_al, ks_oai, ks_oal, wk_in, wk_in0, wz_0, wz_1, wz_b, wf0_0, wf0_2, ws_call, ws_if, ws_ife, ws_ret, ws_skip, ws_retv, ws_thr, wo_iadd, wo_isub, wo_imul, wo_iand, wo_ior, wo_ixor, wo_ishl, wo_ishr, wo_iushr, wo_ladd, wo_lsub, wo_land, wo_lor, wo_lxor, wo_lshl, wo_lushr, wo_i2l, wo_l2i, List.getElem?_cons_zero, List.getElem?_cons_succ, List.length_cons, List.length_nil, wm_st, wm_st2, List.set_cons_zero, List.set_cons_succ, hF, hA, hR, ev_cl, ev_cl0, ev_lt, ev_ge, ev_gt, ev_le, ev_eqn, ev_nen, ev_ltc, ev_gec, ev_gtc, ev_lec, ev_eqc, ev_nec, ev_pair, ev_pairL, ev_b0, ev_b1, Bool.not_not, ev_sw,  cond_true, cond_false, nI_1, Nat.zero_add, Nat.reduceAdd, Nat.reduceLT, if_true, ite_true, if_false, ite_false, reduceIte, wm_up_same, wm_up_qne, wm_up_kne]) (by simp (disch := first | omega | decide) only [wx_bind, wx_i, wx_l, wx_r, wx_c, wx_bin, wx_un, wx_div, wx_rem, kx_fi, wx_fl, kx_fr, wf3_4, wf3_5, wf3_6, wf3_7, wf3_8, wf3_9, wf3_10, wf3_11, wf3_12, wf3_13, wf3_14, wf3_15, wf3_16, wf3_17, wf3_18, wf3_19, wf3_20, wf3_21, wf3_22, wf3_23, wf3_24, wf3_25, wf3_26, wf3_27, wf3_28, wf3_29, wf3_30, wf3_31, wf3_32, wf3_33, wf3_34, wf3_35, wf3_36, wf3_37, wf3_38, wf3_39, wf3_40, wf3_41, wf3_42, wf3_43, wf3_44, wf3_45, wf3_46, wf3_47, wf3_48, wf3_49, wf3_50, wf3_51, wf3_52, wf3_53, wf3_54, wf3_55, wf3_56, wf3_57, wf3_58, wf3_59, wf3_60, wf3_61, wf3_62, wf3_63, wf3_64, wf3_65, wf3_66, wf3_67, wf3_68, wf3_69, wf3_70, kx_ai, kx_al, kx_ar, wx_cond, wx_a1, wx_ac, wx_call, wm_pi, wm_pl, wb_and, wb_or, wb_not, ws_seq, ws_i, ws_l, ws_inc, ks_fi, ws_fl, ws_ofi, ws_ofl, ks_ai, ks_az, ks_al, ks_oai, ks_oal, wk_in, wk_in0, wz_0, wz_1, wz_b, wf0_0, wf0_2, ws_call, ws_if, ws_ife, ws_ret, ws_skip, ws_retv, ws_thr, wo_iadd, wo_isub, wo_imul, wo_iand, wo_ior, wo_ixor, wo_ishl, wo_ishr, wo_iushr, wo_ladd, wo_lsub, wo_land, wo_lor, wo_lxor, wo_lshl, wo_lushr, wo_i2l, wo_l2i, List.getElem?_cons_zero, List.getElem?_cons_succ, List.length_cons, List.length_nil, wm_st, wm_st2, List.set_cons_zero, List.set_cons_succ, hF, hA, hR, ev_cl, ev_cl0, ev_lt, ev_ge, ev_gt, ev_le, ev_eqn, ev_nen, ev_ltc, ev_gec, ev_gtc, ev_lec, ev_eqc, ev_nec, ev_pair, ev_pairL, ev_b0, ev_b1, Bool.not_not, ev_sw,  cond_true, cond_false, nI_1, Nat.zero_add, Nat.reduceAdd, Nat.reduceLT, if_true, ite_true, if_false, ite_false, reduceIte, wm_up_same, wm_up_qne, wm_up_kne, ix12]) (by simp (disch := first | omega | decide) only [wx_bind, wx_i, wx_l, wx_r, wx_c, wx_bin, wx_un, wx_div, wx_rem, kx_fi, wx_fl, kx_fr, wf3_4, wf3_5, wf3_6, wf3_7, wf3_8, wf3_9, wf3_10, wf3_11, wf3_12, wf3_13, wf3_14, wf3_15, wf3_16, wf3_17, wf3_18, wf3_19, wf3_20, wf3_21, wf3_22, wf3_23, wf3_24, wf3_25, wf3_26, wf3_27, wf3_28, wf3_29, wf3_30, wf3_31, wf3_32, wf3_33, wf3_34, wf3_35, wf3_36, wf3_37, wf3_38, wf3_39, wf3_40, wf3_41, wf3_42, wf3_43, wf3_44, wf3_45, wf3_46, wf3_47, wf3_48, wf3_49, wf3_50, wf3_51, wf3_52, wf3_53, wf3_54, wf3_55, wf3_56, wf3_57, wf3_58, wf3_59, wf3_60, wf3_61, wf3_62, wf3_63, wf3_64, wf3_65, wf3_66, wf3_67, wf3_68, wf3_69, wf3_70, kx_ai, kx_al, kx_ar, wx_cond, wx_a1, wx_ac, wx_call, wm_pi, wm_pl, wb_and, wb_or, wb_not, ws_seq, ws_i, ws_l, ws_inc, ks_fi, ws_fl, ws_ofi, ws_ofl, ks_ai, ks_az, ks_al, ks_oai, ks_oal, wk_in, wk_in0, wz_0, wz_1, wz_b, wf0_0, wf0_2, ws_call, ws_if, ws_ife, ws_ret, ws_skip, ws_retv, ws_thr, wo_iadd, wo_isub, wo_imul, wo_iand, wo_ior, wo_ixor, wo_ishl, wo_ishr, wo_iushr, wo_ladd, wo_lsub, wo_land, wo_lor, wo_lxor, wo_lshl, wo_lushr, wo_i2l, wo_l2i, List.getElem?_cons_zero, List.getElem?_cons_succ, List.length_cons, List.length_nil, wm_st, wm_st2, List.set_cons_zero, List.set_cons_succ, hF, hA, hR, ev_cl, ev_cl0, ev_lt, ev_ge, ev_gt, ev_le, ev_eqn, ev_nen, ev_ltc, ev_gec, ev_gtc, ev_lec, ev_eqc, ev_nec, ev_pair, ev_pairL, ev_b0, ev_b1, Bool.not_not, ev_sw,  cond_true, cond_false, nI_1, Nat.zero_add, Nat.reduceAdd, Nat.reduceLT, if_true, ite_true, if_false, ite_false, reduceIte, wm_up_same, wm_up_qne, wm_up_kne]) (by simp only [hA]; rfl) (by omega) (by omega) (Or.inr rfl)) (wq_rets (by simp (disch := first | omega | decide) only [wx_bind, wx_i, wx_l, wx_r, wx_c, wx_bin, wx_un, wx_div, wx_rem, kx_fi, wx_fl, kx_fr, wf3_4, wf3_5, wf3_6, wf3_7, wf3_8, wf3_9, wf3_10, wf3_11, wf3_12, wf3_13, wf3_14, wf3_15, wf3_16, wf3_17, wf3_18, wf3_19, wf3_20, wf3_21, wf3_22, wf3_23, wf3_24, wf3_25, wf3_26, wf3_27, wf3_28, wf3_29, wf3_30, wf3_31, wf3_32, wf3_33, wf3_34, wf3_35, wf3_36, wf3_37, wf3_38, wf3_39, wf3_40, wf3_41, wf3_42, wf3_43, wf3_44, wf3_45, wf3_46, wf3_47, wf3_48, wf3_49, wf3_50, wf3_51, wf3_52, wf3_53, wf3_54, wf3_55, wf3_56, wf3_57, wf3_58, wf3_59, wf3_60, wf3_61, wf3_62, wf3_63, wf3_64, wf3_65, wf3_66, wf3_67, wf3_68, wf3_69, wf3_70, kx_ai, kx_al, kx_ar, wx_cond, wx_a1, wx_ac, wx_call, wm_pi, wm_pl, wb_and, wb_or, wb_not, ws_seq, ws_i, ws_l, ws_inc, ks_fi, ws_fl, ws_ofi, ws_ofl, ks_ai, ks_az, ks_al, ks_oai, ks_oal, wk_in, wk_in0, wz_0, wz_1, wz_b, wf0_0, wf0_2, ws_call, ws_if, ws_ife, ws_ret, ws_skip, ws_retv, ws_thr, wo_iadd, wo_isub, wo_imul, wo_iand, wo_ior, wo_ixor, wo_ishl, wo_ishr, wo_iushr, wo_ladd, wo_lsub, wo_land, wo_lor, wo_lxor, wo_lshl, wo_lushr, wo_i2l, wo_l2i, List.getElem?_cons_zero, List.getElem?_cons_succ, List.length_cons, List.length_nil, wm_st, wm_st2, List.set_cons_zero, List.set_cons_succ, hF, hA, hR, ev_cl, ev_cl0, ev_lt, ev_ge, ev_gt, ev_le, ev_eqn, ev_nen, ev_ltc, ev_gec, ev_gtc, ev_lec, ev_eqc, ev_nec, ev_pair, ev_pairL, ev_b0, ev_b1, Bool.not_not, ev_sw,  cond_true, cond_false, nI_1, Nat.zero_add, Nat.reduceAdd, Nat.reduceLT, if_true, ite_true, if_false, ite_false, reduceIte, wm_up_same, wm_up_qne, wm_up_kne] <;> rfl) ⟨wm_rt3, wm_up I 60 (12 * i + b) 1, by rw [ht], fun k' hk' => ?_, ?_, fun q k' hq => ?_⟩)
      · rw [wm_up_qne (by omega)]; exact a6 k' hk'
      · rw [wm_up_same, ← ht, hc']; rfl
      · by_cases e : q = 60
        · subst e; rw [wm_up_kne (by omega)]; exact a5 _ _ (by omega)
        · rw [wm_up_qne e]; exact a5 _ _ (by omega)
    · refine wq_rets (by simp (disch := first | omega | decide) only [wx_bind, wx_i, wx_l, wx_r, wx_c, wx_bin, wx_un, wx_div, wx_rem, kx_fi, wx_fl, kx_fr, wf3_4, wf3_5, wf3_6, wf3_7, wf3_8, wf3_9, wf3_10, wf3_11, wf3_12, wf3_13, wf3_14, wf3_15, wf3_16, wf3_17, wf3_18, wf3_19, wf3_20, wf3_21, wf3_22, wf3_23, wf3_24, wf3_25, wf3_26, wf3_27, wf3_28, wf3_29, wf3_30, wf3_31, wf3_32, wf3_33, wf3_34, wf3_35, wf3_36, wf3_37, wf3_38, wf3_39, wf3_40, wf3_41, wf3_42, wf3_43, wf3_44, wf3_45, wf3_46, wf3_47, wf3_48, wf3_49, wf3_50, wf3_51, wf3_52, wf3_53, wf3_54, wf3_55, wf3_56, wf3_57, wf3_58, wf3_59, wf3_60, wf3_61, wf3_62, wf3_63, wf3_64, wf3_65, wf3_66, wf3_67, wf3_68, wf3_69, wf3_70, kx_ai, kx_al, kx_ar, wx_cond, wx_a1, wx_ac, wx_call, wm_pi, wm_pl, wb_and, wb_or, wb_not, ws_seq, ws_i, ws_l, ws_inc, ks_fi, ws_fl, ws_ofi, ws_ofl, ks_ai, ks_az, ks_al, ks_oai, ks_oal, wk_in, wk_in0, wz_0, wz_1, wz_b, wf0_0, wf0_2, ws_call, ws_if, ws_ife, ws_ret, ws_skip, ws_retv, ws_thr, wo_iadd, wo_isub, wo_imul, wo_iand, wo_ior, wo_ixor, wo_ishl, wo_ishr, wo_iushr, wo_ladd, wo_lsub, wo_land, wo_lor, wo_lxor, wo_lshl, wo_lushr, wo_i2l, wo_l2i, List.getElem?_cons_zero, List.getElem?_cons_succ, List.length_cons, List.length_nil, wm_st, wm_st2, List.set_cons_zero, List.set_cons_succ, hF, hA, hR, ev_cl, ev_cl0, ev_lt, ev_ge, ev_gt, ev_le, ev_eqn, ev_nen, ev_ltc, ev_gec, ev_gtc, ev_lec, ev_eqc, ev_nec, ev_pair, ev_pairL, ev_b0, ev_b1, Bool.not_not, ev_sw,  cond_true, cond_false, nI_1, Nat.zero_add, Nat.reduceAdd, Nat.reduceLT, if_true, ite_true, if_false, ite_false, reduceIte, wm_up_same, wm_up_qne, wm_up_kne] <;> rfl) ⟨wm_rt3, I, by rw [ht], a6, ?_, fun q k' hq => a5 _ _ (by omega)⟩
      rw [← ht, hc', a5 60 _ (by omega)]; rfl
  · dsimp only
    have : ¬ (k0 ≤ k ∧ k < k0 ∧ P.2 8 k = nI b ∧ gfree P i b k0 k) := fun q => by omega
    rw [gB_not.mpr this]; rfl
/-- what follow keeps for i: en the blocks entered, ed those whose end is reached -/
def fw_J (P : PG) (i : Nat) (en : Int32) (b : Nat) : Prop := b < P.1.1 ∧ gJ P (fun z => bt en z = true) i b
def fw_K (P : PG) (i : Nat) (en : Int32) (k : Nat) : Prop := k < P.1.2 ∧ ∃ x, x < P.1.1 ∧ P.2 8 k = nI x ∧ gT P x (bt en x = true) i k
def fw_I (P : PG) (S : wm_S) (i : Nat) (en ed : Int32) (I : Nat → Nat → Int32) : Prop := (∀ x, x < 32 → bt en x = true → x < P.1.1 ∧ gX P i x) ∧ (∀ b, b < 32 → bt ed b = gB (fw_J P i en b)) ∧ (∀ k, k < 60 → I 59 (60 * i + k) = bif gB (fw_K P i en k) then 1 else 0) ∧ (∀ b, b < 12 → I 60 (12 * i + b) = bif gB (fw_J P i en b) then 1 else 0) ∧ fw_fr i S.1 I
theorem fw_add (hw : pg_wf P) {i s b : Nat} {en ed : Int32} {I I' : Nat → Nat → Int32} (h : fw_I P S i en ed I) (hb : b < P.1.1) (hs : s < P.1.1) (hE : gE P b s) (hd : bt ed b = true) (h1 : ∀ k, k < 60 → I' 59 (60 * i + k) = bif gB (0 ≤ k ∧ k < P.1.2 ∧ P.2 8 k = nI s ∧ gfree P i s 0 k) then 1 else I 59 (60 * i + k)) (h2 : I' 60 (12 * i + s) = bif gB (gfree P i s 0 P.1.2) then 1 else I 60 (12 * i + s)) (h3 : ∀ q k, ¬ ((q = 59 ∧ 60 * i ≤ k ∧ k < 60 * i + 60) ∨ (q = 60 ∧ k = 12 * i + s)) → I' q k = I q k) : fw_I P S i (en ||| ((1 : Int32) <<< (nI s &&& 31))) (bif gB (gfree P i s 0 P.1.2) then ed ||| ((1 : Int32) <<< (nI s &&& 31)) else ed) I' := by
  obtain ⟨a1, a2, a3, a4, a5⟩ := h
  have hn := hw.1
  have en' : ∀ x, x < 32 → (bt (en ||| ((1 : Int32) <<< (nI s &&& 31))) x = true ↔ bt en x = true ∨ s = x) := by
    intro x hx
    rw [b_add1 (by omega) hx, Bool.or_eq_true, decide_eq_true_eq]
  have hJ : ∀ b, b < 32 → (fw_J P i (en ||| ((1 : Int32) <<< (nI s &&& 31))) b ↔ fw_J P i en b ∨ (b = s ∧ gfree P i s 0 P.1.2)) := by
    intro b hb
    unfold fw_J gJ
    dsimp only
    rw [en' b hb]
    constructor
    · rintro ⟨q0, q | ⟨q1 | rfl, q2⟩⟩
      · exact Or.inl ⟨q0, Or.inl q⟩
      · exact Or.inl ⟨q0, Or.inr ⟨q1, q2⟩⟩
      · exact Or.inr ⟨rfl, q2⟩
    · rintro (⟨q0, q | ⟨q1, q2⟩⟩ | ⟨rfl, q⟩)
      · exact ⟨q0, Or.inl q⟩
      · exact ⟨q0, Or.inr ⟨Or.inl q1, q2⟩⟩
      · exact ⟨hs, Or.inr ⟨Or.inr rfl, q⟩⟩
  refine ⟨fun x hx q => ?_, fun b hb => ?_, fun k hk => ?_, fun b hb => ?_, fun q k hq => ?_⟩
  · rcases (en' x hx).mp q with q | rfl
    · exact a1 x hx q
    · have q1 := gB_iff.mp ((a2 b (by omega)).symm.trans hd)
      exact ⟨hs, gX_step hb hs hE (gJ_mono q1.2 (fun k => (a1 b (by omega) k).2))⟩
  · rw [gB_cg (hJ b hb)]
    refine gB_eq ?_
    cases e : gB (gfree P i s 0 P.1.2) with
    | true =>
      rw [cond_true, b_add1 (by omega) hb, Bool.or_eq_true, a2 b hb, gB_iff, decide_eq_true_eq]
      exact ⟨fun q => q.imp id (fun q => ⟨q.symm, gB_iff.mp e⟩), fun q => q.imp id (fun q => q.1.symm)⟩
    | false =>
      rw [cond_false, a2 b hb, gB_iff]
      exact ⟨Or.inl, fun q => q.resolve_right (fun z => gB_not.mp e z.2)⟩
  · rw [h1 k hk, a3 k hk]
    have : fw_K P i (en ||| ((1 : Int32) <<< (nI s &&& 31))) k ↔ (0 ≤ k ∧ k < P.1.2 ∧ P.2 8 k = nI s ∧ gfree P i s 0 k) ∨ fw_K P i en k := by
      unfold fw_K gT
      constructor
      · rintro ⟨q0, x, q1, q2, q3⟩
        rcases q3 with q3 | ⟨q3, q4⟩
        · exact Or.inr ⟨q0, x, q1, q2, Or.inl q3⟩
        · rcases (en' x (by omega)).mp q3 with q3 | rfl
          · exact Or.inr ⟨q0, x, q1, q2, Or.inr ⟨q3, q4⟩⟩
          · exact Or.inl ⟨Nat.zero_le _, q0, q2, q4⟩
      · rintro (⟨_, q0, q2, q4⟩ | ⟨q0, x, q1, q2, q3⟩)
        · exact ⟨q0, s, hs, q2, Or.inr ⟨(en' s (by omega)).mpr (Or.inr rfl), q4⟩⟩
        · exact ⟨q0, x, q1, q2, q3.imp id (fun q => ⟨(en' x (by omega)).mpr (Or.inl q.1), q.2⟩)⟩
    cases e : gB (0 ≤ k ∧ k < P.1.2 ∧ P.2 8 k = nI s ∧ gfree P i s 0 k) with
    | true => rw [gB_iff.mpr (this.mpr (Or.inl (gB_iff.mp e)))]; rfl
    | false =>
      rw [cond_false]
      congr 1
      exact gB_cg ⟨fun q => this.mpr (Or.inr q), fun q => (this.mp q).resolve_left (gB_not.mp e)⟩
  · rw [gB_cg (hJ b (by omega))]
    by_cases eb : b = s
    · subst eb
      rw [h2, a4 b hb]
      cases e : gB (gfree P i b 0 P.1.2) with
      | true =>
        have := gB_iff.mpr (show fw_J P i en b ∨ (b = b ∧ gfree P i b 0 P.1.2) from Or.inr ⟨rfl, gB_iff.mp e⟩)
        rw [this]; rfl
      | false =>
        rw [cond_false]
        congr 1
        exact gB_cg ⟨Or.inl, fun q => q.resolve_right (fun z => gB_not.mp e z.2)⟩
    · rw [h3 60 _ (by omega), a4 b hb]
      congr 1
      exact gB_cg ⟨Or.inl, fun q => q.resolve_right (fun z => eb z.1)⟩
  · rw [h3 q k (by omega)]; exact a5 q k hq
end PGK

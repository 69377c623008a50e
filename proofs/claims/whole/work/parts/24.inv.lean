/-! what the cells hold: a program P = ((blocks, instructions), kinds, registers, first, second, op, a, b, c, home), on the class's side and on the reference's -/
section PGA
def ws_same (W : Nat → Nat → Prop) (S S' : wm_S) : Prop := ∀ q k, ¬ W q k → S'.1 q k = S.1 q k ∧ S'.2 q k = S.2 q k
theorem ws_same_rf {W : Nat → Nat → Prop} {S : wm_S} : ws_same W S S := fun _ _ _ => ⟨rfl, rfl⟩
theorem ws_same_tr {W : Nat → Nat → Prop} {S S1 S2 : wm_S} (h1 : ws_same W S S1) (h2 : ws_same W S1 S2) : ws_same W S S2 := fun q k h => ⟨(h2 q k h).1.trans (h1 q k h).1, (h2 q k h).2.trans (h1 q k h).2⟩
theorem ws_same_to {W W' : Nat → Nat → Prop} {S S1 : wm_S} (h1 : ws_same W S S1) (h : ∀ q k, W q k → W' q k) : ws_same W' S S1 := fun q k hn => h1 q k (fun q' => hn (h q k q'))
theorem ws_same_up {W : Nat → Nat → Prop} {S : wm_S} {q j : Nat} {v : Int32} (h : W q j) : ws_same W S (wm_up S.1 q j v, S.2) := fun a b hn => by
  refine ⟨?_, rfl⟩
  show wm_up S.1 q j v a b = S.1 a b
  unfold wm_up
  by_cases e : a = q
  · by_cases e2 : b = j
    · subst e; subst e2; exact absurd h hn
    · simp [e, e2]
  · simp [e]
theorem ws_same_upL {W : Nat → Nat → Prop} {S : wm_S} {q j : Nat} {v : Int64} (h : W q j) : ws_same W S (S.1, wm_up S.2 q j v) := fun a b hn => by
  refine ⟨rfl, ?_⟩
  show wm_up S.2 q j v a b = S.2 a b
  unfold wm_up
  by_cases e : a = q
  · by_cases e2 : b = j
    · subst e; subst e2; exact absurd h hn
    · simp [e, e2]
  · simp [e]
abbrev PG : Type := (Nat × Nat) × (Nat → Nat → Int32)
def pg_reg (v : Int32) : Prop := ∃ r, r < 8 ∧ v = nI r
def pg_bk (v : Int32) : Prop := ∃ y, y < 12 ∧ v = nI y
def pg_end (kd rg f s : Int32) : Prop := pg_reg rg ∧ ((kd = 0 ∧ f = -1 ∧ s = -1) ∨ (kd = 1 ∧ rg = 0 ∧ pg_bk f ∧ s = -1) ∨ (kd = 2 ∧ pg_bk f ∧ pg_bk s))
def pg_ins (op a b c : Int32) : Prop := ∃ o, o < 8 ∧ op = nI o ∧ pg_reg a ∧ (1 ≤ o → o ≤ 5 → pg_reg b) ∧ (2 ≤ o → o ≤ 5 → pg_reg c)
def pg_wf (P : PG) : Prop := P.1.1 ≤ 12 ∧ P.1.2 ≤ 60 ∧ (∀ x, x < P.1.1 → pg_end (P.2 0 x) (P.2 1 x) (P.2 2 x) (P.2 3 x)) ∧ (∀ k, k < P.1.2 → pg_ins (P.2 4 k) (P.2 5 k) (P.2 6 k) (P.2 7 k)) ∧ ∀ k, k < P.1.2 → ∃ h, h < P.1.1 ∧ P.2 8 k = nI h
def pg_row (P : PG) (x : Nat) : List Nat := (List.range P.1.2).filter (fun k => decide (P.2 8 k = nI x))
def pg_set (v : Int32) : Int32 := if v = -1 then 0 else 1 <<< (v &&& 31)
/-- the ends that lie in the arrays from place q on -/
def pg_Ce (q : Nat) (P : PG) (S : wm_S) : Prop := ∀ x, x < P.1.1 → S.1 q x = P.2 0 x ∧ S.1 (q + 1) x = P.2 1 x ∧ S.1 (q + 2) x = P.2 2 x ∧ S.1 (q + 3) x = P.2 3 x ∧ S.1 (q + 4) x = pg_set (P.2 2 x) ||| pg_set (P.2 3 x)
def pg_C (P : PG) (S : wm_S) : Prop := S.1 1 0 = nI P.1.1 ∧ S.1 1 1 = nI P.1.2 ∧ pg_Ce 10 P S ∧ (∀ k, k < P.1.2 → S.1 2 k = P.2 4 k ∧ S.1 3 k = P.2 5 k ∧ S.1 4 k = P.2 6 k ∧ S.1 5 k = P.2 7 k ∧ S.1 6 k = P.2 8 k) ∧
  ∀ x, x < P.1.1 → S.1 7 x = nI (pg_row P x).length ∧ ∀ i (h : i < (pg_row P x).length), S.1 (35 + x) i = nI (pg_row P x)[i]
def pg_R (P : PG) (S : wm_S) : Prop := S.1 47 1 = nI P.1.1 ∧ S.1 47 6 = nI P.1.2 ∧ (∀ x, x < P.1.1 → S.1 48 x = P.2 0 x ∧ S.1 49 x = P.2 1 x ∧ S.1 50 x = P.2 2 x ∧ S.1 51 x = P.2 3 x) ∧
  ∀ k, k < P.1.2 → S.1 53 k = P.2 4 k ∧ S.1 54 k = P.2 5 k ∧ S.1 55 k = P.2 6 k ∧ S.1 56 k = P.2 7 k ∧ S.1 52 k = P.2 8 k
/-- what a run left: steps, how many were put out, value, what was put out -/
abbrev MG : Type := Int32 × Nat × Int32 × (Nat → Int32)
def mg_C (M : MG) (S : wm_S) : Prop := S.1 32 2 = M.1 ∧ S.1 32 3 = nI M.2.1 ∧ S.1 32 4 = M.2.2.1 ∧ ∀ k, k < M.2.1 → k < 50 → S.1 34 k = M.2.2.2 k
def mg_R (M : MG) (S : wm_S) : Prop := S.1 47 23 = M.1 ∧ S.1 47 24 = nI M.2.1 ∧ S.1 47 25 = M.2.2.1 ∧ ∀ k, k < M.2.1 → k < 50 → S.1 67 k = M.2.2.2 k
/-- the program's cells on the class's side are as they were -/
def pg_Cw (q _k : Nat) : Prop := ¬ (q < 15 ∨ (35 ≤ q ∧ q < 47)) ∨ q = 0 ∨ q = 8 ∨ q = 9
theorem pg_C_same {P : PG} {S S' : wm_S} {W : Nat → Nat → Prop} (h : pg_C P S) (hs : ws_same W S S') (hn : P.1.1 ≤ 12) (hW : ∀ q k, W q k → pg_Cw q k) : pg_C P S' := by
  have e : ∀ q k, (1 ≤ q ∧ q < 8) ∨ (10 ≤ q ∧ q < 15) ∨ (35 ≤ q ∧ q < 47) → S'.1 q k = S.1 q k := fun q k hq => (hs q k (fun w => by have := hW q k w; unfold pg_Cw at this; omega)).1
  obtain ⟨h1, h2, h3, h4, h5⟩ := h
  refine ⟨(e 1 0 (by omega)).trans h1, (e 1 1 (by omega)).trans h2, fun x hx => ?_, fun k hk => ?_, fun x hx => ⟨(e 7 x (by omega)).trans (h5 x hx).1, fun i hi => (e (35 + x) i (by omega)).trans ((h5 x hx).2 i hi)⟩⟩
  · obtain ⟨a1, a2, a3, a4, a5⟩ := h3 x hx
    exact ⟨(e 10 x (by omega)).trans a1, (e 11 x (by omega)).trans a2, (e 12 x (by omega)).trans a3, (e 13 x (by omega)).trans a4, (e 14 x (by omega)).trans a5⟩
  · obtain ⟨a1, a2, a3, a4, a5⟩ := h4 k hk
    exact ⟨(e 2 k (by omega)).trans a1, (e 3 k (by omega)).trans a2, (e 4 k (by omega)).trans a3, (e 5 k (by omega)).trans a4, (e 6 k (by omega)).trans a5⟩
theorem pg_R_same {P : PG} {S S' : wm_S} {W : Nat → Nat → Prop} (h : pg_R P S) (hs : ws_same W S S') (hW : ∀ q k, W q k → ¬ ((q = 47 ∧ (k = 1 ∨ k = 6)) ∨ (48 ≤ q ∧ q ≤ 56))) : pg_R P S' := by
  have e : ∀ q k, ((q = 47 ∧ (k = 1 ∨ k = 6)) ∨ (48 ≤ q ∧ q ≤ 56)) → S'.1 q k = S.1 q k := fun q k hq => (hs q k (fun w => hW q k w hq)).1
  obtain ⟨h1, h2, h3, h4⟩ := h
  refine ⟨(e 47 1 (by omega)).trans h1, (e 47 6 (by omega)).trans h2, fun x hx => ?_, fun k hk => ?_⟩
  · obtain ⟨a1, a2, a3, a4⟩ := h3 x hx
    exact ⟨(e 48 x (by omega)).trans a1, (e 49 x (by omega)).trans a2, (e 50 x (by omega)).trans a3, (e 51 x (by omega)).trans a4⟩
  · obtain ⟨a1, a2, a3, a4, a5⟩ := h4 k hk
    exact ⟨(e 53 k (by omega)).trans a1, (e 54 k (by omega)).trans a2, (e 55 k (by omega)).trans a3, (e 56 k (by omega)).trans a4, (e 52 k (by omega)).trans a5⟩
/-- Machine.begin -/
theorem e_M_begin {S : wm_S} {i f : Int32} : wq (f_M_begin [.ref 32, .int i, .int f] S) (fun r => r.1 = none ∧ (∀ k, k < 8 → r.2.1 33 k = 0) ∧ r.2.1 32 2 = 0 ∧ r.2.1 32 3 = 0 ∧ r.2.1 32 4 = 0 ∧ r.2.1 32 5 = i ∧ r.2.1 32 6 = 0 ∧ r.2.1 32 7 = f ∧ ws_same (fun q k => q = 33 ∨ (q = 32 ∧ 2 ≤ k)) S r.2) := by
  refine wq_fn rfl rfl rfl ?_
  show wq (t_M_begin [.ref 32, .int i, .int f, .retAddr 0] S) _
  unfold t_M_begin
  obtain ⟨L, N, M1, M2, hL, hN0, hF, hA, hR, hN, hM1, hM2⟩ := w_ex; (try simp only [hL, hN0])
  refine wq_assoc (wq_step (by simp only [wx_bind, wx_i, wx_l, wx_r, wx_c, wx_bin, wx_un, wx_div, wx_rem, kx_fi, wx_fl, kx_fr, wf3_4, wf3_5, wf3_6, wf3_7, wf3_8, wf3_9, wf3_10, wf3_11, wf3_12, wf3_13, wf3_14, wf3_15, wf3_16, wf3_17, wf3_18, wf3_19, wf3_20, wf3_21, wf3_22, wf3_23, wf3_24, wf3_25, wf3_26, wf3_27, wf3_28, wf3_29, wf3_30, wf3_31, wf3_32, wf3_33, wf3_34, wf3_35, wf3_36, wf3_37, wf3_38, wf3_39, wf3_40, wf3_41, wf3_42, wf3_43, wf3_44, wf3_45, wf3_46, wf3_47, wf3_48, wf3_49, wf3_50, wf3_51, wf3_52, wf3_53, wf3_54, wf3_55, wf3_56, wf3_57, wf3_58, wf3_59, wf3_60, wf3_61, wf3_62, wf3_63, wf3_64, wf3_65, wf3_66, wf3_67, wf3_68, wf3_69, wf3_70, kx_ai, kx_al, kx_ar, wx_cond, wx_a1, wx_ac, wx_call, wm_pi, wm_pl, wb_and, wb_or, wb_not, ws_seq, ws_i, ws_l, ws_inc, ks_fi, ws_fl, ws_ofi, ws_ofl, ks_ai, ks_az, ks_al, ks_oai, ks_oal, wk_in, wk_in0, wz_0, wz_1, wz_b, wf0_0, wf0_2, ws_call, ws_if, ws_ife, ws_ret, ws_skip, ws_retv, ws_thr, wo_iadd, wo_isub, wo_imul, wo_iand, wo_ior, wo_ixor, wo_ishl, wo_ishr, wo_iushr, wo_ladd, wo_lsub, wo_land, wo_lor, wo_lxor, wo_lshl, wo_lushr, wo_i2l, wo_l2i, List.getElem?_cons_zero, List.getElem?_cons_succ, List.length_cons, List.length_nil, wm_st, wm_st2, List.set_cons_zero, List.set_cons_succ, hF, hA, hR, ev_cl, ev_cl0, ev_lt, ev_ge, ev_gt, ev_le, ev_eqn, ev_nen, ev_ltc, ev_gec, ev_gtc, ev_lec, ev_eqc, ev_nec, ev_pair, ev_pairL, ev_b0, ev_b1, Bool.not_not, ev_sw,  cond_true, cond_false, nI_1, Nat.zero_add, Nat.reduceAdd, Nat.reduceLT, if_true, ite_true, if_false, ite_false, reduceIte, wm_up_same, wm_up_qne, wm_up_kne]; rfl) ?_)
  refine wq_seq.mpr (wq_for 8 (fun k _ => [.ref 32, .int i, .int f, .int (nI k)]) (fun _ s => s) (fun k s => (∀ j, j < k → s.1 33 j = 0) ∧ ws_same (fun q _ => q = 33) S s) ?_ ?_ ?_ (by omega) S rfl rfl ⟨fun j h => by omega, ws_same_rf⟩)
  · intro k s hk _
    simp (disch := first | omega | decide) only [wx_bind, wx_i, wx_l, wx_r, wx_c, wx_bin, wx_un, wx_div, wx_rem, kx_fi, wx_fl, kx_fr, wf3_4, wf3_5, wf3_6, wf3_7, wf3_8, wf3_9, wf3_10, wf3_11, wf3_12, wf3_13, wf3_14, wf3_15, wf3_16, wf3_17, wf3_18, wf3_19, wf3_20, wf3_21, wf3_22, wf3_23, wf3_24, wf3_25, wf3_26, wf3_27, wf3_28, wf3_29, wf3_30, wf3_31, wf3_32, wf3_33, wf3_34, wf3_35, wf3_36, wf3_37, wf3_38, wf3_39, wf3_40, wf3_41, wf3_42, wf3_43, wf3_44, wf3_45, wf3_46, wf3_47, wf3_48, wf3_49, wf3_50, wf3_51, wf3_52, wf3_53, wf3_54, wf3_55, wf3_56, wf3_57, wf3_58, wf3_59, wf3_60, wf3_61, wf3_62, wf3_63, wf3_64, wf3_65, wf3_66, wf3_67, wf3_68, wf3_69, wf3_70, kx_ai, kx_al, kx_ar, wx_cond, wx_a1, wx_ac, wx_call, wm_pi, wm_pl, wb_and, wb_or, wb_not, ws_seq, ws_i, ws_l, ws_inc, ks_fi, ws_fl, ws_ofi, ws_ofl, ks_ai, ks_az, ks_al, ks_oai, ks_oal, wk_in, wk_in0, wz_0, wz_1, wz_b, wf0_0, wf0_2, ws_call, ws_if, ws_ife, ws_ret, ws_skip, ws_retv, ws_thr, wo_iadd, wo_isub, wo_imul, wo_iand, wo_ior, wo_ixor, wo_ishl, wo_ishr, wo_iushr, wo_ladd, wo_lsub, wo_land, wo_lor, wo_lxor, wo_lshl, wo_lushr, wo_i2l, wo_l2i, List.getElem?_cons_zero, List.getElem?_cons_succ, List.length_cons, List.length_nil, wm_st, wm_st2, List.set_cons_zero, List.set_cons_succ, hF, hA, hR, ev_cl, ev_cl0, ev_lt, ev_ge, ev_gt, ev_le, ev_eqn, ev_nen, ev_ltc, ev_gec, ev_gtc, ev_lec, ev_eqc, ev_nec, ev_pair, ev_pairL, ev_b0, ev_b1, Bool.not_not, ev_sw,  cond_true, cond_false, nI_1, Nat.zero_add, Nat.reduceAdd, Nat.reduceLT, if_true, ite_true, if_false, ite_false, reduceIte, wm_up_same, wm_up_qne, wm_up_kne]
  · rintro k s hk ⟨h1, h2⟩
    refine ⟨.inl ([.ref 32, .int i, .int f, .int (nI (k + 1))], (wm_up s.1 33 k 0, s.2)), by simp (disch := first | omega | decide) only [wx_bind, wx_i, wx_l, wx_r, wx_c, wx_bin, wx_un, wx_div, wx_rem, kx_fi, wx_fl, kx_fr, wf3_4, wf3_5, wf3_6, wf3_7, wf3_8, wf3_9, wf3_10, wf3_11, wf3_12, wf3_13, wf3_14, wf3_15, wf3_16, wf3_17, wf3_18, wf3_19, wf3_20, wf3_21, wf3_22, wf3_23, wf3_24, wf3_25, wf3_26, wf3_27, wf3_28, wf3_29, wf3_30, wf3_31, wf3_32, wf3_33, wf3_34, wf3_35, wf3_36, wf3_37, wf3_38, wf3_39, wf3_40, wf3_41, wf3_42, wf3_43, wf3_44, wf3_45, wf3_46, wf3_47, wf3_48, wf3_49, wf3_50, wf3_51, wf3_52, wf3_53, wf3_54, wf3_55, wf3_56, wf3_57, wf3_58, wf3_59, wf3_60, wf3_61, wf3_62, wf3_63, wf3_64, wf3_65, wf3_66, wf3_67, wf3_68, wf3_69, wf3_70, kx_ai, kx_al, kx_ar, wx_cond, wx_a1, wx_ac, wx_call, wm_pi, wm_pl, wb_and, wb_or, wb_not, ws_seq, ws_i, ws_l, ws_inc, ks_fi, ws_fl, ws_ofi, ws_ofl, ks_ai, ks_az, ks_al, ks_oai, ks_oal, wk_in, wk_in0, wz_0, wz_1, wz_b, wf0_0, wf0_2, ws_call, ws_if, ws_ife, ws_ret, ws_skip, ws_retv, ws_thr, wo_iadd, wo_isub, wo_imul, wo_iand, wo_ior, wo_ixor, wo_ishl, wo_ishr, wo_iushr, wo_ladd, wo_lsub, wo_land, wo_lor, wo_lxor, wo_lshl, wo_lushr, wo_i2l, wo_l2i, List.getElem?_cons_zero, List.getElem?_cons_succ, List.length_cons, List.length_nil, wm_st, wm_st2, List.set_cons_zero, List.set_cons_succ, hF, hA, hR, ev_cl, ev_cl0, ev_lt, ev_ge, ev_gt, ev_le, ev_eqn, ev_nen, ev_ltc, ev_gec, ev_gtc, ev_lec, ev_eqc, ev_nec, ev_pair, ev_pairL, ev_b0, ev_b1, Bool.not_not, ev_sw,  cond_true, cond_false, nI_1, Nat.zero_add, Nat.reduceAdd, Nat.reduceLT, if_true, ite_true, if_false, ite_false, reduceIte, wm_up_same, wm_up_qne, wm_up_kne], _, rfl, fun j hj => ?_, ws_same_tr h2 (ws_same_up rfl)⟩
    by_cases e : j = k
    · subst e; simp [wm_up]
    · simp [wm_up, e, h1 j (by omega)]
  · rintro s ⟨h1, h2⟩
    refine ⟨_, by simp (disch := first | omega | decide) only [wx_bind, wx_i, wx_l, wx_r, wx_c, wx_bin, wx_un, wx_div, wx_rem, kx_fi, wx_fl, kx_fr, wf3_4, wf3_5, wf3_6, wf3_7, wf3_8, wf3_9, wf3_10, wf3_11, wf3_12, wf3_13, wf3_14, wf3_15, wf3_16, wf3_17, wf3_18, wf3_19, wf3_20, wf3_21, wf3_22, wf3_23, wf3_24, wf3_25, wf3_26, wf3_27, wf3_28, wf3_29, wf3_30, wf3_31, wf3_32, wf3_33, wf3_34, wf3_35, wf3_36, wf3_37, wf3_38, wf3_39, wf3_40, wf3_41, wf3_42, wf3_43, wf3_44, wf3_45, wf3_46, wf3_47, wf3_48, wf3_49, wf3_50, wf3_51, wf3_52, wf3_53, wf3_54, wf3_55, wf3_56, wf3_57, wf3_58, wf3_59, wf3_60, wf3_61, wf3_62, wf3_63, wf3_64, wf3_65, wf3_66, wf3_67, wf3_68, wf3_69, wf3_70, kx_ai, kx_al, kx_ar, wx_cond, wx_a1, wx_ac, wx_call, wm_pi, wm_pl, wb_and, wb_or, wb_not, ws_seq, ws_i, ws_l, ws_inc, ks_fi, ws_fl, ws_ofi, ws_ofl, ks_ai, ks_az, ks_al, ks_oai, ks_oal, wk_in, wk_in0, wz_0, wz_1, wz_b, wf0_0, wf0_2, ws_call, ws_if, ws_ife, ws_ret, ws_skip, ws_retv, ws_thr, wo_iadd, wo_isub, wo_imul, wo_iand, wo_ior, wo_ixor, wo_ishl, wo_ishr, wo_iushr, wo_ladd, wo_lsub, wo_land, wo_lor, wo_lxor, wo_lshl, wo_lushr, wo_i2l, wo_l2i, List.getElem?_cons_zero, List.getElem?_cons_succ, List.length_cons, List.length_nil, wm_st, wm_st2, List.set_cons_zero, List.set_cons_succ, hF, hA, hR, ev_cl, ev_cl0, ev_lt, ev_ge, ev_gt, ev_le, ev_eqn, ev_nen, ev_ltc, ev_gec, ev_gtc, ev_lec, ev_eqc, ev_nec, ev_pair, ev_pairL, ev_b0, ev_b1, Bool.not_not, ev_sw,  cond_true, cond_false, nI_1, Nat.zero_add, Nat.reduceAdd, Nat.reduceLT, if_true, ite_true, if_false, ite_false, reduceIte, wm_up_same, wm_up_qne, wm_up_kne]; rfl, ?_⟩
    refine ⟨rfl, rfl, fun k hk => ?_, by simp [wm_up], by simp [wm_up], by simp [wm_up], by simp [wm_up], by simp [wm_up], by simp [wm_up], fun q k hn => ⟨?_, (h2 q k (fun e => hn (Or.inl e))).2⟩⟩
    · simp [wm_up, h1 k hk]
    · rw [← (h2 q k (fun e => hn (Or.inl e))).1]
      by_cases e : q = 32
      · have : k < 2 := by omega
        have a : ¬ k = 2 ∧ ¬ k = 3 ∧ ¬ k = 4 ∧ ¬ k = 5 ∧ ¬ k = 6 ∧ ¬ k = 7 := by omega
        simp [wm_up, a]
      · simp [wm_up, e]
end PGA

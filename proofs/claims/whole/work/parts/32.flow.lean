/-! the program as a graph; leadsOnlyToBlocks, findReturning -/
section PGG
noncomputable def gB (p : Prop) : Bool := @decide p (Classical.propDecidable p)
theorem gB_iff {p : Prop} : gB p = true ↔ p := by unfold gB; exact @decide_eq_true_iff p (Classical.propDecidable p)
theorem gB_not {p : Prop} : gB p = false ↔ ¬ p := ⟨fun h q => by rw [gB_iff.mpr q] at h; exact absurd h (by decide), fun h => by
  cases e : gB p with
  | false => rfl
  | true => exact absurd (gB_iff.mp e) h⟩
theorem gB_eq {p : Prop} {t : Bool} (h : t = true ↔ p) : t = gB p := by rw [Bool.eq_iff_iff, h, gB_iff]
theorem gB_cg {p q : Prop} (h : p ↔ q) : gB p = gB q := gB_eq (by rw [gB_iff, h])
/-- while, with a state s -/
theorem wq_wh {c : wm_Ex Bool} {b : wm_St} {K : wm_O → Prop} {β : Type} (lvf : β → List Value) (Sf : β → wm_S) (I : β → Prop) (μ : β → Nat) (cd : β → Bool)
    (hc : ∀ s, I s → c (lvf s) (Sf s) = some (cd s, Sf s))
    (hb : ∀ s, I s → cd s = true → wq (b (lvf s) (Sf s)) (fun o => match o with
      | .inl q => ∃ s', q = (lvf s', Sf s') ∧ I s' ∧ μ s' < μ s
      | .inr r => K (.inr r)))
    (he : ∀ s, I s → cd s = false → K (.inl (lvf s, Sf s))) {N : Nat} {lv : List Value} {S : wm_S} (s0 : β) (e1 : lv = lvf s0) (e2 : S = Sf s0) (h0 : I s0) (hN : μ s0 < N) : wq (ws_loop c b N lv S) K := by
  subst e1
  subst e2
  induction N generalizing s0 with
  | zero => omega
  | succ N ih =>
    unfold ws_loop
    rw [wq_bind]
    refine ⟨_, hc s0 h0, ?_⟩
    cases e : cd s0 with
    | true =>
      obtain ⟨o, h1, h2⟩ := hb s0 h0 e
      dsimp only [cond_true]
      rw [h1]
      cases o with
      | inl q =>
        obtain ⟨s', rfl, h3, h4⟩ := h2
        exact ih s' h3 (by omega)
      | inr r => exact ⟨_, rfl, h2⟩
    | false => exact ⟨_, rfl, he s0 h0 e⟩
variable {S : wm_S} {P : PG}
def gk (P : PG) (x : Nat) : Prop := P.2 0 x = 0
def gE (P : PG) (x y : Nat) : Prop := P.2 2 x = nI y ∨ P.2 3 x = nI y
def gc (P : PG) : Prop := ∀ x, x < P.1.1 → ∀ y, y < 12 → gE P x y → y < P.1.1
def gr (P : PG) (a : Nat → Prop) (b : Nat) : Prop := gR P.1.1 (gk P) (gE P) a b
def gp (P : PG) (x b : Nat) : Prop := gP P.1.1 (gk P) (gE P) x b
def gs (P : PG) : Prop := gS P.1.1 (gk P) (gE P)
theorem nI_n1 {y : Nat} (h : y < 32) : ¬ (-1 : Int32) = nI y := by
  intro e
  have := congrArg Int32.toInt e
  rw [nI_toInt (by omega)] at this
  have h2 : (-1 : Int32).toInt = -1 := by decide
  omega
theorem pg_set_bit {v : Int32} (h : v = -1 ∨ pg_bk v) {y : Nat} (hy : y < 32) : bt (pg_set v) y = gB (v = nI y) := by
  refine gB_eq ?_
  unfold pg_set
  rcases h with rfl | ⟨j, hj, rfl⟩
  · simp only [if_true, b_0, Bool.false_eq_true, false_iff]
    exact nI_n1 hy
  · rw [if_neg (fun e => nI_n1 (y := j) (by omega) e.symm), b_one j (by omega) y hy, decide_eq_true_eq, nI_eq (by omega) (by omega)]
theorem pg_fs {kd rg f s : Int32} (h : pg_end kd rg f s) : (f = -1 ∨ pg_bk f) ∧ (s = -1 ∨ pg_bk s) := by
  rcases h.2 with ⟨_, h1, h2⟩ | ⟨_, _, h1, h2⟩ | ⟨_, h1, h2⟩
  · exact ⟨Or.inl h1, Or.inl h2⟩
  · exact ⟨Or.inr h1, Or.inl h2⟩
  · exact ⟨Or.inr h1, Or.inr h2⟩
theorem gl_bit (hw : pg_wf P) (h : pg_C P S) {x y : Nat} (hx : x < P.1.1) (hy : y < 32) : bt (S.1 14 x) y = gB (gE P x y) := by
  obtain ⟨f1, f2⟩ := pg_fs (hw.2.2.1 x hx)
  rw [(h.2.2.1 x hx).2.2.2.2, b_or, pg_set_bit f1 hy, pg_set_bit f2 hy]
  refine gB_eq ?_
  rw [Bool.or_eq_true, gB_iff, gB_iff]
  rfl
theorem gE_lt (hw : pg_wf P) {x y : Nat} (hx : x < P.1.1) (hy : y < 2147483648) (h : gE P x y) : y < 12 := by
  obtain ⟨f1, f2⟩ := pg_fs (hw.2.2.1 x hx)
  have key : ∀ v : Int32, (v = -1 ∨ pg_bk v) → v = nI y → y < 12 := by
    intro v hv e
    rcases hv with q | ⟨j, hj, q⟩
    · rw [q] at e
      have := congrArg Int32.toInt e
      rw [nI_toInt (by omega)] at this
      have h2 : (-1 : Int32).toInt = -1 := by decide
      omega
    · rw [q] at e
      have := (nI_eq (a := j) (b := y) (by omega) (by omega)).mp e
      omega
  rcases h with h | h
  · exact key _ f1 h
  · exact key _ f2 h
theorem e_G_leadsOnlyToBlocks (hw : pg_wf P) (h : pg_C P S) : f_G_leadsOnlyToBlocks [.ref 1] S = some (some (.int (bif gB (gc P) then 1 else 0)), S) := by
  refine wq_eq (wq_fn rfl rfl rfl ?_)
  show wq (t_G_leadsOnlyToBlocks [.ref 1, .retAddr 0, .retAddr 0] S) _
  unfold t_G_leadsOnlyToBlocks
  obtain ⟨L, N, M1, M2, hL, hN0, hF, hA, hR, hN, hM1, hM2⟩ := w_ex; (try simp only [hL, hN0])
  have hn := hw.1
  have h1 := h.1
  refine wq_step (by simp (disch := first | omega | decide) only [wx_bind, wx_i, wx_l, wx_r, wx_c, wx_bin, wx_un, wx_div, wx_rem, kx_fi, wx_fl, kx_fr, wf3_4, wf3_5, wf3_6, wf3_7, wf3_8, wf3_9, wf3_10, wf3_11, wf3_12, wf3_13, wf3_14, wf3_15, wf3_16, wf3_17, wf3_18, wf3_19, wf3_20, wf3_21, wf3_22, wf3_23, wf3_24, wf3_25, wf3_26, wf3_27, wf3_28, wf3_29, wf3_30, wf3_31, wf3_32, wf3_33, wf3_34, wf3_35, wf3_36, wf3_37, wf3_38, wf3_39, wf3_40, wf3_41, wf3_42, wf3_43, wf3_44, wf3_45, wf3_46, wf3_47, wf3_48, wf3_49, wf3_50, wf3_51, wf3_52, wf3_53, wf3_54, wf3_55, wf3_56, wf3_57, wf3_58, wf3_59, wf3_60, wf3_61, wf3_62, wf3_63, wf3_64, wf3_65, wf3_66, wf3_67, wf3_68, wf3_69, wf3_70, kx_ai, kx_al, kx_ar, wx_cond, wx_a1, wx_ac, wx_call, wm_pi, wm_pl, wb_and, wb_or, wb_not, ws_seq, ws_i, ws_l, ws_inc, ks_fi, ws_fl, ws_ofi, ws_ofl, ks_ai, ks_az, ks_al, ks_oai, ks_oal, wk_in, wk_in0, wz_0, wz_1, wz_b, wf0_0, wf0_2, ws_call, ws_if, ws_ife, ws_ret, ws_skip, ws_retv, ws_thr, wo_iadd, wo_isub, wo_imul, wo_iand, wo_ior, wo_ixor, wo_ishl, wo_ishr, wo_iushr, wo_ladd, wo_lsub, wo_land, wo_lor, wo_lxor, wo_lshl, wo_lushr, wo_i2l, wo_l2i, List.getElem?_cons_zero, List.getElem?_cons_succ, List.length_cons, List.length_nil, wm_st, wm_st2, List.set_cons_zero, List.set_cons_succ, hF, hA, hR, ev_cl, ev_cl0, ev_lt, ev_ge, ev_gt, ev_le, ev_eqn, ev_nen, ev_ltc, ev_gec, ev_gtc, ev_lec, ev_eqc, ev_nec, ev_pair, ev_pairL, ev_b0, ev_b1, Bool.not_not, ev_sw,  cond_true, cond_false, nI_1, Nat.zero_add, Nat.reduceAdd, Nat.reduceLT, if_true, ite_true, if_false, ite_false, reduceIte, wm_up_same, wm_up_qne, wm_up_kne] <;> rfl) (wq_assoc (wq_step (by simp (disch := first | omega | decide) only [wx_bind, wx_i, wx_l, wx_r, wx_c, wx_bin, wx_un, wx_div, wx_rem, kx_fi, wx_fl, kx_fr, wf3_4, wf3_5, wf3_6, wf3_7, wf3_8, wf3_9, wf3_10, wf3_11, wf3_12, wf3_13, wf3_14, wf3_15, wf3_16, wf3_17, wf3_18, wf3_19, wf3_20, wf3_21, wf3_22, wf3_23, wf3_24, wf3_25, wf3_26, wf3_27, wf3_28, wf3_29, wf3_30, wf3_31, wf3_32, wf3_33, wf3_34, wf3_35, wf3_36, wf3_37, wf3_38, wf3_39, wf3_40, wf3_41, wf3_42, wf3_43, wf3_44, wf3_45, wf3_46, wf3_47, wf3_48, wf3_49, wf3_50, wf3_51, wf3_52, wf3_53, wf3_54, wf3_55, wf3_56, wf3_57, wf3_58, wf3_59, wf3_60, wf3_61, wf3_62, wf3_63, wf3_64, wf3_65, wf3_66, wf3_67, wf3_68, wf3_69, wf3_70, kx_ai, kx_al, kx_ar, wx_cond, wx_a1, wx_ac, wx_call, wm_pi, wm_pl, wb_and, wb_or, wb_not, ws_seq, ws_i, ws_l, ws_inc, ks_fi, ws_fl, ws_ofi, ws_ofl, ks_ai, ks_az, ks_al, ks_oai, ks_oal, wk_in, wk_in0, wz_0, wz_1, wz_b, wf0_0, wf0_2, ws_call, ws_if, ws_ife, ws_ret, ws_skip, ws_retv, ws_thr, wo_iadd, wo_isub, wo_imul, wo_iand, wo_ior, wo_ixor, wo_ishl, wo_ishr, wo_iushr, wo_ladd, wo_lsub, wo_land, wo_lor, wo_lxor, wo_lshl, wo_lushr, wo_i2l, wo_l2i, List.getElem?_cons_zero, List.getElem?_cons_succ, List.length_cons, List.length_nil, wm_st, wm_st2, List.set_cons_zero, List.set_cons_succ, hF, hA, hR, ev_cl, ev_cl0, ev_lt, ev_ge, ev_gt, ev_le, ev_eqn, ev_nen, ev_ltc, ev_gec, ev_gtc, ev_lec, ev_eqc, ev_nec, ev_pair, ev_pairL, ev_b0, ev_b1, Bool.not_not, ev_sw,  cond_true, cond_false, nI_1, Nat.zero_add, Nat.reduceAdd, Nat.reduceLT, if_true, ite_true, if_false, ite_false, reduceIte, wm_up_same, wm_up_qne, wm_up_kne] <;> rfl) ?_))
  refine wq_seq.mpr (wq_for P.1.1 (fun k s => [.ref 1, .int s, .int (nI k)]) (fun _ _ => S) (fun k s => ∀ y, y < 32 → bt s y = gB (∃ x, x < k ∧ gE P x y)) ?_ ?_ ?_ (by omega) 0 rfl rfl (fun y hy => by rw [b_0]; exact gB_eq ⟨fun e => (nomatch e), fun ⟨x, hx, _⟩ => absurd hx (Nat.not_lt_zero _)⟩))
  · intro k s hk _
    simp (disch := first | omega | decide) only [wx_bind, wx_i, wx_l, wx_r, wx_c, wx_bin, wx_un, wx_div, wx_rem, kx_fi, wx_fl, kx_fr, wf3_4, wf3_5, wf3_6, wf3_7, wf3_8, wf3_9, wf3_10, wf3_11, wf3_12, wf3_13, wf3_14, wf3_15, wf3_16, wf3_17, wf3_18, wf3_19, wf3_20, wf3_21, wf3_22, wf3_23, wf3_24, wf3_25, wf3_26, wf3_27, wf3_28, wf3_29, wf3_30, wf3_31, wf3_32, wf3_33, wf3_34, wf3_35, wf3_36, wf3_37, wf3_38, wf3_39, wf3_40, wf3_41, wf3_42, wf3_43, wf3_44, wf3_45, wf3_46, wf3_47, wf3_48, wf3_49, wf3_50, wf3_51, wf3_52, wf3_53, wf3_54, wf3_55, wf3_56, wf3_57, wf3_58, wf3_59, wf3_60, wf3_61, wf3_62, wf3_63, wf3_64, wf3_65, wf3_66, wf3_67, wf3_68, wf3_69, wf3_70, kx_ai, kx_al, kx_ar, wx_cond, wx_a1, wx_ac, wx_call, wm_pi, wm_pl, wb_and, wb_or, wb_not, ws_seq, ws_i, ws_l, ws_inc, ks_fi, ws_fl, ws_ofi, ws_ofl, ks_ai, ks_az, ks_al, ks_oai, ks_oal, wk_in, wk_in0, wz_0, wz_1, wz_b, wf0_0, wf0_2, ws_call, ws_if, ws_ife, ws_ret, ws_skip, ws_retv, ws_thr, wo_iadd, wo_isub, wo_imul, wo_iand, wo_ior, wo_ixor, wo_ishl, wo_ishr, wo_iushr, wo_ladd, wo_lsub, wo_land, wo_lor, wo_lxor, wo_lshl, wo_lushr, wo_i2l, wo_l2i, List.getElem?_cons_zero, List.getElem?_cons_succ, List.length_cons, List.length_nil, wm_st, wm_st2, List.set_cons_zero, List.set_cons_succ, hF, hA, hR, ev_cl, ev_cl0, ev_lt, ev_ge, ev_gt, ev_le, ev_eqn, ev_nen, ev_ltc, ev_gec, ev_gtc, ev_lec, ev_eqc, ev_nec, ev_pair, ev_pairL, ev_b0, ev_b1, Bool.not_not, ev_sw,  cond_true, cond_false, nI_1, Nat.zero_add, Nat.reduceAdd, Nat.reduceLT, if_true, ite_true, if_false, ite_false, reduceIte, wm_up_same, wm_up_qne, wm_up_kne, h1]
  · intro k s hk hs
    refine ⟨.inl ([.ref 1, .int (s ||| S.1 14 k), .int (nI (k + 1))], S), by simp (disch := first | omega | decide) only [wx_bind, wx_i, wx_l, wx_r, wx_c, wx_bin, wx_un, wx_div, wx_rem, kx_fi, wx_fl, kx_fr, wf3_4, wf3_5, wf3_6, wf3_7, wf3_8, wf3_9, wf3_10, wf3_11, wf3_12, wf3_13, wf3_14, wf3_15, wf3_16, wf3_17, wf3_18, wf3_19, wf3_20, wf3_21, wf3_22, wf3_23, wf3_24, wf3_25, wf3_26, wf3_27, wf3_28, wf3_29, wf3_30, wf3_31, wf3_32, wf3_33, wf3_34, wf3_35, wf3_36, wf3_37, wf3_38, wf3_39, wf3_40, wf3_41, wf3_42, wf3_43, wf3_44, wf3_45, wf3_46, wf3_47, wf3_48, wf3_49, wf3_50, wf3_51, wf3_52, wf3_53, wf3_54, wf3_55, wf3_56, wf3_57, wf3_58, wf3_59, wf3_60, wf3_61, wf3_62, wf3_63, wf3_64, wf3_65, wf3_66, wf3_67, wf3_68, wf3_69, wf3_70, kx_ai, kx_al, kx_ar, wx_cond, wx_a1, wx_ac, wx_call, wm_pi, wm_pl, wb_and, wb_or, wb_not, ws_seq, ws_i, ws_l, ws_inc, ks_fi, ws_fl, ws_ofi, ws_ofl, ks_ai, ks_az, ks_al, ks_oai, ks_oal, wk_in, wk_in0, wz_0, wz_1, wz_b, wf0_0, wf0_2, ws_call, ws_if, ws_ife, ws_ret, ws_skip, ws_retv, ws_thr, wo_iadd, wo_isub, wo_imul, wo_iand, wo_ior, wo_ixor, wo_ishl, wo_ishr, wo_iushr, wo_ladd, wo_lsub, wo_land, wo_lor, wo_lxor, wo_lshl, wo_lushr, wo_i2l, wo_l2i, List.getElem?_cons_zero, List.getElem?_cons_succ, List.length_cons, List.length_nil, wm_st, wm_st2, List.set_cons_zero, List.set_cons_succ, hF, hA, hR, ev_cl, ev_cl0, ev_lt, ev_ge, ev_gt, ev_le, ev_eqn, ev_nen, ev_ltc, ev_gec, ev_gtc, ev_lec, ev_eqc, ev_nec, ev_pair, ev_pairL, ev_b0, ev_b1, Bool.not_not, ev_sw,  cond_true, cond_false, nI_1, Nat.zero_add, Nat.reduceAdd, Nat.reduceLT, if_true, ite_true, if_false, ite_false, reduceIte, wm_up_same, wm_up_qne, wm_up_kne], _, rfl, fun y hy => ?_⟩
    rw [b_or, hs y hy, gl_bit hw h hk hy]
    refine gB_eq ?_
    rw [Bool.or_eq_true, gB_iff, gB_iff]
    constructor
    · rintro (⟨x, q1, q2⟩ | q)
      · exact ⟨x, by omega, q2⟩
      · exact ⟨k, by omega, q⟩
    · rintro ⟨x, q1, q2⟩
      by_cases e : x = k
      · subst e; exact Or.inr q2
      · exact Or.inl ⟨x, by omega, q2⟩
  · intro s hs
    refine wq_rets (by simp (disch := first | omega | decide) only [wx_bind, wx_i, wx_l, wx_r, wx_c, wx_bin, wx_un, wx_div, wx_rem, kx_fi, wx_fl, kx_fr, wf3_4, wf3_5, wf3_6, wf3_7, wf3_8, wf3_9, wf3_10, wf3_11, wf3_12, wf3_13, wf3_14, wf3_15, wf3_16, wf3_17, wf3_18, wf3_19, wf3_20, wf3_21, wf3_22, wf3_23, wf3_24, wf3_25, wf3_26, wf3_27, wf3_28, wf3_29, wf3_30, wf3_31, wf3_32, wf3_33, wf3_34, wf3_35, wf3_36, wf3_37, wf3_38, wf3_39, wf3_40, wf3_41, wf3_42, wf3_43, wf3_44, wf3_45, wf3_46, wf3_47, wf3_48, wf3_49, wf3_50, wf3_51, wf3_52, wf3_53, wf3_54, wf3_55, wf3_56, wf3_57, wf3_58, wf3_59, wf3_60, wf3_61, wf3_62, wf3_63, wf3_64, wf3_65, wf3_66, wf3_67, wf3_68, wf3_69, wf3_70, kx_ai, kx_al, kx_ar, wx_cond, wx_a1, wx_ac, wx_call, wm_pi, wm_pl, wb_and, wb_or, wb_not, ws_seq, ws_i, ws_l, ws_inc, ks_fi, ws_fl, ws_ofi, ws_ofl, ks_ai, ks_az, ks_al, ks_oai, ks_oal, wk_in, wk_in0, wz_0, wz_1, wz_b, wf0_0, wf0_2, ws_call, ws_if, ws_ife, ws_ret, ws_skip, ws_retv, ws_thr, wo_iadd, wo_isub, wo_imul, wo_iand, wo_ior, wo_ixor, wo_ishl, wo_ishr, wo_iushr, wo_ladd, wo_lsub, wo_land, wo_lor, wo_lxor, wo_lshl, wo_lushr, wo_i2l, wo_l2i, List.getElem?_cons_zero, List.getElem?_cons_succ, List.length_cons, List.length_nil, wm_st, wm_st2, List.set_cons_zero, List.set_cons_succ, hF, hA, hR, ev_cl, ev_cl0, ev_lt, ev_ge, ev_gt, ev_le, ev_eqn, ev_nen, ev_ltc, ev_gec, ev_gtc, ev_lec, ev_eqc, ev_nec, ev_pair, ev_pairL, ev_b0, ev_b1, Bool.not_not, ev_sw,  cond_true, cond_false, nI_1, Nat.zero_add, Nat.reduceAdd, Nat.reduceLT, if_true, ite_true, if_false, ite_false, reduceIte, wm_up_same, wm_up_qne, wm_up_kne, e_G_allBlocks h1] <;> rfl) ⟨wm_rt3, ?_⟩
    have : wr_eq (s &&& ((((1 : Int32) <<< (nI P.1.1 &&& 31)) - 1) ^^^ (-1))) 0 = gB (gc P) := by
      refine gB_eq ?_
      rw [b_eq0]
      constructor
      · intro q x hx y hy hE
        have := q y (by omega)
        rw [b_and, b_not (by omega), b_all _ (by omega) y (by omega), hs y (by omega), gB_iff.mpr ⟨x, hx, hE⟩] at this
        simpa using this
      · intro q j hj
        rw [b_and, b_not hj, b_all _ (by omega) j hj, hs j hj]
        cases e : gB (∃ x, x < P.1.1 ∧ gE P x j) with
        | false => rfl
        | true =>
          obtain ⟨x, hx, hE⟩ := gB_iff.mp e
          have := q x hx j (gE_lt hw hx (by omega) hE) hE
          simp [this]
    rw [this]
theorem nI_s1 {n : Nat} (h : 0 < n) : nI n - 1 = nI (n - 1) := by
  obtain ⟨m, rfl⟩ : ∃ m, n = m + 1 := ⟨n - 1, by omega⟩
  rw [nI_pred]; rfl
theorem i32_a1 {x : Int32} : x + (-1) = x - 1 := (Int32.sub_eq_add_neg x 1).symm
theorem ev_dn {n : Nat} (h : n < 2147483648) : wr_ge (nI n - 1) 0 = decide (0 < n) := by
  cases n with
  | zero => decide
  | succ m =>
    rw [nI_pred]
    have := ev_ge (a := m) (b := 0) (by omega) (by omega)
    have e : nI 0 = 0 := rfl
    rw [e] at this
    rw [this]
    simp
theorem i32_ne {x y : Int32} : wr_ne x y = true ↔ x ≠ y := by unfold wr_ne; simp
theorem i32_eq {x y : Int32} : wr_eq x y = true ↔ x = y := by unfold wr_eq; simp
/-- what findReturning's sets are: of blocks with a way, and the next round's blocks are in f too -/
def fr_in (P : PG) (av f : Int32) : Prop := ∀ i, i < 32 → bt f i = true → gr P (fun v => nI v = av) i
def fr_cl (P : PG) (av f f0 : Int32) (j : Nat) : Prop := ∀ x, j ≤ x → x < P.1.1 → nI x ≠ av → (gk P x ∨ ∃ u, u < P.1.1 ∧ gE P x u ∧ bt f0 u = true) → bt f x = true
theorem e_F_findReturning (hw : pg_wf P) (h : pg_C P S) {av : Int32} : ∃ w, f_F_findReturning [.ref 1, .int av] S = some (some (.int w), S) ∧ ∀ i, i < 32 → bt w i = gB (gr P (fun v => nI v = av) i) := by
  suffices hq : wq (f_F_findReturning [.ref 1, .int av] S) (fun r => r.2 = S ∧ ∃ w, r.1 = some (.int w) ∧ ∀ i, i < 32 → bt w i = gB (gr P (fun v => nI v = av) i)) by
    obtain ⟨⟨v, S'⟩, e, rfl, w, rfl, hb⟩ := hq
    exact ⟨w, e, hb⟩
  refine wq_fn rfl rfl rfl ?_
  show wq (t_F_findReturning [.ref 1, .int av, .retAddr 0, .retAddr 0, .retAddr 0, .retAddr 0, .retAddr 0, .retAddr 0] S) _
  unfold t_F_findReturning
  obtain ⟨L, N, M1, M2, hL, hN0, hF, hA, hR, hN, hM1, hM2⟩ := w_ex; (try simp only [hL, hN0])
  have hn := hw.1
  have h1 := h.1
  refine wq_step (by simp (disch := first | omega | decide) only [wx_bind, wx_i, wx_l, wx_r, wx_c, wx_bin, wx_un, wx_div, wx_rem, kx_fi, wx_fl, kx_fr, wf3_4, wf3_5, wf3_6, wf3_7, wf3_8, wf3_9, wf3_10, wf3_11, wf3_12, wf3_13, wf3_14, wf3_15, wf3_16, wf3_17, wf3_18, wf3_19, wf3_20, wf3_21, wf3_22, wf3_23, wf3_24, wf3_25, wf3_26, wf3_27, wf3_28, wf3_29, wf3_30, wf3_31, wf3_32, wf3_33, wf3_34, wf3_35, wf3_36, wf3_37, wf3_38, wf3_39, wf3_40, wf3_41, wf3_42, wf3_43, wf3_44, wf3_45, wf3_46, wf3_47, wf3_48, wf3_49, wf3_50, wf3_51, wf3_52, wf3_53, wf3_54, wf3_55, wf3_56, wf3_57, wf3_58, wf3_59, wf3_60, wf3_61, wf3_62, wf3_63, wf3_64, wf3_65, wf3_66, wf3_67, wf3_68, wf3_69, wf3_70, kx_ai, kx_al, kx_ar, wx_cond, wx_a1, wx_ac, wx_call, wm_pi, wm_pl, wb_and, wb_or, wb_not, ws_seq, ws_i, ws_l, ws_inc, ks_fi, ws_fl, ws_ofi, ws_ofl, ks_ai, ks_az, ks_al, ks_oai, ks_oal, wk_in, wk_in0, wz_0, wz_1, wz_b, wf0_0, wf0_2, ws_call, ws_if, ws_ife, ws_ret, ws_skip, ws_retv, ws_thr, wo_iadd, wo_isub, wo_imul, wo_iand, wo_ior, wo_ixor, wo_ishl, wo_ishr, wo_iushr, wo_ladd, wo_lsub, wo_land, wo_lor, wo_lxor, wo_lshl, wo_lushr, wo_i2l, wo_l2i, List.getElem?_cons_zero, List.getElem?_cons_succ, List.length_cons, List.length_nil, wm_st, wm_st2, List.set_cons_zero, List.set_cons_succ, hF, hA, hR, ev_cl, ev_cl0, ev_lt, ev_ge, ev_gt, ev_le, ev_eqn, ev_nen, ev_ltc, ev_gec, ev_gtc, ev_lec, ev_eqc, ev_nec, ev_pair, ev_pairL, ev_b0, ev_b1, Bool.not_not, ev_sw,  cond_true, cond_false, nI_1, Nat.zero_add, Nat.reduceAdd, Nat.reduceLT, if_true, ite_true, if_false, ite_false, reduceIte, wm_up_same, wm_up_qne, wm_up_kne] <;> rfl) (wq_step (by simp (disch := first | omega | decide) only [wx_bind, wx_i, wx_l, wx_r, wx_c, wx_bin, wx_un, wx_div, wx_rem, kx_fi, wx_fl, kx_fr, wf3_4, wf3_5, wf3_6, wf3_7, wf3_8, wf3_9, wf3_10, wf3_11, wf3_12, wf3_13, wf3_14, wf3_15, wf3_16, wf3_17, wf3_18, wf3_19, wf3_20, wf3_21, wf3_22, wf3_23, wf3_24, wf3_25, wf3_26, wf3_27, wf3_28, wf3_29, wf3_30, wf3_31, wf3_32, wf3_33, wf3_34, wf3_35, wf3_36, wf3_37, wf3_38, wf3_39, wf3_40, wf3_41, wf3_42, wf3_43, wf3_44, wf3_45, wf3_46, wf3_47, wf3_48, wf3_49, wf3_50, wf3_51, wf3_52, wf3_53, wf3_54, wf3_55, wf3_56, wf3_57, wf3_58, wf3_59, wf3_60, wf3_61, wf3_62, wf3_63, wf3_64, wf3_65, wf3_66, wf3_67, wf3_68, wf3_69, wf3_70, kx_ai, kx_al, kx_ar, wx_cond, wx_a1, wx_ac, wx_call, wm_pi, wm_pl, wb_and, wb_or, wb_not, ws_seq, ws_i, ws_l, ws_inc, ks_fi, ws_fl, ws_ofi, ws_ofl, ks_ai, ks_az, ks_al, ks_oai, ks_oal, wk_in, wk_in0, wz_0, wz_1, wz_b, wf0_0, wf0_2, ws_call, ws_if, ws_ife, ws_ret, ws_skip, ws_retv, ws_thr, wo_iadd, wo_isub, wo_imul, wo_iand, wo_ior, wo_ixor, wo_ishl, wo_ishr, wo_iushr, wo_ladd, wo_lsub, wo_land, wo_lor, wo_lxor, wo_lshl, wo_lushr, wo_i2l, wo_l2i, List.getElem?_cons_zero, List.getElem?_cons_succ, List.length_cons, List.length_nil, wm_st, wm_st2, List.set_cons_zero, List.set_cons_succ, hF, hA, hR, ev_cl, ev_cl0, ev_lt, ev_ge, ev_gt, ev_le, ev_eqn, ev_nen, ev_ltc, ev_gec, ev_gtc, ev_lec, ev_eqc, ev_nec, ev_pair, ev_pairL, ev_b0, ev_b1, Bool.not_not, ev_sw,  cond_true, cond_false, nI_1, Nat.zero_add, Nat.reduceAdd, Nat.reduceLT, if_true, ite_true, if_false, ite_false, reduceIte, wm_up_same, wm_up_qne, wm_up_kne] <;> rfl) (wq_assoc (wq_step (by simp (disch := first | omega | decide) only [wx_bind, wx_i, wx_l, wx_r, wx_c, wx_bin, wx_un, wx_div, wx_rem, kx_fi, wx_fl, kx_fr, wf3_4, wf3_5, wf3_6, wf3_7, wf3_8, wf3_9, wf3_10, wf3_11, wf3_12, wf3_13, wf3_14, wf3_15, wf3_16, wf3_17, wf3_18, wf3_19, wf3_20, wf3_21, wf3_22, wf3_23, wf3_24, wf3_25, wf3_26, wf3_27, wf3_28, wf3_29, wf3_30, wf3_31, wf3_32, wf3_33, wf3_34, wf3_35, wf3_36, wf3_37, wf3_38, wf3_39, wf3_40, wf3_41, wf3_42, wf3_43, wf3_44, wf3_45, wf3_46, wf3_47, wf3_48, wf3_49, wf3_50, wf3_51, wf3_52, wf3_53, wf3_54, wf3_55, wf3_56, wf3_57, wf3_58, wf3_59, wf3_60, wf3_61, wf3_62, wf3_63, wf3_64, wf3_65, wf3_66, wf3_67, wf3_68, wf3_69, wf3_70, kx_ai, kx_al, kx_ar, wx_cond, wx_a1, wx_ac, wx_call, wm_pi, wm_pl, wb_and, wb_or, wb_not, ws_seq, ws_i, ws_l, ws_inc, ks_fi, ws_fl, ws_ofi, ws_ofl, ks_ai, ks_az, ks_al, ks_oai, ks_oal, wk_in, wk_in0, wz_0, wz_1, wz_b, wf0_0, wf0_2, ws_call, ws_if, ws_ife, ws_ret, ws_skip, ws_retv, ws_thr, wo_iadd, wo_isub, wo_imul, wo_iand, wo_ior, wo_ixor, wo_ishl, wo_ishr, wo_iushr, wo_ladd, wo_lsub, wo_land, wo_lor, wo_lxor, wo_lshl, wo_lushr, wo_i2l, wo_l2i, List.getElem?_cons_zero, List.getElem?_cons_succ, List.length_cons, List.length_nil, wm_st, wm_st2, List.set_cons_zero, List.set_cons_succ, hF, hA, hR, ev_cl, ev_cl0, ev_lt, ev_ge, ev_gt, ev_le, ev_eqn, ev_nen, ev_ltc, ev_gec, ev_gtc, ev_lec, ev_eqc, ev_nec, ev_pair, ev_pairL, ev_b0, ev_b1, Bool.not_not, ev_sw,  cond_true, cond_false, nI_1, Nat.zero_add, Nat.reduceAdd, Nat.reduceLT, if_true, ite_true, if_false, ite_false, reduceIte, wm_up_same, wm_up_qne, wm_up_kne] <;> rfl) ?_)))
  refine wq_seq.mpr (wq_wh (β := Int32 × Bool × Nat × Value × Value × Value) (fun s => [.ref 1, .int av, .int s.1, .int (bif s.2.1 then 1 else 0), .int (nI s.2.2.1), s.2.2.2.1, s.2.2.2.2.1, s.2.2.2.2.2]) (fun _ => S) (fun s => s.2.2.1 ≤ P.1.1 ∧ fr_in P av s.1 ∧ (s.2.1 = true → s.2.2.1 ≤ gC (bt s.1) P.1.1) ∧ (s.2.1 = false → fr_cl P av s.1 s.1 0)) (fun s => P.1.1 - s.2.2.1) (fun s => bif decide (s.2.2.1 < P.1.1) then s.2.1 else false) ?_ ?_ ?_ (0, true, 0, .retAddr 0, .retAddr 0, .retAddr 0) rfl rfl ⟨Nat.zero_le _, fun i _ e => by rw [b_0] at e; exact absurd e (by decide), fun _ => Nat.zero_le _, fun e => nomatch e⟩ (by show P.1.1 - 0 < N; omega))
  · rintro ⟨f, g, r, v5, v6, v7⟩ ⟨a1, -⟩
    dsimp only at a1
    simp (disch := first | omega | decide) only [wx_bind, wx_i, wx_l, wx_r, wx_c, wx_bin, wx_un, wx_div, wx_rem, kx_fi, wx_fl, kx_fr, wf3_4, wf3_5, wf3_6, wf3_7, wf3_8, wf3_9, wf3_10, wf3_11, wf3_12, wf3_13, wf3_14, wf3_15, wf3_16, wf3_17, wf3_18, wf3_19, wf3_20, wf3_21, wf3_22, wf3_23, wf3_24, wf3_25, wf3_26, wf3_27, wf3_28, wf3_29, wf3_30, wf3_31, wf3_32, wf3_33, wf3_34, wf3_35, wf3_36, wf3_37, wf3_38, wf3_39, wf3_40, wf3_41, wf3_42, wf3_43, wf3_44, wf3_45, wf3_46, wf3_47, wf3_48, wf3_49, wf3_50, wf3_51, wf3_52, wf3_53, wf3_54, wf3_55, wf3_56, wf3_57, wf3_58, wf3_59, wf3_60, wf3_61, wf3_62, wf3_63, wf3_64, wf3_65, wf3_66, wf3_67, wf3_68, wf3_69, wf3_70, kx_ai, kx_al, kx_ar, wx_cond, wx_a1, wx_ac, wx_call, wm_pi, wm_pl, wb_and, wb_or, wb_not, ws_seq, ws_i, ws_l, ws_inc, ks_fi, ws_fl, ws_ofi, ws_ofl, ks_ai, ks_az, ks_al, ks_oai, ks_oal, wk_in, wk_in0, wz_0, wz_1, wz_b, wf0_0, wf0_2, ws_call, ws_if, ws_ife, ws_ret, ws_skip, ws_retv, ws_thr, wo_iadd, wo_isub, wo_imul, wo_iand, wo_ior, wo_ixor, wo_ishl, wo_ishr, wo_iushr, wo_ladd, wo_lsub, wo_land, wo_lor, wo_lxor, wo_lshl, wo_lushr, wo_i2l, wo_l2i, List.getElem?_cons_zero, List.getElem?_cons_succ, List.length_cons, List.length_nil, wm_st, wm_st2, List.set_cons_zero, List.set_cons_succ, hF, hA, hR, ev_cl, ev_cl0, ev_lt, ev_ge, ev_gt, ev_le, ev_eqn, ev_nen, ev_ltc, ev_gec, ev_gtc, ev_lec, ev_eqc, ev_nec, ev_pair, ev_pairL, ev_b0, ev_b1, Bool.not_not, ev_sw,  cond_true, cond_false, nI_1, Nat.zero_add, Nat.reduceAdd, Nat.reduceLT, if_true, ite_true, if_false, ite_false, reduceIte, wm_up_same, wm_up_qne, wm_up_kne, h1]
  · rintro ⟨f0, g, r, v5, v6, v7⟩ ⟨a1, a2, a3, a4⟩ hcd
    dsimp only at a1 a2 a3 a4 hcd ⊢
    have hr : r < P.1.1 := by
      by_cases q : r < P.1.1
      · exact q
      · simp [q] at hcd
    have hg : g = true := by simpa [hr] using hcd
    refine wq_assoc (wq_step (by simp (disch := first | omega | decide) only [wx_bind, wx_i, wx_l, wx_r, wx_c, wx_bin, wx_un, wx_div, wx_rem, kx_fi, wx_fl, kx_fr, wf3_4, wf3_5, wf3_6, wf3_7, wf3_8, wf3_9, wf3_10, wf3_11, wf3_12, wf3_13, wf3_14, wf3_15, wf3_16, wf3_17, wf3_18, wf3_19, wf3_20, wf3_21, wf3_22, wf3_23, wf3_24, wf3_25, wf3_26, wf3_27, wf3_28, wf3_29, wf3_30, wf3_31, wf3_32, wf3_33, wf3_34, wf3_35, wf3_36, wf3_37, wf3_38, wf3_39, wf3_40, wf3_41, wf3_42, wf3_43, wf3_44, wf3_45, wf3_46, wf3_47, wf3_48, wf3_49, wf3_50, wf3_51, wf3_52, wf3_53, wf3_54, wf3_55, wf3_56, wf3_57, wf3_58, wf3_59, wf3_60, wf3_61, wf3_62, wf3_63, wf3_64, wf3_65, wf3_66, wf3_67, wf3_68, wf3_69, wf3_70, kx_ai, kx_al, kx_ar, wx_cond, wx_a1, wx_ac, wx_call, wm_pi, wm_pl, wb_and, wb_or, wb_not, ws_seq, ws_i, ws_l, ws_inc, ks_fi, ws_fl, ws_ofi, ws_ofl, ks_ai, ks_az, ks_al, ks_oai, ks_oal, wk_in, wk_in0, wz_0, wz_1, wz_b, wf0_0, wf0_2, ws_call, ws_if, ws_ife, ws_ret, ws_skip, ws_retv, ws_thr, wo_iadd, wo_isub, wo_imul, wo_iand, wo_ior, wo_ixor, wo_ishl, wo_ishr, wo_iushr, wo_ladd, wo_lsub, wo_land, wo_lor, wo_lxor, wo_lshl, wo_lushr, wo_i2l, wo_l2i, List.getElem?_cons_zero, List.getElem?_cons_succ, List.length_cons, List.length_nil, wm_st, wm_st2, List.set_cons_zero, List.set_cons_succ, hF, hA, hR, ev_cl, ev_cl0, ev_lt, ev_ge, ev_gt, ev_le, ev_eqn, ev_nen, ev_ltc, ev_gec, ev_gtc, ev_lec, ev_eqc, ev_nec, ev_pair, ev_pairL, ev_b0, ev_b1, Bool.not_not, ev_sw,  cond_true, cond_false, nI_1, Nat.zero_add, Nat.reduceAdd, Nat.reduceLT, if_true, ite_true, if_false, ite_false, reduceIte, wm_up_same, wm_up_qne, wm_up_kne] <;> rfl) ?_)
    refine wq_assoc (wq_assoc (wq_step (by simp (disch := first | omega | decide) only [wx_bind, wx_i, wx_l, wx_r, wx_c, wx_bin, wx_un, wx_div, wx_rem, kx_fi, wx_fl, kx_fr, wf3_4, wf3_5, wf3_6, wf3_7, wf3_8, wf3_9, wf3_10, wf3_11, wf3_12, wf3_13, wf3_14, wf3_15, wf3_16, wf3_17, wf3_18, wf3_19, wf3_20, wf3_21, wf3_22, wf3_23, wf3_24, wf3_25, wf3_26, wf3_27, wf3_28, wf3_29, wf3_30, wf3_31, wf3_32, wf3_33, wf3_34, wf3_35, wf3_36, wf3_37, wf3_38, wf3_39, wf3_40, wf3_41, wf3_42, wf3_43, wf3_44, wf3_45, wf3_46, wf3_47, wf3_48, wf3_49, wf3_50, wf3_51, wf3_52, wf3_53, wf3_54, wf3_55, wf3_56, wf3_57, wf3_58, wf3_59, wf3_60, wf3_61, wf3_62, wf3_63, wf3_64, wf3_65, wf3_66, wf3_67, wf3_68, wf3_69, wf3_70, kx_ai, kx_al, kx_ar, wx_cond, wx_a1, wx_ac, wx_call, wm_pi, wm_pl, wb_and, wb_or, wb_not, ws_seq, ws_i, ws_l, ws_inc, ks_fi, ws_fl, ws_ofi, ws_ofl, ks_ai, ks_az, ks_al, ks_oai, ks_oal, wk_in, wk_in0, wz_0, wz_1, wz_b, wf0_0, wf0_2, ws_call, ws_if, ws_ife, ws_ret, ws_skip, ws_retv, ws_thr, wo_iadd, wo_isub, wo_imul, wo_iand, wo_ior, wo_ixor, wo_ishl, wo_ishr, wo_iushr, wo_ladd, wo_lsub, wo_land, wo_lor, wo_lxor, wo_lshl, wo_lushr, wo_i2l, wo_l2i, List.getElem?_cons_zero, List.getElem?_cons_succ, List.length_cons, List.length_nil, wm_st, wm_st2, List.set_cons_zero, List.set_cons_succ, hF, hA, hR, ev_cl, ev_cl0, ev_lt, ev_ge, ev_gt, ev_le, ev_eqn, ev_nen, ev_ltc, ev_gec, ev_gtc, ev_lec, ev_eqc, ev_nec, ev_pair, ev_pairL, ev_b0, ev_b1, Bool.not_not, ev_sw,  cond_true, cond_false, nI_1, Nat.zero_add, Nat.reduceAdd, Nat.reduceLT, if_true, ite_true, if_false, ite_false, reduceIte, wm_up_same, wm_up_qne, wm_up_kne, h1] <;> rfl) ?_))
    refine wq_seq.mpr (wq_for P.1.1 (fun k (s : Int32 × Value) => [.ref 1, .int av, .int s.1, .int (bif g then 1 else 0), .int (nI r), .int f0, .int (nI (P.1.1 - k) - 1), s.2]) (fun _ _ => S) (fun k s => fr_in P av s.1 ∧ (∀ i, i < 32 → bt f0 i = true → bt s.1 i = true) ∧ fr_cl P av s.1 f0 (P.1.1 - k)) ?_ ?_ ?_ (by omega) (f0, v7) rfl rfl ⟨a2, fun _ _ e => e, fun x q1 q2 => by omega⟩)
    · intro k s hk _
      simp (disch := first | omega | decide) only [wx_bind, wx_i, wx_l, wx_r, wx_c, wx_bin, wx_un, wx_div, wx_rem, kx_fi, wx_fl, kx_fr, wf3_4, wf3_5, wf3_6, wf3_7, wf3_8, wf3_9, wf3_10, wf3_11, wf3_12, wf3_13, wf3_14, wf3_15, wf3_16, wf3_17, wf3_18, wf3_19, wf3_20, wf3_21, wf3_22, wf3_23, wf3_24, wf3_25, wf3_26, wf3_27, wf3_28, wf3_29, wf3_30, wf3_31, wf3_32, wf3_33, wf3_34, wf3_35, wf3_36, wf3_37, wf3_38, wf3_39, wf3_40, wf3_41, wf3_42, wf3_43, wf3_44, wf3_45, wf3_46, wf3_47, wf3_48, wf3_49, wf3_50, wf3_51, wf3_52, wf3_53, wf3_54, wf3_55, wf3_56, wf3_57, wf3_58, wf3_59, wf3_60, wf3_61, wf3_62, wf3_63, wf3_64, wf3_65, wf3_66, wf3_67, wf3_68, wf3_69, wf3_70, kx_ai, kx_al, kx_ar, wx_cond, wx_a1, wx_ac, wx_call, wm_pi, wm_pl, wb_and, wb_or, wb_not, ws_seq, ws_i, ws_l, ws_inc, ks_fi, ws_fl, ws_ofi, ws_ofl, ks_ai, ks_az, ks_al, ks_oai, ks_oal, wk_in, wk_in0, wz_0, wz_1, wz_b, wf0_0, wf0_2, ws_call, ws_if, ws_ife, ws_ret, ws_skip, ws_retv, ws_thr, wo_iadd, wo_isub, wo_imul, wo_iand, wo_ior, wo_ixor, wo_ishl, wo_ishr, wo_iushr, wo_ladd, wo_lsub, wo_land, wo_lor, wo_lxor, wo_lshl, wo_lushr, wo_i2l, wo_l2i, List.getElem?_cons_zero, List.getElem?_cons_succ, List.length_cons, List.length_nil, wm_st, wm_st2, List.set_cons_zero, List.set_cons_succ, hF, hA, hR, ev_cl, ev_cl0, ev_lt, ev_ge, ev_gt, ev_le, ev_eqn, ev_nen, ev_ltc, ev_gec, ev_gtc, ev_lec, ev_eqc, ev_nec, ev_pair, ev_pairL, ev_b0, ev_b1, Bool.not_not, ev_sw,  cond_true, cond_false, nI_1, Nat.zero_add, Nat.reduceAdd, Nat.reduceLT, if_true, ite_true, if_false, ite_false, reduceIte, wm_up_same, wm_up_qne, wm_up_kne]
      rw [ev_dn (by omega)]
      have : decide (0 < P.1.1 - k) = decide (k < P.1.1) := by rw [decide_eq_decide]; omega
      rw [this]
    · rintro k ⟨f, u7⟩ hk ⟨b1, b2, b3⟩
      dsimp only at b1 b2 b3 ⊢
      have e1 : nI (P.1.1 - k) - 1 = nI (P.1.1 - (k + 1)) := by rw [nI_s1 (by omega)]; rfl
      rw [e1]
      obtain ⟨x, hx⟩ : ∃ x, x = P.1.1 - (k + 1) := ⟨_, rfl⟩
      have hxn : x < P.1.1 := by omega
      have e2 : nI (P.1.1 - (k + 1)) = nI x := by rw [hx]
      have hkd := (h.2.2.1 x hxn).1
      have hld : wr_ne (S.1 14 x &&& f) 0 = gB (∃ u, u < P.1.1 ∧ gE P x u ∧ bt f u = true) := by
        refine gB_eq ?_
        rw [b_ne0]
        constructor
        · rintro ⟨j, q1, q2⟩
          rw [b_and, gl_bit hw h hxn q1, Bool.and_eq_true, gB_iff] at q2
          exact ⟨j, (gR_in (b1 j q1 q2.2)).1, q2.1, q2.2⟩
        · rintro ⟨u, q1, q2, q3⟩
          exact ⟨u, by omega, by rw [b_and, gl_bit hw h hxn (by omega), q3, gB_iff.mpr q2]; rfl⟩
      have hk0 : wr_eq (S.1 10 x) 0 = gB (gk P x) := by
        refine gB_eq ?_
        rw [i32_eq, hkd]
        rfl
      rw [e2]
      refine wq_assoc (wq_step (by simp (disch := first | omega | decide) only [wx_bind, wx_i, wx_l, wx_r, wx_c, wx_bin, wx_un, wx_div, wx_rem, kx_fi, wx_fl, kx_fr, wf3_4, wf3_5, wf3_6, wf3_7, wf3_8, wf3_9, wf3_10, wf3_11, wf3_12, wf3_13, wf3_14, wf3_15, wf3_16, wf3_17, wf3_18, wf3_19, wf3_20, wf3_21, wf3_22, wf3_23, wf3_24, wf3_25, wf3_26, wf3_27, wf3_28, wf3_29, wf3_30, wf3_31, wf3_32, wf3_33, wf3_34, wf3_35, wf3_36, wf3_37, wf3_38, wf3_39, wf3_40, wf3_41, wf3_42, wf3_43, wf3_44, wf3_45, wf3_46, wf3_47, wf3_48, wf3_49, wf3_50, wf3_51, wf3_52, wf3_53, wf3_54, wf3_55, wf3_56, wf3_57, wf3_58, wf3_59, wf3_60, wf3_61, wf3_62, wf3_63, wf3_64, wf3_65, wf3_66, wf3_67, wf3_68, wf3_69, wf3_70, kx_ai, kx_al, kx_ar, wx_cond, wx_a1, wx_ac, wx_call, wm_pi, wm_pl, wb_and, wb_or, wb_not, ws_seq, ws_i, ws_l, ws_inc, ks_fi, ws_fl, ws_ofi, ws_ofl, ks_ai, ks_az, ks_al, ks_oai, ks_oal, wk_in, wk_in0, wz_0, wz_1, wz_b, wf0_0, wf0_2, ws_call, ws_if, ws_ife, ws_ret, ws_skip, ws_retv, ws_thr, wo_iadd, wo_isub, wo_imul, wo_iand, wo_ior, wo_ixor, wo_ishl, wo_ishr, wo_iushr, wo_ladd, wo_lsub, wo_land, wo_lor, wo_lxor, wo_lshl, wo_lushr, wo_i2l, wo_l2i, List.getElem?_cons_zero, List.getElem?_cons_succ, List.length_cons, List.length_nil, wm_st, wm_st2, List.set_cons_zero, List.set_cons_succ, hF, hA, hR, ev_cl, ev_cl0, ev_lt, ev_ge, ev_gt, ev_le, ev_eqn, ev_nen, ev_ltc, ev_gec, ev_gtc, ev_lec, ev_eqc, ev_nec, ev_pair, ev_pairL, ev_b0, ev_b1, Bool.not_not, ev_sw,  cond_true, cond_false, nI_1, Nat.zero_add, Nat.reduceAdd, Nat.reduceLT, if_true, ite_true, if_false, ite_false, reduceIte, wm_up_same, wm_up_qne, wm_up_kne, hk0, hld] <;> rfl) ?_)
      refine wq_ifs (by simp (disch := first | omega | decide) only [wx_bind, wx_i, wx_l, wx_r, wx_c, wx_bin, wx_un, wx_div, wx_rem, kx_fi, wx_fl, kx_fr, wf3_4, wf3_5, wf3_6, wf3_7, wf3_8, wf3_9, wf3_10, wf3_11, wf3_12, wf3_13, wf3_14, wf3_15, wf3_16, wf3_17, wf3_18, wf3_19, wf3_20, wf3_21, wf3_22, wf3_23, wf3_24, wf3_25, wf3_26, wf3_27, wf3_28, wf3_29, wf3_30, wf3_31, wf3_32, wf3_33, wf3_34, wf3_35, wf3_36, wf3_37, wf3_38, wf3_39, wf3_40, wf3_41, wf3_42, wf3_43, wf3_44, wf3_45, wf3_46, wf3_47, wf3_48, wf3_49, wf3_50, wf3_51, wf3_52, wf3_53, wf3_54, wf3_55, wf3_56, wf3_57, wf3_58, wf3_59, wf3_60, wf3_61, wf3_62, wf3_63, wf3_64, wf3_65, wf3_66, wf3_67, wf3_68, wf3_69, wf3_70, kx_ai, kx_al, kx_ar, wx_cond, wx_a1, wx_ac, wx_call, wm_pi, wm_pl, wb_and, wb_or, wb_not, ws_seq, ws_i, ws_l, ws_inc, ks_fi, ws_fl, ws_ofi, ws_ofl, ks_ai, ks_az, ks_al, ks_oai, ks_oal, wk_in, wk_in0, wz_0, wz_1, wz_b, wf0_0, wf0_2, ws_call, ws_if, ws_ife, ws_ret, ws_skip, ws_retv, ws_thr, wo_iadd, wo_isub, wo_imul, wo_iand, wo_ior, wo_ixor, wo_ishl, wo_ishr, wo_iushr, wo_ladd, wo_lsub, wo_land, wo_lor, wo_lxor, wo_lshl, wo_lushr, wo_i2l, wo_l2i, List.getElem?_cons_zero, List.getElem?_cons_succ, List.length_cons, List.length_nil, wm_st, wm_st2, List.set_cons_zero, List.set_cons_succ, hF, hA, hR, ev_cl, ev_cl0, ev_lt, ev_ge, ev_gt, ev_le, ev_eqn, ev_nen, ev_ltc, ev_gec, ev_gtc, ev_lec, ev_eqc, ev_nec, ev_pair, ev_pairL, ev_b0, ev_b1, Bool.not_not, ev_sw,  cond_true, cond_false, nI_1, Nat.zero_add, Nat.reduceAdd, Nat.reduceLT, if_true, ite_true, if_false, ite_false, reduceIte, wm_up_same, wm_up_qne, wm_up_kne] <;> rfl) (fun hc => ?_) (fun hc => ?_)
      · refine ⟨.inl ([.ref 1, .int av, .int (f ||| ((1 : Int32) <<< (nI x &&& 31))), .int (bif g then 1 else 0), .int (nI r), .int f0, .int (nI x - 1), _], S), by simp (disch := first | omega | decide) only [wx_bind, wx_i, wx_l, wx_r, wx_c, wx_bin, wx_un, wx_div, wx_rem, kx_fi, wx_fl, kx_fr, wf3_4, wf3_5, wf3_6, wf3_7, wf3_8, wf3_9, wf3_10, wf3_11, wf3_12, wf3_13, wf3_14, wf3_15, wf3_16, wf3_17, wf3_18, wf3_19, wf3_20, wf3_21, wf3_22, wf3_23, wf3_24, wf3_25, wf3_26, wf3_27, wf3_28, wf3_29, wf3_30, wf3_31, wf3_32, wf3_33, wf3_34, wf3_35, wf3_36, wf3_37, wf3_38, wf3_39, wf3_40, wf3_41, wf3_42, wf3_43, wf3_44, wf3_45, wf3_46, wf3_47, wf3_48, wf3_49, wf3_50, wf3_51, wf3_52, wf3_53, wf3_54, wf3_55, wf3_56, wf3_57, wf3_58, wf3_59, wf3_60, wf3_61, wf3_62, wf3_63, wf3_64, wf3_65, wf3_66, wf3_67, wf3_68, wf3_69, wf3_70, kx_ai, kx_al, kx_ar, wx_cond, wx_a1, wx_ac, wx_call, wm_pi, wm_pl, wb_and, wb_or, wb_not, ws_seq, ws_i, ws_l, ws_inc, ks_fi, ws_fl, ws_ofi, ws_ofl, ks_ai, ks_az, ks_al, ks_oai, ks_oal, wk_in, wk_in0, wz_0, wz_1, wz_b, wf0_0, wf0_2, ws_call, ws_if, ws_ife, ws_ret, ws_skip, ws_retv, ws_thr, wo_iadd, wo_isub, wo_imul, wo_iand, wo_ior, wo_ixor, wo_ishl, wo_ishr, wo_iushr, wo_ladd, wo_lsub, wo_land, wo_lor, wo_lxor, wo_lshl, wo_lushr, wo_i2l, wo_l2i, List.getElem?_cons_zero, List.getElem?_cons_succ, List.length_cons, List.length_nil, wm_st, wm_st2, List.set_cons_zero, List.set_cons_succ, hF, hA, hR, ev_cl, ev_cl0, ev_lt, ev_ge, ev_gt, ev_le, ev_eqn, ev_nen, ev_ltc, ev_gec, ev_gtc, ev_lec, ev_eqc, ev_nec, ev_pair, ev_pairL, ev_b0, ev_b1, Bool.not_not, ev_sw,  cond_true, cond_false, nI_1, Nat.zero_add, Nat.reduceAdd, Nat.reduceLT, if_true, ite_true, if_false, ite_false, reduceIte, wm_up_same, wm_up_qne, wm_up_kne, i32_a1] <;> rfl, (_, _), rfl, ?_, fun i q1 q2 => ?_, fun y q1 q2 q3 q4 => ?_⟩
        · intro i q1 q2
          dsimp only at q2
          rw [b_add1 (by omega) q1, Bool.or_eq_true, decide_eq_true_eq] at q2
          rcases q2 with q2 | rfl
          · exact b1 i q1 q2
          · have hav : nI x ≠ av := by
              intro e
              have : wr_ne (nI x) av = false := by unfold wr_ne; simp [e]
              rw [this] at hc
              cases (bif gB (gk P x) then true else gB (∃ u, u < P.1.1 ∧ gE P x u ∧ bt f u = true)) <;> simp at hc
            have hlv : (bif gB (gk P x) then true else gB (∃ u, u < P.1.1 ∧ gE P x u ∧ bt f u = true)) = true := by
              cases e : (bif gB (gk P x) then true else gB (∃ u, u < P.1.1 ∧ gE P x u ∧ bt f u = true)) with
              | true => rfl
              | false => rw [e] at hc; simp at hc
            cases e : gB (gk P x) with
            | true => exact gR_ret hxn hav (gB_iff.mp e)
            | false =>
              rw [e, cond_false] at hlv
              obtain ⟨u, u1, u2, u3⟩ := gB_iff.mp hlv
              exact gR_step hxn hav u1 u2 (b1 u (by omega) u3)
        · dsimp only
          rw [b_add1 (by omega) q1, b2 i q1 q2]; rfl
        · dsimp only at q1 ⊢
          rw [b_add1 (by omega) (by omega)]
          by_cases e : y = x
          · simp [e]
          · rw [b3 y (by omega) q2 q3 q4]; rfl
      · refine ⟨.inl ([.ref 1, .int av, .int f, .int (bif g then 1 else 0), .int (nI r), .int f0, .int (nI x - 1), _], S), by simp (disch := first | omega | decide) only [wx_bind, wx_i, wx_l, wx_r, wx_c, wx_bin, wx_un, wx_div, wx_rem, kx_fi, wx_fl, kx_fr, wf3_4, wf3_5, wf3_6, wf3_7, wf3_8, wf3_9, wf3_10, wf3_11, wf3_12, wf3_13, wf3_14, wf3_15, wf3_16, wf3_17, wf3_18, wf3_19, wf3_20, wf3_21, wf3_22, wf3_23, wf3_24, wf3_25, wf3_26, wf3_27, wf3_28, wf3_29, wf3_30, wf3_31, wf3_32, wf3_33, wf3_34, wf3_35, wf3_36, wf3_37, wf3_38, wf3_39, wf3_40, wf3_41, wf3_42, wf3_43, wf3_44, wf3_45, wf3_46, wf3_47, wf3_48, wf3_49, wf3_50, wf3_51, wf3_52, wf3_53, wf3_54, wf3_55, wf3_56, wf3_57, wf3_58, wf3_59, wf3_60, wf3_61, wf3_62, wf3_63, wf3_64, wf3_65, wf3_66, wf3_67, wf3_68, wf3_69, wf3_70, kx_ai, kx_al, kx_ar, wx_cond, wx_a1, wx_ac, wx_call, wm_pi, wm_pl, wb_and, wb_or, wb_not, ws_seq, ws_i, ws_l, ws_inc, ks_fi, ws_fl, ws_ofi, ws_ofl, ks_ai, ks_az, ks_al, ks_oai, ks_oal, wk_in, wk_in0, wz_0, wz_1, wz_b, wf0_0, wf0_2, ws_call, ws_if, ws_ife, ws_ret, ws_skip, ws_retv, ws_thr, wo_iadd, wo_isub, wo_imul, wo_iand, wo_ior, wo_ixor, wo_ishl, wo_ishr, wo_iushr, wo_ladd, wo_lsub, wo_land, wo_lor, wo_lxor, wo_lshl, wo_lushr, wo_i2l, wo_l2i, List.getElem?_cons_zero, List.getElem?_cons_succ, List.length_cons, List.length_nil, wm_st, wm_st2, List.set_cons_zero, List.set_cons_succ, hF, hA, hR, ev_cl, ev_cl0, ev_lt, ev_ge, ev_gt, ev_le, ev_eqn, ev_nen, ev_ltc, ev_gec, ev_gtc, ev_lec, ev_eqc, ev_nec, ev_pair, ev_pairL, ev_b0, ev_b1, Bool.not_not, ev_sw,  cond_true, cond_false, nI_1, Nat.zero_add, Nat.reduceAdd, Nat.reduceLT, if_true, ite_true, if_false, ite_false, reduceIte, wm_up_same, wm_up_qne, wm_up_kne, i32_a1] <;> rfl, (_, _), rfl, b1, b2, fun y q1 q2 q3 q4 => ?_⟩
        dsimp only at q1 ⊢
        by_cases e : y = x
        · subst e
          exfalso
          have hlv : (bif gB (gk P y) then true else gB (∃ u, u < P.1.1 ∧ gE P y u ∧ bt f u = true)) = true := by
            rcases q4 with q4 | ⟨u, u1, u2, u3⟩
            · rw [gB_iff.mpr q4]; rfl
            · have hh : ∃ u, u < P.1.1 ∧ gE P y u ∧ bt f u = true := ⟨u, u1, u2, b2 u (by omega) u3⟩
              rw [gB_iff.mpr hh]; cases gB (gk P y) <;> rfl
          rw [hlv, i32_ne.mpr q3] at hc
          exact absurd hc (by decide)
        · exact b3 y (by omega) q2 q3 q4
    · rintro ⟨f, u7⟩ ⟨b1, b2, b3⟩
      dsimp only at b1 b2 b3 ⊢
      refine ⟨.inl ([.ref 1, .int av, .int f, .int (bif wr_ne f f0 then 1 else 0), .int (nI (r + 1)), .int f0, .int (nI (P.1.1 - P.1.1) - 1), u7], S), by simp (disch := first | omega | decide) only [wx_bind, wx_i, wx_l, wx_r, wx_c, wx_bin, wx_un, wx_div, wx_rem, kx_fi, wx_fl, kx_fr, wf3_4, wf3_5, wf3_6, wf3_7, wf3_8, wf3_9, wf3_10, wf3_11, wf3_12, wf3_13, wf3_14, wf3_15, wf3_16, wf3_17, wf3_18, wf3_19, wf3_20, wf3_21, wf3_22, wf3_23, wf3_24, wf3_25, wf3_26, wf3_27, wf3_28, wf3_29, wf3_30, wf3_31, wf3_32, wf3_33, wf3_34, wf3_35, wf3_36, wf3_37, wf3_38, wf3_39, wf3_40, wf3_41, wf3_42, wf3_43, wf3_44, wf3_45, wf3_46, wf3_47, wf3_48, wf3_49, wf3_50, wf3_51, wf3_52, wf3_53, wf3_54, wf3_55, wf3_56, wf3_57, wf3_58, wf3_59, wf3_60, wf3_61, wf3_62, wf3_63, wf3_64, wf3_65, wf3_66, wf3_67, wf3_68, wf3_69, wf3_70, kx_ai, kx_al, kx_ar, wx_cond, wx_a1, wx_ac, wx_call, wm_pi, wm_pl, wb_and, wb_or, wb_not, ws_seq, ws_i, ws_l, ws_inc, ks_fi, ws_fl, ws_ofi, ws_ofl, ks_ai, ks_az, ks_al, ks_oai, ks_oal, wk_in, wk_in0, wz_0, wz_1, wz_b, wf0_0, wf0_2, ws_call, ws_if, ws_ife, ws_ret, ws_skip, ws_retv, ws_thr, wo_iadd, wo_isub, wo_imul, wo_iand, wo_ior, wo_ixor, wo_ishl, wo_ishr, wo_iushr, wo_ladd, wo_lsub, wo_land, wo_lor, wo_lxor, wo_lshl, wo_lushr, wo_i2l, wo_l2i, List.getElem?_cons_zero, List.getElem?_cons_succ, List.length_cons, List.length_nil, wm_st, wm_st2, List.set_cons_zero, List.set_cons_succ, hF, hA, hR, ev_cl, ev_cl0, ev_lt, ev_ge, ev_gt, ev_le, ev_eqn, ev_nen, ev_ltc, ev_gec, ev_gtc, ev_lec, ev_eqc, ev_nec, ev_pair, ev_pairL, ev_b0, ev_b1, Bool.not_not, ev_sw,  cond_true, cond_false, nI_1, Nat.zero_add, Nat.reduceAdd, Nat.reduceLT, if_true, ite_true, if_false, ite_false, reduceIte, wm_up_same, wm_up_qne, wm_up_kne] <;> rfl, (f, wr_ne f f0, r + 1, _, _, _), rfl, ⟨hr, b1, fun e => ?_, fun e => ?_⟩, by show P.1.1 - (r + 1) < P.1.1 - r; omega⟩
      · dsimp only at e ⊢
        refine Nat.lt_of_le_of_lt (a3 hg) (gC_lt (fun i hi q => b2 i (by omega) q) ?_)
        refine Classical.byContradiction fun hno => i32_ne.mp e (b_ext fun i hi => ?_)
        cases e0 : bt f0 i with
        | true => exact b2 i hi e0
        | false =>
          cases e1 : bt f i with
          | false => rfl
          | true => exact absurd ⟨i, (gR_in (b1 i hi e1)).1, e0, e1⟩ hno
      · have e' : f = f0 := by
          refine Classical.byContradiction fun q => ?_
          have := i32_ne.mpr q
          dsimp only at e
          rw [e] at this
          exact absurd this (by decide)
        subst e'
        rw [Nat.sub_self] at b3
        exact b3
  · rintro ⟨f, g, r, v5, v6, v7⟩ ⟨a1, a2, a3, a4⟩ hcd
    dsimp only at a1 a2 a3 a4 hcd ⊢
    have hcl : fr_cl P av f f 0 := by
      cases hg : g with
      | false => exact a4 hg
      | true =>
        have hr : r = P.1.1 := by
          refine Classical.byContradiction fun q => ?_
          have : r < P.1.1 := by omega
          simp [this, hg] at hcd
        have hc := a3 hg
        have hle := gC_le (bt f) P.1.1
        have := gC_full (f := bt f) (n := P.1.1) (by omega)
        exact fun x _ hx _ _ => this x hx
    refine wq_rets (by simp (disch := first | omega | decide) only [wx_bind, wx_i, wx_l, wx_r, wx_c, wx_bin, wx_un, wx_div, wx_rem, kx_fi, wx_fl, kx_fr, wf3_4, wf3_5, wf3_6, wf3_7, wf3_8, wf3_9, wf3_10, wf3_11, wf3_12, wf3_13, wf3_14, wf3_15, wf3_16, wf3_17, wf3_18, wf3_19, wf3_20, wf3_21, wf3_22, wf3_23, wf3_24, wf3_25, wf3_26, wf3_27, wf3_28, wf3_29, wf3_30, wf3_31, wf3_32, wf3_33, wf3_34, wf3_35, wf3_36, wf3_37, wf3_38, wf3_39, wf3_40, wf3_41, wf3_42, wf3_43, wf3_44, wf3_45, wf3_46, wf3_47, wf3_48, wf3_49, wf3_50, wf3_51, wf3_52, wf3_53, wf3_54, wf3_55, wf3_56, wf3_57, wf3_58, wf3_59, wf3_60, wf3_61, wf3_62, wf3_63, wf3_64, wf3_65, wf3_66, wf3_67, wf3_68, wf3_69, wf3_70, kx_ai, kx_al, kx_ar, wx_cond, wx_a1, wx_ac, wx_call, wm_pi, wm_pl, wb_and, wb_or, wb_not, ws_seq, ws_i, ws_l, ws_inc, ks_fi, ws_fl, ws_ofi, ws_ofl, ks_ai, ks_az, ks_al, ks_oai, ks_oal, wk_in, wk_in0, wz_0, wz_1, wz_b, wf0_0, wf0_2, ws_call, ws_if, ws_ife, ws_ret, ws_skip, ws_retv, ws_thr, wo_iadd, wo_isub, wo_imul, wo_iand, wo_ior, wo_ixor, wo_ishl, wo_ishr, wo_iushr, wo_ladd, wo_lsub, wo_land, wo_lor, wo_lxor, wo_lshl, wo_lushr, wo_i2l, wo_l2i, List.getElem?_cons_zero, List.getElem?_cons_succ, List.length_cons, List.length_nil, wm_st, wm_st2, List.set_cons_zero, List.set_cons_succ, hF, hA, hR, ev_cl, ev_cl0, ev_lt, ev_ge, ev_gt, ev_le, ev_eqn, ev_nen, ev_ltc, ev_gec, ev_gtc, ev_lec, ev_eqc, ev_nec, ev_pair, ev_pairL, ev_b0, ev_b1, Bool.not_not, ev_sw,  cond_true, cond_false, nI_1, Nat.zero_add, Nat.reduceAdd, Nat.reduceLT, if_true, ite_true, if_false, ite_false, reduceIte, wm_up_same, wm_up_qne, wm_up_kne] <;> rfl) ⟨rfl, rfl, f, rfl, fun i hi => gB_eq ⟨a2 i hi, fun hg => ?_⟩⟩
    exact gR_ind (P := fun v => bt f v = true) hg (fun v k1 k2 k3 => hcl v (Nat.zero_le _) k1 k2 (k3.imp id (fun ⟨u, u1, u2, _, u3⟩ => ⟨u, u1, u2, u3⟩)))
end PGG

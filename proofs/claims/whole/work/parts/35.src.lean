/-! where values come from: what reaches what; Sources of the class -/
section PGI
variable {S : wm_S} {P : PG}
/-- the register that i sets; i reaches up to hi in block x from lo on; i reaches the start of s; i reaches k; i reaches the end of b -/
def gsb (P : PG) (i : Nat) : Int32 := bif wr_eq (P.2 4 i) 7 then -1 else P.2 5 i
def gfree (P : PG) (i x lo hi : Nat) : Prop := ∀ k, lo ≤ k → k < hi → P.2 8 k = nI x → gsb P k ≠ gsb P i
def gJ (P : PG) (A : Nat → Prop) (i b : Nat) : Prop := (P.2 8 i = nI b ∧ gfree P i b (i + 1) P.1.2) ∨ (A b ∧ gfree P i b 0 P.1.2)
def gX (P : PG) (i s : Nat) : Prop := ∀ X : Nat → Prop, (∀ b s, b < P.1.1 → s < P.1.1 → gE P b s → gJ P X i b → X s) → X s
def gT (P : PG) (x : Nat) (A : Prop) (i hi : Nat) : Prop := (P.2 8 i = nI x ∧ i < hi ∧ gfree P i x (i + 1) hi) ∨ (A ∧ gfree P i x 0 hi)
def gu (P : PG) (j r : Nat) : Prop := ∃ o, o < 8 ∧ P.2 4 j = nI o ∧ ((o = 7 ∧ P.2 5 j = nI r) ∨ (1 ≤ o ∧ o ≤ 5 ∧ P.2 6 j = nI r) ∨ (2 ≤ o ∧ o ≤ 5 ∧ P.2 7 j = nI r))
def gue (P : PG) (b r : Nat) : Prop := P.2 0 b ≠ 1 ∧ P.2 1 b = nI r
theorem gX_step {i b s : Nat} (hb : b < P.1.1) (hs : s < P.1.1) (hE : gE P b s) (h : gJ P (gX P i) i b) : gX P i s := fun X hX => hX b s hb hs hE (h.imp id (fun q => ⟨q.1 X hX, q.2⟩))
theorem gJ_mono {A B : Nat → Prop} {i b : Nat} (h : gJ P A i b) (hAB : A b → B b) : gJ P B i b := h.imp id (fun q => ⟨hAB q.1, q.2⟩)
theorem gsb_reg (hw : pg_wf P) {i : Nat} (hi : i < P.1.2) (h : gsb P i ≠ -1) : ∃ r, r < 8 ∧ gsb P i = nI r := by
  obtain ⟨o, ho, e, ha, -⟩ := hw.2.2.2.1 i hi
  unfold gsb at h ⊢
  cases q : wr_eq (P.2 4 i) 7 with
  | true => rw [q] at h; exact absurd rfl h
  | false => exact ha
theorem gT_end {x i : Nat} {A : Nat → Prop} (hi : i < P.1.2) : gT P x (A x) i P.1.2 ↔ gJ P A i x := by
  unfold gT gJ
  exact ⟨fun q => q.imp (fun q => ⟨q.1, q.2.2⟩) id, fun q => q.imp (fun q => ⟨q.1, hi, q.2⟩) id⟩
theorem gT_skip {x i k hi : Nat} {A : Prop} (hk : k ≤ hi) (h : ∀ j, k ≤ j → j < hi → P.2 8 j ≠ nI x) : gT P x A i hi ↔ gT P x A i k := by
  have e : ∀ lo, gfree P i x lo hi ↔ gfree P i x lo k := fun lo => ⟨fun q j q1 q2 => q j q1 (by omega), fun q j q1 q2 q3 => by
    by_cases z : j < k
    · exact q j q1 z q3
    · exact absurd q3 (h j (by omega) q2)⟩
  unfold gT
  rw [e, e]
  constructor
  · rintro (⟨q1, q2, q3⟩ | q)
    · refine Or.inl ⟨q1, ?_, q3⟩
      refine Classical.byContradiction fun z => h i (by omega) q2 q1
    · exact Or.inr q
  · rintro (⟨q1, q2, q3⟩ | q)
    · exact Or.inl ⟨q1, by omega, q3⟩
    · exact Or.inr q
theorem gT_step {x i k : Nat} {A : Prop} (hk : P.2 8 k = nI x) : gT P x A i (k + 1) ↔ i = k ∨ (gT P x A i k ∧ gsb P k ≠ gsb P i) := by
  have e : ∀ lo, lo ≤ k → (gfree P i x lo (k + 1) ↔ gfree P i x lo k ∧ gsb P k ≠ gsb P i) := fun lo hlo => by
    constructor
    · exact fun q => ⟨fun j q1 q2 => q j q1 (by omega), q k hlo (by omega) hk⟩
    · rintro ⟨q, z⟩ j q1 q2 q3
      by_cases e : j = k
      · subst e; exact z
      · exact q j q1 (by omega) q3
  unfold gT
  constructor
  · rintro (⟨q1, q2, q3⟩ | ⟨q1, q2⟩)
    · by_cases z : i = k
      · exact Or.inl z
      · have := (e (i + 1) (by omega)).mp q3
        exact Or.inr ⟨Or.inl ⟨q1, by omega, this.1⟩, this.2⟩
    · have := (e 0 (by omega)).mp q2
      exact Or.inr ⟨Or.inr ⟨q1, this.1⟩, this.2⟩
  · rintro (rfl | ⟨⟨q1, q2, q3⟩ | ⟨q1, q2⟩, z⟩)
    · exact Or.inl ⟨hk, by omega, fun j q1 q2 => by omega⟩
    · exact Or.inl ⟨q1, by omega, (e (i + 1) (by omega)).mpr ⟨q3, z⟩⟩
    · exact Or.inr ⟨q1, (e 0 (by omega)).mpr ⟨q2, z⟩⟩
/-- a block's row: its instructions in order -/
theorem fr_sorted {p : Nat → Bool} {m i j : Nat} (hj : j < ((List.range m).filter p).length) (h : i < j) : ((List.range m).filter p)[i]'(by omega) < ((List.range m).filter p)[j] := by
  have := (List.pairwise_lt_range (n := m)).filter p
  rw [List.pairwise_iff_getElem] at this
  exact this i j (by omega) hj h
def pg_hi (P : PG) (x i : Nat) : Nat := if h : i < (pg_row P x).length then (pg_row P x)[i] else P.1.2
theorem pg_hi_lt {x i : Nat} (h : i < (pg_row P x).length) : pg_hi P x i = (pg_row P x)[i] ∧ pg_hi P x i < P.1.2 ∧ P.2 8 (pg_hi P x i) = nI x := by
  unfold pg_hi
  rw [dif_pos h]
  have : (pg_row P x)[i] ∈ pg_row P x := List.getElem_mem h
  unfold pg_row at this
  rw [List.mem_filter, List.mem_range, decide_eq_true_eq] at this
  exact ⟨rfl, this.1, this.2⟩
theorem pg_row_at {x k : Nat} (hk : k < P.1.2) (h : P.2 8 k = nI x) : ∃ j, ∃ hj : j < (pg_row P x).length, (pg_row P x)[j] = k := by
  have : k ∈ pg_row P x := by
    unfold pg_row
    rw [List.mem_filter, List.mem_range, decide_eq_true_eq]
    exact ⟨hk, h⟩
  obtain ⟨j, hj, e⟩ := List.mem_iff_getElem.mp this
  exact ⟨j, hj, e⟩
theorem pg_row_mono {x i j : Nat} (hj : j < (pg_row P x).length) (h : i ≤ j) : (pg_row P x)[i]'(by omega) ≤ (pg_row P x)[j] := by
  by_cases e : i = j
  · subst e; exact Nat.le_refl _
  · exact Nat.le_of_lt (fr_sorted (p := fun k => decide (P.2 8 k = nI x)) hj (by omega))
theorem pg_hi_0 {x k : Nat} (hk : k < pg_hi P x 0) : P.2 8 k ≠ nI x := by
  intro e
  have hm : k < P.1.2 := by
    unfold pg_hi at hk
    split at hk
    · rename_i h
      have := (pg_hi_lt h).2.1
      unfold pg_hi at this
      rw [dif_pos h] at this
      omega
    · exact hk
  obtain ⟨j, hj, ej⟩ := pg_row_at hm e
  have h0 : 0 < (pg_row P x).length := by omega
  unfold pg_hi at hk
  rw [dif_pos h0] at hk
  have := pg_row_mono (P := P) (x := x) (i := 0) hj (by omega)
  omega
theorem pg_hi_s {x i k : Nat} (h : i < (pg_row P x).length) (h1 : pg_hi P x i < k) (h2 : k < pg_hi P x (i + 1)) : P.2 8 k ≠ nI x := by
  intro e
  have hm : k < P.1.2 := by
    unfold pg_hi at h2
    split at h2
    · rename_i h
      have := (pg_hi_lt h).2.1
      unfold pg_hi at this
      rw [dif_pos h] at this
      omega
    · exact h2
  obtain ⟨j, hj, ej⟩ := pg_row_at hm e
  have hij : i < j := by
    refine Classical.byContradiction fun z => ?_
    have := pg_row_mono (P := P) (x := x) (i := j) h (by omega)
    rw [(pg_hi_lt h).1] at h1
    omega
  have h0 : i + 1 < (pg_row P x).length := by omega
  unfold pg_hi at h2
  rw [dif_pos h0] at h2
  have := pg_row_mono (P := P) (x := x) (i := i + 1) hj (by omega)
  omega
theorem pg_hi_up {x i : Nat} (h : i < (pg_row P x).length) : pg_hi P x i + 1 ≤ pg_hi P x (i + 1) := by
  have h1 := pg_hi_lt h
  unfold pg_hi at h1 ⊢
  rw [dif_pos h] at h1 ⊢
  split
  · rename_i h2
    exact fr_sorted (p := fun k => decide (P.2 8 k = nI x)) h2 (by omega)
  · exact h1.2.1
theorem pg_hi_len {x : Nat} : pg_hi P x (pg_row P x).length = P.1.2 := by
  unfold pg_hi
  rw [dif_neg (by omega)]
theorem e_G_setReg (h : pg_C P S) {k : Nat} (hm : P.1.2 ≤ 60) (hk : k < P.1.2) : f_G_setRegister [.ref 1, .int (nI k)] S = some (some (.int (gsb P k)), S) := by
  obtain ⟨a1, a2, -⟩ := h.2.2.2.1 k hk
  rw [e_G_setRegister (by omega), a1, a2]
  rfl
theorem e_G_usedRegisters (hw : pg_wf P) (h : pg_C P S) {k : Nat} (hk : k < P.1.2) : ∃ w, f_G_usedRegisters [.ref 1, .int (nI k)] S = some (some (.int w), S) ∧ ∀ r, r < 8 → bt w r = gB (gu P k r) := by
  suffices hq : wq (f_G_usedRegisters [.ref 1, .int (nI k)] S) (fun z => z.2 = S ∧ ∃ w, z.1 = some (.int w) ∧ ∀ r, r < 8 → bt w r = gB (gu P k r)) by
    obtain ⟨⟨v, S'⟩, e, rfl, w, rfl, hb⟩ := hq
    exact ⟨w, e, hb⟩
  refine wq_fn rfl rfl rfl ?_
  show wq (t_G_usedRegisters [.ref 1, .int (nI k)] S) _
  unfold t_G_usedRegisters
  obtain ⟨L, N, M1, M2, hL, hN0, hF, hA, hR, hN, hM1, hM2⟩ := w_ex; (try simp only [hL, hN0])
  have hm := hw.2.1
  obtain ⟨a1, a2, a3, a4, -⟩ := h.2.2.2.1 k hk
  obtain ⟨o, ho, eo, ⟨ra, hra, ea⟩, hb, hc⟩ := hw.2.2.2.1 k hk
  rw [eo] at a1
  have hgu : ∀ r, gu P k r ↔ ((o = 7 ∧ P.2 5 k = nI r) ∨ (1 ≤ o ∧ o ≤ 5 ∧ P.2 6 k = nI r) ∨ (2 ≤ o ∧ o ≤ 5 ∧ P.2 7 k = nI r)) := by
    intro r
    constructor
    · rintro ⟨o', ho', e', q⟩
      rw [eo] at e'
      have := (nI_eq (a := o) (b := o') (by omega) (by omega)).mp e'
      subst this
      exact q
    · exact fun q => ⟨o, ho, eo, q⟩
  have sb : ∀ s, s < 8 → ∀ r, r < 8 → (bt ((1 : Int32) <<< (nI s &&& 31)) r = true ↔ nI s = nI r) := by
    intro s hs r hr
    rw [b_one s (by omega) r (by omega), decide_eq_true_eq, nI_eq (by omega) (by omega)]
  have hz : (o = 0 ∨ o = 6) → ∀ r, r < 8 → bt 0 r = gB (gu P k r) := by
    intro q r hr
    rw [b_0]
    refine gB_eq ⟨fun z => (nomatch z), fun z => ?_⟩
    rw [hgu] at z
    omega
  have h2 : 2 ≤ o → o ≤ 5 → ∀ r, r < 8 → bt (((1 : Int32) <<< (P.2 6 k &&& 31)) ||| ((1 : Int32) <<< (P.2 7 k &&& 31))) r = gB (gu P k r) := by
    intro q1 q2 r hr
    obtain ⟨sb1, hb1, eb1⟩ := hb (by omega) q2
    obtain ⟨sc1, hc1, ec1⟩ := hc q1 q2
    refine gB_eq ?_
    rw [b_or, Bool.or_eq_true, hgu, eb1, ec1, sb sb1 hb1 r hr, sb sc1 hc1 r hr]
    constructor
    · rintro (z | z)
      · exact Or.inr (Or.inl ⟨by omega, q2, z⟩)
      · exact Or.inr (Or.inr ⟨q1, q2, z⟩)
    · rintro (⟨z, _⟩ | ⟨_, _, z⟩ | ⟨_, _, z⟩)
      · omega
      · exact Or.inl z
      · exact Or.inr z
  match o, ho with
  | 0, _ => exact wq_rets (by simp (disch := first | omega | decide) only [wx_bind, wx_i, wx_l, wx_r, wx_c, wx_bin, wx_un, wx_div, wx_rem, kx_fi, wx_fl, kx_fr, wf3_4, wf3_5, wf3_6, wf3_7, wf3_8, wf3_9, wf3_10, wf3_11, wf3_12, wf3_13, wf3_14, wf3_15, wf3_16, wf3_17, wf3_18, wf3_19, wf3_20, wf3_21, wf3_22, wf3_23, wf3_24, wf3_25, wf3_26, wf3_27, wf3_28, wf3_29, wf3_30, wf3_31, wf3_32, wf3_33, wf3_34, wf3_35, wf3_36, wf3_37, wf3_38, wf3_39, wf3_40, wf3_41, wf3_42, wf3_43, wf3_44, wf3_45, wf3_46, wf3_47, wf3_48, wf3_49, wf3_50, wf3_51, wf3_52, wf3_53, wf3_54, wf3_55, wf3_56, wf3_57, wf3_58, wf3_59, wf3_60, wf3_61, wf3_62, wf3_63, wf3_64, wf3_65, wf3_66, wf3_67, wf3_68, wf3_69, wf3_70, kx_ai, kx_al, kx_ar, wx_cond, wx_a1, wx_ac, wx_call, wm_pi, wm_pl, wb_and, wb_or, wb_not, ws_seq, ws_i, ws_l, ws_inc, ks_fi, ws_fl, ws_ofi, ws_ofl, ks_ai, ks_az, ks_al, ks_oai, ks_oal, wk_in, wk_in0, wz_0, wz_1, wz_b, wf0_0, wf0_2, ws_call, ws_if, ws_ife, ws_ret, ws_skip, ws_retv, ws_thr, wo_iadd, wo_isub, wo_imul, wo_iand, wo_ior, wo_ixor, wo_ishl, wo_ishr, wo_iushr, wo_ladd, wo_lsub, wo_land, wo_lor, wo_lxor, wo_lshl, wo_lushr, wo_i2l, wo_l2i, List.getElem?_cons_zero, List.getElem?_cons_succ, List.length_cons, List.length_nil, wm_st, wm_st2, List.set_cons_zero, List.set_cons_succ, hF, hA, hR, ev_cl, ev_cl0, ev_lt, ev_ge, ev_gt, ev_le, ev_eqn, ev_nen, ev_ltc, ev_gec, ev_gtc, ev_lec, ev_eqc, ev_nec, ev_pair, ev_pairL, ev_b0, ev_b1, Bool.not_not, ev_sw,  cond_true, cond_false, nI_1, Nat.zero_add, Nat.reduceAdd, Nat.reduceLT, if_true, ite_true, if_false, ite_false, reduceIte, wm_up_same, wm_up_qne, wm_up_kne, a1, ws_pick, Int.reduceAdd, Int.reduceEq, ev_t0, ev_u0, ev_t1, ev_u1, ev_t2, ev_u2, ev_t3, ev_u3, ev_t4, ev_u4, ev_t5, ev_u5, ev_t6, ev_u6, ev_t7, ev_u7, ev_t8, ev_u8, ev_t9, ev_u9, ev_t10, ev_u10, ev_t11, ev_u11, ev_t12, ev_u12, ev_t13, ev_u13, ev_t14, ev_u14, ev_t15, ev_u15] <;> rfl) ⟨rfl, rfl, _, rfl, hz (Or.inl rfl)⟩
  | 1, _ =>
    refine wq_rets (by simp (disch := first | omega | decide) only [wx_bind, wx_i, wx_l, wx_r, wx_c, wx_bin, wx_un, wx_div, wx_rem, kx_fi, wx_fl, kx_fr, wf3_4, wf3_5, wf3_6, wf3_7, wf3_8, wf3_9, wf3_10, wf3_11, wf3_12, wf3_13, wf3_14, wf3_15, wf3_16, wf3_17, wf3_18, wf3_19, wf3_20, wf3_21, wf3_22, wf3_23, wf3_24, wf3_25, wf3_26, wf3_27, wf3_28, wf3_29, wf3_30, wf3_31, wf3_32, wf3_33, wf3_34, wf3_35, wf3_36, wf3_37, wf3_38, wf3_39, wf3_40, wf3_41, wf3_42, wf3_43, wf3_44, wf3_45, wf3_46, wf3_47, wf3_48, wf3_49, wf3_50, wf3_51, wf3_52, wf3_53, wf3_54, wf3_55, wf3_56, wf3_57, wf3_58, wf3_59, wf3_60, wf3_61, wf3_62, wf3_63, wf3_64, wf3_65, wf3_66, wf3_67, wf3_68, wf3_69, wf3_70, kx_ai, kx_al, kx_ar, wx_cond, wx_a1, wx_ac, wx_call, wm_pi, wm_pl, wb_and, wb_or, wb_not, ws_seq, ws_i, ws_l, ws_inc, ks_fi, ws_fl, ws_ofi, ws_ofl, ks_ai, ks_az, ks_al, ks_oai, ks_oal, wk_in, wk_in0, wz_0, wz_1, wz_b, wf0_0, wf0_2, ws_call, ws_if, ws_ife, ws_ret, ws_skip, ws_retv, ws_thr, wo_iadd, wo_isub, wo_imul, wo_iand, wo_ior, wo_ixor, wo_ishl, wo_ishr, wo_iushr, wo_ladd, wo_lsub, wo_land, wo_lor, wo_lxor, wo_lshl, wo_lushr, wo_i2l, wo_l2i, List.getElem?_cons_zero, List.getElem?_cons_succ, List.length_cons, List.length_nil, wm_st, wm_st2, List.set_cons_zero, List.set_cons_succ, hF, hA, hR, ev_cl, ev_cl0, ev_lt, ev_ge, ev_gt, ev_le, ev_eqn, ev_nen, ev_ltc, ev_gec, ev_gtc, ev_lec, ev_eqc, ev_nec, ev_pair, ev_pairL, ev_b0, ev_b1, Bool.not_not, ev_sw,  cond_true, cond_false, nI_1, Nat.zero_add, Nat.reduceAdd, Nat.reduceLT, if_true, ite_true, if_false, ite_false, reduceIte, wm_up_same, wm_up_qne, wm_up_kne, a1, a3, ws_pick, Int.reduceAdd, Int.reduceEq, ev_t0, ev_u0, ev_t1, ev_u1, ev_t2, ev_u2, ev_t3, ev_u3, ev_t4, ev_u4, ev_t5, ev_u5, ev_t6, ev_u6, ev_t7, ev_u7, ev_t8, ev_u8, ev_t9, ev_u9, ev_t10, ev_u10, ev_t11, ev_u11, ev_t12, ev_u12, ev_t13, ev_u13, ev_t14, ev_u14, ev_t15, ev_u15] <;> rfl) ⟨rfl, rfl, _, rfl, fun r hr => ?_⟩
    obtain ⟨sb1, hb1, eb1⟩ := hb (by omega) (by omega)
    refine gB_eq ?_
    rw [hgu, eb1, sb sb1 hb1 r hr]
    exact ⟨fun z => Or.inr (Or.inl ⟨by omega, by omega, z⟩), fun z => by
      rcases z with ⟨z, _⟩ | ⟨_, _, z⟩ | ⟨z, _⟩
      · omega
      · exact z
      · omega⟩
  | 2, _ => exact wq_rets (by simp (disch := first | omega | decide) only [wx_bind, wx_i, wx_l, wx_r, wx_c, wx_bin, wx_un, wx_div, wx_rem, kx_fi, wx_fl, kx_fr, wf3_4, wf3_5, wf3_6, wf3_7, wf3_8, wf3_9, wf3_10, wf3_11, wf3_12, wf3_13, wf3_14, wf3_15, wf3_16, wf3_17, wf3_18, wf3_19, wf3_20, wf3_21, wf3_22, wf3_23, wf3_24, wf3_25, wf3_26, wf3_27, wf3_28, wf3_29, wf3_30, wf3_31, wf3_32, wf3_33, wf3_34, wf3_35, wf3_36, wf3_37, wf3_38, wf3_39, wf3_40, wf3_41, wf3_42, wf3_43, wf3_44, wf3_45, wf3_46, wf3_47, wf3_48, wf3_49, wf3_50, wf3_51, wf3_52, wf3_53, wf3_54, wf3_55, wf3_56, wf3_57, wf3_58, wf3_59, wf3_60, wf3_61, wf3_62, wf3_63, wf3_64, wf3_65, wf3_66, wf3_67, wf3_68, wf3_69, wf3_70, kx_ai, kx_al, kx_ar, wx_cond, wx_a1, wx_ac, wx_call, wm_pi, wm_pl, wb_and, wb_or, wb_not, ws_seq, ws_i, ws_l, ws_inc, ks_fi, ws_fl, ws_ofi, ws_ofl, ks_ai, ks_az, ks_al, ks_oai, ks_oal, wk_in, wk_in0, wz_0, wz_1, wz_b, wf0_0, wf0_2, ws_call, ws_if, ws_ife, ws_ret, ws_skip, ws_retv, ws_thr, wo_iadd, wo_isub, wo_imul, wo_iand, wo_ior, wo_ixor, wo_ishl, wo_ishr, wo_iushr, wo_ladd, wo_lsub, wo_land, wo_lor, wo_lxor, wo_lshl, wo_lushr, wo_i2l, wo_l2i, List.getElem?_cons_zero, List.getElem?_cons_succ, List.length_cons, List.length_nil, wm_st, wm_st2, List.set_cons_zero, List.set_cons_succ, hF, hA, hR, ev_cl, ev_cl0, ev_lt, ev_ge, ev_gt, ev_le, ev_eqn, ev_nen, ev_ltc, ev_gec, ev_gtc, ev_lec, ev_eqc, ev_nec, ev_pair, ev_pairL, ev_b0, ev_b1, Bool.not_not, ev_sw,  cond_true, cond_false, nI_1, Nat.zero_add, Nat.reduceAdd, Nat.reduceLT, if_true, ite_true, if_false, ite_false, reduceIte, wm_up_same, wm_up_qne, wm_up_kne, a1, a3, a4, ws_pick, Int.reduceAdd, Int.reduceEq, ev_t0, ev_u0, ev_t1, ev_u1, ev_t2, ev_u2, ev_t3, ev_u3, ev_t4, ev_u4, ev_t5, ev_u5, ev_t6, ev_u6, ev_t7, ev_u7, ev_t8, ev_u8, ev_t9, ev_u9, ev_t10, ev_u10, ev_t11, ev_u11, ev_t12, ev_u12, ev_t13, ev_u13, ev_t14, ev_u14, ev_t15, ev_u15] <;> rfl) ⟨rfl, rfl, _, rfl, h2 (by omega) (by omega)⟩
  | 3, _ => exact wq_rets (by simp (disch := first | omega | decide) only [wx_bind, wx_i, wx_l, wx_r, wx_c, wx_bin, wx_un, wx_div, wx_rem, kx_fi, wx_fl, kx_fr, wf3_4, wf3_5, wf3_6, wf3_7, wf3_8, wf3_9, wf3_10, wf3_11, wf3_12, wf3_13, wf3_14, wf3_15, wf3_16, wf3_17, wf3_18, wf3_19, wf3_20, wf3_21, wf3_22, wf3_23, wf3_24, wf3_25, wf3_26, wf3_27, wf3_28, wf3_29, wf3_30, wf3_31, wf3_32, wf3_33, wf3_34, wf3_35, wf3_36, wf3_37, wf3_38, wf3_39, wf3_40, wf3_41, wf3_42, wf3_43, wf3_44, wf3_45, wf3_46, wf3_47, wf3_48, wf3_49, wf3_50, wf3_51, wf3_52, wf3_53, wf3_54, wf3_55, wf3_56, wf3_57, wf3_58, wf3_59, wf3_60, wf3_61, wf3_62, wf3_63, wf3_64, wf3_65, wf3_66, wf3_67, wf3_68, wf3_69, wf3_70, kx_ai, kx_al, kx_ar, wx_cond, wx_a1, wx_ac, wx_call, wm_pi, wm_pl, wb_and, wb_or, wb_not, ws_seq, ws_i, ws_l, ws_inc, ks_fi, ws_fl, ws_ofi, ws_ofl, ks_ai, ks_az, ks_al, ks_oai, ks_oal, wk_in, wk_in0, wz_0, wz_1, wz_b, wf0_0, wf0_2, ws_call, ws_if, ws_ife, ws_ret, ws_skip, ws_retv, ws_thr, wo_iadd, wo_isub, wo_imul, wo_iand, wo_ior, wo_ixor, wo_ishl, wo_ishr, wo_iushr, wo_ladd, wo_lsub, wo_land, wo_lor, wo_lxor, wo_lshl, wo_lushr, wo_i2l, wo_l2i, List.getElem?_cons_zero, List.getElem?_cons_succ, List.length_cons, List.length_nil, wm_st, wm_st2, List.set_cons_zero, List.set_cons_succ, hF, hA, hR, ev_cl, ev_cl0, ev_lt, ev_ge, ev_gt, ev_le, ev_eqn, ev_nen, ev_ltc, ev_gec, ev_gtc, ev_lec, ev_eqc, ev_nec, ev_pair, ev_pairL, ev_b0, ev_b1, Bool.not_not, ev_sw,  cond_true, cond_false, nI_1, Nat.zero_add, Nat.reduceAdd, Nat.reduceLT, if_true, ite_true, if_false, ite_false, reduceIte, wm_up_same, wm_up_qne, wm_up_kne, a1, a3, a4, ws_pick, Int.reduceAdd, Int.reduceEq, ev_t0, ev_u0, ev_t1, ev_u1, ev_t2, ev_u2, ev_t3, ev_u3, ev_t4, ev_u4, ev_t5, ev_u5, ev_t6, ev_u6, ev_t7, ev_u7, ev_t8, ev_u8, ev_t9, ev_u9, ev_t10, ev_u10, ev_t11, ev_u11, ev_t12, ev_u12, ev_t13, ev_u13, ev_t14, ev_u14, ev_t15, ev_u15] <;> rfl) ⟨rfl, rfl, _, rfl, h2 (by omega) (by omega)⟩
  | 4, _ => exact wq_rets (by simp (disch := first | omega | decide) only [wx_bind, wx_i, wx_l, wx_r, wx_c, wx_bin, wx_un, wx_div, wx_rem, kx_fi, wx_fl, kx_fr, wf3_4, wf3_5, wf3_6, wf3_7, wf3_8, wf3_9, wf3_10, wf3_11, wf3_12, wf3_13, wf3_14, wf3_15, wf3_16, wf3_17, wf3_18, wf3_19, wf3_20, wf3_21, wf3_22, wf3_23, wf3_24, wf3_25, wf3_26, wf3_27, wf3_28, wf3_29, wf3_30, wf3_31, wf3_32, wf3_33, wf3_34, wf3_35, wf3_36, wf3_37, wf3_38, wf3_39, wf3_40, wf3_41, wf3_42, wf3_43, wf3_44, wf3_45, wf3_46, wf3_47, wf3_48, wf3_49, wf3_50, wf3_51, wf3_52, wf3_53, wf3_54, wf3_55, wf3_56, wf3_57, wf3_58, wf3_59, wf3_60, wf3_61, wf3_62, wf3_63, wf3_64, wf3_65, wf3_66, wf3_67, wf3_68, wf3_69, wf3_70, kx_ai, kx_al, kx_ar, wx_cond, wx_a1, wx_ac, wx_call, wm_pi, wm_pl, wb_and, wb_or, wb_not, ws_seq, ws_i, ws_l, ws_inc, ks_fi, ws_fl, ws_ofi, ws_ofl, ks_ai, ks_az, ks_al, ks_oai, ks_oal, wk_in, wk_in0, wz_0, wz_1, wz_b, wf0_0, wf0_2, ws_call, ws_if, ws_ife, ws_ret, ws_skip, ws_retv, ws_thr, wo_iadd, wo_isub, wo_imul, wo_iand, wo_ior, wo_ixor, wo_ishl, wo_ishr, wo_iushr, wo_ladd, wo_lsub, wo_land, wo_lor, wo_lxor, wo_lshl, wo_lushr, wo_i2l, wo_l2i, List.getElem?_cons_zero, List.getElem?_cons_succ, List.length_cons, List.length_nil, wm_st, wm_st2, List.set_cons_zero, List.set_cons_succ, hF, hA, hR, ev_cl, ev_cl0, ev_lt, ev_ge, ev_gt, ev_le, ev_eqn, ev_nen, ev_ltc, ev_gec, ev_gtc, ev_lec, ev_eqc, ev_nec, ev_pair, ev_pairL, ev_b0, ev_b1, Bool.not_not, ev_sw,  cond_true, cond_false, nI_1, Nat.zero_add, Nat.reduceAdd, Nat.reduceLT, if_true, ite_true, if_false, ite_false, reduceIte, wm_up_same, wm_up_qne, wm_up_kne, a1, a3, a4, ws_pick, Int.reduceAdd, Int.reduceEq, ev_t0, ev_u0, ev_t1, ev_u1, ev_t2, ev_u2, ev_t3, ev_u3, ev_t4, ev_u4, ev_t5, ev_u5, ev_t6, ev_u6, ev_t7, ev_u7, ev_t8, ev_u8, ev_t9, ev_u9, ev_t10, ev_u10, ev_t11, ev_u11, ev_t12, ev_u12, ev_t13, ev_u13, ev_t14, ev_u14, ev_t15, ev_u15] <;> rfl) ⟨rfl, rfl, _, rfl, h2 (by omega) (by omega)⟩
  | 5, _ => exact wq_rets (by simp (disch := first | omega | decide) only [wx_bind, wx_i, wx_l, wx_r, wx_c, wx_bin, wx_un, wx_div, wx_rem, kx_fi, wx_fl, kx_fr, wf3_4, wf3_5, wf3_6, wf3_7, wf3_8, wf3_9, wf3_10, wf3_11, wf3_12, wf3_13, wf3_14, wf3_15, wf3_16, wf3_17, wf3_18, wf3_19, wf3_20, wf3_21, wf3_22, wf3_23, wf3_24, wf3_25, wf3_26, wf3_27, wf3_28, wf3_29, wf3_30, wf3_31, wf3_32, wf3_33, wf3_34, wf3_35, wf3_36, wf3_37, wf3_38, wf3_39, wf3_40, wf3_41, wf3_42, wf3_43, wf3_44, wf3_45, wf3_46, wf3_47, wf3_48, wf3_49, wf3_50, wf3_51, wf3_52, wf3_53, wf3_54, wf3_55, wf3_56, wf3_57, wf3_58, wf3_59, wf3_60, wf3_61, wf3_62, wf3_63, wf3_64, wf3_65, wf3_66, wf3_67, wf3_68, wf3_69, wf3_70, kx_ai, kx_al, kx_ar, wx_cond, wx_a1, wx_ac, wx_call, wm_pi, wm_pl, wb_and, wb_or, wb_not, ws_seq, ws_i, ws_l, ws_inc, ks_fi, ws_fl, ws_ofi, ws_ofl, ks_ai, ks_az, ks_al, ks_oai, ks_oal, wk_in, wk_in0, wz_0, wz_1, wz_b, wf0_0, wf0_2, ws_call, ws_if, ws_ife, ws_ret, ws_skip, ws_retv, ws_thr, wo_iadd, wo_isub, wo_imul, wo_iand, wo_ior, wo_ixor, wo_ishl, wo_ishr, wo_iushr, wo_ladd, wo_lsub, wo_land, wo_lor, wo_lxor, wo_lshl, wo_lushr, wo_i2l, wo_l2i, List.getElem?_cons_zero, List.getElem?_cons_succ, List.length_cons, List.length_nil, wm_st, wm_st2, List.set_cons_zero, List.set_cons_succ, hF, hA, hR, ev_cl, ev_cl0, ev_lt, ev_ge, ev_gt, ev_le, ev_eqn, ev_nen, ev_ltc, ev_gec, ev_gtc, ev_lec, ev_eqc, ev_nec, ev_pair, ev_pairL, ev_b0, ev_b1, Bool.not_not, ev_sw,  cond_true, cond_false, nI_1, Nat.zero_add, Nat.reduceAdd, Nat.reduceLT, if_true, ite_true, if_false, ite_false, reduceIte, wm_up_same, wm_up_qne, wm_up_kne, a1, a3, a4, ws_pick, Int.reduceAdd, Int.reduceEq, ev_t0, ev_u0, ev_t1, ev_u1, ev_t2, ev_u2, ev_t3, ev_u3, ev_t4, ev_u4, ev_t5, ev_u5, ev_t6, ev_u6, ev_t7, ev_u7, ev_t8, ev_u8, ev_t9, ev_u9, ev_t10, ev_u10, ev_t11, ev_u11, ev_t12, ev_u12, ev_t13, ev_u13, ev_t14, ev_u14, ev_t15, ev_u15] <;> rfl) ⟨rfl, rfl, _, rfl, h2 (by omega) (by omega)⟩
  | 6, _ => exact wq_rets (by simp (disch := first | omega | decide) only [wx_bind, wx_i, wx_l, wx_r, wx_c, wx_bin, wx_un, wx_div, wx_rem, kx_fi, wx_fl, kx_fr, wf3_4, wf3_5, wf3_6, wf3_7, wf3_8, wf3_9, wf3_10, wf3_11, wf3_12, wf3_13, wf3_14, wf3_15, wf3_16, wf3_17, wf3_18, wf3_19, wf3_20, wf3_21, wf3_22, wf3_23, wf3_24, wf3_25, wf3_26, wf3_27, wf3_28, wf3_29, wf3_30, wf3_31, wf3_32, wf3_33, wf3_34, wf3_35, wf3_36, wf3_37, wf3_38, wf3_39, wf3_40, wf3_41, wf3_42, wf3_43, wf3_44, wf3_45, wf3_46, wf3_47, wf3_48, wf3_49, wf3_50, wf3_51, wf3_52, wf3_53, wf3_54, wf3_55, wf3_56, wf3_57, wf3_58, wf3_59, wf3_60, wf3_61, wf3_62, wf3_63, wf3_64, wf3_65, wf3_66, wf3_67, wf3_68, wf3_69, wf3_70, kx_ai, kx_al, kx_ar, wx_cond, wx_a1, wx_ac, wx_call, wm_pi, wm_pl, wb_and, wb_or, wb_not, ws_seq, ws_i, ws_l, ws_inc, ks_fi, ws_fl, ws_ofi, ws_ofl, ks_ai, ks_az, ks_al, ks_oai, ks_oal, wk_in, wk_in0, wz_0, wz_1, wz_b, wf0_0, wf0_2, ws_call, ws_if, ws_ife, ws_ret, ws_skip, ws_retv, ws_thr, wo_iadd, wo_isub, wo_imul, wo_iand, wo_ior, wo_ixor, wo_ishl, wo_ishr, wo_iushr, wo_ladd, wo_lsub, wo_land, wo_lor, wo_lxor, wo_lshl, wo_lushr, wo_i2l, wo_l2i, List.getElem?_cons_zero, List.getElem?_cons_succ, List.length_cons, List.length_nil, wm_st, wm_st2, List.set_cons_zero, List.set_cons_succ, hF, hA, hR, ev_cl, ev_cl0, ev_lt, ev_ge, ev_gt, ev_le, ev_eqn, ev_nen, ev_ltc, ev_gec, ev_gtc, ev_lec, ev_eqc, ev_nec, ev_pair, ev_pairL, ev_b0, ev_b1, Bool.not_not, ev_sw,  cond_true, cond_false, nI_1, Nat.zero_add, Nat.reduceAdd, Nat.reduceLT, if_true, ite_true, if_false, ite_false, reduceIte, wm_up_same, wm_up_qne, wm_up_kne, a1, ws_pick, Int.reduceAdd, Int.reduceEq, ev_t0, ev_u0, ev_t1, ev_u1, ev_t2, ev_u2, ev_t3, ev_u3, ev_t4, ev_u4, ev_t5, ev_u5, ev_t6, ev_u6, ev_t7, ev_u7, ev_t8, ev_u8, ev_t9, ev_u9, ev_t10, ev_u10, ev_t11, ev_u11, ev_t12, ev_u12, ev_t13, ev_u13, ev_t14, ev_u14, ev_t15, ev_u15] <;> rfl) ⟨rfl, rfl, _, rfl, hz (Or.inr rfl)⟩
  | 7, _ =>
    refine wq_rets (by simp (disch := first | omega | decide) only [wx_bind, wx_i, wx_l, wx_r, wx_c, wx_bin, wx_un, wx_div, wx_rem, kx_fi, wx_fl, kx_fr, wf3_4, wf3_5, wf3_6, wf3_7, wf3_8, wf3_9, wf3_10, wf3_11, wf3_12, wf3_13, wf3_14, wf3_15, wf3_16, wf3_17, wf3_18, wf3_19, wf3_20, wf3_21, wf3_22, wf3_23, wf3_24, wf3_25, wf3_26, wf3_27, wf3_28, wf3_29, wf3_30, wf3_31, wf3_32, wf3_33, wf3_34, wf3_35, wf3_36, wf3_37, wf3_38, wf3_39, wf3_40, wf3_41, wf3_42, wf3_43, wf3_44, wf3_45, wf3_46, wf3_47, wf3_48, wf3_49, wf3_50, wf3_51, wf3_52, wf3_53, wf3_54, wf3_55, wf3_56, wf3_57, wf3_58, wf3_59, wf3_60, wf3_61, wf3_62, wf3_63, wf3_64, wf3_65, wf3_66, wf3_67, wf3_68, wf3_69, wf3_70, kx_ai, kx_al, kx_ar, wx_cond, wx_a1, wx_ac, wx_call, wm_pi, wm_pl, wb_and, wb_or, wb_not, ws_seq, ws_i, ws_l, ws_inc, ks_fi, ws_fl, ws_ofi, ws_ofl, ks_ai, ks_az, ks_al, ks_oai, ks_oal, wk_in, wk_in0, wz_0, wz_1, wz_b, wf0_0, wf0_2, ws_call, ws_if, ws_ife, ws_ret, ws_skip, ws_retv, ws_thr, wo_iadd, wo_isub, wo_imul, wo_iand, wo_ior, wo_ixor, wo_ishl, wo_ishr, wo_iushr, wo_ladd, wo_lsub, wo_land, wo_lor, wo_lxor, wo_lshl, wo_lushr, wo_i2l, wo_l2i, List.getElem?_cons_zero, List.getElem?_cons_succ, List.length_cons, List.length_nil, wm_st, wm_st2, List.set_cons_zero, List.set_cons_succ, hF, hA, hR, ev_cl, ev_cl0, ev_lt, ev_ge, ev_gt, ev_le, ev_eqn, ev_nen, ev_ltc, ev_gec, ev_gtc, ev_lec, ev_eqc, ev_nec, ev_pair, ev_pairL, ev_b0, ev_b1, Bool.not_not, ev_sw,  cond_true, cond_false, nI_1, Nat.zero_add, Nat.reduceAdd, Nat.reduceLT, if_true, ite_true, if_false, ite_false, reduceIte, wm_up_same, wm_up_qne, wm_up_kne, a1, a2, ws_pick, Int.reduceAdd, Int.reduceEq, ev_t0, ev_u0, ev_t1, ev_u1, ev_t2, ev_u2, ev_t3, ev_u3, ev_t4, ev_u4, ev_t5, ev_u5, ev_t6, ev_u6, ev_t7, ev_u7, ev_t8, ev_u8, ev_t9, ev_u9, ev_t10, ev_u10, ev_t11, ev_u11, ev_t12, ev_u12, ev_t13, ev_u13, ev_t14, ev_u14, ev_t15, ev_u15] <;> rfl) ⟨rfl, rfl, _, rfl, fun r hr => ?_⟩
    refine gB_eq ?_
    rw [hgu, ea, sb ra hra r hr]
    exact ⟨fun z => Or.inl ⟨rfl, z⟩, fun z => by
      rcases z with ⟨_, z⟩ | ⟨_, z, _⟩ | ⟨_, z, _⟩
      · exact z
      · omega
      · omega⟩
theorem e_E_usedRegs (hw : pg_wf P) (h : pg_C P S) {x : Nat} (hx : x < P.1.1) : ∃ w, f_E_usedRegisters [.ref 9, .int (nI x)] S = some (some (.int w), S) ∧ ∀ r, r < 8 → bt w r = gB (gue P x r) := by
  have hn := hw.1
  refine ⟨_, e_E_usedRegisters (by omega), fun r hr => ?_⟩
  obtain ⟨a1, a2, -⟩ := h.2.2.1 x hx
  obtain ⟨s, hs, es⟩ := (hw.2.2.1 x hx).1
  refine gB_eq ?_
  unfold gue
  rw [a1, a2, es]
  cases e : wr_eq (P.2 0 x) 1 with
  | true =>
    rw [cond_true, b_0]
    exact ⟨fun z => (nomatch z), fun z => absurd (i32_eq.mp e) z.1⟩
  | false =>
    rw [cond_false, b_one s (by omega) r (by omega), decide_eq_true_eq, nI_eq (by omega) (by omega)]
    refine ⟨fun z => ⟨fun q => ?_, z⟩, fun z => z.2⟩
    rw [i32_eq.mpr q] at e
    exact absurd e (by decide)
/-- the setters -/
def us_ok (P : PG) (T : Nat → Nat → Int64) : Prop := ∀ r, r < 8 → ∀ i, i < 64 → bl (T 21 r) i = gB (i < P.1.2 ∧ gsb P i = nI r)
theorem e_U_findSetters (hw : pg_wf P) (h : pg_C P S) : wq (f_U_findSetters [.ref 20, .ref 1] S) (fun z => z.1 = none ∧ z.2.1 = S.1 ∧ us_ok P z.2.2 ∧ ∀ q k, q ≠ 21 → z.2.2 q k = S.2 q k) := by
  refine wq_fn rfl rfl rfl ?_
  show wq (t_U_findSetters [.ref 20, .ref 1, .retAddr 0, .retAddr 0] S) _
  unfold t_U_findSetters
  obtain ⟨L, N, M1, M2, hL, hN0, hF, hA, hR, hN, hM1, hM2⟩ := w_ex; (try simp only [hL, hN0])
  have hm := hw.2.1
  have h1 := h.2.1
  refine wq_assoc (wq_step (by simp (disch := first | omega | decide) only [wx_bind, wx_i, wx_l, wx_r, wx_c, wx_bin, wx_un, wx_div, wx_rem, kx_fi, wx_fl, kx_fr, wf3_4, wf3_5, wf3_6, wf3_7, wf3_8, wf3_9, wf3_10, wf3_11, wf3_12, wf3_13, wf3_14, wf3_15, wf3_16, wf3_17, wf3_18, wf3_19, wf3_20, wf3_21, wf3_22, wf3_23, wf3_24, wf3_25, wf3_26, wf3_27, wf3_28, wf3_29, wf3_30, wf3_31, wf3_32, wf3_33, wf3_34, wf3_35, wf3_36, wf3_37, wf3_38, wf3_39, wf3_40, wf3_41, wf3_42, wf3_43, wf3_44, wf3_45, wf3_46, wf3_47, wf3_48, wf3_49, wf3_50, wf3_51, wf3_52, wf3_53, wf3_54, wf3_55, wf3_56, wf3_57, wf3_58, wf3_59, wf3_60, wf3_61, wf3_62, wf3_63, wf3_64, wf3_65, wf3_66, wf3_67, wf3_68, wf3_69, wf3_70, kx_ai, kx_al, kx_ar, wx_cond, wx_a1, wx_ac, wx_call, wm_pi, wm_pl, wb_and, wb_or, wb_not, ws_seq, ws_i, ws_l, ws_inc, ks_fi, ws_fl, ws_ofi, ws_ofl, ks_ai, ks_az, ks_al, ks_oai, ks_oal, wk_in, wk_in0, wz_0, wz_1, wz_b, wf0_0, wf0_2, ws_call, ws_if, ws_ife, ws_ret, ws_skip, ws_retv, ws_thr, wo_iadd, wo_isub, wo_imul, wo_iand, wo_ior, wo_ixor, wo_ishl, wo_ishr, wo_iushr, wo_ladd, wo_lsub, wo_land, wo_lor, wo_lxor, wo_lshl, wo_lushr, wo_i2l, wo_l2i, List.getElem?_cons_zero, List.getElem?_cons_succ, List.length_cons, List.length_nil, wm_st, wm_st2, List.set_cons_zero, List.set_cons_succ, hF, hA, hR, ev_cl, ev_cl0, ev_lt, ev_ge, ev_gt, ev_le, ev_eqn, ev_nen, ev_ltc, ev_gec, ev_gtc, ev_lec, ev_eqc, ev_nec, ev_pair, ev_pairL, ev_b0, ev_b1, Bool.not_not, ev_sw,  cond_true, cond_false, nI_1, Nat.zero_add, Nat.reduceAdd, Nat.reduceLT, if_true, ite_true, if_false, ite_false, reduceIte, wm_up_same, wm_up_qne, wm_up_kne] <;> rfl) ?_)
  refine wq_seq.mpr (wq_for 8 (fun k (_ : Nat → Nat → Int64) => [.ref 20, .ref 1, .int (nI k), .retAddr 0]) (fun _ T => (S.1, T)) (fun k T => (∀ r, r < k → T 21 r = 0) ∧ ∀ q k, q ≠ 21 → T q k = S.2 q k) ?_ ?_ ?_ (by omega) S.2 rfl rfl ⟨fun r hr => absurd hr (Nat.not_lt_zero _), fun _ _ _ => rfl⟩)
  · intro k s hk _
    simp (disch := first | omega | decide) only [wx_bind, wx_i, wx_l, wx_r, wx_c, wx_bin, wx_un, wx_div, wx_rem, kx_fi, wx_fl, kx_fr, wf3_4, wf3_5, wf3_6, wf3_7, wf3_8, wf3_9, wf3_10, wf3_11, wf3_12, wf3_13, wf3_14, wf3_15, wf3_16, wf3_17, wf3_18, wf3_19, wf3_20, wf3_21, wf3_22, wf3_23, wf3_24, wf3_25, wf3_26, wf3_27, wf3_28, wf3_29, wf3_30, wf3_31, wf3_32, wf3_33, wf3_34, wf3_35, wf3_36, wf3_37, wf3_38, wf3_39, wf3_40, wf3_41, wf3_42, wf3_43, wf3_44, wf3_45, wf3_46, wf3_47, wf3_48, wf3_49, wf3_50, wf3_51, wf3_52, wf3_53, wf3_54, wf3_55, wf3_56, wf3_57, wf3_58, wf3_59, wf3_60, wf3_61, wf3_62, wf3_63, wf3_64, wf3_65, wf3_66, wf3_67, wf3_68, wf3_69, wf3_70, kx_ai, kx_al, kx_ar, wx_cond, wx_a1, wx_ac, wx_call, wm_pi, wm_pl, wb_and, wb_or, wb_not, ws_seq, ws_i, ws_l, ws_inc, ks_fi, ws_fl, ws_ofi, ws_ofl, ks_ai, ks_az, ks_al, ks_oai, ks_oal, wk_in, wk_in0, wz_0, wz_1, wz_b, wf0_0, wf0_2, ws_call, ws_if, ws_ife, ws_ret, ws_skip, ws_retv, ws_thr, wo_iadd, wo_isub, wo_imul, wo_iand, wo_ior, wo_ixor, wo_ishl, wo_ishr, wo_iushr, wo_ladd, wo_lsub, wo_land, wo_lor, wo_lxor, wo_lshl, wo_lushr, wo_i2l, wo_l2i, List.getElem?_cons_zero, List.getElem?_cons_succ, List.length_cons, List.length_nil, wm_st, wm_st2, List.set_cons_zero, List.set_cons_succ, hF, hA, hR, ev_cl, ev_cl0, ev_lt, ev_ge, ev_gt, ev_le, ev_eqn, ev_nen, ev_ltc, ev_gec, ev_gtc, ev_lec, ev_eqc, ev_nec, ev_pair, ev_pairL, ev_b0, ev_b1, Bool.not_not, ev_sw,  cond_true, cond_false, nI_1, Nat.zero_add, Nat.reduceAdd, Nat.reduceLT, if_true, ite_true, if_false, ite_false, reduceIte, wm_up_same, wm_up_qne, wm_up_kne]
  · rintro k T hk ⟨a1, a2⟩
    refine ⟨.inl ([.ref 20, .ref 1, .int (nI (k + 1)), .retAddr 0], (S.1, wm_up T 21 k 0)), by simp (disch := first | omega | decide) only [wx_bind, wx_i, wx_l, wx_r, wx_c, wx_bin, wx_un, wx_div, wx_rem, kx_fi, wx_fl, kx_fr, wf3_4, wf3_5, wf3_6, wf3_7, wf3_8, wf3_9, wf3_10, wf3_11, wf3_12, wf3_13, wf3_14, wf3_15, wf3_16, wf3_17, wf3_18, wf3_19, wf3_20, wf3_21, wf3_22, wf3_23, wf3_24, wf3_25, wf3_26, wf3_27, wf3_28, wf3_29, wf3_30, wf3_31, wf3_32, wf3_33, wf3_34, wf3_35, wf3_36, wf3_37, wf3_38, wf3_39, wf3_40, wf3_41, wf3_42, wf3_43, wf3_44, wf3_45, wf3_46, wf3_47, wf3_48, wf3_49, wf3_50, wf3_51, wf3_52, wf3_53, wf3_54, wf3_55, wf3_56, wf3_57, wf3_58, wf3_59, wf3_60, wf3_61, wf3_62, wf3_63, wf3_64, wf3_65, wf3_66, wf3_67, wf3_68, wf3_69, wf3_70, kx_ai, kx_al, kx_ar, wx_cond, wx_a1, wx_ac, wx_call, wm_pi, wm_pl, wb_and, wb_or, wb_not, ws_seq, ws_i, ws_l, ws_inc, ks_fi, ws_fl, ws_ofi, ws_ofl, ks_ai, ks_az, ks_al, ks_oai, ks_oal, wk_in, wk_in0, wz_0, wz_1, wz_b, wf0_0, wf0_2, ws_call, ws_if, ws_ife, ws_ret, ws_skip, ws_retv, ws_thr, wo_iadd, wo_isub, wo_imul, wo_iand, wo_ior, wo_ixor, wo_ishl, wo_ishr, wo_iushr, wo_ladd, wo_lsub, wo_land, wo_lor, wo_lxor, wo_lshl, wo_lushr, wo_i2l, wo_l2i, List.getElem?_cons_zero, List.getElem?_cons_succ, List.length_cons, List.length_nil, wm_st, wm_st2, List.set_cons_zero, List.set_cons_succ, hF, hA, hR, ev_cl, ev_cl0, ev_lt, ev_ge, ev_gt, ev_le, ev_eqn, ev_nen, ev_ltc, ev_gec, ev_gtc, ev_lec, ev_eqc, ev_nec, ev_pair, ev_pairL, ev_b0, ev_b1, Bool.not_not, ev_sw,  cond_true, cond_false, nI_1, Nat.zero_add, Nat.reduceAdd, Nat.reduceLT, if_true, ite_true, if_false, ite_false, reduceIte, wm_up_same, wm_up_qne, wm_up_kne] <;> rfl, _, rfl, fun r hr => ?_, fun q j hq => by rw [wm_up_qne hq]; exact a2 q j hq⟩
    by_cases e : r = k
    · subst e; exact wm_up_same
    · rw [wm_up_kne e]; exact a1 r (by omega)
  · rintro T0 ⟨a1, a2⟩
    refine wq_assoc (wq_step (by simp (disch := first | omega | decide) only [wx_bind, wx_i, wx_l, wx_r, wx_c, wx_bin, wx_un, wx_div, wx_rem, kx_fi, wx_fl, kx_fr, wf3_4, wf3_5, wf3_6, wf3_7, wf3_8, wf3_9, wf3_10, wf3_11, wf3_12, wf3_13, wf3_14, wf3_15, wf3_16, wf3_17, wf3_18, wf3_19, wf3_20, wf3_21, wf3_22, wf3_23, wf3_24, wf3_25, wf3_26, wf3_27, wf3_28, wf3_29, wf3_30, wf3_31, wf3_32, wf3_33, wf3_34, wf3_35, wf3_36, wf3_37, wf3_38, wf3_39, wf3_40, wf3_41, wf3_42, wf3_43, wf3_44, wf3_45, wf3_46, wf3_47, wf3_48, wf3_49, wf3_50, wf3_51, wf3_52, wf3_53, wf3_54, wf3_55, wf3_56, wf3_57, wf3_58, wf3_59, wf3_60, wf3_61, wf3_62, wf3_63, wf3_64, wf3_65, wf3_66, wf3_67, wf3_68, wf3_69, wf3_70, kx_ai, kx_al, kx_ar, wx_cond, wx_a1, wx_ac, wx_call, wm_pi, wm_pl, wb_and, wb_or, wb_not, ws_seq, ws_i, ws_l, ws_inc, ks_fi, ws_fl, ws_ofi, ws_ofl, ks_ai, ks_az, ks_al, ks_oai, ks_oal, wk_in, wk_in0, wz_0, wz_1, wz_b, wf0_0, wf0_2, ws_call, ws_if, ws_ife, ws_ret, ws_skip, ws_retv, ws_thr, wo_iadd, wo_isub, wo_imul, wo_iand, wo_ior, wo_ixor, wo_ishl, wo_ishr, wo_iushr, wo_ladd, wo_lsub, wo_land, wo_lor, wo_lxor, wo_lshl, wo_lushr, wo_i2l, wo_l2i, List.getElem?_cons_zero, List.getElem?_cons_succ, List.length_cons, List.length_nil, wm_st, wm_st2, List.set_cons_zero, List.set_cons_succ, hF, hA, hR, ev_cl, ev_cl0, ev_lt, ev_ge, ev_gt, ev_le, ev_eqn, ev_nen, ev_ltc, ev_gec, ev_gtc, ev_lec, ev_eqc, ev_nec, ev_pair, ev_pairL, ev_b0, ev_b1, Bool.not_not, ev_sw,  cond_true, cond_false, nI_1, Nat.zero_add, Nat.reduceAdd, Nat.reduceLT, if_true, ite_true, if_false, ite_false, reduceIte, wm_up_same, wm_up_qne, wm_up_kne] <;> rfl) ?_)
    refine wq_seq.mpr (wq_for P.1.2 (fun k (s : (Nat → Nat → Int64) × Value) => [.ref 20, .ref 1, .int (nI k), s.2]) (fun _ s => (S.1, s.1)) (fun k s => (∀ r, r < 8 → ∀ i, i < 64 → bl (s.1 21 r) i = gB (i < k ∧ gsb P i = nI r)) ∧ ∀ q k, q ≠ 21 → s.1 q k = S.2 q k) ?_ ?_ ?_ (by omega) (T0, .retAddr 0) rfl rfl ⟨fun r hr i hi => by dsimp only; rw [a1 r hr, l_0]; exact gB_eq ⟨fun e => (nomatch e), fun q => absurd q.1 (Nat.not_lt_zero _)⟩, a2⟩)
    · intro k s hk _
      simp (disch := first | omega | decide) only [wx_bind, wx_i, wx_l, wx_r, wx_c, wx_bin, wx_un, wx_div, wx_rem, kx_fi, wx_fl, kx_fr, wf3_4, wf3_5, wf3_6, wf3_7, wf3_8, wf3_9, wf3_10, wf3_11, wf3_12, wf3_13, wf3_14, wf3_15, wf3_16, wf3_17, wf3_18, wf3_19, wf3_20, wf3_21, wf3_22, wf3_23, wf3_24, wf3_25, wf3_26, wf3_27, wf3_28, wf3_29, wf3_30, wf3_31, wf3_32, wf3_33, wf3_34, wf3_35, wf3_36, wf3_37, wf3_38, wf3_39, wf3_40, wf3_41, wf3_42, wf3_43, wf3_44, wf3_45, wf3_46, wf3_47, wf3_48, wf3_49, wf3_50, wf3_51, wf3_52, wf3_53, wf3_54, wf3_55, wf3_56, wf3_57, wf3_58, wf3_59, wf3_60, wf3_61, wf3_62, wf3_63, wf3_64, wf3_65, wf3_66, wf3_67, wf3_68, wf3_69, wf3_70, kx_ai, kx_al, kx_ar, wx_cond, wx_a1, wx_ac, wx_call, wm_pi, wm_pl, wb_and, wb_or, wb_not, ws_seq, ws_i, ws_l, ws_inc, ks_fi, ws_fl, ws_ofi, ws_ofl, ks_ai, ks_az, ks_al, ks_oai, ks_oal, wk_in, wk_in0, wz_0, wz_1, wz_b, wf0_0, wf0_2, ws_call, ws_if, ws_ife, ws_ret, ws_skip, ws_retv, ws_thr, wo_iadd, wo_isub, wo_imul, wo_iand, wo_ior, wo_ixor, wo_ishl, wo_ishr, wo_iushr, wo_ladd, wo_lsub, wo_land, wo_lor, wo_lxor, wo_lshl, wo_lushr, wo_i2l, wo_l2i, List.getElem?_cons_zero, List.getElem?_cons_succ, List.length_cons, List.length_nil, wm_st, wm_st2, List.set_cons_zero, List.set_cons_succ, hF, hA, hR, ev_cl, ev_cl0, ev_lt, ev_ge, ev_gt, ev_le, ev_eqn, ev_nen, ev_ltc, ev_gec, ev_gtc, ev_lec, ev_eqc, ev_nec, ev_pair, ev_pairL, ev_b0, ev_b1, Bool.not_not, ev_sw,  cond_true, cond_false, nI_1, Nat.zero_add, Nat.reduceAdd, Nat.reduceLT, if_true, ite_true, if_false, ite_false, reduceIte, wm_up_same, wm_up_qne, wm_up_kne, h1]
    · rintro k ⟨T, v⟩ hk ⟨b1, b2⟩
      dsimp only at b1 b2 ⊢
      have hC : pg_C P (S.1, T) := h
      refine wq_assoc (wq_step (by simp (disch := first | omega | decide) only [wx_bind, wx_i, wx_l, wx_r, wx_c, wx_bin, wx_un, wx_div, wx_rem, kx_fi, wx_fl, kx_fr, wf3_4, wf3_5, wf3_6, wf3_7, wf3_8, wf3_9, wf3_10, wf3_11, wf3_12, wf3_13, wf3_14, wf3_15, wf3_16, wf3_17, wf3_18, wf3_19, wf3_20, wf3_21, wf3_22, wf3_23, wf3_24, wf3_25, wf3_26, wf3_27, wf3_28, wf3_29, wf3_30, wf3_31, wf3_32, wf3_33, wf3_34, wf3_35, wf3_36, wf3_37, wf3_38, wf3_39, wf3_40, wf3_41, wf3_42, wf3_43, wf3_44, wf3_45, wf3_46, wf3_47, wf3_48, wf3_49, wf3_50, wf3_51, wf3_52, wf3_53, wf3_54, wf3_55, wf3_56, wf3_57, wf3_58, wf3_59, wf3_60, wf3_61, wf3_62, wf3_63, wf3_64, wf3_65, wf3_66, wf3_67, wf3_68, wf3_69, wf3_70, kx_ai, kx_al, kx_ar, wx_cond, wx_a1, wx_ac, wx_call, wm_pi, wm_pl, wb_and, wb_or, wb_not, ws_seq, ws_i, ws_l, ws_inc, ks_fi, ws_fl, ws_ofi, ws_ofl, ks_ai, ks_az, ks_al, ks_oai, ks_oal, wk_in, wk_in0, wz_0, wz_1, wz_b, wf0_0, wf0_2, ws_call, ws_if, ws_ife, ws_ret, ws_skip, ws_retv, ws_thr, wo_iadd, wo_isub, wo_imul, wo_iand, wo_ior, wo_ixor, wo_ishl, wo_ishr, wo_iushr, wo_ladd, wo_lsub, wo_land, wo_lor, wo_lxor, wo_lshl, wo_lushr, wo_i2l, wo_l2i, List.getElem?_cons_zero, List.getElem?_cons_succ, List.length_cons, List.length_nil, wm_st, wm_st2, List.set_cons_zero, List.set_cons_succ, hF, hA, hR, ev_cl, ev_cl0, ev_lt, ev_ge, ev_gt, ev_le, ev_eqn, ev_nen, ev_ltc, ev_gec, ev_gtc, ev_lec, ev_eqc, ev_nec, ev_pair, ev_pairL, ev_b0, ev_b1, Bool.not_not, ev_sw,  cond_true, cond_false, nI_1, Nat.zero_add, Nat.reduceAdd, Nat.reduceLT, if_true, ite_true, if_false, ite_false, reduceIte, wm_up_same, wm_up_qne, wm_up_kne, e_G_setReg hC hm hk] <;> rfl) ?_)
      refine wq_ifs (t := wr_ne (gsb P k) (-1)) (by simp (disch := first | omega | decide) only [wx_bind, wx_i, wx_l, wx_r, wx_c, wx_bin, wx_un, wx_div, wx_rem, kx_fi, wx_fl, kx_fr, wf3_4, wf3_5, wf3_6, wf3_7, wf3_8, wf3_9, wf3_10, wf3_11, wf3_12, wf3_13, wf3_14, wf3_15, wf3_16, wf3_17, wf3_18, wf3_19, wf3_20, wf3_21, wf3_22, wf3_23, wf3_24, wf3_25, wf3_26, wf3_27, wf3_28, wf3_29, wf3_30, wf3_31, wf3_32, wf3_33, wf3_34, wf3_35, wf3_36, wf3_37, wf3_38, wf3_39, wf3_40, wf3_41, wf3_42, wf3_43, wf3_44, wf3_45, wf3_46, wf3_47, wf3_48, wf3_49, wf3_50, wf3_51, wf3_52, wf3_53, wf3_54, wf3_55, wf3_56, wf3_57, wf3_58, wf3_59, wf3_60, wf3_61, wf3_62, wf3_63, wf3_64, wf3_65, wf3_66, wf3_67, wf3_68, wf3_69, wf3_70, kx_ai, kx_al, kx_ar, wx_cond, wx_a1, wx_ac, wx_call, wm_pi, wm_pl, wb_and, wb_or, wb_not, ws_seq, ws_i, ws_l, ws_inc, ks_fi, ws_fl, ws_ofi, ws_ofl, ks_ai, ks_az, ks_al, ks_oai, ks_oal, wk_in, wk_in0, wz_0, wz_1, wz_b, wf0_0, wf0_2, ws_call, ws_if, ws_ife, ws_ret, ws_skip, ws_retv, ws_thr, wo_iadd, wo_isub, wo_imul, wo_iand, wo_ior, wo_ixor, wo_ishl, wo_ishr, wo_iushr, wo_ladd, wo_lsub, wo_land, wo_lor, wo_lxor, wo_lshl, wo_lushr, wo_i2l, wo_l2i, List.getElem?_cons_zero, List.getElem?_cons_succ, List.length_cons, List.length_nil, wm_st, wm_st2, List.set_cons_zero, List.set_cons_succ, hF, hA, hR, ev_cl, ev_cl0, ev_lt, ev_ge, ev_gt, ev_le, ev_eqn, ev_nen, ev_ltc, ev_gec, ev_gtc, ev_lec, ev_eqc, ev_nec, ev_pair, ev_pairL, ev_b0, ev_b1, Bool.not_not, ev_sw,  cond_true, cond_false, nI_1, Nat.zero_add, Nat.reduceAdd, Nat.reduceLT, if_true, ite_true, if_false, ite_false, reduceIte, wm_up_same, wm_up_qne, wm_up_kne] <;> rfl) (fun hc => ?_) (fun hc => ?_)
      · obtain ⟨r0, hr0, er⟩ := gsb_reg hw hk (i32_ne.mp hc)
        rw [er]
        refine ⟨.inl ([.ref 20, .ref 1, .int (nI (k + 1)), .int (nI r0)], (S.1, wm_up T 21 r0 (T 21 r0 ||| ((1 : Int64) <<< ((nI k).toInt64 &&& 63))))), by simp (disch := first | omega | decide) only [wx_bind, wx_i, wx_l, wx_r, wx_c, wx_bin, wx_un, wx_div, wx_rem, kx_fi, wx_fl, kx_fr, wf3_4, wf3_5, wf3_6, wf3_7, wf3_8, wf3_9, wf3_10, wf3_11, wf3_12, wf3_13, wf3_14, wf3_15, wf3_16, wf3_17, wf3_18, wf3_19, wf3_20, wf3_21, wf3_22, wf3_23, wf3_24, wf3_25, wf3_26, wf3_27, wf3_28, wf3_29, wf3_30, wf3_31, wf3_32, wf3_33, wf3_34, wf3_35, wf3_36, wf3_37, wf3_38, wf3_39, wf3_40, wf3_41, wf3_42, wf3_43, wf3_44, wf3_45, wf3_46, wf3_47, wf3_48, wf3_49, wf3_50, wf3_51, wf3_52, wf3_53, wf3_54, wf3_55, wf3_56, wf3_57, wf3_58, wf3_59, wf3_60, wf3_61, wf3_62, wf3_63, wf3_64, wf3_65, wf3_66, wf3_67, wf3_68, wf3_69, wf3_70, kx_ai, kx_al, kx_ar, wx_cond, wx_a1, wx_ac, wx_call, wm_pi, wm_pl, wb_and, wb_or, wb_not, ws_seq, ws_i, ws_l, ws_inc, ks_fi, ws_fl, ws_ofi, ws_ofl, ks_ai, ks_az, ks_al, ks_oai, ks_oal, wk_in, wk_in0, wz_0, wz_1, wz_b, wf0_0, wf0_2, ws_call, ws_if, ws_ife, ws_ret, ws_skip, ws_retv, ws_thr, wo_iadd, wo_isub, wo_imul, wo_iand, wo_ior, wo_ixor, wo_ishl, wo_ishr, wo_iushr, wo_ladd, wo_lsub, wo_land, wo_lor, wo_lxor, wo_lshl, wo_lushr, wo_i2l, wo_l2i, List.getElem?_cons_zero, List.getElem?_cons_succ, List.length_cons, List.length_nil, wm_st, wm_st2, List.set_cons_zero, List.set_cons_succ, hF, hA, hR, ev_cl, ev_cl0, ev_lt, ev_ge, ev_gt, ev_le, ev_eqn, ev_nen, ev_ltc, ev_gec, ev_gtc, ev_lec, ev_eqc, ev_nec, ev_pair, ev_pairL, ev_b0, ev_b1, Bool.not_not, ev_sw,  cond_true, cond_false, nI_1, Nat.zero_add, Nat.reduceAdd, Nat.reduceLT, if_true, ite_true, if_false, ite_false, reduceIte, wm_up_same, wm_up_qne, wm_up_kne] <;> rfl, (wm_up T 21 r0 (T 21 r0 ||| ((1 : Int64) <<< ((nI k).toInt64 &&& 63))), .int (nI r0)), rfl, fun r hr i hi => ?_, fun q j hq => by dsimp only; rw [wm_up_qne hq]; exact b2 q j hq⟩
        dsimp only
        by_cases e : r = r0
        · subst e
          rw [wm_up_same, l_add1 (by omega) hi, b1 r hr i hi]
          refine gB_eq ?_
          rw [Bool.or_eq_true, gB_iff, decide_eq_true_eq]
          constructor
          · rintro (q | rfl)
            · exact ⟨by omega, q.2⟩
            · exact ⟨by omega, er⟩
          · rintro ⟨q1, q2⟩
            by_cases ei : k = i
            · exact Or.inr ei
            · exact Or.inl ⟨by omega, q2⟩
        · rw [wm_up_kne e, b1 r hr i hi]
          refine gB_cg ⟨fun q => ⟨by omega, q.2⟩, fun q => ⟨?_, q.2⟩⟩
          by_cases ei : i = k
          · subst ei
            rw [er] at q
            exact absurd ((nI_eq (a := r0) (b := r) (by omega) (by omega)).mp q.2).symm e
          · omega
      · have er : gsb P k = -1 := by
          refine Classical.byContradiction fun z => ?_
          rw [i32_ne.mpr z] at hc
          exact absurd hc (by decide)
        refine ⟨.inl ([.ref 20, .ref 1, .int (nI (k + 1)), .int (gsb P k)], (S.1, T)), by simp (disch := first | omega | decide) only [wx_bind, wx_i, wx_l, wx_r, wx_c, wx_bin, wx_un, wx_div, wx_rem, kx_fi, wx_fl, kx_fr, wf3_4, wf3_5, wf3_6, wf3_7, wf3_8, wf3_9, wf3_10, wf3_11, wf3_12, wf3_13, wf3_14, wf3_15, wf3_16, wf3_17, wf3_18, wf3_19, wf3_20, wf3_21, wf3_22, wf3_23, wf3_24, wf3_25, wf3_26, wf3_27, wf3_28, wf3_29, wf3_30, wf3_31, wf3_32, wf3_33, wf3_34, wf3_35, wf3_36, wf3_37, wf3_38, wf3_39, wf3_40, wf3_41, wf3_42, wf3_43, wf3_44, wf3_45, wf3_46, wf3_47, wf3_48, wf3_49, wf3_50, wf3_51, wf3_52, wf3_53, wf3_54, wf3_55, wf3_56, wf3_57, wf3_58, wf3_59, wf3_60, wf3_61, wf3_62, wf3_63, wf3_64, wf3_65, wf3_66, wf3_67, wf3_68, wf3_69, wf3_70, kx_ai, kx_al, kx_ar, wx_cond, wx_a1, wx_ac, wx_call, wm_pi, wm_pl, wb_and, wb_or, wb_not, ws_seq, ws_i, ws_l, ws_inc, ks_fi, ws_fl, ws_ofi, ws_ofl, ks_ai, ks_az, ks_al, ks_oai, ks_oal, wk_in, wk_in0, wz_0, wz_1, wz_b, wf0_0, wf0_2, ws_call, ws_if, ws_ife, ws_ret, ws_skip, ws_retv, ws_thr, wo_iadd, wo_isub, wo_imul, wo_iand, wo_ior, wo_ixor, wo_ishl, wo_ishr, wo_iushr, wo_ladd, wo_lsub, wo_land, wo_lor, wo_lxor, wo_lshl, wo_lushr, wo_i2l, wo_l2i, List.getElem?_cons_zero, List.getElem?_cons_succ, List.length_cons, List.length_nil, wm_st, wm_st2, List.set_cons_zero, List.set_cons_succ, hF, hA, hR, ev_cl, ev_cl0, ev_lt, ev_ge, ev_gt, ev_le, ev_eqn, ev_nen, ev_ltc, ev_gec, ev_gtc, ev_lec, ev_eqc, ev_nec, ev_pair, ev_pairL, ev_b0, ev_b1, Bool.not_not, ev_sw,  cond_true, cond_false, nI_1, Nat.zero_add, Nat.reduceAdd, Nat.reduceLT, if_true, ite_true, if_false, ite_false, reduceIte, wm_up_same, wm_up_qne, wm_up_kne] <;> rfl, (_, _), rfl, fun r hr i hi => ?_, b2⟩
        dsimp only
        rw [b1 r hr i hi]
        refine gB_cg ⟨fun q => ⟨by omega, q.2⟩, fun q => ⟨?_, q.2⟩⟩
        by_cases ei : i = k
        · subst ei
          rw [er] at q
          exact absurd q.2 (nI_n1 (by omega))
        · omega
    · rintro ⟨T, v⟩ ⟨b1, b2⟩
      exact wq_rets (S1 := (S.1, T)) (v := none) (by simp (disch := first | omega | decide) only [wx_bind, wx_i, wx_l, wx_r, wx_c, wx_bin, wx_un, wx_div, wx_rem, kx_fi, wx_fl, kx_fr, wf3_4, wf3_5, wf3_6, wf3_7, wf3_8, wf3_9, wf3_10, wf3_11, wf3_12, wf3_13, wf3_14, wf3_15, wf3_16, wf3_17, wf3_18, wf3_19, wf3_20, wf3_21, wf3_22, wf3_23, wf3_24, wf3_25, wf3_26, wf3_27, wf3_28, wf3_29, wf3_30, wf3_31, wf3_32, wf3_33, wf3_34, wf3_35, wf3_36, wf3_37, wf3_38, wf3_39, wf3_40, wf3_41, wf3_42, wf3_43, wf3_44, wf3_45, wf3_46, wf3_47, wf3_48, wf3_49, wf3_50, wf3_51, wf3_52, wf3_53, wf3_54, wf3_55, wf3_56, wf3_57, wf3_58, wf3_59, wf3_60, wf3_61, wf3_62, wf3_63, wf3_64, wf3_65, wf3_66, wf3_67, wf3_68, wf3_69, wf3_70, kx_ai, kx_al, kx_ar, wx_cond, wx_a1, wx_ac, wx_call, wm_pi, wm_pl, wb_and, wb_or, wb_not, ws_seq, ws_i, ws_l, ws_inc, ks_fi, ws_fl, ws_ofi, ws_ofl, ks_ai, ks_az, ks_al, ks_oai, ks_oal, wk_in, wk_in0, wz_0, wz_1, wz_b, wf0_0, wf0_2, ws_call, ws_if, ws_ife, ws_ret, ws_skip, ws_retv, ws_thr, wo_iadd, wo_isub, wo_imul, wo_iand, wo_ior, wo_ixor, wo_ishl, wo_ishr, wo_iushr, wo_ladd, wo_lsub, wo_land, wo_lor, wo_lxor, wo_lshl, wo_lushr, wo_i2l, wo_l2i, List.getElem?_cons_zero, List.getElem?_cons_succ, List.length_cons, List.length_nil, wm_st, wm_st2, List.set_cons_zero, List.set_cons_succ, hF, hA, hR, ev_cl, ev_cl0, ev_lt, ev_ge, ev_gt, ev_le, ev_eqn, ev_nen, ev_ltc, ev_gec, ev_gtc, ev_lec, ev_eqc, ev_nec, ev_pair, ev_pairL, ev_b0, ev_b1, Bool.not_not, ev_sw,  cond_true, cond_false, nI_1, Nat.zero_add, Nat.reduceAdd, Nat.reduceLT, if_true, ite_true, if_false, ite_false, reduceIte, wm_up_same, wm_up_qne, wm_up_kne] <;> rfl) ⟨rfl, rfl, rfl, b1, b2⟩
theorem e_U_settersOf {T : Nat → Nat → Int64} (hu : us_ok P T) {w : Int32} : ∃ v, f_U_settersOf [.ref 20, .int w] (S.1, T) = some (some (.long v), (S.1, T)) ∧ ∀ i, i < 64 → bl v i = gB (i < P.1.2 ∧ ∃ r, r < 8 ∧ bt w r = true ∧ gsb P i = nI r) := by
  suffices hq : wq (f_U_settersOf [.ref 20, .int w] (S.1, T)) (fun z => z.2 = (S.1, T) ∧ ∃ v, z.1 = some (.long v) ∧ ∀ i, i < 64 → bl v i = gB (i < P.1.2 ∧ ∃ r, r < 8 ∧ bt w r = true ∧ gsb P i = nI r)) by
    obtain ⟨⟨v, S'⟩, e, rfl, w, rfl, hb⟩ := hq
    exact ⟨w, e, hb⟩
  refine wq_fn rfl rfl rfl ?_
  show wq (t_U_settersOf [.ref 20, .int w, .retAddr 0, .retAddr 0, .retAddr 0] (S.1, T)) _
  unfold t_U_settersOf
  obtain ⟨L, N, M1, M2, hL, hN0, hF, hA, hR, hN, hM1, hM2⟩ := w_ex; (try simp only [hL, hN0])
  refine wq_step (by simp (disch := first | omega | decide) only [wx_bind, wx_i, wx_l, wx_r, wx_c, wx_bin, wx_un, wx_div, wx_rem, kx_fi, wx_fl, kx_fr, wf3_4, wf3_5, wf3_6, wf3_7, wf3_8, wf3_9, wf3_10, wf3_11, wf3_12, wf3_13, wf3_14, wf3_15, wf3_16, wf3_17, wf3_18, wf3_19, wf3_20, wf3_21, wf3_22, wf3_23, wf3_24, wf3_25, wf3_26, wf3_27, wf3_28, wf3_29, wf3_30, wf3_31, wf3_32, wf3_33, wf3_34, wf3_35, wf3_36, wf3_37, wf3_38, wf3_39, wf3_40, wf3_41, wf3_42, wf3_43, wf3_44, wf3_45, wf3_46, wf3_47, wf3_48, wf3_49, wf3_50, wf3_51, wf3_52, wf3_53, wf3_54, wf3_55, wf3_56, wf3_57, wf3_58, wf3_59, wf3_60, wf3_61, wf3_62, wf3_63, wf3_64, wf3_65, wf3_66, wf3_67, wf3_68, wf3_69, wf3_70, kx_ai, kx_al, kx_ar, wx_cond, wx_a1, wx_ac, wx_call, wm_pi, wm_pl, wb_and, wb_or, wb_not, ws_seq, ws_i, ws_l, ws_inc, ks_fi, ws_fl, ws_ofi, ws_ofl, ks_ai, ks_az, ks_al, ks_oai, ks_oal, wk_in, wk_in0, wz_0, wz_1, wz_b, wf0_0, wf0_2, ws_call, ws_if, ws_ife, ws_ret, ws_skip, ws_retv, ws_thr, wo_iadd, wo_isub, wo_imul, wo_iand, wo_ior, wo_ixor, wo_ishl, wo_ishr, wo_iushr, wo_ladd, wo_lsub, wo_land, wo_lor, wo_lxor, wo_lshl, wo_lushr, wo_i2l, wo_l2i, List.getElem?_cons_zero, List.getElem?_cons_succ, List.length_cons, List.length_nil, wm_st, wm_st2, List.set_cons_zero, List.set_cons_succ, hF, hA, hR, ev_cl, ev_cl0, ev_lt, ev_ge, ev_gt, ev_le, ev_eqn, ev_nen, ev_ltc, ev_gec, ev_gtc, ev_lec, ev_eqc, ev_nec, ev_pair, ev_pairL, ev_b0, ev_b1, Bool.not_not, ev_sw,  cond_true, cond_false, nI_1, Nat.zero_add, Nat.reduceAdd, Nat.reduceLT, if_true, ite_true, if_false, ite_false, reduceIte, wm_up_same, wm_up_qne, wm_up_kne] <;> rfl) (wq_assoc (wq_step (by simp (disch := first | omega | decide) only [wx_bind, wx_i, wx_l, wx_r, wx_c, wx_bin, wx_un, wx_div, wx_rem, kx_fi, wx_fl, kx_fr, wf3_4, wf3_5, wf3_6, wf3_7, wf3_8, wf3_9, wf3_10, wf3_11, wf3_12, wf3_13, wf3_14, wf3_15, wf3_16, wf3_17, wf3_18, wf3_19, wf3_20, wf3_21, wf3_22, wf3_23, wf3_24, wf3_25, wf3_26, wf3_27, wf3_28, wf3_29, wf3_30, wf3_31, wf3_32, wf3_33, wf3_34, wf3_35, wf3_36, wf3_37, wf3_38, wf3_39, wf3_40, wf3_41, wf3_42, wf3_43, wf3_44, wf3_45, wf3_46, wf3_47, wf3_48, wf3_49, wf3_50, wf3_51, wf3_52, wf3_53, wf3_54, wf3_55, wf3_56, wf3_57, wf3_58, wf3_59, wf3_60, wf3_61, wf3_62, wf3_63, wf3_64, wf3_65, wf3_66, wf3_67, wf3_68, wf3_69, wf3_70, kx_ai, kx_al, kx_ar, wx_cond, wx_a1, wx_ac, wx_call, wm_pi, wm_pl, wb_and, wb_or, wb_not, ws_seq, ws_i, ws_l, ws_inc, ks_fi, ws_fl, ws_ofi, ws_ofl, ks_ai, ks_az, ks_al, ks_oai, ks_oal, wk_in, wk_in0, wz_0, wz_1, wz_b, wf0_0, wf0_2, ws_call, ws_if, ws_ife, ws_ret, ws_skip, ws_retv, ws_thr, wo_iadd, wo_isub, wo_imul, wo_iand, wo_ior, wo_ixor, wo_ishl, wo_ishr, wo_iushr, wo_ladd, wo_lsub, wo_land, wo_lor, wo_lxor, wo_lshl, wo_lushr, wo_i2l, wo_l2i, List.getElem?_cons_zero, List.getElem?_cons_succ, List.length_cons, List.length_nil, wm_st, wm_st2, List.set_cons_zero, List.set_cons_succ, hF, hA, hR, ev_cl, ev_cl0, ev_lt, ev_ge, ev_gt, ev_le, ev_eqn, ev_nen, ev_ltc, ev_gec, ev_gtc, ev_lec, ev_eqc, ev_nec, ev_pair, ev_pairL, ev_b0, ev_b1, Bool.not_not, ev_sw,  cond_true, cond_false, nI_1, Nat.zero_add, Nat.reduceAdd, Nat.reduceLT, if_true, ite_true, if_false, ite_false, reduceIte, wm_up_same, wm_up_qne, wm_up_kne] <;> rfl) ?_))
  refine wq_seq.mpr (wq_for 8 (fun k (v : Int64) => [.ref 20, .int w, .long v, .retAddr 0, .int (nI k)]) (fun _ _ => (S.1, T)) (fun k v => ∀ i, i < 64 → bl v i = gB (i < P.1.2 ∧ ∃ r, r < k ∧ bt w r = true ∧ gsb P i = nI r)) ?_ ?_ ?_ (by omega) 0 rfl rfl (fun i hi => by rw [l_0]; exact gB_eq ⟨fun e => (nomatch e), fun ⟨_, r, q, _⟩ => absurd q (Nat.not_lt_zero _)⟩))
  · intro k s hk _
    simp (disch := first | omega | decide) only [wx_bind, wx_i, wx_l, wx_r, wx_c, wx_bin, wx_un, wx_div, wx_rem, kx_fi, wx_fl, kx_fr, wf3_4, wf3_5, wf3_6, wf3_7, wf3_8, wf3_9, wf3_10, wf3_11, wf3_12, wf3_13, wf3_14, wf3_15, wf3_16, wf3_17, wf3_18, wf3_19, wf3_20, wf3_21, wf3_22, wf3_23, wf3_24, wf3_25, wf3_26, wf3_27, wf3_28, wf3_29, wf3_30, wf3_31, wf3_32, wf3_33, wf3_34, wf3_35, wf3_36, wf3_37, wf3_38, wf3_39, wf3_40, wf3_41, wf3_42, wf3_43, wf3_44, wf3_45, wf3_46, wf3_47, wf3_48, wf3_49, wf3_50, wf3_51, wf3_52, wf3_53, wf3_54, wf3_55, wf3_56, wf3_57, wf3_58, wf3_59, wf3_60, wf3_61, wf3_62, wf3_63, wf3_64, wf3_65, wf3_66, wf3_67, wf3_68, wf3_69, wf3_70, kx_ai, kx_al, kx_ar, wx_cond, wx_a1, wx_ac, wx_call, wm_pi, wm_pl, wb_and, wb_or, wb_not, ws_seq, ws_i, ws_l, ws_inc, ks_fi, ws_fl, ws_ofi, ws_ofl, ks_ai, ks_az, ks_al, ks_oai, ks_oal, wk_in, wk_in0, wz_0, wz_1, wz_b, wf0_0, wf0_2, ws_call, ws_if, ws_ife, ws_ret, ws_skip, ws_retv, ws_thr, wo_iadd, wo_isub, wo_imul, wo_iand, wo_ior, wo_ixor, wo_ishl, wo_ishr, wo_iushr, wo_ladd, wo_lsub, wo_land, wo_lor, wo_lxor, wo_lshl, wo_lushr, wo_i2l, wo_l2i, List.getElem?_cons_zero, List.getElem?_cons_succ, List.length_cons, List.length_nil, wm_st, wm_st2, List.set_cons_zero, List.set_cons_succ, hF, hA, hR, ev_cl, ev_cl0, ev_lt, ev_ge, ev_gt, ev_le, ev_eqn, ev_nen, ev_ltc, ev_gec, ev_gtc, ev_lec, ev_eqc, ev_nec, ev_pair, ev_pairL, ev_b0, ev_b1, Bool.not_not, ev_sw,  cond_true, cond_false, nI_1, Nat.zero_add, Nat.reduceAdd, Nat.reduceLT, if_true, ite_true, if_false, ite_false, reduceIte, wm_up_same, wm_up_qne, wm_up_kne]
  · intro k v hk hv
    have hk32 : k < 32 := by omega
    refine wq_ifs (t := bt w k) (by simp (disch := first | omega | decide) only [wx_bind, wx_i, wx_l, wx_r, wx_c, wx_bin, wx_un, wx_div, wx_rem, kx_fi, wx_fl, kx_fr, wf3_4, wf3_5, wf3_6, wf3_7, wf3_8, wf3_9, wf3_10, wf3_11, wf3_12, wf3_13, wf3_14, wf3_15, wf3_16, wf3_17, wf3_18, wf3_19, wf3_20, wf3_21, wf3_22, wf3_23, wf3_24, wf3_25, wf3_26, wf3_27, wf3_28, wf3_29, wf3_30, wf3_31, wf3_32, wf3_33, wf3_34, wf3_35, wf3_36, wf3_37, wf3_38, wf3_39, wf3_40, wf3_41, wf3_42, wf3_43, wf3_44, wf3_45, wf3_46, wf3_47, wf3_48, wf3_49, wf3_50, wf3_51, wf3_52, wf3_53, wf3_54, wf3_55, wf3_56, wf3_57, wf3_58, wf3_59, wf3_60, wf3_61, wf3_62, wf3_63, wf3_64, wf3_65, wf3_66, wf3_67, wf3_68, wf3_69, wf3_70, kx_ai, kx_al, kx_ar, wx_cond, wx_a1, wx_ac, wx_call, wm_pi, wm_pl, wb_and, wb_or, wb_not, ws_seq, ws_i, ws_l, ws_inc, ks_fi, ws_fl, ws_ofi, ws_ofl, ks_ai, ks_az, ks_al, ks_oai, ks_oal, wk_in, wk_in0, wz_0, wz_1, wz_b, wf0_0, wf0_2, ws_call, ws_if, ws_ife, ws_ret, ws_skip, ws_retv, ws_thr, wo_iadd, wo_isub, wo_imul, wo_iand, wo_ior, wo_ixor, wo_ishl, wo_ishr, wo_iushr, wo_ladd, wo_lsub, wo_land, wo_lor, wo_lxor, wo_lshl, wo_lushr, wo_i2l, wo_l2i, List.getElem?_cons_zero, List.getElem?_cons_succ, List.length_cons, List.length_nil, wm_st, wm_st2, List.set_cons_zero, List.set_cons_succ, hF, hA, hR, ev_cl, ev_cl0, ev_lt, ev_ge, ev_gt, ev_le, ev_eqn, ev_nen, ev_ltc, ev_gec, ev_gtc, ev_lec, ev_eqc, ev_nec, ev_pair, ev_pairL, ev_b0, ev_b1, Bool.not_not, ev_sw,  cond_true, cond_false, nI_1, Nat.zero_add, Nat.reduceAdd, Nat.reduceLT, if_true, ite_true, if_false, ite_false, reduceIte, wm_up_same, wm_up_qne, wm_up_kne, b_tst hk32] <;> rfl) (fun hc => ?_) (fun hc => ?_)
    · refine ⟨.inl ([.ref 20, .int w, .long (v ||| T 21 k), .retAddr 0, .int (nI (k + 1))], (S.1, T)), by simp (disch := first | omega | decide) only [wx_bind, wx_i, wx_l, wx_r, wx_c, wx_bin, wx_un, wx_div, wx_rem, kx_fi, wx_fl, kx_fr, wf3_4, wf3_5, wf3_6, wf3_7, wf3_8, wf3_9, wf3_10, wf3_11, wf3_12, wf3_13, wf3_14, wf3_15, wf3_16, wf3_17, wf3_18, wf3_19, wf3_20, wf3_21, wf3_22, wf3_23, wf3_24, wf3_25, wf3_26, wf3_27, wf3_28, wf3_29, wf3_30, wf3_31, wf3_32, wf3_33, wf3_34, wf3_35, wf3_36, wf3_37, wf3_38, wf3_39, wf3_40, wf3_41, wf3_42, wf3_43, wf3_44, wf3_45, wf3_46, wf3_47, wf3_48, wf3_49, wf3_50, wf3_51, wf3_52, wf3_53, wf3_54, wf3_55, wf3_56, wf3_57, wf3_58, wf3_59, wf3_60, wf3_61, wf3_62, wf3_63, wf3_64, wf3_65, wf3_66, wf3_67, wf3_68, wf3_69, wf3_70, kx_ai, kx_al, kx_ar, wx_cond, wx_a1, wx_ac, wx_call, wm_pi, wm_pl, wb_and, wb_or, wb_not, ws_seq, ws_i, ws_l, ws_inc, ks_fi, ws_fl, ws_ofi, ws_ofl, ks_ai, ks_az, ks_al, ks_oai, ks_oal, wk_in, wk_in0, wz_0, wz_1, wz_b, wf0_0, wf0_2, ws_call, ws_if, ws_ife, ws_ret, ws_skip, ws_retv, ws_thr, wo_iadd, wo_isub, wo_imul, wo_iand, wo_ior, wo_ixor, wo_ishl, wo_ishr, wo_iushr, wo_ladd, wo_lsub, wo_land, wo_lor, wo_lxor, wo_lshl, wo_lushr, wo_i2l, wo_l2i, List.getElem?_cons_zero, List.getElem?_cons_succ, List.length_cons, List.length_nil, wm_st, wm_st2, List.set_cons_zero, List.set_cons_succ, hF, hA, hR, ev_cl, ev_cl0, ev_lt, ev_ge, ev_gt, ev_le, ev_eqn, ev_nen, ev_ltc, ev_gec, ev_gtc, ev_lec, ev_eqc, ev_nec, ev_pair, ev_pairL, ev_b0, ev_b1, Bool.not_not, ev_sw,  cond_true, cond_false, nI_1, Nat.zero_add, Nat.reduceAdd, Nat.reduceLT, if_true, ite_true, if_false, ite_false, reduceIte, wm_up_same, wm_up_qne, wm_up_kne] <;> rfl, _, rfl, fun i hi => ?_⟩
      rw [l_or, hv i hi, hu k hk i hi]
      refine gB_eq ?_
      rw [Bool.or_eq_true, gB_iff, gB_iff]
      constructor
      · rintro (⟨q, r, q1, q2⟩ | ⟨q, q1⟩)
        · exact ⟨q, r, by omega, q2⟩
        · exact ⟨q, k, by omega, hc, q1⟩
      · rintro ⟨q, r, q1, q2, q3⟩
        by_cases e : r = k
        · subst e; exact Or.inr ⟨q, q3⟩
        · exact Or.inl ⟨q, r, by omega, q2, q3⟩
    · refine ⟨.inl ([.ref 20, .int w, .long v, .retAddr 0, .int (nI (k + 1))], (S.1, T)), by simp (disch := first | omega | decide) only [wx_bind, wx_i, wx_l, wx_r, wx_c, wx_bin, wx_un, wx_div, wx_rem, kx_fi, wx_fl, kx_fr, wf3_4, wf3_5, wf3_6, wf3_7, wf3_8, wf3_9, wf3_10, wf3_11, wf3_12, wf3_13, wf3_14, wf3_15, wf3_16, wf3_17, wf3_18, wf3_19, wf3_20, wf3_21, wf3_22, wf3_23, wf3_24, wf3_25, wf3_26, wf3_27, wf3_28, wf3_29, wf3_30, wf3_31, wf3_32, wf3_33, wf3_34, wf3_35, wf3_36, wf3_37, wf3_38, wf3_39, wf3_40, wf3_41, wf3_42, wf3_43, wf3_44, wf3_45, wf3_46, wf3_47, wf3_48, wf3_49, wf3_50, wf3_51, wf3_52, wf3_53, wf3_54, wf3_55, wf3_56, wf3_57, wf3_58, wf3_59, wf3_60, wf3_61, wf3_62, wf3_63, wf3_64, wf3_65, wf3_66, wf3_67, wf3_68, wf3_69, wf3_70, kx_ai, kx_al, kx_ar, wx_cond, wx_a1, wx_ac, wx_call, wm_pi, wm_pl, wb_and, wb_or, wb_not, ws_seq, ws_i, ws_l, ws_inc, ks_fi, ws_fl, ws_ofi, ws_ofl, ks_ai, ks_az, ks_al, ks_oai, ks_oal, wk_in, wk_in0, wz_0, wz_1, wz_b, wf0_0, wf0_2, ws_call, ws_if, ws_ife, ws_ret, ws_skip, ws_retv, ws_thr, wo_iadd, wo_isub, wo_imul, wo_iand, wo_ior, wo_ixor, wo_ishl, wo_ishr, wo_iushr, wo_ladd, wo_lsub, wo_land, wo_lor, wo_lxor, wo_lshl, wo_lushr, wo_i2l, wo_l2i, List.getElem?_cons_zero, List.getElem?_cons_succ, List.length_cons, List.length_nil, wm_st, wm_st2, List.set_cons_zero, List.set_cons_succ, hF, hA, hR, ev_cl, ev_cl0, ev_lt, ev_ge, ev_gt, ev_le, ev_eqn, ev_nen, ev_ltc, ev_gec, ev_gtc, ev_lec, ev_eqc, ev_nec, ev_pair, ev_pairL, ev_b0, ev_b1, Bool.not_not, ev_sw,  cond_true, cond_false, nI_1, Nat.zero_add, Nat.reduceAdd, Nat.reduceLT, if_true, ite_true, if_false, ite_false, reduceIte, wm_up_same, wm_up_qne, wm_up_kne] <;> rfl, _, rfl, fun i hi => ?_⟩
      rw [hv i hi]
      refine gB_cg ⟨fun ⟨q, r, q1, q2⟩ => ⟨q, r, by omega, q2⟩, fun ⟨q, r, q1, q2, q3⟩ => ⟨q, r, ?_, q2, q3⟩⟩
      by_cases e : r = k
      · subst e; rw [hc] at q2; exact absurd q2 (by decide)
      · omega
  · intro v hv
    exact wq_rets (by simp (disch := first | omega | decide) only [wx_bind, wx_i, wx_l, wx_r, wx_c, wx_bin, wx_un, wx_div, wx_rem, kx_fi, wx_fl, kx_fr, wf3_4, wf3_5, wf3_6, wf3_7, wf3_8, wf3_9, wf3_10, wf3_11, wf3_12, wf3_13, wf3_14, wf3_15, wf3_16, wf3_17, wf3_18, wf3_19, wf3_20, wf3_21, wf3_22, wf3_23, wf3_24, wf3_25, wf3_26, wf3_27, wf3_28, wf3_29, wf3_30, wf3_31, wf3_32, wf3_33, wf3_34, wf3_35, wf3_36, wf3_37, wf3_38, wf3_39, wf3_40, wf3_41, wf3_42, wf3_43, wf3_44, wf3_45, wf3_46, wf3_47, wf3_48, wf3_49, wf3_50, wf3_51, wf3_52, wf3_53, wf3_54, wf3_55, wf3_56, wf3_57, wf3_58, wf3_59, wf3_60, wf3_61, wf3_62, wf3_63, wf3_64, wf3_65, wf3_66, wf3_67, wf3_68, wf3_69, wf3_70, kx_ai, kx_al, kx_ar, wx_cond, wx_a1, wx_ac, wx_call, wm_pi, wm_pl, wb_and, wb_or, wb_not, ws_seq, ws_i, ws_l, ws_inc, ks_fi, ws_fl, ws_ofi, ws_ofl, ks_ai, ks_az, ks_al, ks_oai, ks_oal, wk_in, wk_in0, wz_0, wz_1, wz_b, wf0_0, wf0_2, ws_call, ws_if, ws_ife, ws_ret, ws_skip, ws_retv, ws_thr, wo_iadd, wo_isub, wo_imul, wo_iand, wo_ior, wo_ixor, wo_ishl, wo_ishr, wo_iushr, wo_ladd, wo_lsub, wo_land, wo_lor, wo_lxor, wo_lshl, wo_lushr, wo_i2l, wo_l2i, List.getElem?_cons_zero, List.getElem?_cons_succ, List.length_cons, List.length_nil, wm_st, wm_st2, List.set_cons_zero, List.set_cons_succ, hF, hA, hR, ev_cl, ev_cl0, ev_lt, ev_ge, ev_gt, ev_le, ev_eqn, ev_nen, ev_ltc, ev_gec, ev_gtc, ev_lec, ev_eqc, ev_nec, ev_pair, ev_pairL, ev_b0, ev_b1, Bool.not_not, ev_sw,  cond_true, cond_false, nI_1, Nat.zero_add, Nat.reduceAdd, Nat.reduceLT, if_true, ite_true, if_false, ite_false, reduceIte, wm_up_same, wm_up_qne, wm_up_kne] <;> rfl) ⟨rfl, rfl, _, rfl, hv⟩
/-- what goThrough writes, with A what reaches the block's start -/
def gt_I (P : PG) (x : Nat) (A : Nat → Prop) (k i : Nat) : Prop := i < P.1.2 ∧ gsb P i ≠ -1 ∧ gT P x (A i) i k ∧ ∃ r, r < 8 ∧ gu P k r ∧ gsb P i = nI r
def gt_E (P : PG) (x : Nat) (A : Nat → Prop) (i : Nat) : Prop := i < P.1.2 ∧ gsb P i ≠ -1 ∧ gT P x (A i) i P.1.2 ∧ ∃ r, r < 8 ∧ gue P x r ∧ gsb P i = nI r
theorem e_U_goThrough (hw : pg_wf P) (h : pg_C P S) {T : Nat → Nat → Int64} (hu : us_ok P T) {x : Nat} (hx : x < P.1.1) (hAs : ∀ i, i < 64 → bl (T 22 x) i = true → i < P.1.2 ∧ gsb P i ≠ -1) : ∃ w T', f_U_goThrough [.ref 20, .ref 1, .int (nI x)] (S.1, T) = some (some (.long w), (S.1, T')) ∧ (∀ i, i < 64 → bl w i = gB (i < P.1.2 ∧ gsb P i ≠ -1 ∧ gT P x (bl (T 22 x) i = true) i P.1.2)) ∧ (∀ k, k < P.1.2 → P.2 8 k = nI x → ∀ i, i < 64 → bl (T' 23 k) i = gB (gt_I P x (fun i => bl (T 22 x) i = true) k i)) ∧ (∀ i, i < 64 → bl (T' 24 x) i = gB (gt_E P x (fun i => bl (T 22 x) i = true) i)) ∧ ∀ q k, ¬ ((q = 23 ∧ P.2 8 k = nI x) ∨ (q = 24 ∧ k = x)) → T' q k = T q k := by
  suffices hq : wq (f_U_goThrough [.ref 20, .ref 1, .int (nI x)] (S.1, T)) (fun z => ∃ w T', z = (some (.long w), (S.1, T')) ∧ (∀ i, i < 64 → bl w i = gB (i < P.1.2 ∧ gsb P i ≠ -1 ∧ gT P x (bl (T 22 x) i = true) i P.1.2)) ∧ (∀ k, k < P.1.2 → P.2 8 k = nI x → ∀ i, i < 64 → bl (T' 23 k) i = gB (gt_I P x (fun i => bl (T 22 x) i = true) k i)) ∧ (∀ i, i < 64 → bl (T' 24 x) i = gB (gt_E P x (fun i => bl (T 22 x) i = true) i)) ∧ ∀ q k, ¬ ((q = 23 ∧ P.2 8 k = nI x) ∨ (q = 24 ∧ k = x)) → T' q k = T q k) by
    obtain ⟨z, e, w, T', rfl, hb⟩ := hq
    exact ⟨w, T', e, hb⟩
  refine wq_fn rfl rfl rfl ?_
  show wq (t_U_goThrough [.ref 20, .ref 1, .int (nI x), .retAddr 0, .retAddr 0, .retAddr 0, .retAddr 0, .retAddr 0] (S.1, T)) _
  unfold t_U_goThrough
  obtain ⟨L, N, M1, M2, hL, hN0, hF, hA, hR, hN, hM1, hM2⟩ := w_ex; (try simp only [hL, hN0])
  have hn := hw.1
  have hm := hw.2.1
  have hx12 : x < 12 := by omega
  have hlen := pg_row_le (P := P) (x := x)
  obtain ⟨r1, r2⟩ := h.2.2.2.2 x hx
  refine wq_step (by simp (disch := first | omega | decide) only [wx_bind, wx_i, wx_l, wx_r, wx_c, wx_bin, wx_un, wx_div, wx_rem, kx_fi, wx_fl, kx_fr, wf3_4, wf3_5, wf3_6, wf3_7, wf3_8, wf3_9, wf3_10, wf3_11, wf3_12, wf3_13, wf3_14, wf3_15, wf3_16, wf3_17, wf3_18, wf3_19, wf3_20, wf3_21, wf3_22, wf3_23, wf3_24, wf3_25, wf3_26, wf3_27, wf3_28, wf3_29, wf3_30, wf3_31, wf3_32, wf3_33, wf3_34, wf3_35, wf3_36, wf3_37, wf3_38, wf3_39, wf3_40, wf3_41, wf3_42, wf3_43, wf3_44, wf3_45, wf3_46, wf3_47, wf3_48, wf3_49, wf3_50, wf3_51, wf3_52, wf3_53, wf3_54, wf3_55, wf3_56, wf3_57, wf3_58, wf3_59, wf3_60, wf3_61, wf3_62, wf3_63, wf3_64, wf3_65, wf3_66, wf3_67, wf3_68, wf3_69, wf3_70, kx_ai, kx_al, kx_ar, wx_cond, wx_a1, wx_ac, wx_call, wm_pi, wm_pl, wb_and, wb_or, wb_not, ws_seq, ws_i, ws_l, ws_inc, ks_fi, ws_fl, ws_ofi, ws_ofl, ks_ai, ks_az, ks_al, ks_oai, ks_oal, wk_in, wk_in0, wz_0, wz_1, wz_b, wf0_0, wf0_2, ws_call, ws_if, ws_ife, ws_ret, ws_skip, ws_retv, ws_thr, wo_iadd, wo_isub, wo_imul, wo_iand, wo_ior, wo_ixor, wo_ishl, wo_ishr, wo_iushr, wo_ladd, wo_lsub, wo_land, wo_lor, wo_lxor, wo_lshl, wo_lushr, wo_i2l, wo_l2i, List.getElem?_cons_zero, List.getElem?_cons_succ, List.length_cons, List.length_nil, wm_st, wm_st2, List.set_cons_zero, List.set_cons_succ, hF, hA, hR, ev_cl, ev_cl0, ev_lt, ev_ge, ev_gt, ev_le, ev_eqn, ev_nen, ev_ltc, ev_gec, ev_gtc, ev_lec, ev_eqc, ev_nec, ev_pair, ev_pairL, ev_b0, ev_b1, Bool.not_not, ev_sw,  cond_true, cond_false, nI_1, Nat.zero_add, Nat.reduceAdd, Nat.reduceLT, if_true, ite_true, if_false, ite_false, reduceIte, wm_up_same, wm_up_qne, wm_up_kne] <;> rfl) (wq_assoc (wq_step (by simp (disch := first | omega | decide) only [wx_bind, wx_i, wx_l, wx_r, wx_c, wx_bin, wx_un, wx_div, wx_rem, kx_fi, wx_fl, kx_fr, wf3_4, wf3_5, wf3_6, wf3_7, wf3_8, wf3_9, wf3_10, wf3_11, wf3_12, wf3_13, wf3_14, wf3_15, wf3_16, wf3_17, wf3_18, wf3_19, wf3_20, wf3_21, wf3_22, wf3_23, wf3_24, wf3_25, wf3_26, wf3_27, wf3_28, wf3_29, wf3_30, wf3_31, wf3_32, wf3_33, wf3_34, wf3_35, wf3_36, wf3_37, wf3_38, wf3_39, wf3_40, wf3_41, wf3_42, wf3_43, wf3_44, wf3_45, wf3_46, wf3_47, wf3_48, wf3_49, wf3_50, wf3_51, wf3_52, wf3_53, wf3_54, wf3_55, wf3_56, wf3_57, wf3_58, wf3_59, wf3_60, wf3_61, wf3_62, wf3_63, wf3_64, wf3_65, wf3_66, wf3_67, wf3_68, wf3_69, wf3_70, kx_ai, kx_al, kx_ar, wx_cond, wx_a1, wx_ac, wx_call, wm_pi, wm_pl, wb_and, wb_or, wb_not, ws_seq, ws_i, ws_l, ws_inc, ks_fi, ws_fl, ws_ofi, ws_ofl, ks_ai, ks_az, ks_al, ks_oai, ks_oal, wk_in, wk_in0, wz_0, wz_1, wz_b, wf0_0, wf0_2, ws_call, ws_if, ws_ife, ws_ret, ws_skip, ws_retv, ws_thr, wo_iadd, wo_isub, wo_imul, wo_iand, wo_ior, wo_ixor, wo_ishl, wo_ishr, wo_iushr, wo_ladd, wo_lsub, wo_land, wo_lor, wo_lxor, wo_lshl, wo_lushr, wo_i2l, wo_l2i, List.getElem?_cons_zero, List.getElem?_cons_succ, List.length_cons, List.length_nil, wm_st, wm_st2, List.set_cons_zero, List.set_cons_succ, hF, hA, hR, ev_cl, ev_cl0, ev_lt, ev_ge, ev_gt, ev_le, ev_eqn, ev_nen, ev_ltc, ev_gec, ev_gtc, ev_lec, ev_eqc, ev_nec, ev_pair, ev_pairL, ev_b0, ev_b1, Bool.not_not, ev_sw,  cond_true, cond_false, nI_1, Nat.zero_add, Nat.reduceAdd, Nat.reduceLT, if_true, ite_true, if_false, ite_false, reduceIte, wm_up_same, wm_up_qne, wm_up_kne] <;> rfl) ?_))
  refine wq_seq.mpr (wq_for (pg_row P x).length (fun k (s : Int64 × (Nat → Nat → Int64) × Value × Value) => [.ref 20, .ref 1, .int (nI x), .long s.1, .retAddr 0, .int (nI k), s.2.2.1, s.2.2.2]) (fun _ s => (S.1, s.2.1)) (fun j s => (∀ i, i < 64 → bl s.1 i = gB (i < P.1.2 ∧ gsb P i ≠ -1 ∧ gT P x (bl (T 22 x) i = true) i (pg_hi P x j))) ∧ (∀ k, k < pg_hi P x j → P.2 8 k = nI x → ∀ i, i < 64 → bl (s.2.1 23 k) i = gB (gt_I P x (fun i => bl (T 22 x) i = true) k i)) ∧ ∀ q k, ¬ (q = 23 ∧ P.2 8 k = nI x) → s.2.1 q k = T q k) ?_ ?_ ?_ (by omega) (T 22 x, T, .retAddr 0, .retAddr 0) rfl rfl ⟨fun i hi => ?_, fun k hk e => absurd e (pg_hi_0 hk), fun _ _ _ => rfl⟩)
  · intro k s hk _
    simp (disch := first | omega | decide) only [wx_bind, wx_i, wx_l, wx_r, wx_c, wx_bin, wx_un, wx_div, wx_rem, kx_fi, wx_fl, kx_fr, wf3_4, wf3_5, wf3_6, wf3_7, wf3_8, wf3_9, wf3_10, wf3_11, wf3_12, wf3_13, wf3_14, wf3_15, wf3_16, wf3_17, wf3_18, wf3_19, wf3_20, wf3_21, wf3_22, wf3_23, wf3_24, wf3_25, wf3_26, wf3_27, wf3_28, wf3_29, wf3_30, wf3_31, wf3_32, wf3_33, wf3_34, wf3_35, wf3_36, wf3_37, wf3_38, wf3_39, wf3_40, wf3_41, wf3_42, wf3_43, wf3_44, wf3_45, wf3_46, wf3_47, wf3_48, wf3_49, wf3_50, wf3_51, wf3_52, wf3_53, wf3_54, wf3_55, wf3_56, wf3_57, wf3_58, wf3_59, wf3_60, wf3_61, wf3_62, wf3_63, wf3_64, wf3_65, wf3_66, wf3_67, wf3_68, wf3_69, wf3_70, kx_ai, kx_al, kx_ar, wx_cond, wx_a1, wx_ac, wx_call, wm_pi, wm_pl, wb_and, wb_or, wb_not, ws_seq, ws_i, ws_l, ws_inc, ks_fi, ws_fl, ws_ofi, ws_ofl, ks_ai, ks_az, ks_al, ks_oai, ks_oal, wk_in, wk_in0, wz_0, wz_1, wz_b, wf0_0, wf0_2, ws_call, ws_if, ws_ife, ws_ret, ws_skip, ws_retv, ws_thr, wo_iadd, wo_isub, wo_imul, wo_iand, wo_ior, wo_ixor, wo_ishl, wo_ishr, wo_iushr, wo_ladd, wo_lsub, wo_land, wo_lor, wo_lxor, wo_lshl, wo_lushr, wo_i2l, wo_l2i, List.getElem?_cons_zero, List.getElem?_cons_succ, List.length_cons, List.length_nil, wm_st, wm_st2, List.set_cons_zero, List.set_cons_succ, hF, hA, hR, ev_cl, ev_cl0, ev_lt, ev_ge, ev_gt, ev_le, ev_eqn, ev_nen, ev_ltc, ev_gec, ev_gtc, ev_lec, ev_eqc, ev_nec, ev_pair, ev_pairL, ev_b0, ev_b1, Bool.not_not, ev_sw,  cond_true, cond_false, nI_1, Nat.zero_add, Nat.reduceAdd, Nat.reduceLT, if_true, ite_true, if_false, ite_false, reduceIte, wm_up_same, wm_up_qne, wm_up_kne, r1]
  · rintro j ⟨w, T1, v6, v7⟩ hj ⟨b1, b2, b3⟩
    dsimp only at b1 b2 b3 ⊢
    obtain ⟨c1, c2, c3⟩ := pg_hi_lt hj
    obtain ⟨k, hk⟩ : ∃ k, k = pg_hi P x j := ⟨_, rfl⟩
    rw [← hk] at b1 b2 c1 c2 c3
    have rj : S.1 (35 + x) j = nI k := by rw [r2 j hj, ← c1]
    have hC : pg_C P (S.1, T1) := h
    have hu1 : us_ok P T1 := fun r hr i hi => by rw [b3 21 r (by omega)]; exact hu r hr i hi
    obtain ⟨wu, eu, hwu⟩ := e_G_usedRegisters hw hC c2
    obtain ⟨wv, ev, hwv⟩ := e_U_settersOf (S := S) hu1 (w := wu)
    have hj60 : j < 60 := by omega
    have hk60 : k < 60 := by omega
    refine wq_assoc (wq_step (by simp (disch := first | omega | decide) only [wx_bind, wx_i, wx_l, wx_r, wx_c, wx_bin, wx_un, wx_div, wx_rem, kx_fi, wx_fl, kx_fr, wf3_4, wf3_5, wf3_6, wf3_7, wf3_8, wf3_9, wf3_10, wf3_11, wf3_12, wf3_13, wf3_14, wf3_15, wf3_16, wf3_17, wf3_18, wf3_19, wf3_20, wf3_21, wf3_22, wf3_23, wf3_24, wf3_25, wf3_26, wf3_27, wf3_28, wf3_29, wf3_30, wf3_31, wf3_32, wf3_33, wf3_34, wf3_35, wf3_36, wf3_37, wf3_38, wf3_39, wf3_40, wf3_41, wf3_42, wf3_43, wf3_44, wf3_45, wf3_46, wf3_47, wf3_48, wf3_49, wf3_50, wf3_51, wf3_52, wf3_53, wf3_54, wf3_55, wf3_56, wf3_57, wf3_58, wf3_59, wf3_60, wf3_61, wf3_62, wf3_63, wf3_64, wf3_65, wf3_66, wf3_67, wf3_68, wf3_69, wf3_70, kx_ai, kx_al, kx_ar, wx_cond, wx_a1, wx_ac, wx_call, wm_pi, wm_pl, wb_and, wb_or, wb_not, ws_seq, ws_i, ws_l, ws_inc, ks_fi, ws_fl, ws_ofi, ws_ofl, ks_ai, ks_az, ks_al, ks_oai, ks_oal, wk_in, wk_in0, wz_0, wz_1, wz_b, wf0_0, wf0_2, ws_call, ws_if, ws_ife, ws_ret, ws_skip, ws_retv, ws_thr, wo_iadd, wo_isub, wo_imul, wo_iand, wo_ior, wo_ixor, wo_ishl, wo_ishr, wo_iushr, wo_ladd, wo_lsub, wo_land, wo_lor, wo_lxor, wo_lshl, wo_lushr, wo_i2l, wo_l2i, List.getElem?_cons_zero, List.getElem?_cons_succ, List.length_cons, List.length_nil, wm_st, wm_st2, List.set_cons_zero, List.set_cons_succ, hF, hA, hR, ev_cl, ev_cl0, ev_lt, ev_ge, ev_gt, ev_le, ev_eqn, ev_nen, ev_ltc, ev_gec, ev_gtc, ev_lec, ev_eqc, ev_nec, ev_pair, ev_pairL, ev_b0, ev_b1, Bool.not_not, ev_sw,  cond_true, cond_false, nI_1, Nat.zero_add, Nat.reduceAdd, Nat.reduceLT, if_true, ite_true, if_false, ite_false, reduceIte, wm_up_same, wm_up_qne, wm_up_kne, rj] <;> rfl) (wq_assoc (wq_step (by simp (disch := first | omega | decide) only [wx_bind, wx_i, wx_l, wx_r, wx_c, wx_bin, wx_un, wx_div, wx_rem, kx_fi, wx_fl, kx_fr, wf3_4, wf3_5, wf3_6, wf3_7, wf3_8, wf3_9, wf3_10, wf3_11, wf3_12, wf3_13, wf3_14, wf3_15, wf3_16, wf3_17, wf3_18, wf3_19, wf3_20, wf3_21, wf3_22, wf3_23, wf3_24, wf3_25, wf3_26, wf3_27, wf3_28, wf3_29, wf3_30, wf3_31, wf3_32, wf3_33, wf3_34, wf3_35, wf3_36, wf3_37, wf3_38, wf3_39, wf3_40, wf3_41, wf3_42, wf3_43, wf3_44, wf3_45, wf3_46, wf3_47, wf3_48, wf3_49, wf3_50, wf3_51, wf3_52, wf3_53, wf3_54, wf3_55, wf3_56, wf3_57, wf3_58, wf3_59, wf3_60, wf3_61, wf3_62, wf3_63, wf3_64, wf3_65, wf3_66, wf3_67, wf3_68, wf3_69, wf3_70, kx_ai, kx_al, kx_ar, wx_cond, wx_a1, wx_ac, wx_call, wm_pi, wm_pl, wb_and, wb_or, wb_not, ws_seq, ws_i, ws_l, ws_inc, ks_fi, ws_fl, ws_ofi, ws_ofl, ks_ai, ks_az, ks_al, ks_oai, ks_oal, wk_in, wk_in0, wz_0, wz_1, wz_b, wf0_0, wf0_2, ws_call, ws_if, ws_ife, ws_ret, ws_skip, ws_retv, ws_thr, wo_iadd, wo_isub, wo_imul, wo_iand, wo_ior, wo_ixor, wo_ishl, wo_ishr, wo_iushr, wo_ladd, wo_lsub, wo_land, wo_lor, wo_lxor, wo_lshl, wo_lushr, wo_i2l, wo_l2i, List.getElem?_cons_zero, List.getElem?_cons_succ, List.length_cons, List.length_nil, wm_st, wm_st2, List.set_cons_zero, List.set_cons_succ, hF, hA, hR, ev_cl, ev_cl0, ev_lt, ev_ge, ev_gt, ev_le, ev_eqn, ev_nen, ev_ltc, ev_gec, ev_gtc, ev_lec, ev_eqc, ev_nec, ev_pair, ev_pairL, ev_b0, ev_b1, Bool.not_not, ev_sw,  cond_true, cond_false, nI_1, Nat.zero_add, Nat.reduceAdd, Nat.reduceLT, if_true, ite_true, if_false, ite_false, reduceIte, wm_up_same, wm_up_qne, wm_up_kne, eu, ev] <;> rfl) (wq_assoc (wq_step (by simp (disch := first | omega | decide) only [wx_bind, wx_i, wx_l, wx_r, wx_c, wx_bin, wx_un, wx_div, wx_rem, kx_fi, wx_fl, kx_fr, wf3_4, wf3_5, wf3_6, wf3_7, wf3_8, wf3_9, wf3_10, wf3_11, wf3_12, wf3_13, wf3_14, wf3_15, wf3_16, wf3_17, wf3_18, wf3_19, wf3_20, wf3_21, wf3_22, wf3_23, wf3_24, wf3_25, wf3_26, wf3_27, wf3_28, wf3_29, wf3_30, wf3_31, wf3_32, wf3_33, wf3_34, wf3_35, wf3_36, wf3_37, wf3_38, wf3_39, wf3_40, wf3_41, wf3_42, wf3_43, wf3_44, wf3_45, wf3_46, wf3_47, wf3_48, wf3_49, wf3_50, wf3_51, wf3_52, wf3_53, wf3_54, wf3_55, wf3_56, wf3_57, wf3_58, wf3_59, wf3_60, wf3_61, wf3_62, wf3_63, wf3_64, wf3_65, wf3_66, wf3_67, wf3_68, wf3_69, wf3_70, kx_ai, kx_al, kx_ar, wx_cond, wx_a1, wx_ac, wx_call, wm_pi, wm_pl, wb_and, wb_or, wb_not, ws_seq, ws_i, ws_l, ws_inc, ks_fi, ws_fl, ws_ofi, ws_ofl, ks_ai, ks_az, ks_al, ks_oai, ks_oal, wk_in, wk_in0, wz_0, wz_1, wz_b, wf0_0, wf0_2, ws_call, ws_if, ws_ife, ws_ret, ws_skip, ws_retv, ws_thr, wo_iadd, wo_isub, wo_imul, wo_iand, wo_ior, wo_ixor, wo_ishl, wo_ishr, wo_iushr, wo_ladd, wo_lsub, wo_land, wo_lor, wo_lxor, wo_lshl, wo_lushr, wo_i2l, wo_l2i, List.getElem?_cons_zero, List.getElem?_cons_succ, List.length_cons, List.length_nil, wm_st, wm_st2, List.set_cons_zero, List.set_cons_succ, hF, hA, hR, ev_cl, ev_cl0, ev_lt, ev_ge, ev_gt, ev_le, ev_eqn, ev_nen, ev_ltc, ev_gec, ev_gtc, ev_lec, ev_eqc, ev_nec, ev_pair, ev_pairL, ev_b0, ev_b1, Bool.not_not, ev_sw,  cond_true, cond_false, nI_1, Nat.zero_add, Nat.reduceAdd, Nat.reduceLT, if_true, ite_true, if_false, ite_false, reduceIte, wm_up_same, wm_up_qne, wm_up_kne, e_G_setReg (S := (S.1, wm_up T1 23 k (w &&& wv))) h hm c2] <;> rfl) ?_)))))
    have f1 : ∀ i, i < 64 → bl (w &&& wv) i = gB (gt_I P x (fun i => bl (T 22 x) i = true) k i) := by
      intro i hi
      rw [l_and, b1 i hi, hwv i hi]
      refine gB_eq ?_
      rw [Bool.and_eq_true, gB_iff, gB_iff]
      constructor
      · rintro ⟨⟨q1, q2, q3⟩, _, r, q4, q5, q6⟩
        exact ⟨q1, q2, q3, r, q4, gB_iff.mp (by rw [← hwu r q4]; exact q5), q6⟩
      · rintro ⟨q1, q2, q3, r, q4, q5, q6⟩
        exact ⟨⟨q1, q2, q3⟩, q1, r, q4, by rw [hwu r q4]; exact gB_iff.mpr q5, q6⟩
    have f2 : ∀ k', k' < pg_hi P x (j + 1) → P.2 8 k' = nI x → ∀ i, i < 64 → bl (wm_up T1 23 k (w &&& wv) 23 k') i = gB (gt_I P x (fun i => bl (T 22 x) i = true) k' i) := by
      intro k' hk' hh i hi
      by_cases e : k' = k
      · subst e; rw [wm_up_same]; exact f1 i hi
      · rw [wm_up_kne e]
        refine b2 k' ?_ hh i hi
        refine Classical.byContradiction fun z => pg_hi_s hj (k := k') (by omega) hk' hh
    have f3 : ∀ q k', ¬ (q = 23 ∧ P.2 8 k' = nI x) → wm_up T1 23 k (w &&& wv) q k' = T q k' := by
      intro q k' hq
      by_cases e : q = 23
      · subst e
        by_cases e2 : k' = k
        · subst e2; exact absurd ⟨rfl, c3⟩ hq
        · rw [wm_up_kne e2]; exact b3 _ _ hq
      · rw [wm_up_qne e]; exact b3 _ _ hq
    have f4 : ∀ i, (gT P x (bl (T 22 x) i = true) i (pg_hi P x (j + 1)) ↔ i = k ∨ (gT P x (bl (T 22 x) i = true) i k ∧ gsb P k ≠ gsb P i)) := by
      intro i
      rw [gT_skip (k := k + 1) (by rw [hk]; exact pg_hi_up hj) (fun z q1 q2 => pg_hi_s hj (by omega) q2), gT_step c3]
    refine wq_ifs (t := wr_ne (gsb P k) (-1)) (by simp (disch := first | omega | decide) only [wx_bind, wx_i, wx_l, wx_r, wx_c, wx_bin, wx_un, wx_div, wx_rem, kx_fi, wx_fl, kx_fr, wf3_4, wf3_5, wf3_6, wf3_7, wf3_8, wf3_9, wf3_10, wf3_11, wf3_12, wf3_13, wf3_14, wf3_15, wf3_16, wf3_17, wf3_18, wf3_19, wf3_20, wf3_21, wf3_22, wf3_23, wf3_24, wf3_25, wf3_26, wf3_27, wf3_28, wf3_29, wf3_30, wf3_31, wf3_32, wf3_33, wf3_34, wf3_35, wf3_36, wf3_37, wf3_38, wf3_39, wf3_40, wf3_41, wf3_42, wf3_43, wf3_44, wf3_45, wf3_46, wf3_47, wf3_48, wf3_49, wf3_50, wf3_51, wf3_52, wf3_53, wf3_54, wf3_55, wf3_56, wf3_57, wf3_58, wf3_59, wf3_60, wf3_61, wf3_62, wf3_63, wf3_64, wf3_65, wf3_66, wf3_67, wf3_68, wf3_69, wf3_70, kx_ai, kx_al, kx_ar, wx_cond, wx_a1, wx_ac, wx_call, wm_pi, wm_pl, wb_and, wb_or, wb_not, ws_seq, ws_i, ws_l, ws_inc, ks_fi, ws_fl, ws_ofi, ws_ofl, ks_ai, ks_az, ks_al, ks_oai, ks_oal, wk_in, wk_in0, wz_0, wz_1, wz_b, wf0_0, wf0_2, ws_call, ws_if, ws_ife, ws_ret, ws_skip, ws_retv, ws_thr, wo_iadd, wo_isub, wo_imul, wo_iand, wo_ior, wo_ixor, wo_ishl, wo_ishr, wo_iushr, wo_ladd, wo_lsub, wo_land, wo_lor, wo_lxor, wo_lshl, wo_lushr, wo_i2l, wo_l2i, List.getElem?_cons_zero, List.getElem?_cons_succ, List.length_cons, List.length_nil, wm_st, wm_st2, List.set_cons_zero, List.set_cons_succ, hF, hA, hR, ev_cl, ev_cl0, ev_lt, ev_ge, ev_gt, ev_le, ev_eqn, ev_nen, ev_ltc, ev_gec, ev_gtc, ev_lec, ev_eqc, ev_nec, ev_pair, ev_pairL, ev_b0, ev_b1, Bool.not_not, ev_sw,  cond_true, cond_false, nI_1, Nat.zero_add, Nat.reduceAdd, Nat.reduceLT, if_true, ite_true, if_false, ite_false, reduceIte, wm_up_same, wm_up_qne, wm_up_kne] <;> rfl) (fun hc => ?_) (fun hc => ?_)
    · obtain ⟨r0, hr0, er⟩ := gsb_reg hw c2 (i32_ne.mp hc)
      have hne := i32_ne.mp hc
      rw [er]
      have eT : T1 21 r0 = T 21 r0 := b3 21 r0 (by omega)
      refine ⟨.inl ([.ref 20, .ref 1, .int (nI x), .long ((w &&& (T 21 r0 ^^^ (-1))) ||| ((1 : Int64) <<< ((nI k).toInt64 &&& 63))), .retAddr 0, .int (nI (j + 1)), .int (nI k), .int (nI r0)], (S.1, wm_up T1 23 k (w &&& wv))), by simp (disch := first | omega | decide) only [wx_bind, wx_i, wx_l, wx_r, wx_c, wx_bin, wx_un, wx_div, wx_rem, kx_fi, wx_fl, kx_fr, wf3_4, wf3_5, wf3_6, wf3_7, wf3_8, wf3_9, wf3_10, wf3_11, wf3_12, wf3_13, wf3_14, wf3_15, wf3_16, wf3_17, wf3_18, wf3_19, wf3_20, wf3_21, wf3_22, wf3_23, wf3_24, wf3_25, wf3_26, wf3_27, wf3_28, wf3_29, wf3_30, wf3_31, wf3_32, wf3_33, wf3_34, wf3_35, wf3_36, wf3_37, wf3_38, wf3_39, wf3_40, wf3_41, wf3_42, wf3_43, wf3_44, wf3_45, wf3_46, wf3_47, wf3_48, wf3_49, wf3_50, wf3_51, wf3_52, wf3_53, wf3_54, wf3_55, wf3_56, wf3_57, wf3_58, wf3_59, wf3_60, wf3_61, wf3_62, wf3_63, wf3_64, wf3_65, wf3_66, wf3_67, wf3_68, wf3_69, wf3_70, kx_ai, kx_al, kx_ar, wx_cond, wx_a1, wx_ac, wx_call, wm_pi, wm_pl, wb_and, wb_or, wb_not, ws_seq, ws_i, ws_l, ws_inc, ks_fi, ws_fl, ws_ofi, ws_ofl, ks_ai, ks_az, ks_al, ks_oai, ks_oal, wk_in, wk_in0, wz_0, wz_1, wz_b, wf0_0, wf0_2, ws_call, ws_if, ws_ife, ws_ret, ws_skip, ws_retv, ws_thr, wo_iadd, wo_isub, wo_imul, wo_iand, wo_ior, wo_ixor, wo_ishl, wo_ishr, wo_iushr, wo_ladd, wo_lsub, wo_land, wo_lor, wo_lxor, wo_lshl, wo_lushr, wo_i2l, wo_l2i, List.getElem?_cons_zero, List.getElem?_cons_succ, List.length_cons, List.length_nil, wm_st, wm_st2, List.set_cons_zero, List.set_cons_succ, hF, hA, hR, ev_cl, ev_cl0, ev_lt, ev_ge, ev_gt, ev_le, ev_eqn, ev_nen, ev_ltc, ev_gec, ev_gtc, ev_lec, ev_eqc, ev_nec, ev_pair, ev_pairL, ev_b0, ev_b1, Bool.not_not, ev_sw,  cond_true, cond_false, nI_1, Nat.zero_add, Nat.reduceAdd, Nat.reduceLT, if_true, ite_true, if_false, ite_false, reduceIte, wm_up_same, wm_up_qne, wm_up_kne, eT] <;> rfl, ((w &&& (T 21 r0 ^^^ (-1))) ||| ((1 : Int64) <<< ((nI k).toInt64 &&& 63)), wm_up T1 23 k (w &&& wv), .int (nI k), .int (nI r0)), rfl, fun i hi => ?_, f2, f3⟩
      dsimp only
      rw [l_add1 (by omega) hi, l_and, l_not hi, b1 i hi, hu r0 hr0 i hi]
      refine gB_eq ?_
      rw [Bool.or_eq_true, Bool.and_eq_true, decide_eq_true_eq, Bool.not_eq_true', gB_iff, gB_not, f4 i]
      constructor
      · rintro (⟨⟨q1, q2, q3⟩, q4⟩ | rfl)
        · exact ⟨q1, q2, Or.inr ⟨q3, fun e => q4 ⟨q1, by rw [← e, er]⟩⟩⟩
        · exact ⟨c2, hne, Or.inl rfl⟩
      · rintro ⟨q1, q2, q3⟩
        rcases q3 with rfl | ⟨q3, q4⟩
        · exact Or.inr rfl
        · exact Or.inl ⟨⟨q1, q2, q3⟩, fun e => q4 (by rw [er, e.2])⟩
    · have er : gsb P k = -1 := by
        refine Classical.byContradiction fun z => ?_
        rw [i32_ne.mpr z] at hc
        exact absurd hc (by decide)
      refine ⟨.inl ([.ref 20, .ref 1, .int (nI x), .long w, .retAddr 0, .int (nI (j + 1)), .int (nI k), .int (gsb P k)], (S.1, wm_up T1 23 k (w &&& wv))), by simp (disch := first | omega | decide) only [wx_bind, wx_i, wx_l, wx_r, wx_c, wx_bin, wx_un, wx_div, wx_rem, kx_fi, wx_fl, kx_fr, wf3_4, wf3_5, wf3_6, wf3_7, wf3_8, wf3_9, wf3_10, wf3_11, wf3_12, wf3_13, wf3_14, wf3_15, wf3_16, wf3_17, wf3_18, wf3_19, wf3_20, wf3_21, wf3_22, wf3_23, wf3_24, wf3_25, wf3_26, wf3_27, wf3_28, wf3_29, wf3_30, wf3_31, wf3_32, wf3_33, wf3_34, wf3_35, wf3_36, wf3_37, wf3_38, wf3_39, wf3_40, wf3_41, wf3_42, wf3_43, wf3_44, wf3_45, wf3_46, wf3_47, wf3_48, wf3_49, wf3_50, wf3_51, wf3_52, wf3_53, wf3_54, wf3_55, wf3_56, wf3_57, wf3_58, wf3_59, wf3_60, wf3_61, wf3_62, wf3_63, wf3_64, wf3_65, wf3_66, wf3_67, wf3_68, wf3_69, wf3_70, kx_ai, kx_al, kx_ar, wx_cond, wx_a1, wx_ac, wx_call, wm_pi, wm_pl, wb_and, wb_or, wb_not, ws_seq, ws_i, ws_l, ws_inc, ks_fi, ws_fl, ws_ofi, ws_ofl, ks_ai, ks_az, ks_al, ks_oai, ks_oal, wk_in, wk_in0, wz_0, wz_1, wz_b, wf0_0, wf0_2, ws_call, ws_if, ws_ife, ws_ret, ws_skip, ws_retv, ws_thr, wo_iadd, wo_isub, wo_imul, wo_iand, wo_ior, wo_ixor, wo_ishl, wo_ishr, wo_iushr, wo_ladd, wo_lsub, wo_land, wo_lor, wo_lxor, wo_lshl, wo_lushr, wo_i2l, wo_l2i, List.getElem?_cons_zero, List.getElem?_cons_succ, List.length_cons, List.length_nil, wm_st, wm_st2, List.set_cons_zero, List.set_cons_succ, hF, hA, hR, ev_cl, ev_cl0, ev_lt, ev_ge, ev_gt, ev_le, ev_eqn, ev_nen, ev_ltc, ev_gec, ev_gtc, ev_lec, ev_eqc, ev_nec, ev_pair, ev_pairL, ev_b0, ev_b1, Bool.not_not, ev_sw,  cond_true, cond_false, nI_1, Nat.zero_add, Nat.reduceAdd, Nat.reduceLT, if_true, ite_true, if_false, ite_false, reduceIte, wm_up_same, wm_up_qne, wm_up_kne] <;> rfl, (w, wm_up T1 23 k (w &&& wv), .int (nI k), .int (gsb P k)), rfl, fun i hi => ?_, f2, f3⟩
      dsimp only
      rw [b1 i hi]
      refine gB_cg ?_
      rw [f4 i]
      constructor
      · rintro ⟨q1, q2, q3⟩
        exact ⟨q1, q2, Or.inr ⟨q3, fun e => q2 (by rw [← e, er])⟩⟩
      · rintro ⟨q1, q2, q3⟩
        rcases q3 with rfl | ⟨q3, q4⟩
        · exact absurd er q2
        · exact ⟨q1, q2, q3⟩
  · rintro ⟨w, T1, v6, v7⟩ ⟨b1, b2, b3⟩
    dsimp only at b1 b2 b3 ⊢
    rw [pg_hi_len] at b1 b2
    have hC : pg_C P (S.1, T1) := h
    have hu1 : us_ok P T1 := fun r hr i hi => by rw [b3 21 r (by omega)]; exact hu r hr i hi
    obtain ⟨wu, eu, hwu⟩ := e_E_usedRegs hw hC hx
    obtain ⟨wv, ev, hwv⟩ := e_U_settersOf (S := S) hu1 (w := wu)
    refine wq_step (by simp (disch := first | omega | decide) only [wx_bind, wx_i, wx_l, wx_r, wx_c, wx_bin, wx_un, wx_div, wx_rem, kx_fi, wx_fl, kx_fr, wf3_4, wf3_5, wf3_6, wf3_7, wf3_8, wf3_9, wf3_10, wf3_11, wf3_12, wf3_13, wf3_14, wf3_15, wf3_16, wf3_17, wf3_18, wf3_19, wf3_20, wf3_21, wf3_22, wf3_23, wf3_24, wf3_25, wf3_26, wf3_27, wf3_28, wf3_29, wf3_30, wf3_31, wf3_32, wf3_33, wf3_34, wf3_35, wf3_36, wf3_37, wf3_38, wf3_39, wf3_40, wf3_41, wf3_42, wf3_43, wf3_44, wf3_45, wf3_46, wf3_47, wf3_48, wf3_49, wf3_50, wf3_51, wf3_52, wf3_53, wf3_54, wf3_55, wf3_56, wf3_57, wf3_58, wf3_59, wf3_60, wf3_61, wf3_62, wf3_63, wf3_64, wf3_65, wf3_66, wf3_67, wf3_68, wf3_69, wf3_70, kx_ai, kx_al, kx_ar, wx_cond, wx_a1, wx_ac, wx_call, wm_pi, wm_pl, wb_and, wb_or, wb_not, ws_seq, ws_i, ws_l, ws_inc, ks_fi, ws_fl, ws_ofi, ws_ofl, ks_ai, ks_az, ks_al, ks_oai, ks_oal, wk_in, wk_in0, wz_0, wz_1, wz_b, wf0_0, wf0_2, ws_call, ws_if, ws_ife, ws_ret, ws_skip, ws_retv, ws_thr, wo_iadd, wo_isub, wo_imul, wo_iand, wo_ior, wo_ixor, wo_ishl, wo_ishr, wo_iushr, wo_ladd, wo_lsub, wo_land, wo_lor, wo_lxor, wo_lshl, wo_lushr, wo_i2l, wo_l2i, List.getElem?_cons_zero, List.getElem?_cons_succ, List.length_cons, List.length_nil, wm_st, wm_st2, List.set_cons_zero, List.set_cons_succ, hF, hA, hR, ev_cl, ev_cl0, ev_lt, ev_ge, ev_gt, ev_le, ev_eqn, ev_nen, ev_ltc, ev_gec, ev_gtc, ev_lec, ev_eqc, ev_nec, ev_pair, ev_pairL, ev_b0, ev_b1, Bool.not_not, ev_sw,  cond_true, cond_false, nI_1, Nat.zero_add, Nat.reduceAdd, Nat.reduceLT, if_true, ite_true, if_false, ite_false, reduceIte, wm_up_same, wm_up_qne, wm_up_kne, eu, ev] <;> rfl) (wq_rets (by simp (disch := first | omega | decide) only [wx_bind, wx_i, wx_l, wx_r, wx_c, wx_bin, wx_un, wx_div, wx_rem, kx_fi, wx_fl, kx_fr, wf3_4, wf3_5, wf3_6, wf3_7, wf3_8, wf3_9, wf3_10, wf3_11, wf3_12, wf3_13, wf3_14, wf3_15, wf3_16, wf3_17, wf3_18, wf3_19, wf3_20, wf3_21, wf3_22, wf3_23, wf3_24, wf3_25, wf3_26, wf3_27, wf3_28, wf3_29, wf3_30, wf3_31, wf3_32, wf3_33, wf3_34, wf3_35, wf3_36, wf3_37, wf3_38, wf3_39, wf3_40, wf3_41, wf3_42, wf3_43, wf3_44, wf3_45, wf3_46, wf3_47, wf3_48, wf3_49, wf3_50, wf3_51, wf3_52, wf3_53, wf3_54, wf3_55, wf3_56, wf3_57, wf3_58, wf3_59, wf3_60, wf3_61, wf3_62, wf3_63, wf3_64, wf3_65, wf3_66, wf3_67, wf3_68, wf3_69, wf3_70, kx_ai, kx_al, kx_ar, wx_cond, wx_a1, wx_ac, wx_call, wm_pi, wm_pl, wb_and, wb_or, wb_not, ws_seq, ws_i, ws_l, ws_inc, ks_fi, ws_fl, ws_ofi, ws_ofl, ks_ai, ks_az, ks_al, ks_oai, ks_oal, wk_in, wk_in0, wz_0, wz_1, wz_b, wf0_0, wf0_2, ws_call, ws_if, ws_ife, ws_ret, ws_skip, ws_retv, ws_thr, wo_iadd, wo_isub, wo_imul, wo_iand, wo_ior, wo_ixor, wo_ishl, wo_ishr, wo_iushr, wo_ladd, wo_lsub, wo_land, wo_lor, wo_lxor, wo_lshl, wo_lushr, wo_i2l, wo_l2i, List.getElem?_cons_zero, List.getElem?_cons_succ, List.length_cons, List.length_nil, wm_st, wm_st2, List.set_cons_zero, List.set_cons_succ, hF, hA, hR, ev_cl, ev_cl0, ev_lt, ev_ge, ev_gt, ev_le, ev_eqn, ev_nen, ev_ltc, ev_gec, ev_gtc, ev_lec, ev_eqc, ev_nec, ev_pair, ev_pairL, ev_b0, ev_b1, Bool.not_not, ev_sw,  cond_true, cond_false, nI_1, Nat.zero_add, Nat.reduceAdd, Nat.reduceLT, if_true, ite_true, if_false, ite_false, reduceIte, wm_up_same, wm_up_qne, wm_up_kne] <;> rfl) ⟨rfl, w, _, rfl, b1, fun k hk hh i hi => ?_, fun i hi => ?_, fun q k hq => ?_⟩)
    · rw [wm_up_qne (by omega)]; exact b2 k hk hh i hi
    · rw [wm_up_same, l_and, b1 i hi, hwv i hi]
      refine gB_eq ?_
      rw [Bool.and_eq_true, gB_iff, gB_iff]
      constructor
      · rintro ⟨⟨q1, q2, q3⟩, _, r, q4, q5, q6⟩
        exact ⟨q1, q2, q3, r, q4, gB_iff.mp (by rw [← hwu r q4]; exact q5), q6⟩
      · rintro ⟨q1, q2, q3, r, q4, q5, q6⟩
        exact ⟨⟨q1, q2, q3⟩, q1, r, q4, by rw [hwu r q4]; exact gB_iff.mpr q5, q6⟩
    · by_cases e : q = 24
      · subst e
        rw [wm_up_kne (by omega)]; exact b3 _ _ (by omega)
      · rw [wm_up_qne e]; exact b3 _ _ (fun z => hq (Or.inl z))
  · dsimp only
    refine gB_eq ⟨fun q => ?_, fun q => ?_⟩
    · have := hAs i hi q
      exact ⟨this.1, this.2, Or.inr ⟨q, fun k _ q2 q3 => absurd q3 (pg_hi_0 q2)⟩⟩
    · rcases q.2.2 with ⟨q1, q2, _⟩ | q2
      · exact absurd q1 (pg_hi_0 q2)
      · exact q2.1
end PGI

section WME_Z
/-! CodePrunerModel.dominates -/
def y_Z_dominates : MethodName := ⟨"CodePrunerModel", "dominates", "(II)Z"⟩
abbrev b_Z_dominates : ByteArray := prog_10_method_22_code
def tb_Z_dominates : List wm_R := [(0, .aload_n 0, 1, 0), (1, .getfield 37, 4, 0), (4, .bipush 12, 6, 0), (6, .iload_n 1, 7, 0), (7, .imul, 8, 0), (8, .iload_n 2, 9, 0), (9, .iadd, 10, 0), (10, .baload, 11, 0), (11, .ireturn, 12, 0)]
theorem tk_Z_dominates : tb_Z_dominates.all (wm_rokb b_Z_dominates) = true := by decide +kernel
abbrev cd_Z_dominates : Cond := Cond.code y_Z_dominates b_Z_dominates 3 (wm_rtT 3)
theorem cw_Z_dominates : cd_Z_dominates ∈ gw := gw_at 823 (by decide +kernel) rfl
theorem gi_Z_dominates : Cond.instanceMethod y_Z_dominates ∈ gw := gw_at 822 (by decide +kernel) rfl
theorem gs_Z_dominates : Cond.selects "CodePrunerModel" y_Z_dominates y_Z_dominates ∈ gw := gw_of (List.mem_append_left _ (List.mem_of_getElem? (i := 27) (by decide +kernel))) rfl
def t_Z_dominates : wm_St := (ws_ret .int (wx_ai w_L 3 (wx_fr w_L 8 13 (wx_r 0)) (wx_bin wo_iadd (wx_bin wo_imul (wx_c (12 : Int32)) (wx_i 1)) (wx_i 2))))
def f_Z_dominates : List Value → wm_S → Option (Option Value × wm_S) := wm_fn (wm_isc w_L 8) 3 3 t_Z_dominates
def rm_Z_dominates : Room := { frames := 0, locals := 0 }
abbrev cV_Z_dominates : List (Nat × wm_M) := []
abbrev cS_Z_dominates : List (Nat × wm_M) := []
set_option maxRecDepth 20000 in
theorem bd_Z_dominates (w : wm_K) (ret : Option Value → wm_S → Prop) (hc : wm_cl w_L fl_Z cs_Z none cV_Z_dominates cS_Z_dominates ret tb_Z_dominates w) : wm_T w tb_Z_dominates ret 0 9999 t_Z_dominates :=
  (wm_t_ret hc (wm_x_az hc (wm_x_fr hc (wm_x_rn hc rfl rfl) rfl rfl) (wm_x_bin hc (wm_x_bin hc (wm_x_bipush hc rfl (by decide)) (wm_x_in hc rfl rfl) rfl rfl (fun _ _ _ _ _ _ q => q)) (wm_x_in hc rfl rfl) rfl rfl (fun _ _ _ _ _ _ q => q)) rfl) rfl rfl (fun _ _ _ _ q => q))
theorem c_Z_dominates {l : Launch} {D : va_G} {A : Nat → Prop} {ad : Nat → Nat} {cA : Nat → ClassId} (hY : wm_Y cl0 (tys0 cA) A ad cA w_L) : wm_con l y_Z_dominates (cd_Z_dominates :: gw) rm_Z_dominates D cl0 (tys0 cA) A ad cA w_L f_Z_dominates :=
  wm_meth (cV := cV_Z_dominates) (cS := cS_Z_dominates) (by decide) rfl hY (fun r h => wm_fok_mono (fun _ h => List.mem_cons_of_mem _ h) (fk_Z r h)) (fun r h => wm_cok_mono (fun _ h => List.mem_cons_of_mem _ h) (ck_Z r h)) tk_Z_dominates
    (fun _ h => nomatch h)
    (fun _ h => nomatch h)
    bd_Z_dominates
/-! CodePrunerModel.isFirst -/
def y_Z_isFirst : MethodName := ⟨"CodePrunerModel", "isFirst", "(II)Z"⟩
abbrev b_Z_isFirst : ByteArray := prog_10_method_24_code
def tb_Z_isFirst : List wm_R := [(0, .iconst 1, 1, 0), (1, .istore_n 3, 2, 0), (2, .iconst 0, 3, 0), (3, .istore 4, 5, 0), (5, .iload 4, 7, 0), (7, .aload_n 0, 8, 0), (8, .getfield 98, 11, 0), (11, .if_icmp .ge 51, 14, 62), (14, .iload_n 3, 15, 0), (15, .ifCond .eq 39, 18, 54), (18, .iload 4, 20, 0), (20, .iload_n 2, 21, 0), (21, .if_icmp .eq 29, 24, 50), (24, .iload 4, 26, 0), (26, .iload_n 1, 27, 0), (27, .if_icmp .eq 23, 30, 50), (30, .aload_n 0, 31, 0), (31, .iload 4, 33, 0), (33, .iload_n 2, 34, 0), (34, .invokevirtual 135, 37, 0), (37, .ifCond .eq 13, 40, 50), (40, .aload_n 0, 41, 0), (41, .iload 4, 43, 0), (43, .iload_n 1, 44, 0), (44, .invokevirtual 135, 47, 0), (47, .ifCond .eq 7, 50, 54), (50, .iconst 1, 51, 0), (51, .goto 4, 54, 55), (54, .iconst 0, 55, 0), (55, .istore_n 3, 56, 0), (56, .iinc 4 1, 59, 0), (59, .goto (-54), 62, 5), (62, .iload_n 3, 63, 0), (63, .ireturn, 64, 0)]
theorem tk_Z_isFirst : tb_Z_isFirst.all (wm_rokb b_Z_isFirst) = true := by decide +kernel
abbrev cd_Z_isFirst : Cond := Cond.code y_Z_isFirst b_Z_isFirst 5 (wm_rtT 3)
theorem cw_Z_isFirst : cd_Z_isFirst ∈ gw := gw_at 827 (by decide +kernel) rfl
theorem gi_Z_isFirst : Cond.instanceMethod y_Z_isFirst ∈ gw := gw_at 826 (by decide +kernel) rfl
theorem gs_Z_isFirst : Cond.selects "CodePrunerModel" y_Z_isFirst y_Z_isFirst ∈ gw := gw_of (List.mem_append_left _ (List.mem_of_getElem? (i := 28) (by decide +kernel))) rfl
def t_Z_isFirst : wm_St := (ws_seq (ws_i 3 (wx_c (1 : Int32)))
  (ws_seq (ws_seq (ws_i 4 (wx_c (0 : Int32)))
  (ws_loop (wx_bin wr_lt (wx_i 4) (wx_fi w_L 8 1 (wx_r 0)))
  (ws_seq (ws_i 3 (wx_cond (wb_and (wx_un (fun v => wr_ne v 0) (wx_i 3)) (wb_or (wb_or (wb_or (wx_bin wr_eq (wx_i 4) (wx_i 2)) (wx_bin wr_eq (wx_i 4) (wx_i 1))) (wb_not (wx_un (fun v => wr_ne v 0) (wx_call wm_pi f_Z_dominates (wx_ac .ref (wx_r 0) (wx_ac .int (wx_i 4) (wx_a1 .int (wx_i 2)))))))) (wx_un (fun v => wr_ne v 0) (wx_call wm_pi f_Z_dominates (wx_ac .ref (wx_r 0) (wx_ac .int (wx_i 4) (wx_a1 .int (wx_i 1)))))))) (wx_c (1 : Int32)) (wx_c (0 : Int32))))
  (ws_inc 4 (1 : Int32))) w_N))
  (ws_ret .int (wx_i 3))))
def f_Z_isFirst : List Value → wm_S → Option (Option Value × wm_S) := wm_fn (wm_isc w_L 8) 3 5 t_Z_isFirst
def rm_Z_isFirst : Room := { frames := 1, locals := 22 }
abbrev cV_Z_isFirst : List (Nat × wm_M) := [(135, 3, f_Z_dominates)]
abbrev cS_Z_isFirst : List (Nat × wm_M) := []
set_option maxRecDepth 20000 in
theorem bd_Z_isFirst (w : wm_K) (ret : Option Value → wm_S → Prop) (hc : wm_cl w_L fl_Z cs_Z none cV_Z_isFirst cS_Z_isFirst ret tb_Z_isFirst w) : wm_T w tb_Z_isFirst ret 0 9999 t_Z_isFirst :=
  (wm_t_seq (wm_t_in hc (wm_x_iconst hc rfl (by decide)) rfl rfl)
  (wm_t_seq (wm_t_seq (wm_t_i hc (wm_x_iconst hc rfl (by decide)) rfl)
  (wm_t_loop (wm_b_cmp hc (wm_x_i hc rfl) (wm_x_fi hc (wm_x_rn hc rfl rfl) rfl rfl) rfl rfl wm_j_ltF)
  (wm_t_seq (wm_t_in hc (wm_x_cond (wm_b_and (wm_b_un hc (wm_x_in hc rfl rfl) rfl rfl wm_z_neF) (wm_b_or (wm_b_or (wm_b_or (wm_b_cmp hc (wm_x_i hc rfl) (wm_x_in hc rfl rfl) rfl rfl wm_j_eqT) (wm_b_cmp hc (wm_x_i hc rfl) (wm_x_in hc rfl rfl) rfl rfl wm_j_eqT)) (wm_b_not (wm_b_un hc (wm_x_callV hc wm_pi_ok (wm_a_c (wm_x_rn hc rfl rfl) (wm_a_c (wm_x_i hc rfl) (wm_a_1 (wm_x_in hc rfl rfl)))) rfl rfl (by decide)) rfl rfl wm_z_neF))) (wm_b_un hc (wm_x_callV hc wm_pi_ok (wm_a_c (wm_x_rn hc rfl rfl) (wm_a_c (wm_x_i hc rfl) (wm_a_1 (wm_x_in hc rfl rfl)))) rfl rfl (by decide)) rfl rfl wm_z_neF))) (wm_x_iconst hc rfl (by decide)) (wm_x_iconst hc rfl (by decide)) rfl) rfl rfl)
  (wm_t_inc hc rfl (by decide))) rfl))
  (wm_t_ret hc (wm_x_in hc rfl rfl) rfl rfl (fun _ _ _ _ q => q))))
theorem c_Z_isFirst {l : Launch} {D : va_G} {A : Nat → Prop} {ad : Nat → Nat} {cA : Nat → ClassId} (hY : wm_Y cl0 (tys0 cA) A ad cA w_L) : wm_con l y_Z_isFirst (cd_Z_isFirst :: gw) rm_Z_isFirst D cl0 (tys0 cA) A ad cA w_L f_Z_isFirst :=
  wm_meth (cV := cV_Z_isFirst) (cS := cS_Z_isFirst) (by decide) rfl hY (fun r h => wm_fok_mono (fun _ h => List.mem_cons_of_mem _ h) (fk_Z r h)) (fun r h => wm_cok_mono (fun _ h => List.mem_cons_of_mem _ h) (ck_Z r h)) tk_Z_isFirst
    (List.forall_mem_cons.mpr ⟨⟨y_Z_dominates, b_Z_dominates, 3, wm_rtT 3, cd_Z_dominates :: gw, gw, rm_Z_dominates, 2, 8, 29, T_Z, c_Z_dominates hY, rfl, gw_V (gw_at 820 (by decide +kernel) rfl) gi_Z_dominates gs_Z_dominates gn_Z cw_Z_dominates, rfl, rfl, ⟨by decide, by decide, by decide +kernel⟩, rfl, ⟨by decide, by decide⟩, rfl, fun vs S r h => (wm_fn_some (v := r.1) (S' := r.2) h).1⟩, fun _ h => nomatch h⟩)
    (fun _ h => nomatch h)
    bd_Z_isFirst
/-! CodePrunerModel.postDominate -/
def y_Z_postDominate : MethodName := ⟨"CodePrunerModel", "postDominate", "()V"⟩
abbrev b_Z_postDominate : ByteArray := prog_10_method_23_code
def tb_Z_postDominate : List wm_R := [(0, .iconst 0, 1, 0), (1, .istore_n 1, 2, 0), (2, .iload_n 1, 3, 0), (3, .aload_n 0, 4, 0), (4, .getfield 98, 7, 0), (7, .if_icmp .ge 55, 10, 62), (10, .iconst 0, 11, 0), (11, .istore_n 2, 12, 0), (12, .iload_n 2, 13, 0), (13, .aload_n 0, 14, 0), (14, .getfield 98, 17, 0), (17, .if_icmp .ge 39, 20, 56), (20, .aload_n 0, 21, 0), (21, .getfield 37, 24, 0), (24, .bipush 12, 26, 0), (26, .iload_n 1, 27, 0), (27, .imul, 28, 0), (28, .iload_n 2, 29, 0), (29, .iadd, 30, 0), (30, .iload_n 1, 31, 0), (31, .iload_n 2, 32, 0), (32, .if_icmp .eq 12, 35, 44), (35, .aload_n 0, 36, 0), (36, .iload_n 2, 37, 0), (37, .iload_n 1, 38, 0), (38, .invokevirtual 132, 41, 0), (41, .ifCond .ne 7, 44, 48), (44, .iconst 1, 45, 0), (45, .goto 4, 48, 49), (48, .iconst 0, 49, 0), (49, .bastore, 50, 0), (50, .iinc 2 1, 53, 0), (53, .goto (-41), 56, 12), (56, .iinc 1 1, 59, 0), (59, .goto (-57), 62, 2), (62, .iconst 0, 63, 0), (63, .istore_n 1, 64, 0), (64, .iload_n 1, 65, 0), (65, .aload_n 0, 66, 0), (66, .getfield 98, 69, 0), (69, .if_icmp .ge 71, 72, 140), (72, .aload_n 0, 73, 0), (73, .getfield 41, 76, 0), (76, .iload_n 1, 77, 0), (77, .iconst (-1), 78, 0), (78, .iastore, 79, 0), (79, .iconst 0, 80, 0), (80, .istore_n 2, 81, 0), (81, .iload_n 2, 82, 0), (82, .aload_n 0, 83, 0), (83, .getfield 98, 86, 0), (86, .if_icmp .ge 48, 89, 134), (89, .aload_n 0, 90, 0), (90, .getfield 41, 93, 0), (93, .iload_n 1, 94, 0), (94, .iload_n 2, 95, 0), (95, .iload_n 1, 96, 0), (96, .if_icmp .eq 25, 99, 121), (99, .aload_n 0, 100, 0), (100, .iload_n 2, 101, 0), (101, .iload_n 1, 102, 0), (102, .invokevirtual 135, 105, 0), (105, .ifCond .eq 16, 108, 121), (108, .aload_n 0, 109, 0), (109, .iload_n 2, 110, 0), (110, .iload_n 1, 111, 0), (111, .invokevirtual 138, 114, 0), (114, .ifCond .eq 7, 117, 121), (117, .iload_n 2, 118, 0), (118, .goto 9, 121, 127), (121, .aload_n 0, 122, 0), (122, .getfield 41, 125, 0), (125, .iload_n 1, 126, 0), (126, .iaload, 127, 0), (127, .iastore, 128, 0), (128, .iinc 2 1, 131, 0), (131, .goto (-50), 134, 81), (134, .iinc 1 1, 137, 0), (137, .goto (-73), 140, 64), (140, .return_, 141, 0)]
theorem tk_Z_postDominate : tb_Z_postDominate.all (wm_rokb b_Z_postDominate) = true := by decide +kernel
abbrev cd_Z_postDominate : Cond := Cond.code y_Z_postDominate b_Z_postDominate 3 (wm_rtT 0)
theorem cw_Z_postDominate : cd_Z_postDominate ∈ gw := gw_at 819 (by decide +kernel) rfl
theorem gi_Z_postDominate : Cond.instanceMethod y_Z_postDominate ∈ gw := gw_at 818 (by decide +kernel) rfl
theorem gs_Z_postDominate : Cond.selects "CodePrunerModel" y_Z_postDominate y_Z_postDominate ∈ gw := gw_of (List.mem_append_left _ (List.mem_of_getElem? (i := 26) (by decide +kernel))) rfl
def t_Z_postDominate : wm_St := (ws_seq (ws_seq (ws_i 1 (wx_c (0 : Int32)))
  (ws_loop (wx_bin wr_lt (wx_i 1) (wx_fi w_L 8 1 (wx_r 0)))
  (ws_seq (ws_seq (ws_i 2 (wx_c (0 : Int32)))
  (ws_loop (wx_bin wr_lt (wx_i 2) (wx_fi w_L 8 1 (wx_r 0)))
  (ws_seq (ws_az w_L (wx_fr w_L 8 13 (wx_r 0)) (wx_bin wo_iadd (wx_bin wo_imul (wx_c (12 : Int32)) (wx_i 1)) (wx_i 2)) (wx_cond (wb_or (wx_bin wr_eq (wx_i 1) (wx_i 2)) (wb_not (wx_un (fun v => wr_ne v 0) (wx_call wm_pi f_Z_comes (wx_ac .ref (wx_r 0) (wx_ac .int (wx_i 2) (wx_a1 .int (wx_i 1)))))))) (wx_c (1 : Int32)) (wx_c (0 : Int32))))
  (ws_inc 2 (1 : Int32))) w_N))
  (ws_inc 1 (1 : Int32))) w_N))
  (ws_seq (ws_seq (ws_i 1 (wx_c (0 : Int32)))
  (ws_loop (wx_bin wr_lt (wx_i 1) (wx_fi w_L 8 1 (wx_r 0)))
  (ws_seq (ws_seq (ws_ai w_L (wx_fr w_L 8 14 (wx_r 0)) (wx_i 1) (wx_c (-1 : Int32)))
  (ws_seq (ws_i 2 (wx_c (0 : Int32)))
  (ws_loop (wx_bin wr_lt (wx_i 2) (wx_fi w_L 8 1 (wx_r 0)))
  (ws_seq (ws_ai w_L (wx_fr w_L 8 14 (wx_r 0)) (wx_i 1) (wx_cond (wb_and (wb_and (wx_bin wr_ne (wx_i 2) (wx_i 1)) (wx_un (fun v => wr_ne v 0) (wx_call wm_pi f_Z_dominates (wx_ac .ref (wx_r 0) (wx_ac .int (wx_i 2) (wx_a1 .int (wx_i 1))))))) (wx_un (fun v => wr_ne v 0) (wx_call wm_pi f_Z_isFirst (wx_ac .ref (wx_r 0) (wx_ac .int (wx_i 2) (wx_a1 .int (wx_i 1))))))) (wx_i 2) (wx_ai w_L 0 (wx_fr w_L 8 14 (wx_r 0)) (wx_i 1))))
  (ws_inc 2 (1 : Int32))) w_N)))
  (ws_inc 1 (1 : Int32))) w_N))
  ws_retv))
def f_Z_postDominate : List Value → wm_S → Option (Option Value × wm_S) := wm_fn (wm_isc w_L 8) 0 3 t_Z_postDominate
def rm_Z_postDominate : Room := { frames := 2, locals := 49 }
abbrev cV_Z_postDominate : List (Nat × wm_M) := [(132, 3, f_Z_comes), (135, 3, f_Z_dominates), (138, 3, f_Z_isFirst)]
abbrev cS_Z_postDominate : List (Nat × wm_M) := []
set_option maxRecDepth 20000 in
theorem bd_Z_postDominate (w : wm_K) (ret : Option Value → wm_S → Prop) (hc : wm_cl w_L fl_Z cs_Z none cV_Z_postDominate cS_Z_postDominate ret tb_Z_postDominate w) : wm_T w tb_Z_postDominate ret 0 9999 t_Z_postDominate :=
  (wm_t_seq (wm_t_seq (wm_t_in hc (wm_x_iconst hc rfl (by decide)) rfl rfl)
  (wm_t_loop (wm_b_cmp hc (wm_x_in hc rfl rfl) (wm_x_fi hc (wm_x_rn hc rfl rfl) rfl rfl) rfl rfl wm_j_ltF)
  (wm_t_seq (wm_t_seq (wm_t_in hc (wm_x_iconst hc rfl (by decide)) rfl rfl)
  (wm_t_loop (wm_b_cmp hc (wm_x_in hc rfl rfl) (wm_x_fi hc (wm_x_rn hc rfl rfl) rfl rfl) rfl rfl wm_j_ltF)
  (wm_t_seq (wm_t_az hc (wm_x_fr hc (wm_x_rn hc rfl rfl) rfl rfl) (wm_x_bin hc (wm_x_bin hc (wm_x_bipush hc rfl (by decide)) (wm_x_in hc rfl rfl) rfl rfl (fun _ _ _ _ _ _ q => q)) (wm_x_in hc rfl rfl) rfl rfl (fun _ _ _ _ _ _ q => q)) (wm_x_cond (wm_b_or (wm_b_cmp hc (wm_x_in hc rfl rfl) (wm_x_in hc rfl rfl) rfl rfl wm_j_eqT) (wm_b_not (wm_b_un hc (wm_x_callV hc wm_pi_ok (wm_a_c (wm_x_rn hc rfl rfl) (wm_a_c (wm_x_in hc rfl rfl) (wm_a_1 (wm_x_in hc rfl rfl)))) rfl rfl (by decide)) rfl rfl wm_z_neT))) (wm_x_iconst hc rfl (by decide)) (wm_x_iconst hc rfl (by decide)) rfl) rfl)
  (wm_t_inc hc rfl (by decide))) rfl))
  (wm_t_inc hc rfl (by decide))) rfl))
  (wm_t_seq (wm_t_seq (wm_t_in hc (wm_x_iconst hc rfl (by decide)) rfl rfl)
  (wm_t_loop (wm_b_cmp hc (wm_x_in hc rfl rfl) (wm_x_fi hc (wm_x_rn hc rfl rfl) rfl rfl) rfl rfl wm_j_ltF)
  (wm_t_seq (wm_t_seq (wm_t_ai hc (wm_x_fr hc (wm_x_rn hc rfl rfl) rfl rfl) (wm_x_in hc rfl rfl) (wm_x_iconst hc rfl (by decide)) rfl)
  (wm_t_seq (wm_t_in hc (wm_x_iconst hc rfl (by decide)) rfl rfl)
  (wm_t_loop (wm_b_cmp hc (wm_x_in hc rfl rfl) (wm_x_fi hc (wm_x_rn hc rfl rfl) rfl rfl) rfl rfl wm_j_ltF)
  (wm_t_seq (wm_t_ai hc (wm_x_fr hc (wm_x_rn hc rfl rfl) rfl rfl) (wm_x_in hc rfl rfl) (wm_x_cond (wm_b_and (wm_b_and (wm_b_cmp hc (wm_x_in hc rfl rfl) (wm_x_in hc rfl rfl) rfl rfl wm_j_neF) (wm_b_un hc (wm_x_callV hc wm_pi_ok (wm_a_c (wm_x_rn hc rfl rfl) (wm_a_c (wm_x_in hc rfl rfl) (wm_a_1 (wm_x_in hc rfl rfl)))) rfl rfl (by decide)) rfl rfl wm_z_neF)) (wm_b_un hc (wm_x_callV hc wm_pi_ok (wm_a_c (wm_x_rn hc rfl rfl) (wm_a_c (wm_x_in hc rfl rfl) (wm_a_1 (wm_x_in hc rfl rfl)))) rfl rfl (by decide)) rfl rfl wm_z_neF)) (wm_x_in hc rfl rfl) (wm_x_ai hc (wm_x_fr hc (wm_x_rn hc rfl rfl) rfl rfl) (wm_x_in hc rfl rfl) rfl) rfl) rfl)
  (wm_t_inc hc rfl (by decide))) rfl)))
  (wm_t_inc hc rfl (by decide))) rfl))
  (wm_t_retv hc rfl)))
theorem c_Z_postDominate {l : Launch} {D : va_G} {A : Nat → Prop} {ad : Nat → Nat} {cA : Nat → ClassId} (hY : wm_Y cl0 (tys0 cA) A ad cA w_L) : wm_con l y_Z_postDominate (cd_Z_postDominate :: gw) rm_Z_postDominate D cl0 (tys0 cA) A ad cA w_L f_Z_postDominate :=
  wm_meth (cV := cV_Z_postDominate) (cS := cS_Z_postDominate) (by decide) rfl hY (fun r h => wm_fok_mono (fun _ h => List.mem_cons_of_mem _ h) (fk_Z r h)) (fun r h => wm_cok_mono (fun _ h => List.mem_cons_of_mem _ h) (ck_Z r h)) tk_Z_postDominate
    (List.forall_mem_cons.mpr ⟨⟨y_Z_comes, b_Z_comes, 8, wm_rtT 3, cd_Z_comes :: gw, gw, rm_Z_comes, 2, 8, 29, T_Z, c_Z_comes hY, rfl, gw_V (gw_at 808 (by decide +kernel) rfl) gi_Z_comes gs_Z_comes gn_Z cw_Z_comes, rfl, rfl, ⟨by decide, by decide, by decide +kernel⟩, rfl, ⟨by decide, by decide⟩, rfl, fun vs S r h => (wm_fn_some (v := r.1) (S' := r.2) h).1⟩, List.forall_mem_cons.mpr ⟨⟨y_Z_dominates, b_Z_dominates, 3, wm_rtT 3, cd_Z_dominates :: gw, gw, rm_Z_dominates, 2, 8, 29, T_Z, c_Z_dominates hY, rfl, gw_V (gw_at 820 (by decide +kernel) rfl) gi_Z_dominates gs_Z_dominates gn_Z cw_Z_dominates, rfl, rfl, ⟨by decide, by decide, by decide +kernel⟩, rfl, ⟨by decide, by decide⟩, rfl, fun vs S r h => (wm_fn_some (v := r.1) (S' := r.2) h).1⟩, List.forall_mem_cons.mpr ⟨⟨y_Z_isFirst, b_Z_isFirst, 5, wm_rtT 3, cd_Z_isFirst :: gw, gw, rm_Z_isFirst, 2, 8, 29, T_Z, c_Z_isFirst hY, rfl, gw_V (gw_at 824 (by decide +kernel) rfl) gi_Z_isFirst gs_Z_isFirst gn_Z cw_Z_isFirst, rfl, rfl, ⟨by decide, by decide, by decide +kernel⟩, rfl, ⟨by decide, by decide⟩, rfl, fun vs S r h => (wm_fn_some (v := r.1) (S' := r.2) h).1⟩, fun _ h => nomatch h⟩⟩⟩)
    (fun _ h => nomatch h)
    bd_Z_postDominate
/-! CodePrunerModel.dependsOn -/
def y_Z_dependsOn : MethodName := ⟨"CodePrunerModel", "dependsOn", "(II)Z"⟩
abbrev b_Z_dependsOn : ByteArray := prog_10_method_25_code
def tb_Z_dependsOn : List wm_R := [(0, .aload_n 0, 1, 0), (1, .getfield 7, 4, 0), (4, .iload_n 2, 5, 0), (5, .iaload, 6, 0), (6, .iconst 2, 7, 0), (7, .if_icmp .eq 5, 10, 12), (10, .iconst 0, 11, 0), (11, .ireturn, 12, 0), (12, .aload_n 0, 13, 0), (13, .iload_n 1, 14, 0), (14, .aload_n 0, 15, 0), (15, .getfield 16, 18, 0), (18, .iload_n 2, 19, 0), (19, .iaload, 20, 0), (20, .invokevirtual 135, 23, 0), (23, .ifCond .ne 17, 26, 40), (26, .aload_n 0, 27, 0), (27, .iload_n 1, 28, 0), (28, .aload_n 0, 29, 0), (29, .getfield 19, 32, 0), (32, .iload_n 2, 33, 0), (33, .iaload, 34, 0), (34, .invokevirtual 135, 37, 0), (37, .ifCond .eq 21, 40, 58), (40, .iload_n 1, 41, 0), (41, .iload_n 2, 42, 0), (42, .if_icmp .eq 12, 45, 54), (45, .aload_n 0, 46, 0), (46, .iload_n 1, 47, 0), (47, .iload_n 2, 48, 0), (48, .invokevirtual 135, 51, 0), (51, .ifCond .ne 7, 54, 58), (54, .iconst 1, 55, 0), (55, .goto 4, 58, 59), (58, .iconst 0, 59, 0), (59, .ireturn, 60, 0)]
theorem tk_Z_dependsOn : tb_Z_dependsOn.all (wm_rokb b_Z_dependsOn) = true := by decide +kernel
abbrev cd_Z_dependsOn : Cond := Cond.code y_Z_dependsOn b_Z_dependsOn 3 (wm_rtT 3)
theorem cw_Z_dependsOn : cd_Z_dependsOn ∈ gw := gw_at 867 (by decide +kernel) rfl
theorem gi_Z_dependsOn : Cond.instanceMethod y_Z_dependsOn ∈ gw := gw_at 866 (by decide +kernel) rfl
theorem gs_Z_dependsOn : Cond.selects "CodePrunerModel" y_Z_dependsOn y_Z_dependsOn ∈ gw := gw_of (List.mem_append_left _ (List.mem_of_getElem? (i := 38) (by decide +kernel))) rfl
def t_Z_dependsOn : wm_St := (ws_seq (ws_if (wx_bin wr_ne (wx_ai w_L 0 (wx_fr w_L 8 2 (wx_r 0)) (wx_i 2)) (wx_c (2 : Int32)))
  (ws_ret .int (wx_c (0 : Int32))))
  (ws_ret .int (wx_cond (wb_and (wb_or (wx_un (fun v => wr_ne v 0) (wx_call wm_pi f_Z_dominates (wx_ac .ref (wx_r 0) (wx_ac .int (wx_i 1) (wx_a1 .int (wx_ai w_L 0 (wx_fr w_L 8 4 (wx_r 0)) (wx_i 2))))))) (wx_un (fun v => wr_ne v 0) (wx_call wm_pi f_Z_dominates (wx_ac .ref (wx_r 0) (wx_ac .int (wx_i 1) (wx_a1 .int (wx_ai w_L 0 (wx_fr w_L 8 5 (wx_r 0)) (wx_i 2)))))))) (wb_or (wx_bin wr_eq (wx_i 1) (wx_i 2)) (wb_not (wx_un (fun v => wr_ne v 0) (wx_call wm_pi f_Z_dominates (wx_ac .ref (wx_r 0) (wx_ac .int (wx_i 1) (wx_a1 .int (wx_i 2))))))))) (wx_c (1 : Int32)) (wx_c (0 : Int32)))))
def f_Z_dependsOn : List Value → wm_S → Option (Option Value × wm_S) := wm_fn (wm_isc w_L 8) 3 3 t_Z_dependsOn
def rm_Z_dependsOn : Room := { frames := 1, locals := 22 }
abbrev cV_Z_dependsOn : List (Nat × wm_M) := [(135, 3, f_Z_dominates)]
abbrev cS_Z_dependsOn : List (Nat × wm_M) := []
set_option maxRecDepth 20000 in
theorem bd_Z_dependsOn (w : wm_K) (ret : Option Value → wm_S → Prop) (hc : wm_cl w_L fl_Z cs_Z none cV_Z_dependsOn cS_Z_dependsOn ret tb_Z_dependsOn w) : wm_T w tb_Z_dependsOn ret 0 9999 t_Z_dependsOn :=
  (wm_t_seq (wm_t_if (wm_b_cmp hc (wm_x_ai hc (wm_x_fr hc (wm_x_rn hc rfl rfl) rfl rfl) (wm_x_in hc rfl rfl) rfl) (wm_x_iconst hc rfl (by decide)) rfl rfl wm_j_neF)
  (wm_t_ret hc (wm_x_iconst hc rfl (by decide)) rfl rfl (fun _ _ _ _ q => q)) rfl)
  (wm_t_ret hc (wm_x_cond (wm_b_and (wm_b_or (wm_b_un hc (wm_x_callV hc wm_pi_ok (wm_a_c (wm_x_rn hc rfl rfl) (wm_a_c (wm_x_in hc rfl rfl) (wm_a_1 (wm_x_ai hc (wm_x_fr hc (wm_x_rn hc rfl rfl) rfl rfl) (wm_x_in hc rfl rfl) rfl)))) rfl rfl (by decide)) rfl rfl wm_z_neT) (wm_b_un hc (wm_x_callV hc wm_pi_ok (wm_a_c (wm_x_rn hc rfl rfl) (wm_a_c (wm_x_in hc rfl rfl) (wm_a_1 (wm_x_ai hc (wm_x_fr hc (wm_x_rn hc rfl rfl) rfl rfl) (wm_x_in hc rfl rfl) rfl)))) rfl rfl (by decide)) rfl rfl wm_z_neF)) (wm_b_or (wm_b_cmp hc (wm_x_in hc rfl rfl) (wm_x_in hc rfl rfl) rfl rfl wm_j_eqT) (wm_b_not (wm_b_un hc (wm_x_callV hc wm_pi_ok (wm_a_c (wm_x_rn hc rfl rfl) (wm_a_c (wm_x_in hc rfl rfl) (wm_a_1 (wm_x_in hc rfl rfl)))) rfl rfl (by decide)) rfl rfl wm_z_neT)))) (wm_x_iconst hc rfl (by decide)) (wm_x_iconst hc rfl (by decide)) rfl) rfl rfl (fun _ _ _ _ q => q)))
theorem c_Z_dependsOn {l : Launch} {D : va_G} {A : Nat → Prop} {ad : Nat → Nat} {cA : Nat → ClassId} (hY : wm_Y cl0 (tys0 cA) A ad cA w_L) : wm_con l y_Z_dependsOn (cd_Z_dependsOn :: gw) rm_Z_dependsOn D cl0 (tys0 cA) A ad cA w_L f_Z_dependsOn :=
  wm_meth (cV := cV_Z_dependsOn) (cS := cS_Z_dependsOn) (by decide) rfl hY (fun r h => wm_fok_mono (fun _ h => List.mem_cons_of_mem _ h) (fk_Z r h)) (fun r h => wm_cok_mono (fun _ h => List.mem_cons_of_mem _ h) (ck_Z r h)) tk_Z_dependsOn
    (List.forall_mem_cons.mpr ⟨⟨y_Z_dominates, b_Z_dominates, 3, wm_rtT 3, cd_Z_dominates :: gw, gw, rm_Z_dominates, 2, 8, 29, T_Z, c_Z_dominates hY, rfl, gw_V (gw_at 820 (by decide +kernel) rfl) gi_Z_dominates gs_Z_dominates gn_Z cw_Z_dominates, rfl, rfl, ⟨by decide, by decide, by decide +kernel⟩, rfl, ⟨by decide, by decide⟩, rfl, fun vs S r h => (wm_fn_some (v := r.1) (S' := r.2) h).1⟩, fun _ h => nomatch h⟩)
    (fun _ h => nomatch h)
    bd_Z_dependsOn
/-! CodePrunerModel.through -/
def y_Z_through : MethodName := ⟨"CodePrunerModel", "through", "(III)Z"⟩
abbrev b_Z_through : ByteArray := prog_10_method_26_code
def tb_Z_through : List wm_R := [(0, .iconst 1, 1, 0), (1, .istore 4, 3, 0), (3, .iload_n 3, 4, 0), (4, .iconst 1, 5, 0), (5, .iadd, 6, 0), (6, .istore 5, 8, 0), (8, .iload 5, 10, 0), (10, .aload_n 0, 11, 0), (11, .getfield 121, 14, 0), (14, .if_icmp .ge 59, 17, 73), (17, .iload 4, 19, 0), (19, .ifCond .eq 54, 22, 73), (22, .aload_n 0, 23, 0), (23, .getfield 22, 26, 0), (26, .iload 5, 28, 0), (28, .iaload, 29, 0), (29, .iload_n 2, 30, 0), (30, .if_icmp .ne 37, 33, 67), (33, .aload_n 0, 34, 0), (34, .getfield 44, 37, 0), (37, .bipush 60, 39, 0), (39, .iload_n 1, 40, 0), (40, .imul, 41, 0), (41, .iload 5, 43, 0), (43, .iadd, 44, 0), (44, .iconst 1, 45, 0), (45, .bastore, 46, 0), (46, .aload_n 0, 47, 0), (47, .iload 5, 49, 0), (49, .invokevirtual 141, 52, 0), (52, .aload_n 0, 53, 0), (53, .iload_n 1, 54, 0), (54, .invokevirtual 141, 57, 0), (57, .if_icmp .eq 7, 60, 64), (60, .iconst 1, 61, 0), (61, .goto 4, 64, 65), (64, .iconst 0, 65, 0), (65, .istore 4, 67, 0), (67, .iinc 5 1, 70, 0), (70, .goto (-62), 73, 8), (73, .iload 4, 75, 0), (75, .ifCond .eq 15, 78, 90), (78, .aload_n 0, 79, 0), (79, .getfield 47, 82, 0), (82, .bipush 12, 84, 0), (84, .iload_n 1, 85, 0), (85, .imul, 86, 0), (86, .iload_n 2, 87, 0), (87, .iadd, 88, 0), (88, .iconst 1, 89, 0), (89, .bastore, 90, 0), (90, .iload 4, 92, 0), (92, .ireturn, 93, 0)]
theorem tk_Z_through : tb_Z_through.all (wm_rokb b_Z_through) = true := by decide +kernel
abbrev cd_Z_through : Cond := Cond.code y_Z_through b_Z_through 6 (wm_rtT 3)
theorem cw_Z_through : cd_Z_through ∈ gw := gw_at 839 (by decide +kernel) rfl
theorem gi_Z_through : Cond.instanceMethod y_Z_through ∈ gw := gw_at 838 (by decide +kernel) rfl
theorem gs_Z_through : Cond.selects "CodePrunerModel" y_Z_through y_Z_through ∈ gw := gw_of (List.mem_append_left _ (List.mem_of_getElem? (i := 31) (by decide +kernel))) rfl
def t_Z_through : wm_St := (ws_seq (ws_i 4 (wx_c (1 : Int32)))
  (ws_seq (ws_seq (ws_i 5 (wx_bin wo_iadd (wx_i 3) (wx_c (1 : Int32))))
  (ws_loop (wb_and (wx_bin wr_lt (wx_i 5) (wx_fi w_L 8 6 (wx_r 0))) (wx_un (fun v => wr_ne v 0) (wx_i 4)))
  (ws_seq (ws_if (wx_bin wr_eq (wx_ai w_L 0 (wx_fr w_L 8 7 (wx_r 0)) (wx_i 5)) (wx_i 2))
  (ws_seq (ws_az w_L (wx_fr w_L 8 15 (wx_r 0)) (wx_bin wo_iadd (wx_bin wo_imul (wx_c (60 : Int32)) (wx_i 1)) (wx_i 5)) (wx_c (1 : Int32)))
  (ws_i 4 (wx_cond (wx_bin wr_ne (wx_call wm_pi f_Z_setBy (wx_ac .ref (wx_r 0) (wx_a1 .int (wx_i 5)))) (wx_call wm_pi f_Z_setBy (wx_ac .ref (wx_r 0) (wx_a1 .int (wx_i 1))))) (wx_c (1 : Int32)) (wx_c (0 : Int32))))))
  (ws_inc 5 (1 : Int32))) w_N))
  (ws_seq (ws_if (wx_un (fun v => wr_ne v 0) (wx_i 4))
  (ws_az w_L (wx_fr w_L 8 16 (wx_r 0)) (wx_bin wo_iadd (wx_bin wo_imul (wx_c (12 : Int32)) (wx_i 1)) (wx_i 2)) (wx_c (1 : Int32))))
  (ws_ret .int (wx_i 4)))))
def f_Z_through : List Value → wm_S → Option (Option Value × wm_S) := wm_fn (wm_isc w_L 8) 3 6 t_Z_through
def rm_Z_through : Room := { frames := 1, locals := 21 }
abbrev cV_Z_through : List (Nat × wm_M) := [(141, 2, f_Z_setBy)]
abbrev cS_Z_through : List (Nat × wm_M) := []
set_option maxRecDepth 20000 in
theorem bd_Z_through (w : wm_K) (ret : Option Value → wm_S → Prop) (hc : wm_cl w_L fl_Z cs_Z none cV_Z_through cS_Z_through ret tb_Z_through w) : wm_T w tb_Z_through ret 0 9999 t_Z_through :=
  (wm_t_seq (wm_t_i hc (wm_x_iconst hc rfl (by decide)) rfl)
  (wm_t_seq (wm_t_seq (wm_t_i hc (wm_x_bin hc (wm_x_in hc rfl rfl) (wm_x_iconst hc rfl (by decide)) rfl rfl (fun _ _ _ _ _ _ q => q)) rfl)
  (wm_t_loop (wm_b_and (wm_b_cmp hc (wm_x_i hc rfl) (wm_x_fi hc (wm_x_rn hc rfl rfl) rfl rfl) rfl rfl wm_j_ltF) (wm_b_un hc (wm_x_i hc rfl) rfl rfl wm_z_neF))
  (wm_t_seq (wm_t_if (wm_b_cmp hc (wm_x_ai hc (wm_x_fr hc (wm_x_rn hc rfl rfl) rfl rfl) (wm_x_i hc rfl) rfl) (wm_x_in hc rfl rfl) rfl rfl wm_j_eqF)
  (wm_t_seq (wm_t_az hc (wm_x_fr hc (wm_x_rn hc rfl rfl) rfl rfl) (wm_x_bin hc (wm_x_bin hc (wm_x_bipush hc rfl (by decide)) (wm_x_in hc rfl rfl) rfl rfl (fun _ _ _ _ _ _ q => q)) (wm_x_i hc rfl) rfl rfl (fun _ _ _ _ _ _ q => q)) (wm_x_iconst hc rfl (by decide)) rfl)
  (wm_t_i hc (wm_x_cond (wm_b_cmp hc (wm_x_callV hc wm_pi_ok (wm_a_c (wm_x_rn hc rfl rfl) (wm_a_1 (wm_x_i hc rfl))) rfl rfl (by decide)) (wm_x_callV hc wm_pi_ok (wm_a_c (wm_x_rn hc rfl rfl) (wm_a_1 (wm_x_in hc rfl rfl))) rfl rfl (by decide)) rfl rfl wm_j_neF) (wm_x_iconst hc rfl (by decide)) (wm_x_iconst hc rfl (by decide)) rfl) rfl)) rfl)
  (wm_t_inc hc rfl (by decide))) rfl))
  (wm_t_seq (wm_t_if (wm_b_un hc (wm_x_i hc rfl) rfl rfl wm_z_neF)
  (wm_t_az hc (wm_x_fr hc (wm_x_rn hc rfl rfl) rfl rfl) (wm_x_bin hc (wm_x_bin hc (wm_x_bipush hc rfl (by decide)) (wm_x_in hc rfl rfl) rfl rfl (fun _ _ _ _ _ _ q => q)) (wm_x_in hc rfl rfl) rfl rfl (fun _ _ _ _ _ _ q => q)) (wm_x_iconst hc rfl (by decide)) rfl) rfl)
  (wm_t_ret hc (wm_x_i hc rfl) rfl rfl (fun _ _ _ _ q => q)))))
theorem c_Z_through {l : Launch} {D : va_G} {A : Nat → Prop} {ad : Nat → Nat} {cA : Nat → ClassId} (hY : wm_Y cl0 (tys0 cA) A ad cA w_L) : wm_con l y_Z_through (cd_Z_through :: gw) rm_Z_through D cl0 (tys0 cA) A ad cA w_L f_Z_through :=
  wm_meth (cV := cV_Z_through) (cS := cS_Z_through) (by decide) rfl hY (fun r h => wm_fok_mono (fun _ h => List.mem_cons_of_mem _ h) (fk_Z r h)) (fun r h => wm_cok_mono (fun _ h => List.mem_cons_of_mem _ h) (ck_Z r h)) tk_Z_through
    (List.forall_mem_cons.mpr ⟨⟨y_Z_setBy, b_Z_setBy, 2, wm_rtT 1, cd_Z_setBy :: gw, gw, rm_Z_setBy, 1, 8, 29, T_Z, c_Z_setBy hY, rfl, gw_V (gw_at 832 (by decide +kernel) rfl) gi_Z_setBy gs_Z_setBy gn_Z cw_Z_setBy, rfl, rfl, ⟨by decide, by decide, by decide +kernel⟩, rfl, ⟨by decide, by decide⟩, rfl, fun vs S r h => (wm_fn_some (v := r.1) (S' := r.2) h).1⟩, fun _ h => nomatch h⟩)
    (fun _ h => nomatch h)
    bd_Z_through
/-! CodePrunerModel.follow -/
def y_Z_follow : MethodName := ⟨"CodePrunerModel", "follow", "(I)V"⟩
abbrev b_Z_follow : ByteArray := prog_10_method_27_code
def tb_Z_follow : List wm_R := [(0, .iconst 0, 1, 0), (1, .istore_n 2, 2, 0), (2, .iload_n 2, 3, 0), (3, .bipush 60, 5, 0), (5, .if_icmp .ge 21, 8, 26), (8, .aload_n 0, 9, 0), (9, .getfield 44, 12, 0), (12, .bipush 60, 14, 0), (14, .iload_n 1, 15, 0), (15, .imul, 16, 0), (16, .iload_n 2, 17, 0), (17, .iadd, 18, 0), (18, .iconst 0, 19, 0), (19, .bastore, 20, 0), (20, .iinc 2 1, 23, 0), (23, .goto (-21), 26, 2), (26, .iconst 0, 27, 0), (27, .istore_n 2, 28, 0), (28, .iload_n 2, 29, 0), (29, .bipush 12, 31, 0), (31, .if_icmp .ge 21, 34, 52), (34, .aload_n 0, 35, 0), (35, .getfield 47, 38, 0), (38, .bipush 12, 40, 0), (40, .iload_n 1, 41, 0), (41, .imul, 42, 0), (42, .iload_n 2, 43, 0), (43, .iadd, 44, 0), (44, .iconst 0, 45, 0), (45, .bastore, 46, 0), (46, .iinc 2 1, 49, 0), (49, .goto (-21), 52, 28), (52, .aload_n 0, 53, 0), (53, .iload_n 1, 54, 0), (54, .invokevirtual 141, 57, 0), (57, .iconst (-1), 58, 0), (58, .if_icmp .ne 4, 61, 62), (61, .return_, 62, 0), (62, .aload_n 0, 63, 0), (63, .iload_n 1, 64, 0), (64, .aload_n 0, 65, 0), (65, .getfield 22, 68, 0), (68, .iload_n 1, 69, 0), (69, .iaload, 70, 0), (70, .iload_n 1, 71, 0), (71, .invokevirtual 145, 74, 0), (74, .ifCond .eq 14, 77, 88), (77, .iconst 1, 78, 0), (78, .aload_n 0, 79, 0), (79, .getfield 22, 82, 0), (82, .iload_n 1, 83, 0), (83, .iaload, 84, 0), (84, .ishl, 85, 0), (85, .goto 4, 88, 89), (88, .iconst 0, 89, 0), (89, .istore_n 2, 90, 0), (90, .iconst 0, 91, 0), (91, .istore_n 3, 92, 0), (92, .iconst (-1), 93, 0), (93, .istore 4, 95, 0), (95, .iload_n 3, 96, 0), (96, .iload 4, 98, 0), (98, .if_icmp .eq 104, 101, 202), (101, .iload_n 3, 102, 0), (102, .istore 4, 104, 0), (104, .iconst 0, 105, 0), (105, .istore 5, 107, 0), (107, .iload 5, 109, 0), (109, .aload_n 0, 110, 0), (110, .getfield 98, 113, 0), (113, .if_icmp .ge 86, 116, 199), (116, .iconst 0, 117, 0), (117, .istore 6, 119, 0), (119, .iload 6, 121, 0), (121, .aload_n 0, 122, 0), (122, .getfield 98, 125, 0), (125, .if_icmp .ge 68, 128, 193), (128, .iload_n 2, 129, 0), (129, .iload 5, 131, 0), (131, .ishr, 132, 0), (132, .iconst 1, 133, 0), (133, .iand, 134, 0), (134, .iconst 1, 135, 0), (135, .if_icmp .ne 58, 138, 193), (138, .aload_n 0, 139, 0), (139, .iload 5, 141, 0), (141, .iload 6, 143, 0), (143, .invokevirtual 124, 146, 0), (146, .ifCond .eq 41, 149, 187), (149, .iload_n 3, 150, 0), (150, .iload 6, 152, 0), (152, .ishr, 153, 0), (153, .iconst 1, 154, 0), (154, .iand, 155, 0), (155, .ifCond .ne 32, 158, 187), (158, .iload_n 3, 159, 0), (159, .iconst 1, 160, 0), (160, .iload 6, 162, 0), (162, .ishl, 163, 0), (163, .ior, 164, 0), (164, .istore_n 3, 165, 0), (165, .aload_n 0, 166, 0), (166, .iload_n 1, 167, 0), (167, .iload 6, 169, 0), (169, .iconst (-1), 170, 0), (170, .invokevirtual 145, 173, 0), (173, .ifCond .eq 12, 176, 185), (176, .iload_n 2, 177, 0), (177, .iconst 1, 178, 0), (178, .iload 6, 180, 0), (180, .ishl, 181, 0), (181, .ior, 182, 0), (182, .goto 4, 185, 186), (185, .iload_n 2, 186, 0), (186, .istore_n 2, 187, 0), (187, .iinc 6 1, 190, 0), (190, .goto (-71), 193, 119), (193, .iinc 5 1, 196, 0), (196, .goto (-89), 199, 107), (199, .goto (-104), 202, 95), (202, .return_, 203, 0)]
theorem tk_Z_follow : tb_Z_follow.all (wm_rokb b_Z_follow) = true := by decide +kernel
abbrev cd_Z_follow : Cond := Cond.code y_Z_follow b_Z_follow 7 (wm_rtT 0)
theorem cw_Z_follow : cd_Z_follow ∈ gw := gw_at 831 (by decide +kernel) rfl
theorem gi_Z_follow : Cond.instanceMethod y_Z_follow ∈ gw := gw_at 830 (by decide +kernel) rfl
theorem gs_Z_follow : Cond.selects "CodePrunerModel" y_Z_follow y_Z_follow ∈ gw := gw_of (List.mem_append_left _ (List.mem_of_getElem? (i := 29) (by decide +kernel))) rfl
def t_Z_follow : wm_St := (ws_seq (ws_seq (ws_i 2 (wx_c (0 : Int32)))
  (ws_loop (wx_bin wr_lt (wx_i 2) (wx_c (60 : Int32)))
  (ws_seq (ws_az w_L (wx_fr w_L 8 15 (wx_r 0)) (wx_bin wo_iadd (wx_bin wo_imul (wx_c (60 : Int32)) (wx_i 1)) (wx_i 2)) (wx_c (0 : Int32)))
  (ws_inc 2 (1 : Int32))) w_N))
  (ws_seq (ws_seq (ws_i 2 (wx_c (0 : Int32)))
  (ws_loop (wx_bin wr_lt (wx_i 2) (wx_c (12 : Int32)))
  (ws_seq (ws_az w_L (wx_fr w_L 8 16 (wx_r 0)) (wx_bin wo_iadd (wx_bin wo_imul (wx_c (12 : Int32)) (wx_i 1)) (wx_i 2)) (wx_c (0 : Int32)))
  (ws_inc 2 (1 : Int32))) w_N))
  (ws_seq (ws_if (wx_bin wr_eq (wx_call wm_pi f_Z_setBy (wx_ac .ref (wx_r 0) (wx_a1 .int (wx_i 1)))) (wx_c (-1 : Int32)))
  ws_retv)
  (ws_seq (ws_i 2 (wx_cond (wx_un (fun v => wr_ne v 0) (wx_call wm_pi f_Z_through (wx_ac .ref (wx_r 0) (wx_ac .int (wx_i 1) (wx_ac .int (wx_ai w_L 0 (wx_fr w_L 8 7 (wx_r 0)) (wx_i 1)) (wx_a1 .int (wx_i 1))))))) (wx_bin wo_ishl (wx_c (1 : Int32)) (wx_ai w_L 0 (wx_fr w_L 8 7 (wx_r 0)) (wx_i 1))) (wx_c (0 : Int32))))
  (ws_seq (ws_i 3 (wx_c (0 : Int32)))
  (ws_seq (ws_i 4 (wx_c (-1 : Int32)))
  (ws_seq (ws_loop (wx_bin wr_ne (wx_i 3) (wx_i 4))
  (ws_seq (ws_i 4 (wx_i 3))
  (ws_seq (ws_i 5 (wx_c (0 : Int32)))
  (ws_loop (wx_bin wr_lt (wx_i 5) (wx_fi w_L 8 1 (wx_r 0)))
  (ws_seq (ws_seq (ws_i 6 (wx_c (0 : Int32)))
  (ws_loop (wb_and (wx_bin wr_lt (wx_i 6) (wx_fi w_L 8 1 (wx_r 0))) (wx_bin wr_eq (wx_bin wo_iand (wx_bin wo_ishr (wx_i 2) (wx_i 5)) (wx_c (1 : Int32))) (wx_c (1 : Int32))))
  (ws_seq (ws_if (wb_and (wx_un (fun v => wr_ne v 0) (wx_call wm_pi f_Z_leads (wx_ac .ref (wx_r 0) (wx_ac .int (wx_i 5) (wx_a1 .int (wx_i 6)))))) (wx_un (fun v => wr_eq v 0) (wx_bin wo_iand (wx_bin wo_ishr (wx_i 3) (wx_i 6)) (wx_c (1 : Int32)))))
  (ws_seq (ws_i 3 (wx_bin wo_ior (wx_i 3) (wx_bin wo_ishl (wx_c (1 : Int32)) (wx_i 6))))
  (ws_i 2 (wx_cond (wx_un (fun v => wr_ne v 0) (wx_call wm_pi f_Z_through (wx_ac .ref (wx_r 0) (wx_ac .int (wx_i 1) (wx_ac .int (wx_i 6) (wx_a1 .int (wx_c (-1 : Int32)))))))) (wx_bin wo_ior (wx_i 2) (wx_bin wo_ishl (wx_c (1 : Int32)) (wx_i 6))) (wx_i 2)))))
  (ws_inc 6 (1 : Int32))) w_N))
  (ws_inc 5 (1 : Int32))) w_N))) w_N)
  ws_retv)))))))
def f_Z_follow : List Value → wm_S → Option (Option Value × wm_S) := wm_fn (wm_isc w_L 8) 0 7 t_Z_follow
def rm_Z_follow : Room := { frames := 2, locals := 46 }
abbrev cV_Z_follow : List (Nat × wm_M) := [(124, 3, f_Z_leads), (141, 2, f_Z_setBy), (145, 4, f_Z_through)]
abbrev cS_Z_follow : List (Nat × wm_M) := []
set_option maxRecDepth 20000 in
theorem bd_Z_follow (w : wm_K) (ret : Option Value → wm_S → Prop) (hc : wm_cl w_L fl_Z cs_Z none cV_Z_follow cS_Z_follow ret tb_Z_follow w) : wm_T w tb_Z_follow ret 0 9999 t_Z_follow :=
  (wm_t_seq (wm_t_seq (wm_t_in hc (wm_x_iconst hc rfl (by decide)) rfl rfl)
  (wm_t_loop (wm_b_cmp hc (wm_x_in hc rfl rfl) (wm_x_bipush hc rfl (by decide)) rfl rfl wm_j_ltF)
  (wm_t_seq (wm_t_az hc (wm_x_fr hc (wm_x_rn hc rfl rfl) rfl rfl) (wm_x_bin hc (wm_x_bin hc (wm_x_bipush hc rfl (by decide)) (wm_x_in hc rfl rfl) rfl rfl (fun _ _ _ _ _ _ q => q)) (wm_x_in hc rfl rfl) rfl rfl (fun _ _ _ _ _ _ q => q)) (wm_x_iconst hc rfl (by decide)) rfl)
  (wm_t_inc hc rfl (by decide))) rfl))
  (wm_t_seq (wm_t_seq (wm_t_in hc (wm_x_iconst hc rfl (by decide)) rfl rfl)
  (wm_t_loop (wm_b_cmp hc (wm_x_in hc rfl rfl) (wm_x_bipush hc rfl (by decide)) rfl rfl wm_j_ltF)
  (wm_t_seq (wm_t_az hc (wm_x_fr hc (wm_x_rn hc rfl rfl) rfl rfl) (wm_x_bin hc (wm_x_bin hc (wm_x_bipush hc rfl (by decide)) (wm_x_in hc rfl rfl) rfl rfl (fun _ _ _ _ _ _ q => q)) (wm_x_in hc rfl rfl) rfl rfl (fun _ _ _ _ _ _ q => q)) (wm_x_iconst hc rfl (by decide)) rfl)
  (wm_t_inc hc rfl (by decide))) rfl))
  (wm_t_seq (wm_t_if (wm_b_cmp hc (wm_x_callV hc wm_pi_ok (wm_a_c (wm_x_rn hc rfl rfl) (wm_a_1 (wm_x_in hc rfl rfl))) rfl rfl (by decide)) (wm_x_iconst hc rfl (by decide)) rfl rfl wm_j_eqF)
  (wm_t_retv hc rfl) rfl)
  (wm_t_seq (wm_t_in hc (wm_x_cond (wm_b_un hc (wm_x_callV hc wm_pi_ok (wm_a_c (wm_x_rn hc rfl rfl) (wm_a_c (wm_x_in hc rfl rfl) (wm_a_c (wm_x_ai hc (wm_x_fr hc (wm_x_rn hc rfl rfl) rfl rfl) (wm_x_in hc rfl rfl) rfl) (wm_a_1 (wm_x_in hc rfl rfl))))) rfl rfl (by decide)) rfl rfl wm_z_neF) (wm_x_bin hc (wm_x_iconst hc rfl (by decide)) (wm_x_ai hc (wm_x_fr hc (wm_x_rn hc rfl rfl) rfl rfl) (wm_x_in hc rfl rfl) rfl) rfl rfl (fun _ _ _ _ _ _ q => q)) (wm_x_iconst hc rfl (by decide)) rfl) rfl rfl)
  (wm_t_seq (wm_t_in hc (wm_x_iconst hc rfl (by decide)) rfl rfl)
  (wm_t_seq (wm_t_i hc (wm_x_iconst hc rfl (by decide)) rfl)
  (wm_t_seq (wm_t_loop (wm_b_cmp hc (wm_x_in hc rfl rfl) (wm_x_i hc rfl) rfl rfl wm_j_neF)
  (wm_t_seq (wm_t_i hc (wm_x_in hc rfl rfl) rfl)
  (wm_t_seq (wm_t_i hc (wm_x_iconst hc rfl (by decide)) rfl)
  (wm_t_loop (wm_b_cmp hc (wm_x_i hc rfl) (wm_x_fi hc (wm_x_rn hc rfl rfl) rfl rfl) rfl rfl wm_j_ltF)
  (wm_t_seq (wm_t_seq (wm_t_i hc (wm_x_iconst hc rfl (by decide)) rfl)
  (wm_t_loop (wm_b_and (wm_b_cmp hc (wm_x_i hc rfl) (wm_x_fi hc (wm_x_rn hc rfl rfl) rfl rfl) rfl rfl wm_j_ltF) (wm_b_cmp hc (wm_x_bin hc (wm_x_bin hc (wm_x_in hc rfl rfl) (wm_x_i hc rfl) rfl rfl (fun _ _ _ _ _ _ q => q)) (wm_x_iconst hc rfl (by decide)) rfl rfl (fun _ _ _ _ _ _ q => q)) (wm_x_iconst hc rfl (by decide)) rfl rfl wm_j_eqF))
  (wm_t_seq (wm_t_if (wm_b_and (wm_b_un hc (wm_x_callV hc wm_pi_ok (wm_a_c (wm_x_rn hc rfl rfl) (wm_a_c (wm_x_i hc rfl) (wm_a_1 (wm_x_i hc rfl)))) rfl rfl (by decide)) rfl rfl wm_z_neF) (wm_b_un hc (wm_x_bin hc (wm_x_bin hc (wm_x_in hc rfl rfl) (wm_x_i hc rfl) rfl rfl (fun _ _ _ _ _ _ q => q)) (wm_x_iconst hc rfl (by decide)) rfl rfl (fun _ _ _ _ _ _ q => q)) rfl rfl wm_z_eqF))
  (wm_t_seq (wm_t_in hc (wm_x_bin hc (wm_x_in hc rfl rfl) (wm_x_bin hc (wm_x_iconst hc rfl (by decide)) (wm_x_i hc rfl) rfl rfl (fun _ _ _ _ _ _ q => q)) rfl rfl (fun _ _ _ _ _ _ q => q)) rfl rfl)
  (wm_t_in hc (wm_x_cond (wm_b_un hc (wm_x_callV hc wm_pi_ok (wm_a_c (wm_x_rn hc rfl rfl) (wm_a_c (wm_x_in hc rfl rfl) (wm_a_c (wm_x_i hc rfl) (wm_a_1 (wm_x_iconst hc rfl (by decide)))))) rfl rfl (by decide)) rfl rfl wm_z_neF) (wm_x_bin hc (wm_x_in hc rfl rfl) (wm_x_bin hc (wm_x_iconst hc rfl (by decide)) (wm_x_i hc rfl) rfl rfl (fun _ _ _ _ _ _ q => q)) rfl rfl (fun _ _ _ _ _ _ q => q)) (wm_x_in hc rfl rfl) rfl) rfl rfl)) rfl)
  (wm_t_inc hc rfl (by decide))) rfl))
  (wm_t_inc hc rfl (by decide))) rfl))) rfl)
  (wm_t_retv hc rfl))))))))
theorem c_Z_follow {l : Launch} {D : va_G} {A : Nat → Prop} {ad : Nat → Nat} {cA : Nat → ClassId} (hY : wm_Y cl0 (tys0 cA) A ad cA w_L) : wm_con l y_Z_follow (cd_Z_follow :: gw) rm_Z_follow D cl0 (tys0 cA) A ad cA w_L f_Z_follow :=
  wm_meth (cV := cV_Z_follow) (cS := cS_Z_follow) (by decide) rfl hY (fun r h => wm_fok_mono (fun _ h => List.mem_cons_of_mem _ h) (fk_Z r h)) (fun r h => wm_cok_mono (fun _ h => List.mem_cons_of_mem _ h) (ck_Z r h)) tk_Z_follow
    (List.forall_mem_cons.mpr ⟨⟨y_Z_leads, b_Z_leads, 3, wm_rtT 3, cd_Z_leads :: gw, gw, rm_Z_leads, 2, 8, 29, T_Z, c_Z_leads hY, rfl, gw_V (gw_at 812 (by decide +kernel) rfl) gi_Z_leads gs_Z_leads gn_Z cw_Z_leads, rfl, rfl, ⟨by decide, by decide, by decide +kernel⟩, rfl, ⟨by decide, by decide⟩, rfl, fun vs S r h => (wm_fn_some (v := r.1) (S' := r.2) h).1⟩, List.forall_mem_cons.mpr ⟨⟨y_Z_setBy, b_Z_setBy, 2, wm_rtT 1, cd_Z_setBy :: gw, gw, rm_Z_setBy, 1, 8, 29, T_Z, c_Z_setBy hY, rfl, gw_V (gw_at 832 (by decide +kernel) rfl) gi_Z_setBy gs_Z_setBy gn_Z cw_Z_setBy, rfl, rfl, ⟨by decide, by decide, by decide +kernel⟩, rfl, ⟨by decide, by decide⟩, rfl, fun vs S r h => (wm_fn_some (v := r.1) (S' := r.2) h).1⟩, List.forall_mem_cons.mpr ⟨⟨y_Z_through, b_Z_through, 6, wm_rtT 3, cd_Z_through :: gw, gw, rm_Z_through, 3, 8, 29, T_Z, c_Z_through hY, rfl, gw_V (gw_at 836 (by decide +kernel) rfl) gi_Z_through gs_Z_through gn_Z cw_Z_through, rfl, rfl, ⟨by decide, by decide, by decide +kernel⟩, rfl, ⟨by decide, by decide⟩, rfl, fun vs S r h => (wm_fn_some (v := r.1) (S' := r.2) h).1⟩, fun _ h => nomatch h⟩⟩⟩)
    (fun _ h => nomatch h)
    bd_Z_follow
/-! CodePrunerModel.marked -/
def y_Z_marked : MethodName := ⟨"CodePrunerModel", "marked", "(I)Z"⟩
abbrev b_Z_marked : ByteArray := prog_10_method_28_code
def tb_Z_marked : List wm_R := [(0, .aload_n 0, 1, 0), (1, .getfield 53, 4, 0), (4, .iload_n 1, 5, 0), (5, .baload, 6, 0), (6, .istore_n 2, 7, 0), (7, .iconst 0, 8, 0), (8, .istore_n 3, 9, 0), (9, .iload_n 3, 10, 0), (10, .aload_n 0, 11, 0), (11, .getfield 121, 14, 0), (14, .if_icmp .ge 38, 17, 52), (17, .iload_n 2, 18, 0), (18, .ifCond .ne 22, 21, 40), (21, .aload_n 0, 22, 0), (22, .getfield 50, 25, 0), (25, .iload_n 3, 26, 0), (26, .baload, 27, 0), (27, .ifCond .eq 17, 30, 44), (30, .aload_n 0, 31, 0), (31, .getfield 22, 34, 0), (34, .iload_n 3, 35, 0), (35, .iaload, 36, 0), (36, .iload_n 1, 37, 0), (37, .if_icmp .ne 7, 40, 44), (40, .iconst 1, 41, 0), (41, .goto 4, 44, 45), (44, .iconst 0, 45, 0), (45, .istore_n 2, 46, 0), (46, .iinc 3 1, 49, 0), (49, .goto (-40), 52, 9), (52, .iload_n 2, 53, 0), (53, .ireturn, 54, 0)]
theorem tk_Z_marked : tb_Z_marked.all (wm_rokb b_Z_marked) = true := by decide +kernel
abbrev cd_Z_marked : Cond := Cond.code y_Z_marked b_Z_marked 4 (wm_rtT 3)
theorem cw_Z_marked : cd_Z_marked ∈ gw := gw_at 863 (by decide +kernel) rfl
theorem gi_Z_marked : Cond.instanceMethod y_Z_marked ∈ gw := gw_at 862 (by decide +kernel) rfl
theorem gs_Z_marked : Cond.selects "CodePrunerModel" y_Z_marked y_Z_marked ∈ gw := gw_of (List.mem_append_left _ (List.mem_of_getElem? (i := 37) (by decide +kernel))) rfl
def t_Z_marked : wm_St := (ws_seq (ws_i 2 (wx_ai w_L 3 (wx_fr w_L 8 18 (wx_r 0)) (wx_i 1)))
  (ws_seq (ws_seq (ws_i 3 (wx_c (0 : Int32)))
  (ws_loop (wx_bin wr_lt (wx_i 3) (wx_fi w_L 8 6 (wx_r 0)))
  (ws_seq (ws_i 2 (wx_cond (wb_or (wx_un (fun v => wr_ne v 0) (wx_i 2)) (wb_and (wx_un (fun v => wr_ne v 0) (wx_ai w_L 3 (wx_fr w_L 8 17 (wx_r 0)) (wx_i 3))) (wx_bin wr_eq (wx_ai w_L 0 (wx_fr w_L 8 7 (wx_r 0)) (wx_i 3)) (wx_i 1)))) (wx_c (1 : Int32)) (wx_c (0 : Int32))))
  (ws_inc 3 (1 : Int32))) w_N))
  (ws_ret .int (wx_i 2))))
def f_Z_marked : List Value → wm_S → Option (Option Value × wm_S) := wm_fn (wm_isc w_L 8) 3 4 t_Z_marked
def rm_Z_marked : Room := { frames := 0, locals := 0 }
abbrev cV_Z_marked : List (Nat × wm_M) := []
abbrev cS_Z_marked : List (Nat × wm_M) := []
set_option maxRecDepth 20000 in
theorem bd_Z_marked (w : wm_K) (ret : Option Value → wm_S → Prop) (hc : wm_cl w_L fl_Z cs_Z none cV_Z_marked cS_Z_marked ret tb_Z_marked w) : wm_T w tb_Z_marked ret 0 9999 t_Z_marked :=
  (wm_t_seq (wm_t_in hc (wm_x_az hc (wm_x_fr hc (wm_x_rn hc rfl rfl) rfl rfl) (wm_x_in hc rfl rfl) rfl) rfl rfl)
  (wm_t_seq (wm_t_seq (wm_t_in hc (wm_x_iconst hc rfl (by decide)) rfl rfl)
  (wm_t_loop (wm_b_cmp hc (wm_x_in hc rfl rfl) (wm_x_fi hc (wm_x_rn hc rfl rfl) rfl rfl) rfl rfl wm_j_ltF)
  (wm_t_seq (wm_t_in hc (wm_x_cond (wm_b_or (wm_b_un hc (wm_x_in hc rfl rfl) rfl rfl wm_z_neT) (wm_b_and (wm_b_un hc (wm_x_az hc (wm_x_fr hc (wm_x_rn hc rfl rfl) rfl rfl) (wm_x_in hc rfl rfl) rfl) rfl rfl wm_z_neF) (wm_b_cmp hc (wm_x_ai hc (wm_x_fr hc (wm_x_rn hc rfl rfl) rfl rfl) (wm_x_in hc rfl rfl) rfl) (wm_x_in hc rfl rfl) rfl rfl wm_j_eqF))) (wm_x_iconst hc rfl (by decide)) (wm_x_iconst hc rfl (by decide)) rfl) rfl rfl)
  (wm_t_inc hc rfl (by decide))) rfl))
  (wm_t_ret hc (wm_x_in hc rfl rfl) rfl rfl (fun _ _ _ _ q => q))))
theorem c_Z_marked {l : Launch} {D : va_G} {A : Nat → Prop} {ad : Nat → Nat} {cA : Nat → ClassId} (hY : wm_Y cl0 (tys0 cA) A ad cA w_L) : wm_con l y_Z_marked (cd_Z_marked :: gw) rm_Z_marked D cl0 (tys0 cA) A ad cA w_L f_Z_marked :=
  wm_meth (cV := cV_Z_marked) (cS := cS_Z_marked) (by decide) rfl hY (fun r h => wm_fok_mono (fun _ h => List.mem_cons_of_mem _ h) (fk_Z r h)) (fun r h => wm_cok_mono (fun _ h => List.mem_cons_of_mem _ h) (ck_Z r h)) tk_Z_marked
    (fun _ h => nomatch h)
    (fun _ h => nomatch h)
    bd_Z_marked
/-! CodePrunerModel.wantsInstruction -/
def y_Z_wantsInstruction : MethodName := ⟨"CodePrunerModel", "wantsInstruction", "(I)Z"⟩
abbrev b_Z_wantsInstruction : ByteArray := prog_10_method_29_code
def tb_Z_wantsInstruction : List wm_R := [(0, .aload_n 0, 1, 0), (1, .getfield 25, 4, 0), (4, .iload_n 1, 5, 0), (5, .iaload, 6, 0), (6, .iconst 4, 7, 0), (7, .if_icmp .le 5, 10, 12), (10, .iconst 1, 11, 0), (11, .ireturn, 12, 0), (12, .aload_n 0, 13, 0), (13, .iload_n 1, 14, 0), (14, .invokevirtual 141, 17, 0), (17, .istore_n 2, 18, 0), (18, .iconst 0, 19, 0), (19, .istore_n 3, 20, 0), (20, .iload_n 3, 21, 0), (21, .aload_n 0, 22, 0), (22, .getfield 121, 25, 0), (25, .if_icmp .ge 43, 28, 68), (28, .aload_n 0, 29, 0), (29, .getfield 50, 32, 0), (32, .iload_n 3, 33, 0), (33, .baload, 34, 0), (34, .ifCond .eq 28, 37, 62), (37, .aload_n 0, 38, 0), (38, .getfield 44, 41, 0), (41, .bipush 60, 43, 0), (43, .iload_n 1, 44, 0), (44, .imul, 45, 0), (45, .iload_n 3, 46, 0), (46, .iadd, 47, 0), (47, .baload, 48, 0), (48, .ifCond .eq 14, 51, 62), (51, .aload_n 0, 52, 0), (52, .iload_n 3, 53, 0), (53, .iload_n 2, 54, 0), (54, .invokevirtual 148, 57, 0), (57, .ifCond .eq 5, 60, 62), (60, .iconst 1, 61, 0), (61, .ireturn, 62, 0), (62, .iinc 3 1, 65, 0), (65, .goto (-45), 68, 20), (68, .iconst 0, 69, 0), (69, .istore_n 3, 70, 0), (70, .iload_n 3, 71, 0), (71, .aload_n 0, 72, 0), (72, .getfield 98, 75, 0), (75, .if_icmp .ge 43, 78, 118), (78, .aload_n 0, 79, 0), (79, .getfield 53, 82, 0), (82, .iload_n 3, 83, 0), (83, .baload, 84, 0), (84, .ifCond .eq 28, 87, 112), (87, .aload_n 0, 88, 0), (88, .getfield 47, 91, 0), (91, .bipush 12, 93, 0), (93, .iload_n 1, 94, 0), (94, .imul, 95, 0), (95, .iload_n 3, 96, 0), (96, .iadd, 97, 0), (97, .baload, 98, 0), (98, .ifCond .eq 14, 101, 112), (101, .aload_n 0, 102, 0), (102, .iload_n 3, 103, 0), (103, .iload_n 2, 104, 0), (104, .invokevirtual 151, 107, 0), (107, .ifCond .eq 5, 110, 112), (110, .iconst 1, 111, 0), (111, .ireturn, 112, 0), (112, .iinc 3 1, 115, 0), (115, .goto (-45), 118, 70), (118, .iconst 0, 119, 0), (119, .ireturn, 120, 0)]
theorem tk_Z_wantsInstruction : tb_Z_wantsInstruction.all (wm_rokb b_Z_wantsInstruction) = true := by decide +kernel
abbrev cd_Z_wantsInstruction : Cond := Cond.code y_Z_wantsInstruction b_Z_wantsInstruction 4 (wm_rtT 3)
theorem cw_Z_wantsInstruction : cd_Z_wantsInstruction ∈ gw := gw_at 847 (by decide +kernel) rfl
theorem gi_Z_wantsInstruction : Cond.instanceMethod y_Z_wantsInstruction ∈ gw := gw_at 846 (by decide +kernel) rfl
theorem gs_Z_wantsInstruction : Cond.selects "CodePrunerModel" y_Z_wantsInstruction y_Z_wantsInstruction ∈ gw := gw_of (List.mem_append_left _ (List.mem_of_getElem? (i := 33) (by decide +kernel))) rfl
def t_Z_wantsInstruction : wm_St := (ws_seq (ws_if (wx_bin wr_gt (wx_ai w_L 0 (wx_fr w_L 8 8 (wx_r 0)) (wx_i 1)) (wx_c (4 : Int32)))
  (ws_ret .int (wx_c (1 : Int32))))
  (ws_seq (ws_i 2 (wx_call wm_pi f_Z_setBy (wx_ac .ref (wx_r 0) (wx_a1 .int (wx_i 1)))))
  (ws_seq (ws_seq (ws_i 3 (wx_c (0 : Int32)))
  (ws_loop (wx_bin wr_lt (wx_i 3) (wx_fi w_L 8 6 (wx_r 0)))
  (ws_seq (ws_if (wb_and (wb_and (wx_un (fun v => wr_ne v 0) (wx_ai w_L 3 (wx_fr w_L 8 17 (wx_r 0)) (wx_i 3))) (wx_un (fun v => wr_ne v 0) (wx_ai w_L 3 (wx_fr w_L 8 15 (wx_r 0)) (wx_bin wo_iadd (wx_bin wo_imul (wx_c (60 : Int32)) (wx_i 1)) (wx_i 3))))) (wx_un (fun v => wr_ne v 0) (wx_call wm_pi f_Z_uses (wx_ac .ref (wx_r 0) (wx_ac .int (wx_i 3) (wx_a1 .int (wx_i 2)))))))
  (ws_ret .int (wx_c (1 : Int32))))
  (ws_inc 3 (1 : Int32))) w_N))
  (ws_seq (ws_seq (ws_i 3 (wx_c (0 : Int32)))
  (ws_loop (wx_bin wr_lt (wx_i 3) (wx_fi w_L 8 1 (wx_r 0)))
  (ws_seq (ws_if (wb_and (wb_and (wx_un (fun v => wr_ne v 0) (wx_ai w_L 3 (wx_fr w_L 8 18 (wx_r 0)) (wx_i 3))) (wx_un (fun v => wr_ne v 0) (wx_ai w_L 3 (wx_fr w_L 8 16 (wx_r 0)) (wx_bin wo_iadd (wx_bin wo_imul (wx_c (12 : Int32)) (wx_i 1)) (wx_i 3))))) (wx_un (fun v => wr_ne v 0) (wx_call wm_pi f_Z_usesEnd (wx_ac .ref (wx_r 0) (wx_ac .int (wx_i 3) (wx_a1 .int (wx_i 2)))))))
  (ws_ret .int (wx_c (1 : Int32))))
  (ws_inc 3 (1 : Int32))) w_N))
  (ws_ret .int (wx_c (0 : Int32)))))))
def f_Z_wantsInstruction : List Value → wm_S → Option (Option Value × wm_S) := wm_fn (wm_isc w_L 8) 3 4 t_Z_wantsInstruction
def rm_Z_wantsInstruction : Room := { frames := 2, locals := 42 }
abbrev cV_Z_wantsInstruction : List (Nat × wm_M) := [(141, 2, f_Z_setBy), (148, 3, f_Z_uses), (151, 3, f_Z_usesEnd)]
abbrev cS_Z_wantsInstruction : List (Nat × wm_M) := []
set_option maxRecDepth 20000 in
theorem bd_Z_wantsInstruction (w : wm_K) (ret : Option Value → wm_S → Prop) (hc : wm_cl w_L fl_Z cs_Z none cV_Z_wantsInstruction cS_Z_wantsInstruction ret tb_Z_wantsInstruction w) : wm_T w tb_Z_wantsInstruction ret 0 9999 t_Z_wantsInstruction :=
  (wm_t_seq (wm_t_if (wm_b_cmp hc (wm_x_ai hc (wm_x_fr hc (wm_x_rn hc rfl rfl) rfl rfl) (wm_x_in hc rfl rfl) rfl) (wm_x_iconst hc rfl (by decide)) rfl rfl wm_j_gtF)
  (wm_t_ret hc (wm_x_iconst hc rfl (by decide)) rfl rfl (fun _ _ _ _ q => q)) rfl)
  (wm_t_seq (wm_t_in hc (wm_x_callV hc wm_pi_ok (wm_a_c (wm_x_rn hc rfl rfl) (wm_a_1 (wm_x_in hc rfl rfl))) rfl rfl (by decide)) rfl rfl)
  (wm_t_seq (wm_t_seq (wm_t_in hc (wm_x_iconst hc rfl (by decide)) rfl rfl)
  (wm_t_loop (wm_b_cmp hc (wm_x_in hc rfl rfl) (wm_x_fi hc (wm_x_rn hc rfl rfl) rfl rfl) rfl rfl wm_j_ltF)
  (wm_t_seq (wm_t_if (wm_b_and (wm_b_and (wm_b_un hc (wm_x_az hc (wm_x_fr hc (wm_x_rn hc rfl rfl) rfl rfl) (wm_x_in hc rfl rfl) rfl) rfl rfl wm_z_neF) (wm_b_un hc (wm_x_az hc (wm_x_fr hc (wm_x_rn hc rfl rfl) rfl rfl) (wm_x_bin hc (wm_x_bin hc (wm_x_bipush hc rfl (by decide)) (wm_x_in hc rfl rfl) rfl rfl (fun _ _ _ _ _ _ q => q)) (wm_x_in hc rfl rfl) rfl rfl (fun _ _ _ _ _ _ q => q)) rfl) rfl rfl wm_z_neF)) (wm_b_un hc (wm_x_callV hc wm_pi_ok (wm_a_c (wm_x_rn hc rfl rfl) (wm_a_c (wm_x_in hc rfl rfl) (wm_a_1 (wm_x_in hc rfl rfl)))) rfl rfl (by decide)) rfl rfl wm_z_neF))
  (wm_t_ret hc (wm_x_iconst hc rfl (by decide)) rfl rfl (fun _ _ _ _ q => q)) rfl)
  (wm_t_inc hc rfl (by decide))) rfl))
  (wm_t_seq (wm_t_seq (wm_t_in hc (wm_x_iconst hc rfl (by decide)) rfl rfl)
  (wm_t_loop (wm_b_cmp hc (wm_x_in hc rfl rfl) (wm_x_fi hc (wm_x_rn hc rfl rfl) rfl rfl) rfl rfl wm_j_ltF)
  (wm_t_seq (wm_t_if (wm_b_and (wm_b_and (wm_b_un hc (wm_x_az hc (wm_x_fr hc (wm_x_rn hc rfl rfl) rfl rfl) (wm_x_in hc rfl rfl) rfl) rfl rfl wm_z_neF) (wm_b_un hc (wm_x_az hc (wm_x_fr hc (wm_x_rn hc rfl rfl) rfl rfl) (wm_x_bin hc (wm_x_bin hc (wm_x_bipush hc rfl (by decide)) (wm_x_in hc rfl rfl) rfl rfl (fun _ _ _ _ _ _ q => q)) (wm_x_in hc rfl rfl) rfl rfl (fun _ _ _ _ _ _ q => q)) rfl) rfl rfl wm_z_neF)) (wm_b_un hc (wm_x_callV hc wm_pi_ok (wm_a_c (wm_x_rn hc rfl rfl) (wm_a_c (wm_x_in hc rfl rfl) (wm_a_1 (wm_x_in hc rfl rfl)))) rfl rfl (by decide)) rfl rfl wm_z_neF))
  (wm_t_ret hc (wm_x_iconst hc rfl (by decide)) rfl rfl (fun _ _ _ _ q => q)) rfl)
  (wm_t_inc hc rfl (by decide))) rfl))
  (wm_t_ret hc (wm_x_iconst hc rfl (by decide)) rfl rfl (fun _ _ _ _ q => q))))))
theorem c_Z_wantsInstruction {l : Launch} {D : va_G} {A : Nat → Prop} {ad : Nat → Nat} {cA : Nat → ClassId} (hY : wm_Y cl0 (tys0 cA) A ad cA w_L) : wm_con l y_Z_wantsInstruction (cd_Z_wantsInstruction :: gw) rm_Z_wantsInstruction D cl0 (tys0 cA) A ad cA w_L f_Z_wantsInstruction :=
  wm_meth (cV := cV_Z_wantsInstruction) (cS := cS_Z_wantsInstruction) (by decide) rfl hY (fun r h => wm_fok_mono (fun _ h => List.mem_cons_of_mem _ h) (fk_Z r h)) (fun r h => wm_cok_mono (fun _ h => List.mem_cons_of_mem _ h) (ck_Z r h)) tk_Z_wantsInstruction
    (List.forall_mem_cons.mpr ⟨⟨y_Z_setBy, b_Z_setBy, 2, wm_rtT 1, cd_Z_setBy :: gw, gw, rm_Z_setBy, 1, 8, 29, T_Z, c_Z_setBy hY, rfl, gw_V (gw_at 832 (by decide +kernel) rfl) gi_Z_setBy gs_Z_setBy gn_Z cw_Z_setBy, rfl, rfl, ⟨by decide, by decide, by decide +kernel⟩, rfl, ⟨by decide, by decide⟩, rfl, fun vs S r h => (wm_fn_some (v := r.1) (S' := r.2) h).1⟩, List.forall_mem_cons.mpr ⟨⟨y_Z_uses, b_Z_uses, 3, wm_rtT 3, cd_Z_uses :: gw, gw, rm_Z_uses, 2, 8, 29, T_Z, c_Z_uses hY, rfl, gw_V (gw_at 848 (by decide +kernel) rfl) gi_Z_uses gs_Z_uses gn_Z cw_Z_uses, rfl, rfl, ⟨by decide, by decide, by decide +kernel⟩, rfl, ⟨by decide, by decide⟩, rfl, fun vs S r h => (wm_fn_some (v := r.1) (S' := r.2) h).1⟩, List.forall_mem_cons.mpr ⟨⟨y_Z_usesEnd, b_Z_usesEnd, 3, wm_rtT 3, cd_Z_usesEnd :: gw, gw, rm_Z_usesEnd, 2, 8, 29, T_Z, c_Z_usesEnd hY, rfl, gw_V (gw_at 852 (by decide +kernel) rfl) gi_Z_usesEnd gs_Z_usesEnd gn_Z cw_Z_usesEnd, rfl, rfl, ⟨by decide, by decide, by decide +kernel⟩, rfl, ⟨by decide, by decide⟩, rfl, fun vs S r h => (wm_fn_some (v := r.1) (S' := r.2) h).1⟩, fun _ h => nomatch h⟩⟩⟩)
    (fun _ h => nomatch h)
    bd_Z_wantsInstruction
/-! CodePrunerModel.wantsEnd -/
def y_Z_wantsEnd : MethodName := ⟨"CodePrunerModel", "wantsEnd", "(I)Z"⟩
abbrev b_Z_wantsEnd : ByteArray := prog_10_method_30_code
def tb_Z_wantsEnd : List wm_R := [(0, .aload_n 0, 1, 0), (1, .getfield 7, 4, 0), (4, .iload_n 1, 5, 0), (5, .iaload, 6, 0), (6, .iconst 2, 7, 0), (7, .if_icmp .eq 18, 10, 25), (10, .aload_n 0, 11, 0), (11, .getfield 7, 14, 0), (14, .iload_n 1, 15, 0), (15, .iaload, 16, 0), (16, .ifCond .ne 7, 19, 23), (19, .iconst 1, 20, 0), (20, .goto 4, 23, 24), (23, .iconst 0, 24, 0), (24, .ireturn, 25, 0), (25, .iconst 0, 26, 0), (26, .istore_n 2, 27, 0), (27, .iload_n 2, 28, 0), (28, .aload_n 0, 29, 0), (29, .getfield 98, 32, 0), (32, .if_icmp .ge 28, 35, 60), (35, .aload_n 0, 36, 0), (36, .iload_n 2, 37, 0), (37, .invokevirtual 154, 40, 0), (40, .ifCond .eq 14, 43, 54), (43, .aload_n 0, 44, 0), (44, .iload_n 2, 45, 0), (45, .iload_n 1, 46, 0), (46, .invokevirtual 157, 49, 0), (49, .ifCond .eq 5, 52, 54), (52, .iconst 1, 53, 0), (53, .ireturn, 54, 0), (54, .iinc 2 1, 57, 0), (57, .goto (-30), 60, 27), (60, .iconst 0, 61, 0), (61, .ireturn, 62, 0)]
theorem tk_Z_wantsEnd : tb_Z_wantsEnd.all (wm_rokb b_Z_wantsEnd) = true := by decide +kernel
abbrev cd_Z_wantsEnd : Cond := Cond.code y_Z_wantsEnd b_Z_wantsEnd 3 (wm_rtT 3)
theorem cw_Z_wantsEnd : cd_Z_wantsEnd ∈ gw := gw_at 859 (by decide +kernel) rfl
theorem gi_Z_wantsEnd : Cond.instanceMethod y_Z_wantsEnd ∈ gw := gw_at 858 (by decide +kernel) rfl
theorem gs_Z_wantsEnd : Cond.selects "CodePrunerModel" y_Z_wantsEnd y_Z_wantsEnd ∈ gw := gw_of (List.mem_append_left _ (List.mem_of_getElem? (i := 36) (by decide +kernel))) rfl
def t_Z_wantsEnd : wm_St := (ws_seq (ws_if (wx_bin wr_ne (wx_ai w_L 0 (wx_fr w_L 8 2 (wx_r 0)) (wx_i 1)) (wx_c (2 : Int32)))
  (ws_ret .int (wx_cond (wx_un (fun v => wr_eq v 0) (wx_ai w_L 0 (wx_fr w_L 8 2 (wx_r 0)) (wx_i 1))) (wx_c (1 : Int32)) (wx_c (0 : Int32)))))
  (ws_seq (ws_seq (ws_i 2 (wx_c (0 : Int32)))
  (ws_loop (wx_bin wr_lt (wx_i 2) (wx_fi w_L 8 1 (wx_r 0)))
  (ws_seq (ws_if (wb_and (wx_un (fun v => wr_ne v 0) (wx_call wm_pi f_Z_marked (wx_ac .ref (wx_r 0) (wx_a1 .int (wx_i 2))))) (wx_un (fun v => wr_ne v 0) (wx_call wm_pi f_Z_dependsOn (wx_ac .ref (wx_r 0) (wx_ac .int (wx_i 2) (wx_a1 .int (wx_i 1)))))))
  (ws_ret .int (wx_c (1 : Int32))))
  (ws_inc 2 (1 : Int32))) w_N))
  (ws_ret .int (wx_c (0 : Int32)))))
def f_Z_wantsEnd : List Value → wm_S → Option (Option Value × wm_S) := wm_fn (wm_isc w_L 8) 3 3 t_Z_wantsEnd
def rm_Z_wantsEnd : Room := { frames := 2, locals := 44 }
abbrev cV_Z_wantsEnd : List (Nat × wm_M) := [(154, 2, f_Z_marked), (157, 3, f_Z_dependsOn)]
abbrev cS_Z_wantsEnd : List (Nat × wm_M) := []
set_option maxRecDepth 20000 in
theorem bd_Z_wantsEnd (w : wm_K) (ret : Option Value → wm_S → Prop) (hc : wm_cl w_L fl_Z cs_Z none cV_Z_wantsEnd cS_Z_wantsEnd ret tb_Z_wantsEnd w) : wm_T w tb_Z_wantsEnd ret 0 9999 t_Z_wantsEnd :=
  (wm_t_seq (wm_t_if (wm_b_cmp hc (wm_x_ai hc (wm_x_fr hc (wm_x_rn hc rfl rfl) rfl rfl) (wm_x_in hc rfl rfl) rfl) (wm_x_iconst hc rfl (by decide)) rfl rfl wm_j_neF)
  (wm_t_ret hc (wm_x_cond (wm_b_un hc (wm_x_ai hc (wm_x_fr hc (wm_x_rn hc rfl rfl) rfl rfl) (wm_x_in hc rfl rfl) rfl) rfl rfl wm_z_eqF) (wm_x_iconst hc rfl (by decide)) (wm_x_iconst hc rfl (by decide)) rfl) rfl rfl (fun _ _ _ _ q => q)) rfl)
  (wm_t_seq (wm_t_seq (wm_t_in hc (wm_x_iconst hc rfl (by decide)) rfl rfl)
  (wm_t_loop (wm_b_cmp hc (wm_x_in hc rfl rfl) (wm_x_fi hc (wm_x_rn hc rfl rfl) rfl rfl) rfl rfl wm_j_ltF)
  (wm_t_seq (wm_t_if (wm_b_and (wm_b_un hc (wm_x_callV hc wm_pi_ok (wm_a_c (wm_x_rn hc rfl rfl) (wm_a_1 (wm_x_in hc rfl rfl))) rfl rfl (by decide)) rfl rfl wm_z_neF) (wm_b_un hc (wm_x_callV hc wm_pi_ok (wm_a_c (wm_x_rn hc rfl rfl) (wm_a_c (wm_x_in hc rfl rfl) (wm_a_1 (wm_x_in hc rfl rfl)))) rfl rfl (by decide)) rfl rfl wm_z_neF))
  (wm_t_ret hc (wm_x_iconst hc rfl (by decide)) rfl rfl (fun _ _ _ _ q => q)) rfl)
  (wm_t_inc hc rfl (by decide))) rfl))
  (wm_t_ret hc (wm_x_iconst hc rfl (by decide)) rfl rfl (fun _ _ _ _ q => q))))
theorem c_Z_wantsEnd {l : Launch} {D : va_G} {A : Nat → Prop} {ad : Nat → Nat} {cA : Nat → ClassId} (hY : wm_Y cl0 (tys0 cA) A ad cA w_L) : wm_con l y_Z_wantsEnd (cd_Z_wantsEnd :: gw) rm_Z_wantsEnd D cl0 (tys0 cA) A ad cA w_L f_Z_wantsEnd :=
  wm_meth (cV := cV_Z_wantsEnd) (cS := cS_Z_wantsEnd) (by decide) rfl hY (fun r h => wm_fok_mono (fun _ h => List.mem_cons_of_mem _ h) (fk_Z r h)) (fun r h => wm_cok_mono (fun _ h => List.mem_cons_of_mem _ h) (ck_Z r h)) tk_Z_wantsEnd
    (List.forall_mem_cons.mpr ⟨⟨y_Z_marked, b_Z_marked, 4, wm_rtT 3, cd_Z_marked :: gw, gw, rm_Z_marked, 1, 8, 29, T_Z, c_Z_marked hY, rfl, gw_V (gw_at 860 (by decide +kernel) rfl) gi_Z_marked gs_Z_marked gn_Z cw_Z_marked, rfl, rfl, ⟨by decide, by decide, by decide +kernel⟩, rfl, ⟨by decide, by decide⟩, rfl, fun vs S r h => (wm_fn_some (v := r.1) (S' := r.2) h).1⟩, List.forall_mem_cons.mpr ⟨⟨y_Z_dependsOn, b_Z_dependsOn, 3, wm_rtT 3, cd_Z_dependsOn :: gw, gw, rm_Z_dependsOn, 2, 8, 29, T_Z, c_Z_dependsOn hY, rfl, gw_V (gw_at 864 (by decide +kernel) rfl) gi_Z_dependsOn gs_Z_dependsOn gn_Z cw_Z_dependsOn, rfl, rfl, ⟨by decide, by decide, by decide +kernel⟩, rfl, ⟨by decide, by decide⟩, rfl, fun vs S r h => (wm_fn_some (v := r.1) (S' := r.2) h).1⟩, fun _ h => nomatch h⟩⟩)
    (fun _ h => nomatch h)
    bd_Z_wantsEnd
/-! CodePrunerModel.markAll -/
def y_Z_markAll : MethodName := ⟨"CodePrunerModel", "markAll", "()V"⟩
abbrev b_Z_markAll : ByteArray := prog_10_method_31_code
def tb_Z_markAll : List wm_R := [(0, .iconst 0, 1, 0), (1, .istore_n 1, 2, 0), (2, .iload_n 1, 3, 0), (3, .bipush 60, 5, 0), (5, .if_icmp .ge 16, 8, 21), (8, .aload_n 0, 9, 0), (9, .getfield 50, 12, 0), (12, .iload_n 1, 13, 0), (13, .iconst 0, 14, 0), (14, .bastore, 15, 0), (15, .iinc 1 1, 18, 0), (18, .goto (-16), 21, 2), (21, .iconst 0, 22, 0), (22, .istore_n 1, 23, 0), (23, .iload_n 1, 24, 0), (24, .bipush 12, 26, 0), (26, .if_icmp .ge 16, 29, 42), (29, .aload_n 0, 30, 0), (30, .getfield 53, 33, 0), (33, .iload_n 1, 34, 0), (34, .iconst 0, 35, 0), (35, .bastore, 36, 0), (36, .iinc 1 1, 39, 0), (39, .goto (-16), 42, 23), (42, .iconst 1, 43, 0), (43, .istore_n 1, 44, 0), (44, .iload_n 1, 45, 0), (45, .ifCond .eq 92, 48, 137), (48, .iconst 0, 49, 0), (49, .istore_n 1, 50, 0), (50, .iconst 0, 51, 0), (51, .istore_n 2, 52, 0), (52, .iload_n 2, 53, 0), (53, .aload_n 0, 54, 0), (54, .getfield 121, 57, 0), (57, .if_icmp .ge 35, 60, 92), (60, .aload_n 0, 61, 0), (61, .getfield 50, 64, 0), (64, .iload_n 2, 65, 0), (65, .baload, 66, 0), (66, .ifCond .ne 20, 69, 86), (69, .aload_n 0, 70, 0), (70, .iload_n 2, 71, 0), (71, .invokevirtual 160, 74, 0), (74, .ifCond .eq 12, 77, 86), (77, .aload_n 0, 78, 0), (78, .getfield 50, 81, 0), (81, .iload_n 2, 82, 0), (82, .iconst 1, 83, 0), (83, .bastore, 84, 0), (84, .iconst 1, 85, 0), (85, .istore_n 1, 86, 0), (86, .iinc 2 1, 89, 0), (89, .goto (-37), 92, 52), (92, .iconst 0, 93, 0), (93, .istore_n 2, 94, 0), (94, .iload_n 2, 95, 0), (95, .aload_n 0, 96, 0), (96, .getfield 98, 99, 0), (99, .if_icmp .ge 35, 102, 134), (102, .aload_n 0, 103, 0), (103, .getfield 53, 106, 0), (106, .iload_n 2, 107, 0), (107, .baload, 108, 0), (108, .ifCond .ne 20, 111, 128), (111, .aload_n 0, 112, 0), (112, .iload_n 2, 113, 0), (113, .invokevirtual 163, 116, 0), (116, .ifCond .eq 12, 119, 128), (119, .aload_n 0, 120, 0), (120, .getfield 53, 123, 0), (123, .iload_n 2, 124, 0), (124, .iconst 1, 125, 0), (125, .bastore, 126, 0), (126, .iconst 1, 127, 0), (127, .istore_n 1, 128, 0), (128, .iinc 2 1, 131, 0), (131, .goto (-37), 134, 94), (134, .goto (-90), 137, 44), (137, .return_, 138, 0)]
theorem tk_Z_markAll : tb_Z_markAll.all (wm_rokb b_Z_markAll) = true := by decide +kernel
abbrev cd_Z_markAll : Cond := Cond.code y_Z_markAll b_Z_markAll 3 (wm_rtT 0)
theorem cw_Z_markAll : cd_Z_markAll ∈ gw := gw_at 843 (by decide +kernel) rfl
theorem gi_Z_markAll : Cond.instanceMethod y_Z_markAll ∈ gw := gw_at 842 (by decide +kernel) rfl
theorem gs_Z_markAll : Cond.selects "CodePrunerModel" y_Z_markAll y_Z_markAll ∈ gw := gw_of (List.mem_append_left _ (List.mem_of_getElem? (i := 32) (by decide +kernel))) rfl
def t_Z_markAll : wm_St := (ws_seq (ws_seq (ws_i 1 (wx_c (0 : Int32)))
  (ws_loop (wx_bin wr_lt (wx_i 1) (wx_c (60 : Int32)))
  (ws_seq (ws_az w_L (wx_fr w_L 8 17 (wx_r 0)) (wx_i 1) (wx_c (0 : Int32)))
  (ws_inc 1 (1 : Int32))) w_N))
  (ws_seq (ws_seq (ws_i 1 (wx_c (0 : Int32)))
  (ws_loop (wx_bin wr_lt (wx_i 1) (wx_c (12 : Int32)))
  (ws_seq (ws_az w_L (wx_fr w_L 8 18 (wx_r 0)) (wx_i 1) (wx_c (0 : Int32)))
  (ws_inc 1 (1 : Int32))) w_N))
  (ws_seq (ws_i 1 (wx_c (1 : Int32)))
  (ws_seq (ws_loop (wx_un (fun v => wr_ne v 0) (wx_i 1))
  (ws_seq (ws_i 1 (wx_c (0 : Int32)))
  (ws_seq (ws_seq (ws_i 2 (wx_c (0 : Int32)))
  (ws_loop (wx_bin wr_lt (wx_i 2) (wx_fi w_L 8 6 (wx_r 0)))
  (ws_seq (ws_if (wb_and (wb_not (wx_un (fun v => wr_ne v 0) (wx_ai w_L 3 (wx_fr w_L 8 17 (wx_r 0)) (wx_i 2)))) (wx_un (fun v => wr_ne v 0) (wx_call wm_pi f_Z_wantsInstruction (wx_ac .ref (wx_r 0) (wx_a1 .int (wx_i 2))))))
  (ws_seq (ws_az w_L (wx_fr w_L 8 17 (wx_r 0)) (wx_i 2) (wx_c (1 : Int32)))
  (ws_i 1 (wx_c (1 : Int32)))))
  (ws_inc 2 (1 : Int32))) w_N))
  (ws_seq (ws_i 2 (wx_c (0 : Int32)))
  (ws_loop (wx_bin wr_lt (wx_i 2) (wx_fi w_L 8 1 (wx_r 0)))
  (ws_seq (ws_if (wb_and (wb_not (wx_un (fun v => wr_ne v 0) (wx_ai w_L 3 (wx_fr w_L 8 18 (wx_r 0)) (wx_i 2)))) (wx_un (fun v => wr_ne v 0) (wx_call wm_pi f_Z_wantsEnd (wx_ac .ref (wx_r 0) (wx_a1 .int (wx_i 2))))))
  (ws_seq (ws_az w_L (wx_fr w_L 8 18 (wx_r 0)) (wx_i 2) (wx_c (1 : Int32)))
  (ws_i 1 (wx_c (1 : Int32)))))
  (ws_inc 2 (1 : Int32))) w_N)))) w_N)
  ws_retv))))
def f_Z_markAll : List Value → wm_S → Option (Option Value × wm_S) := wm_fn (wm_isc w_L 8) 0 3 t_Z_markAll
def rm_Z_markAll : Room := { frames := 3, locals := 66 }
abbrev cV_Z_markAll : List (Nat × wm_M) := [(160, 2, f_Z_wantsInstruction), (163, 2, f_Z_wantsEnd)]
abbrev cS_Z_markAll : List (Nat × wm_M) := []
set_option maxRecDepth 20000 in
theorem bd_Z_markAll (w : wm_K) (ret : Option Value → wm_S → Prop) (hc : wm_cl w_L fl_Z cs_Z none cV_Z_markAll cS_Z_markAll ret tb_Z_markAll w) : wm_T w tb_Z_markAll ret 0 9999 t_Z_markAll :=
  (wm_t_seq (wm_t_seq (wm_t_in hc (wm_x_iconst hc rfl (by decide)) rfl rfl)
  (wm_t_loop (wm_b_cmp hc (wm_x_in hc rfl rfl) (wm_x_bipush hc rfl (by decide)) rfl rfl wm_j_ltF)
  (wm_t_seq (wm_t_az hc (wm_x_fr hc (wm_x_rn hc rfl rfl) rfl rfl) (wm_x_in hc rfl rfl) (wm_x_iconst hc rfl (by decide)) rfl)
  (wm_t_inc hc rfl (by decide))) rfl))
  (wm_t_seq (wm_t_seq (wm_t_in hc (wm_x_iconst hc rfl (by decide)) rfl rfl)
  (wm_t_loop (wm_b_cmp hc (wm_x_in hc rfl rfl) (wm_x_bipush hc rfl (by decide)) rfl rfl wm_j_ltF)
  (wm_t_seq (wm_t_az hc (wm_x_fr hc (wm_x_rn hc rfl rfl) rfl rfl) (wm_x_in hc rfl rfl) (wm_x_iconst hc rfl (by decide)) rfl)
  (wm_t_inc hc rfl (by decide))) rfl))
  (wm_t_seq (wm_t_in hc (wm_x_iconst hc rfl (by decide)) rfl rfl)
  (wm_t_seq (wm_t_loop (wm_b_un hc (wm_x_in hc rfl rfl) rfl rfl wm_z_neF)
  (wm_t_seq (wm_t_in hc (wm_x_iconst hc rfl (by decide)) rfl rfl)
  (wm_t_seq (wm_t_seq (wm_t_in hc (wm_x_iconst hc rfl (by decide)) rfl rfl)
  (wm_t_loop (wm_b_cmp hc (wm_x_in hc rfl rfl) (wm_x_fi hc (wm_x_rn hc rfl rfl) rfl rfl) rfl rfl wm_j_ltF)
  (wm_t_seq (wm_t_if (wm_b_and (wm_b_not (wm_b_un hc (wm_x_az hc (wm_x_fr hc (wm_x_rn hc rfl rfl) rfl rfl) (wm_x_in hc rfl rfl) rfl) rfl rfl wm_z_neT)) (wm_b_un hc (wm_x_callV hc wm_pi_ok (wm_a_c (wm_x_rn hc rfl rfl) (wm_a_1 (wm_x_in hc rfl rfl))) rfl rfl (by decide)) rfl rfl wm_z_neF))
  (wm_t_seq (wm_t_az hc (wm_x_fr hc (wm_x_rn hc rfl rfl) rfl rfl) (wm_x_in hc rfl rfl) (wm_x_iconst hc rfl (by decide)) rfl)
  (wm_t_in hc (wm_x_iconst hc rfl (by decide)) rfl rfl)) rfl)
  (wm_t_inc hc rfl (by decide))) rfl))
  (wm_t_seq (wm_t_in hc (wm_x_iconst hc rfl (by decide)) rfl rfl)
  (wm_t_loop (wm_b_cmp hc (wm_x_in hc rfl rfl) (wm_x_fi hc (wm_x_rn hc rfl rfl) rfl rfl) rfl rfl wm_j_ltF)
  (wm_t_seq (wm_t_if (wm_b_and (wm_b_not (wm_b_un hc (wm_x_az hc (wm_x_fr hc (wm_x_rn hc rfl rfl) rfl rfl) (wm_x_in hc rfl rfl) rfl) rfl rfl wm_z_neT)) (wm_b_un hc (wm_x_callV hc wm_pi_ok (wm_a_c (wm_x_rn hc rfl rfl) (wm_a_1 (wm_x_in hc rfl rfl))) rfl rfl (by decide)) rfl rfl wm_z_neF))
  (wm_t_seq (wm_t_az hc (wm_x_fr hc (wm_x_rn hc rfl rfl) rfl rfl) (wm_x_in hc rfl rfl) (wm_x_iconst hc rfl (by decide)) rfl)
  (wm_t_in hc (wm_x_iconst hc rfl (by decide)) rfl rfl)) rfl)
  (wm_t_inc hc rfl (by decide))) rfl)))) rfl)
  (wm_t_retv hc rfl)))))
theorem c_Z_markAll {l : Launch} {D : va_G} {A : Nat → Prop} {ad : Nat → Nat} {cA : Nat → ClassId} (hY : wm_Y cl0 (tys0 cA) A ad cA w_L) : wm_con l y_Z_markAll (cd_Z_markAll :: gw) rm_Z_markAll D cl0 (tys0 cA) A ad cA w_L f_Z_markAll :=
  wm_meth (cV := cV_Z_markAll) (cS := cS_Z_markAll) (by decide) rfl hY (fun r h => wm_fok_mono (fun _ h => List.mem_cons_of_mem _ h) (fk_Z r h)) (fun r h => wm_cok_mono (fun _ h => List.mem_cons_of_mem _ h) (ck_Z r h)) tk_Z_markAll
    (List.forall_mem_cons.mpr ⟨⟨y_Z_wantsInstruction, b_Z_wantsInstruction, 4, wm_rtT 3, cd_Z_wantsInstruction :: gw, gw, rm_Z_wantsInstruction, 1, 8, 29, T_Z, c_Z_wantsInstruction hY, rfl, gw_V (gw_at 844 (by decide +kernel) rfl) gi_Z_wantsInstruction gs_Z_wantsInstruction gn_Z cw_Z_wantsInstruction, rfl, rfl, ⟨by decide, by decide, by decide +kernel⟩, rfl, ⟨by decide, by decide⟩, rfl, fun vs S r h => (wm_fn_some (v := r.1) (S' := r.2) h).1⟩, List.forall_mem_cons.mpr ⟨⟨y_Z_wantsEnd, b_Z_wantsEnd, 3, wm_rtT 3, cd_Z_wantsEnd :: gw, gw, rm_Z_wantsEnd, 1, 8, 29, T_Z, c_Z_wantsEnd hY, rfl, gw_V (gw_at 856 (by decide +kernel) rfl) gi_Z_wantsEnd gs_Z_wantsEnd gn_Z cw_Z_wantsEnd, rfl, rfl, ⟨by decide, by decide, by decide +kernel⟩, rfl, ⟨by decide, by decide⟩, rfl, fun vs S r h => (wm_fn_some (v := r.1) (S' := r.2) h).1⟩, fun _ h => nomatch h⟩⟩)
    (fun _ h => nomatch h)
    bd_Z_markAll
/-! CodePrunerModel.cut -/
def y_Z_cut : MethodName := ⟨"CodePrunerModel", "cut", "(I)V"⟩
abbrev b_Z_cut : ByteArray := prog_10_method_32_code
def tb_Z_cut : List wm_R := [(0, .aload_n 0, 1, 0), (1, .getfield 56, 4, 0), (4, .iload_n 1, 5, 0), (5, .aload_n 0, 6, 0), (6, .getfield 7, 9, 0), (9, .iload_n 1, 10, 0), (10, .iaload, 11, 0), (11, .iastore, 12, 0), (12, .aload_n 0, 13, 0), (13, .getfield 59, 16, 0), (16, .iload_n 1, 17, 0), (17, .aload_n 0, 18, 0), (18, .getfield 16, 21, 0), (21, .iload_n 1, 22, 0), (22, .iaload, 23, 0), (23, .iastore, 24, 0), (24, .aload_n 0, 25, 0), (25, .getfield 62, 28, 0), (28, .iload_n 1, 29, 0), (29, .aload_n 0, 30, 0), (30, .getfield 19, 33, 0), (33, .iload_n 1, 34, 0), (34, .iaload, 35, 0), (35, .iastore, 36, 0), (36, .aload_n 0, 37, 0), (37, .getfield 7, 40, 0), (40, .iload_n 1, 41, 0), (41, .iaload, 42, 0), (42, .iconst 2, 43, 0), (43, .if_icmp .ne 12, 46, 55), (46, .aload_n 0, 47, 0), (47, .getfield 53, 50, 0), (50, .iload_n 1, 51, 0), (51, .baload, 52, 0), (52, .ifCond .eq 4, 55, 56), (55, .return_, 56, 0), (56, .aload_n 0, 57, 0), (57, .getfield 41, 60, 0), (60, .iload_n 1, 61, 0), (61, .iaload, 62, 0), (62, .istore_n 2, 63, 0), (63, .aload_n 0, 64, 0), (64, .iload_n 2, 65, 0), (65, .invokevirtual 154, 68, 0), (68, .ifCond .ne 13, 71, 81), (71, .aload_n 0, 72, 0), (72, .getfield 41, 75, 0), (75, .iload_n 2, 76, 0), (76, .iaload, 77, 0), (77, .istore_n 2, 78, 0), (78, .goto (-15), 81, 63), (81, .aload_n 0, 82, 0), (82, .getfield 56, 85, 0), (85, .iload_n 1, 86, 0), (86, .iconst 1, 87, 0), (87, .iastore, 88, 0), (88, .aload_n 0, 89, 0), (89, .getfield 59, 92, 0), (92, .iload_n 1, 93, 0), (93, .iload_n 2, 94, 0), (94, .iastore, 95, 0), (95, .aload_n 0, 96, 0), (96, .getfield 62, 99, 0), (99, .iload_n 1, 100, 0), (100, .iconst (-1), 101, 0), (101, .iastore, 102, 0), (102, .return_, 103, 0)]
theorem tk_Z_cut : tb_Z_cut.all (wm_rokb b_Z_cut) = true := by decide +kernel
abbrev cd_Z_cut : Cond := Cond.code y_Z_cut b_Z_cut 3 (wm_rtT 0)
theorem cw_Z_cut : cd_Z_cut ∈ gw := gw_at 871 (by decide +kernel) rfl
theorem gi_Z_cut : Cond.instanceMethod y_Z_cut ∈ gw := gw_at 870 (by decide +kernel) rfl
theorem gs_Z_cut : Cond.selects "CodePrunerModel" y_Z_cut y_Z_cut ∈ gw := gw_of (List.mem_append_left _ (List.mem_of_getElem? (i := 39) (by decide +kernel))) rfl
def t_Z_cut : wm_St := (ws_seq (ws_ai w_L (wx_fr w_L 8 19 (wx_r 0)) (wx_i 1) (wx_ai w_L 0 (wx_fr w_L 8 2 (wx_r 0)) (wx_i 1)))
  (ws_seq (ws_ai w_L (wx_fr w_L 8 20 (wx_r 0)) (wx_i 1) (wx_ai w_L 0 (wx_fr w_L 8 4 (wx_r 0)) (wx_i 1)))
  (ws_seq (ws_ai w_L (wx_fr w_L 8 21 (wx_r 0)) (wx_i 1) (wx_ai w_L 0 (wx_fr w_L 8 5 (wx_r 0)) (wx_i 1)))
  (ws_seq (ws_if (wb_or (wx_bin wr_ne (wx_ai w_L 0 (wx_fr w_L 8 2 (wx_r 0)) (wx_i 1)) (wx_c (2 : Int32))) (wx_un (fun v => wr_ne v 0) (wx_ai w_L 3 (wx_fr w_L 8 18 (wx_r 0)) (wx_i 1))))
  ws_retv)
  (ws_seq (ws_i 2 (wx_ai w_L 0 (wx_fr w_L 8 14 (wx_r 0)) (wx_i 1)))
  (ws_seq (ws_loop (wb_not (wx_un (fun v => wr_ne v 0) (wx_call wm_pi f_Z_marked (wx_ac .ref (wx_r 0) (wx_a1 .int (wx_i 2))))))
  (ws_i 2 (wx_ai w_L 0 (wx_fr w_L 8 14 (wx_r 0)) (wx_i 2))) w_N)
  (ws_seq (ws_ai w_L (wx_fr w_L 8 19 (wx_r 0)) (wx_i 1) (wx_c (1 : Int32)))
  (ws_seq (ws_ai w_L (wx_fr w_L 8 20 (wx_r 0)) (wx_i 1) (wx_i 2))
  (ws_seq (ws_ai w_L (wx_fr w_L 8 21 (wx_r 0)) (wx_i 1) (wx_c (-1 : Int32)))
  ws_retv)))))))))
def f_Z_cut : List Value → wm_S → Option (Option Value × wm_S) := wm_fn (wm_isc w_L 8) 0 3 t_Z_cut
def rm_Z_cut : Room := { frames := 1, locals := 23 }
abbrev cV_Z_cut : List (Nat × wm_M) := [(154, 2, f_Z_marked)]
abbrev cS_Z_cut : List (Nat × wm_M) := []
set_option maxRecDepth 20000 in
theorem bd_Z_cut (w : wm_K) (ret : Option Value → wm_S → Prop) (hc : wm_cl w_L fl_Z cs_Z none cV_Z_cut cS_Z_cut ret tb_Z_cut w) : wm_T w tb_Z_cut ret 0 9999 t_Z_cut :=
  (wm_t_seq (wm_t_ai hc (wm_x_fr hc (wm_x_rn hc rfl rfl) rfl rfl) (wm_x_in hc rfl rfl) (wm_x_ai hc (wm_x_fr hc (wm_x_rn hc rfl rfl) rfl rfl) (wm_x_in hc rfl rfl) rfl) rfl)
  (wm_t_seq (wm_t_ai hc (wm_x_fr hc (wm_x_rn hc rfl rfl) rfl rfl) (wm_x_in hc rfl rfl) (wm_x_ai hc (wm_x_fr hc (wm_x_rn hc rfl rfl) rfl rfl) (wm_x_in hc rfl rfl) rfl) rfl)
  (wm_t_seq (wm_t_ai hc (wm_x_fr hc (wm_x_rn hc rfl rfl) rfl rfl) (wm_x_in hc rfl rfl) (wm_x_ai hc (wm_x_fr hc (wm_x_rn hc rfl rfl) rfl rfl) (wm_x_in hc rfl rfl) rfl) rfl)
  (wm_t_seq (wm_t_if (wm_b_or (wm_b_cmp hc (wm_x_ai hc (wm_x_fr hc (wm_x_rn hc rfl rfl) rfl rfl) (wm_x_in hc rfl rfl) rfl) (wm_x_iconst hc rfl (by decide)) rfl rfl wm_j_neT) (wm_b_un hc (wm_x_az hc (wm_x_fr hc (wm_x_rn hc rfl rfl) rfl rfl) (wm_x_in hc rfl rfl) rfl) rfl rfl wm_z_neF))
  (wm_t_retv hc rfl) rfl)
  (wm_t_seq (wm_t_in hc (wm_x_ai hc (wm_x_fr hc (wm_x_rn hc rfl rfl) rfl rfl) (wm_x_in hc rfl rfl) rfl) rfl rfl)
  (wm_t_seq (wm_t_loop (wm_b_not (wm_b_un hc (wm_x_callV hc wm_pi_ok (wm_a_c (wm_x_rn hc rfl rfl) (wm_a_1 (wm_x_in hc rfl rfl))) rfl rfl (by decide)) rfl rfl wm_z_neT))
  (wm_t_in hc (wm_x_ai hc (wm_x_fr hc (wm_x_rn hc rfl rfl) rfl rfl) (wm_x_in hc rfl rfl) rfl) rfl rfl) rfl)
  (wm_t_seq (wm_t_ai hc (wm_x_fr hc (wm_x_rn hc rfl rfl) rfl rfl) (wm_x_in hc rfl rfl) (wm_x_iconst hc rfl (by decide)) rfl)
  (wm_t_seq (wm_t_ai hc (wm_x_fr hc (wm_x_rn hc rfl rfl) rfl rfl) (wm_x_in hc rfl rfl) (wm_x_in hc rfl rfl) rfl)
  (wm_t_seq (wm_t_ai hc (wm_x_fr hc (wm_x_rn hc rfl rfl) rfl rfl) (wm_x_in hc rfl rfl) (wm_x_iconst hc rfl (by decide)) rfl)
  (wm_t_retv hc rfl))))))))))
theorem c_Z_cut {l : Launch} {D : va_G} {A : Nat → Prop} {ad : Nat → Nat} {cA : Nat → ClassId} (hY : wm_Y cl0 (tys0 cA) A ad cA w_L) : wm_con l y_Z_cut (cd_Z_cut :: gw) rm_Z_cut D cl0 (tys0 cA) A ad cA w_L f_Z_cut :=
  wm_meth (cV := cV_Z_cut) (cS := cS_Z_cut) (by decide) rfl hY (fun r h => wm_fok_mono (fun _ h => List.mem_cons_of_mem _ h) (fk_Z r h)) (fun r h => wm_cok_mono (fun _ h => List.mem_cons_of_mem _ h) (ck_Z r h)) tk_Z_cut
    (List.forall_mem_cons.mpr ⟨⟨y_Z_marked, b_Z_marked, 4, wm_rtT 3, cd_Z_marked :: gw, gw, rm_Z_marked, 1, 8, 29, T_Z, c_Z_marked hY, rfl, gw_V (gw_at 860 (by decide +kernel) rfl) gi_Z_marked gs_Z_marked gn_Z cw_Z_marked, rfl, rfl, ⟨by decide, by decide, by decide +kernel⟩, rfl, ⟨by decide, by decide⟩, rfl, fun vs S r h => (wm_fn_some (v := r.1) (S' := r.2) h).1⟩, fun _ h => nomatch h⟩)
    (fun _ h => nomatch h)
    bd_Z_cut
/-! CodePrunerModel.prune -/
def y_Z_prune : MethodName := ⟨"CodePrunerModel", "prune", "()I"⟩
abbrev b_Z_prune : ByteArray := prog_10_method_33_code
def tb_Z_prune : List wm_R := [(0, .aload_n 0, 1, 0), (1, .aload_n 0, 2, 0), (2, .getfield 98, 5, 0), (5, .ifCond .ne 7, 8, 12), (8, .iconst 1, 9, 0), (9, .goto 15, 12, 24), (12, .aload_n 0, 13, 0), (13, .invokevirtual 166, 16, 0), (16, .ifCond .eq 7, 19, 23), (19, .iconst 0, 20, 0), (20, .goto 4, 23, 24), (23, .iconst 2, 24, 0), (24, .putfield 71, 27, 0), (27, .aload_n 0, 28, 0), (28, .getfield 71, 31, 0), (31, .ifCond .le 5, 34, 36), (34, .iconst 0, 35, 0), (35, .ireturn, 36, 0), (36, .aload_n 0, 37, 0), (37, .invokevirtual 169, 40, 0), (40, .iconst 0, 41, 0), (41, .istore_n 1, 42, 0), (42, .iload_n 1, 43, 0), (43, .aload_n 0, 44, 0), (44, .getfield 121, 47, 0), (47, .if_icmp .ge 14, 50, 61), (50, .aload_n 0, 51, 0), (51, .iload_n 1, 52, 0), (52, .invokevirtual 172, 55, 0), (55, .iinc 1 1, 58, 0), (58, .goto (-16), 61, 42), (61, .aload_n 0, 62, 0), (62, .invokevirtual 175, 65, 0), (65, .iconst 0, 66, 0), (66, .istore_n 1, 67, 0), (67, .iload_n 1, 68, 0), (68, .aload_n 0, 69, 0), (69, .getfield 98, 72, 0), (72, .if_icmp .ge 14, 75, 86), (75, .aload_n 0, 76, 0), (76, .iload_n 1, 77, 0), (77, .invokevirtual 178, 80, 0), (80, .iinc 1 1, 83, 0), (83, .goto (-16), 86, 67), (86, .aload_n 0, 87, 0), (87, .iconst 1, 88, 0), (88, .putfield 75, 91, 0), (91, .iconst 0, 92, 0), (92, .istore_n 1, 93, 0), (93, .iconst 0, 94, 0), (94, .istore_n 2, 95, 0), (95, .iload_n 2, 96, 0), (96, .aload_n 0, 97, 0), (97, .getfield 121, 100, 0), (100, .if_icmp .ge 26, 103, 126), (103, .aload_n 0, 104, 0), (104, .getfield 50, 107, 0), (107, .iload_n 2, 108, 0), (108, .baload, 109, 0), (109, .ifCond .eq 7, 112, 116), (112, .iload_n 1, 113, 0), (113, .goto 6, 116, 119), (116, .iload_n 1, 117, 0), (117, .iconst 1, 118, 0), (118, .iadd, 119, 0), (119, .istore_n 1, 120, 0), (120, .iinc 2 1, 123, 0), (123, .goto (-28), 126, 95), (126, .iload_n 1, 127, 0), (127, .ireturn, 128, 0)]
theorem tk_Z_prune : tb_Z_prune.all (wm_rokb b_Z_prune) = true := by decide +kernel
abbrev cd_Z_prune : Cond := Cond.code y_Z_prune b_Z_prune 3 (wm_rtT 1)
theorem cw_Z_prune : cd_Z_prune ∈ gw := gw_at 799 (by decide +kernel) rfl
theorem gi_Z_prune : Cond.instanceMethod y_Z_prune ∈ gw := gw_at 797 (by decide +kernel) rfl
theorem gs_Z_prune : Cond.selects "CodePrunerModel" y_Z_prune y_Z_prune ∈ gw := gw_at 798 (by decide +kernel) rfl
def t_Z_prune : wm_St := (ws_seq (ws_fi w_L 8 0 (wx_r 0) (wx_cond (wx_un (fun v => wr_eq v 0) (wx_fi w_L 8 1 (wx_r 0))) (wx_c (1 : Int32)) (wx_cond (wx_un (fun v => wr_ne v 0) (wx_call wm_pi f_Z_sound (wx_a1 .ref (wx_r 0)))) (wx_c (0 : Int32)) (wx_c (2 : Int32)))))
  (ws_seq (ws_if (wx_un (fun v => wr_gt v 0) (wx_fi w_L 8 0 (wx_r 0)))
  (ws_ret .int (wx_c (0 : Int32))))
  (ws_seq (ws_call f_Z_postDominate (wx_a1 .ref (wx_r 0)))
  (ws_seq (ws_seq (ws_i 1 (wx_c (0 : Int32)))
  (ws_loop (wx_bin wr_lt (wx_i 1) (wx_fi w_L 8 6 (wx_r 0)))
  (ws_seq (ws_call f_Z_follow (wx_ac .ref (wx_r 0) (wx_a1 .int (wx_i 1))))
  (ws_inc 1 (1 : Int32))) w_N))
  (ws_seq (ws_call f_Z_markAll (wx_a1 .ref (wx_r 0)))
  (ws_seq (ws_seq (ws_i 1 (wx_c (0 : Int32)))
  (ws_loop (wx_bin wr_lt (wx_i 1) (wx_fi w_L 8 1 (wx_r 0)))
  (ws_seq (ws_call f_Z_cut (wx_ac .ref (wx_r 0) (wx_a1 .int (wx_i 1))))
  (ws_inc 1 (1 : Int32))) w_N))
  (ws_seq (ws_fi w_L 8 12 (wx_r 0) (wx_c (1 : Int32)))
  (ws_seq (ws_i 1 (wx_c (0 : Int32)))
  (ws_seq (ws_seq (ws_i 2 (wx_c (0 : Int32)))
  (ws_loop (wx_bin wr_lt (wx_i 2) (wx_fi w_L 8 6 (wx_r 0)))
  (ws_seq (ws_i 1 (wx_cond (wx_un (fun v => wr_ne v 0) (wx_ai w_L 3 (wx_fr w_L 8 17 (wx_r 0)) (wx_i 2))) (wx_i 1) (wx_bin wo_iadd (wx_i 1) (wx_c (1 : Int32)))))
  (ws_inc 2 (1 : Int32))) w_N))
  (ws_ret .int (wx_i 1)))))))))))
def f_Z_prune : List Value → wm_S → Option (Option Value × wm_S) := wm_fn (wm_isc w_L 8) 1 3 t_Z_prune
def rm_Z_prune : Room := { frames := 4, locals := 88 }
abbrev cV_Z_prune : List (Nat × wm_M) := [(166, 1, f_Z_sound), (169, 1, f_Z_postDominate), (172, 2, f_Z_follow), (175, 1, f_Z_markAll), (178, 2, f_Z_cut)]
abbrev cS_Z_prune : List (Nat × wm_M) := []
set_option maxRecDepth 20000 in
theorem bd_Z_prune (w : wm_K) (ret : Option Value → wm_S → Prop) (hc : wm_cl w_L fl_Z cs_Z none cV_Z_prune cS_Z_prune ret tb_Z_prune w) : wm_T w tb_Z_prune ret 0 9999 t_Z_prune :=
  (wm_t_seq (wm_t_fi hc (wm_x_rn hc rfl rfl) (wm_x_cond (wm_b_un hc (wm_x_fi hc (wm_x_rn hc rfl rfl) rfl rfl) rfl rfl wm_z_eqF) (wm_x_iconst hc rfl (by decide)) (wm_x_cond (wm_b_un hc (wm_x_callV hc wm_pi_ok (wm_a_1 (wm_x_rn hc rfl rfl)) rfl rfl (by decide)) rfl rfl wm_z_neF) (wm_x_iconst hc rfl (by decide)) (wm_x_iconst hc rfl (by decide)) rfl) rfl) rfl rfl)
  (wm_t_seq (wm_t_if (wm_b_un hc (wm_x_fi hc (wm_x_rn hc rfl rfl) rfl rfl) rfl rfl wm_z_gtF)
  (wm_t_ret hc (wm_x_iconst hc rfl (by decide)) rfl rfl (fun _ _ _ _ q => q)) rfl)
  (wm_t_seq (wm_t_callV hc (wm_a_1 (wm_x_rn hc rfl rfl)) rfl rfl)
  (wm_t_seq (wm_t_seq (wm_t_in hc (wm_x_iconst hc rfl (by decide)) rfl rfl)
  (wm_t_loop (wm_b_cmp hc (wm_x_in hc rfl rfl) (wm_x_fi hc (wm_x_rn hc rfl rfl) rfl rfl) rfl rfl wm_j_ltF)
  (wm_t_seq (wm_t_callV hc (wm_a_c (wm_x_rn hc rfl rfl) (wm_a_1 (wm_x_in hc rfl rfl))) rfl rfl)
  (wm_t_inc hc rfl (by decide))) rfl))
  (wm_t_seq (wm_t_callV hc (wm_a_1 (wm_x_rn hc rfl rfl)) rfl rfl)
  (wm_t_seq (wm_t_seq (wm_t_in hc (wm_x_iconst hc rfl (by decide)) rfl rfl)
  (wm_t_loop (wm_b_cmp hc (wm_x_in hc rfl rfl) (wm_x_fi hc (wm_x_rn hc rfl rfl) rfl rfl) rfl rfl wm_j_ltF)
  (wm_t_seq (wm_t_callV hc (wm_a_c (wm_x_rn hc rfl rfl) (wm_a_1 (wm_x_in hc rfl rfl))) rfl rfl)
  (wm_t_inc hc rfl (by decide))) rfl))
  (wm_t_seq (wm_t_fi hc (wm_x_rn hc rfl rfl) (wm_x_iconst hc rfl (by decide)) rfl rfl)
  (wm_t_seq (wm_t_in hc (wm_x_iconst hc rfl (by decide)) rfl rfl)
  (wm_t_seq (wm_t_seq (wm_t_in hc (wm_x_iconst hc rfl (by decide)) rfl rfl)
  (wm_t_loop (wm_b_cmp hc (wm_x_in hc rfl rfl) (wm_x_fi hc (wm_x_rn hc rfl rfl) rfl rfl) rfl rfl wm_j_ltF)
  (wm_t_seq (wm_t_in hc (wm_x_cond (wm_b_un hc (wm_x_az hc (wm_x_fr hc (wm_x_rn hc rfl rfl) rfl rfl) (wm_x_in hc rfl rfl) rfl) rfl rfl wm_z_neF) (wm_x_in hc rfl rfl) (wm_x_bin hc (wm_x_in hc rfl rfl) (wm_x_iconst hc rfl (by decide)) rfl rfl (fun _ _ _ _ _ _ q => q)) rfl) rfl rfl)
  (wm_t_inc hc rfl (by decide))) rfl))
  (wm_t_ret hc (wm_x_in hc rfl rfl) rfl rfl (fun _ _ _ _ q => q)))))))))))
theorem c_Z_prune {l : Launch} {D : va_G} {A : Nat → Prop} {ad : Nat → Nat} {cA : Nat → ClassId} (hY : wm_Y cl0 (tys0 cA) A ad cA w_L) : wm_con l y_Z_prune (cd_Z_prune :: gw) rm_Z_prune D cl0 (tys0 cA) A ad cA w_L f_Z_prune :=
  wm_meth (cV := cV_Z_prune) (cS := cS_Z_prune) (by decide) rfl hY (fun r h => wm_fok_mono (fun _ h => List.mem_cons_of_mem _ h) (fk_Z r h)) (fun r h => wm_cok_mono (fun _ h => List.mem_cons_of_mem _ h) (ck_Z r h)) tk_Z_prune
    (List.forall_mem_cons.mpr ⟨⟨y_Z_sound, b_Z_sound, 3, wm_rtT 3, cd_Z_sound :: gw, gw, rm_Z_sound, 0, 8, 29, T_Z, c_Z_sound hY, rfl, gw_V (gw_at 800 (by decide +kernel) rfl) gi_Z_sound gs_Z_sound gn_Z cw_Z_sound, rfl, rfl, ⟨by decide, by decide, by decide +kernel⟩, rfl, ⟨by decide, by decide⟩, rfl, fun vs S r h => (wm_fn_some (v := r.1) (S' := r.2) h).1⟩, List.forall_mem_cons.mpr ⟨⟨y_Z_postDominate, b_Z_postDominate, 3, wm_rtT 0, cd_Z_postDominate :: gw, gw, rm_Z_postDominate, 0, 8, 29, T_Z, c_Z_postDominate hY, rfl, gw_V (gw_at 816 (by decide +kernel) rfl) gi_Z_postDominate gs_Z_postDominate gn_Z cw_Z_postDominate, rfl, rfl, ⟨by decide, by decide, by decide +kernel⟩, rfl, ⟨by decide, by decide⟩, rfl, fun vs S r h => (wm_fn_some (v := r.1) (S' := r.2) h).1⟩, List.forall_mem_cons.mpr ⟨⟨y_Z_follow, b_Z_follow, 7, wm_rtT 0, cd_Z_follow :: gw, gw, rm_Z_follow, 1, 8, 29, T_Z, c_Z_follow hY, rfl, gw_V (gw_at 828 (by decide +kernel) rfl) gi_Z_follow gs_Z_follow gn_Z cw_Z_follow, rfl, rfl, ⟨by decide, by decide, by decide +kernel⟩, rfl, ⟨by decide, by decide⟩, rfl, fun vs S r h => (wm_fn_some (v := r.1) (S' := r.2) h).1⟩, List.forall_mem_cons.mpr ⟨⟨y_Z_markAll, b_Z_markAll, 3, wm_rtT 0, cd_Z_markAll :: gw, gw, rm_Z_markAll, 0, 8, 29, T_Z, c_Z_markAll hY, rfl, gw_V (gw_at 840 (by decide +kernel) rfl) gi_Z_markAll gs_Z_markAll gn_Z cw_Z_markAll, rfl, rfl, ⟨by decide, by decide, by decide +kernel⟩, rfl, ⟨by decide, by decide⟩, rfl, fun vs S r h => (wm_fn_some (v := r.1) (S' := r.2) h).1⟩, List.forall_mem_cons.mpr ⟨⟨y_Z_cut, b_Z_cut, 3, wm_rtT 0, cd_Z_cut :: gw, gw, rm_Z_cut, 1, 8, 29, T_Z, c_Z_cut hY, rfl, gw_V (gw_at 868 (by decide +kernel) rfl) gi_Z_cut gs_Z_cut gn_Z cw_Z_cut, rfl, rfl, ⟨by decide, by decide, by decide +kernel⟩, rfl, ⟨by decide, by decide⟩, rfl, fun vs S r h => (wm_fn_some (v := r.1) (S' := r.2) h).1⟩, fun _ h => nomatch h⟩⟩⟩⟩⟩)
    (fun _ h => nomatch h)
    bd_Z_prune
/-! CodePrunerModel.count -/
def y_Z_count : MethodName := ⟨"CodePrunerModel", "count", "(I)I"⟩
abbrev b_Z_count : ByteArray := prog_10_method_34_code
def tb_Z_count : List wm_R := [(0, .aload_n 0, 1, 0), (1, .iconst 0, 2, 0), (2, .putfield 71, 5, 0), (5, .iconst 0, 6, 0), (6, .istore_n 2, 7, 0), (7, .iconst 0, 8, 0), (8, .istore_n 3, 9, 0), (9, .iload_n 3, 10, 0), (10, .aload_n 0, 11, 0), (11, .getfield 98, 14, 0), (14, .if_icmp .ge 39, 17, 53), (17, .aload_n 0, 18, 0), (18, .getfield 75, 21, 0), (21, .ifCond .eq 32, 24, 53), (24, .aload_n 0, 25, 0), (25, .getfield 7, 28, 0), (28, .iload_n 3, 29, 0), (29, .iaload, 30, 0), (30, .aload_n 0, 31, 0), (31, .getfield 56, 34, 0), (34, .iload_n 3, 35, 0), (35, .iaload, 36, 0), (36, .if_icmp .ne 7, 39, 43), (39, .iload_n 2, 40, 0), (40, .goto 6, 43, 46), (43, .iload_n 2, 44, 0), (44, .iconst 1, 45, 0), (45, .iadd, 46, 0), (46, .istore_n 2, 47, 0), (47, .iinc 3 1, 50, 0), (50, .goto (-41), 53, 9), (53, .iload_n 1, 54, 0), (54, .ifCond .ne 10, 57, 64), (57, .aload_n 0, 58, 0), (58, .getfield 98, 61, 0), (61, .goto 32, 64, 93), (64, .iload_n 1, 65, 0), (65, .iconst 1, 66, 0), (66, .if_icmp .ne 10, 69, 76), (69, .aload_n 0, 70, 0), (70, .getfield 121, 73, 0), (73, .goto 20, 76, 93), (76, .iload_n 1, 77, 0), (77, .iconst 2, 78, 0), (78, .if_icmp .ne 14, 81, 92), (81, .aload_n 0, 82, 0), (82, .getfield 75, 85, 0), (85, .ifCond .eq 7, 88, 92), (88, .iload_n 2, 89, 0), (89, .goto 4, 92, 93), (92, .iconst (-1), 93, 0), (93, .ireturn, 94, 0)]
theorem tk_Z_count : tb_Z_count.all (wm_rokb b_Z_count) = true := by decide +kernel
abbrev cd_Z_count : Cond := Cond.code y_Z_count b_Z_count 4 (wm_rtT 1)
theorem cw_Z_count : cd_Z_count ∈ gw := gw_at 875 (by decide +kernel) rfl
theorem gi_Z_count : Cond.instanceMethod y_Z_count ∈ gw := gw_at 873 (by decide +kernel) rfl
theorem gs_Z_count : Cond.selects "CodePrunerModel" y_Z_count y_Z_count ∈ gw := gw_at 874 (by decide +kernel) rfl
def t_Z_count : wm_St := (ws_seq (ws_fi w_L 8 0 (wx_r 0) (wx_c (0 : Int32)))
  (ws_seq (ws_i 2 (wx_c (0 : Int32)))
  (ws_seq (ws_seq (ws_i 3 (wx_c (0 : Int32)))
  (ws_loop (wb_and (wx_bin wr_lt (wx_i 3) (wx_fi w_L 8 1 (wx_r 0))) (wx_un (fun v => wr_ne v 0) (wx_fi w_L 8 12 (wx_r 0))))
  (ws_seq (ws_i 2 (wx_cond (wx_bin wr_eq (wx_ai w_L 0 (wx_fr w_L 8 2 (wx_r 0)) (wx_i 3)) (wx_ai w_L 0 (wx_fr w_L 8 19 (wx_r 0)) (wx_i 3))) (wx_i 2) (wx_bin wo_iadd (wx_i 2) (wx_c (1 : Int32)))))
  (ws_inc 3 (1 : Int32))) w_N))
  (ws_ret .int (wx_cond (wx_un (fun v => wr_eq v 0) (wx_i 1)) (wx_fi w_L 8 1 (wx_r 0)) (wx_cond (wx_bin wr_eq (wx_i 1) (wx_c (1 : Int32))) (wx_fi w_L 8 6 (wx_r 0)) (wx_cond (wb_and (wx_bin wr_eq (wx_i 1) (wx_c (2 : Int32))) (wx_un (fun v => wr_ne v 0) (wx_fi w_L 8 12 (wx_r 0)))) (wx_i 2) (wx_c (-1 : Int32)))))))))
def f_Z_count : List Value → wm_S → Option (Option Value × wm_S) := wm_fn (wm_isc w_L 8) 1 4 t_Z_count
def rm_Z_count : Room := { frames := 0, locals := 0 }
abbrev cV_Z_count : List (Nat × wm_M) := []
abbrev cS_Z_count : List (Nat × wm_M) := []
set_option maxRecDepth 20000 in
theorem bd_Z_count (w : wm_K) (ret : Option Value → wm_S → Prop) (hc : wm_cl w_L fl_Z cs_Z none cV_Z_count cS_Z_count ret tb_Z_count w) : wm_T w tb_Z_count ret 0 9999 t_Z_count :=
  (wm_t_seq (wm_t_fi hc (wm_x_rn hc rfl rfl) (wm_x_iconst hc rfl (by decide)) rfl rfl)
  (wm_t_seq (wm_t_in hc (wm_x_iconst hc rfl (by decide)) rfl rfl)
  (wm_t_seq (wm_t_seq (wm_t_in hc (wm_x_iconst hc rfl (by decide)) rfl rfl)
  (wm_t_loop (wm_b_and (wm_b_cmp hc (wm_x_in hc rfl rfl) (wm_x_fi hc (wm_x_rn hc rfl rfl) rfl rfl) rfl rfl wm_j_ltF) (wm_b_un hc (wm_x_fi hc (wm_x_rn hc rfl rfl) rfl rfl) rfl rfl wm_z_neF))
  (wm_t_seq (wm_t_in hc (wm_x_cond (wm_b_cmp hc (wm_x_ai hc (wm_x_fr hc (wm_x_rn hc rfl rfl) rfl rfl) (wm_x_in hc rfl rfl) rfl) (wm_x_ai hc (wm_x_fr hc (wm_x_rn hc rfl rfl) rfl rfl) (wm_x_in hc rfl rfl) rfl) rfl rfl wm_j_eqF) (wm_x_in hc rfl rfl) (wm_x_bin hc (wm_x_in hc rfl rfl) (wm_x_iconst hc rfl (by decide)) rfl rfl (fun _ _ _ _ _ _ q => q)) rfl) rfl rfl)
  (wm_t_inc hc rfl (by decide))) rfl))
  (wm_t_ret hc (wm_x_cond (wm_b_un hc (wm_x_in hc rfl rfl) rfl rfl wm_z_eqF) (wm_x_fi hc (wm_x_rn hc rfl rfl) rfl rfl) (wm_x_cond (wm_b_cmp hc (wm_x_in hc rfl rfl) (wm_x_iconst hc rfl (by decide)) rfl rfl wm_j_eqF) (wm_x_fi hc (wm_x_rn hc rfl rfl) rfl rfl) (wm_x_cond (wm_b_and (wm_b_cmp hc (wm_x_in hc rfl rfl) (wm_x_iconst hc rfl (by decide)) rfl rfl wm_j_eqF) (wm_b_un hc (wm_x_fi hc (wm_x_rn hc rfl rfl) rfl rfl) rfl rfl wm_z_neF)) (wm_x_in hc rfl rfl) (wm_x_iconst hc rfl (by decide)) rfl) rfl) rfl) rfl rfl (fun _ _ _ _ q => q)))))
theorem c_Z_count {l : Launch} {D : va_G} {A : Nat → Prop} {ad : Nat → Nat} {cA : Nat → ClassId} (hY : wm_Y cl0 (tys0 cA) A ad cA w_L) : wm_con l y_Z_count (cd_Z_count :: gw) rm_Z_count D cl0 (tys0 cA) A ad cA w_L f_Z_count :=
  wm_meth (cV := cV_Z_count) (cS := cS_Z_count) (by decide) rfl hY (fun r h => wm_fok_mono (fun _ h => List.mem_cons_of_mem _ h) (fk_Z r h)) (fun r h => wm_cok_mono (fun _ h => List.mem_cons_of_mem _ h) (ck_Z r h)) tk_Z_count
    (fun _ h => nomatch h)
    (fun _ h => nomatch h)
    bd_Z_count
/-! CodePrunerModel.next -/
def y_Z_next : MethodName := ⟨"CodePrunerModel", "next", "(I)I"⟩
abbrev b_Z_next : ByteArray := prog_10_method_35_code
def tb_Z_next : List wm_R := [(0, .aload_n 0, 1, 0), (1, .getfield 75, 4, 0), (4, .ifCond .eq 11, 7, 15), (7, .aload_n 0, 8, 0), (8, .iload_n 1, 9, 0), (9, .invokevirtual 118, 12, 0), (12, .ifCond .ne 9, 15, 21), (15, .aload_n 0, 16, 0), (16, .iconst 1, 17, 0), (17, .invokevirtual 181, 20, 0), (20, .ireturn, 21, 0), (21, .aload_n 0, 22, 0), (22, .iconst 0, 23, 0), (23, .putfield 71, 26, 0), (26, .aload_n 0, 27, 0), (27, .getfield 41, 30, 0), (30, .iload_n 1, 31, 0), (31, .iaload, 32, 0), (32, .ireturn, 33, 0)]
theorem tk_Z_next : tb_Z_next.all (wm_rokb b_Z_next) = true := by decide +kernel
abbrev cd_Z_next : Cond := Cond.code y_Z_next b_Z_next 2 (wm_rtT 1)
theorem cw_Z_next : cd_Z_next ∈ gw := gw_at 879 (by decide +kernel) rfl
theorem gi_Z_next : Cond.instanceMethod y_Z_next ∈ gw := gw_at 877 (by decide +kernel) rfl
theorem gs_Z_next : Cond.selects "CodePrunerModel" y_Z_next y_Z_next ∈ gw := gw_at 878 (by decide +kernel) rfl
def t_Z_next : wm_St := (ws_seq (ws_if (wb_or (wb_not (wx_un (fun v => wr_ne v 0) (wx_fi w_L 8 12 (wx_r 0)))) (wb_not (wx_un (fun v => wr_ne v 0) (wx_call wm_pi f_Z_isBlock (wx_ac .ref (wx_r 0) (wx_a1 .int (wx_i 1)))))))
  (ws_ret .int (wx_call wm_pi f_Z_refuse (wx_ac .ref (wx_r 0) (wx_a1 .int (wx_c (1 : Int32)))))))
  (ws_seq (ws_fi w_L 8 0 (wx_r 0) (wx_c (0 : Int32)))
  (ws_ret .int (wx_ai w_L 0 (wx_fr w_L 8 14 (wx_r 0)) (wx_i 1)))))
def f_Z_next : List Value → wm_S → Option (Option Value × wm_S) := wm_fn (wm_isc w_L 8) 1 2 t_Z_next
def rm_Z_next : Room := { frames := 2, locals := 43 }
abbrev cV_Z_next : List (Nat × wm_M) := [(118, 2, f_Z_isBlock), (181, 2, f_Z_refuse)]
abbrev cS_Z_next : List (Nat × wm_M) := []
set_option maxRecDepth 20000 in
theorem bd_Z_next (w : wm_K) (ret : Option Value → wm_S → Prop) (hc : wm_cl w_L fl_Z cs_Z none cV_Z_next cS_Z_next ret tb_Z_next w) : wm_T w tb_Z_next ret 0 9999 t_Z_next :=
  (wm_t_seq (wm_t_if (wm_b_or (wm_b_not (wm_b_un hc (wm_x_fi hc (wm_x_rn hc rfl rfl) rfl rfl) rfl rfl wm_z_neF)) (wm_b_not (wm_b_un hc (wm_x_callV hc wm_pi_ok (wm_a_c (wm_x_rn hc rfl rfl) (wm_a_1 (wm_x_in hc rfl rfl))) rfl rfl (by decide)) rfl rfl wm_z_neT)))
  (wm_t_ret hc (wm_x_callV hc wm_pi_ok (wm_a_c (wm_x_rn hc rfl rfl) (wm_a_1 (wm_x_iconst hc rfl (by decide)))) rfl rfl (by decide)) rfl rfl (fun _ _ _ _ q => q)) rfl)
  (wm_t_seq (wm_t_fi hc (wm_x_rn hc rfl rfl) (wm_x_iconst hc rfl (by decide)) rfl rfl)
  (wm_t_ret hc (wm_x_ai hc (wm_x_fr hc (wm_x_rn hc rfl rfl) rfl rfl) (wm_x_in hc rfl rfl) rfl) rfl rfl (fun _ _ _ _ q => q))))
theorem c_Z_next {l : Launch} {D : va_G} {A : Nat → Prop} {ad : Nat → Nat} {cA : Nat → ClassId} (hY : wm_Y cl0 (tys0 cA) A ad cA w_L) : wm_con l y_Z_next (cd_Z_next :: gw) rm_Z_next D cl0 (tys0 cA) A ad cA w_L f_Z_next :=
  wm_meth (cV := cV_Z_next) (cS := cS_Z_next) (by decide) rfl hY (fun r h => wm_fok_mono (fun _ h => List.mem_cons_of_mem _ h) (fk_Z r h)) (fun r h => wm_cok_mono (fun _ h => List.mem_cons_of_mem _ h) (ck_Z r h)) tk_Z_next
    (List.forall_mem_cons.mpr ⟨⟨y_Z_isBlock, b_Z_isBlock, 2, wm_rtT 3, cd_Z_isBlock :: gw, gw, rm_Z_isBlock, 1, 8, 29, T_Z, c_Z_isBlock hY, rfl, gw_V (gw_at 784 (by decide +kernel) rfl) gi_Z_isBlock gs_Z_isBlock gn_Z cw_Z_isBlock, rfl, rfl, ⟨by decide, by decide, by decide +kernel⟩, rfl, ⟨by decide, by decide⟩, rfl, fun vs S r h => (wm_fn_some (v := r.1) (S' := r.2) h).1⟩, List.forall_mem_cons.mpr ⟨⟨y_Z_refuse, b_Z_refuse, 2, wm_rtT 1, cd_Z_refuse :: gw, gw, rm_Z_refuse, 1, 8, 29, T_Z, c_Z_refuse hY, rfl, gw_V (gw_at 880 (by decide +kernel) rfl) gi_Z_refuse gs_Z_refuse gn_Z cw_Z_refuse, rfl, rfl, ⟨by decide, by decide, by decide +kernel⟩, rfl, ⟨by decide, by decide⟩, rfl, fun vs S r h => (wm_fn_some (v := r.1) (S' := r.2) h).1⟩, fun _ h => nomatch h⟩⟩)
    (fun _ h => nomatch h)
    bd_Z_next
end WME_Z

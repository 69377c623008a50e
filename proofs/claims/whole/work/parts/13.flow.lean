section WME_F
/-! CodePruner$Flow.findReturning -/
def y_F_findReturning : MethodName := ⟨"CodePruner$Flow", "findReturning", "(LCodePruner$Program;I)I"⟩
abbrev b_F_findReturning : ByteArray := prog_3_method_3_code
def tb_F_findReturning : List wm_R := [(0, .iconst 0, 1, 0), (1, .istore_n 2, 2, 0), (2, .iconst 1, 3, 0), (3, .istore_n 3, 4, 0), (4, .iconst 0, 5, 0), (5, .istore 4, 7, 0), (7, .iload 4, 9, 0), (9, .aload_n 0, 10, 0), (10, .getfield 21, 13, 0), (13, .if_icmp .ge 100, 16, 113), (16, .iload_n 3, 17, 0), (17, .ifCond .eq 96, 20, 113), (20, .iload_n 2, 21, 0), (21, .istore 5, 23, 0), (23, .aload_n 0, 24, 0), (24, .getfield 21, 27, 0), (27, .iconst 1, 28, 0), (28, .isub, 29, 0), (29, .istore 6, 31, 0), (31, .iload 6, 33, 0), (33, .ifCond .lt 62, 36, 95), (36, .aload_n 0, 37, 0), (37, .getfield 41, 40, 0), (40, .getfield 45, 43, 0), (43, .iload 6, 45, 0), (45, .iaload, 46, 0), (46, .ifCond .eq 18, 49, 64), (49, .aload_n 0, 50, 0), (50, .getfield 41, 53, 0), (53, .getfield 50, 56, 0), (56, .iload 6, 58, 0), (58, .iaload, 59, 0), (59, .iload_n 2, 60, 0), (60, .iand, 61, 0), (61, .ifCond .eq 7, 64, 68), (64, .iconst 1, 65, 0), (65, .goto 4, 68, 69), (68, .iconst 0, 69, 0), (69, .istore 7, 71, 0), (71, .iload 7, 73, 0), (73, .ifCond .eq 16, 76, 89), (76, .iload 6, 78, 0), (78, .iload_n 1, 79, 0), (79, .if_icmp .eq 10, 82, 89), (82, .iload_n 2, 83, 0), (83, .iconst 1, 84, 0), (84, .iload 6, 86, 0), (86, .ishl, 87, 0), (87, .ior, 88, 0), (88, .istore_n 2, 89, 0), (89, .iinc 6 (-1), 92, 0), (92, .goto (-61), 95, 31), (95, .iload_n 2, 96, 0), (96, .iload 5, 98, 0), (98, .if_icmp .eq 7, 101, 105), (101, .iconst 1, 102, 0), (102, .goto 4, 105, 106), (105, .iconst 0, 106, 0), (106, .istore_n 3, 107, 0), (107, .iinc 4 1, 110, 0), (110, .goto (-103), 113, 7), (113, .iload_n 2, 114, 0), (114, .ireturn, 115, 0)]
theorem tk_F_findReturning : tb_F_findReturning.all (wm_rokb b_F_findReturning) = true := by decide +kernel
abbrev cd_F_findReturning : Cond := Cond.code y_F_findReturning b_F_findReturning 8 (wm_rtT 1)
theorem cw_F_findReturning : cd_F_findReturning ∈ gw := gw_at 462 (by decide +kernel) rfl
theorem gi_F_findReturning : Cond.static y_F_findReturning ∈ gw := gw_at 461 (by decide +kernel) rfl
def t_F_findReturning : wm_St := (ws_seq (ws_i 2 (wx_c (0 : Int32)))
  (ws_seq (ws_i 3 (wx_c (1 : Int32)))
  (ws_seq (ws_seq (ws_i 4 (wx_c (0 : Int32)))
  (ws_loop (wb_and (wx_bin wr_lt (wx_i 4) (wx_fi w_L 1 0 (wx_r 0))) (wx_un (fun v => wr_ne v 0) (wx_i 3)))
  (ws_seq (ws_seq (ws_i 5 (wx_i 2))
  (ws_seq (ws_seq (ws_i 6 (wx_bin wo_isub (wx_fi w_L 1 0 (wx_r 0)) (wx_c (1 : Int32))))
  (ws_loop (wx_un (fun v => wr_ge v 0) (wx_i 6))
  (ws_seq (ws_seq (ws_i 7 (wx_cond (wb_or (wx_un (fun v => wr_eq v 0) (wx_ai w_L 0 (wx_fr w_L 2 0 (wx_fr w_L 1 9 (wx_r 0))) (wx_i 6))) (wx_un (fun v => wr_ne v 0) (wx_bin wo_iand (wx_ai w_L 0 (wx_fr w_L 2 4 (wx_fr w_L 1 9 (wx_r 0))) (wx_i 6)) (wx_i 2)))) (wx_c (1 : Int32)) (wx_c (0 : Int32))))
  (ws_if (wb_and (wx_un (fun v => wr_ne v 0) (wx_i 7)) (wx_bin wr_ne (wx_i 6) (wx_i 1)))
  (ws_i 2 (wx_bin wo_ior (wx_i 2) (wx_bin wo_ishl (wx_c (1 : Int32)) (wx_i 6))))))
  (ws_inc 6 (-1 : Int32))) w_N))
  (ws_i 3 (wx_cond (wx_bin wr_ne (wx_i 2) (wx_i 5)) (wx_c (1 : Int32)) (wx_c (0 : Int32))))))
  (ws_inc 4 (1 : Int32))) w_N))
  (ws_ret .int (wx_i 2)))))
def f_F_findReturning : List Value → wm_S → Option (Option Value × wm_S) := wm_fn wm_any 1 8 t_F_findReturning
def rm_F_findReturning : Room := { frames := 0, locals := 0 }
abbrev cV_F_findReturning : List (Nat × wm_M) := []
abbrev cS_F_findReturning : List (Nat × wm_M) := []
set_option maxRecDepth 20000 in
theorem bd_F_findReturning (w : wm_K) (ret : Option Value → wm_S → Prop) (hc : wm_cl w_L fl_F cs_F none cV_F_findReturning cS_F_findReturning ret tb_F_findReturning w) : wm_T w tb_F_findReturning ret 0 9999 t_F_findReturning :=
  (wm_t_seq (wm_t_in hc (wm_x_iconst hc rfl (by decide)) rfl rfl)
  (wm_t_seq (wm_t_in hc (wm_x_iconst hc rfl (by decide)) rfl rfl)
  (wm_t_seq (wm_t_seq (wm_t_i hc (wm_x_iconst hc rfl (by decide)) rfl)
  (wm_t_loop (wm_b_and (wm_b_cmp hc (wm_x_i hc rfl) (wm_x_fi hc (wm_x_rn hc rfl rfl) rfl rfl) rfl rfl wm_j_ltF) (wm_b_un hc (wm_x_in hc rfl rfl) rfl rfl wm_z_neF))
  (wm_t_seq (wm_t_seq (wm_t_i hc (wm_x_in hc rfl rfl) rfl)
  (wm_t_seq (wm_t_seq (wm_t_i hc (wm_x_bin hc (wm_x_fi hc (wm_x_rn hc rfl rfl) rfl rfl) (wm_x_iconst hc rfl (by decide)) rfl rfl (fun _ _ _ _ _ _ q => q)) rfl)
  (wm_t_loop (wm_b_un hc (wm_x_i hc rfl) rfl rfl wm_z_geF)
  (wm_t_seq (wm_t_seq (wm_t_i hc (wm_x_cond (wm_b_or (wm_b_un hc (wm_x_ai hc (wm_x_fr hc (wm_x_fr hc (wm_x_rn hc rfl rfl) rfl rfl) rfl rfl) (wm_x_i hc rfl) rfl) rfl rfl wm_z_eqT) (wm_b_un hc (wm_x_bin hc (wm_x_ai hc (wm_x_fr hc (wm_x_fr hc (wm_x_rn hc rfl rfl) rfl rfl) rfl rfl) (wm_x_i hc rfl) rfl) (wm_x_in hc rfl rfl) rfl rfl (fun _ _ _ _ _ _ q => q)) rfl rfl wm_z_neF)) (wm_x_iconst hc rfl (by decide)) (wm_x_iconst hc rfl (by decide)) rfl) rfl)
  (wm_t_if (wm_b_and (wm_b_un hc (wm_x_i hc rfl) rfl rfl wm_z_neF) (wm_b_cmp hc (wm_x_i hc rfl) (wm_x_in hc rfl rfl) rfl rfl wm_j_neF))
  (wm_t_in hc (wm_x_bin hc (wm_x_in hc rfl rfl) (wm_x_bin hc (wm_x_iconst hc rfl (by decide)) (wm_x_i hc rfl) rfl rfl (fun _ _ _ _ _ _ q => q)) rfl rfl (fun _ _ _ _ _ _ q => q)) rfl rfl) rfl))
  (wm_t_inc hc rfl (by decide))) rfl))
  (wm_t_in hc (wm_x_cond (wm_b_cmp hc (wm_x_in hc rfl rfl) (wm_x_i hc rfl) rfl rfl wm_j_neF) (wm_x_iconst hc rfl (by decide)) (wm_x_iconst hc rfl (by decide)) rfl) rfl rfl)))
  (wm_t_inc hc rfl (by decide))) rfl))
  (wm_t_ret hc (wm_x_in hc rfl rfl) rfl rfl (fun _ _ _ _ q => q)))))
theorem c_F_findReturning {l : Launch} {D : va_G} {A : Nat → Prop} {ad : Nat → Nat} {cA : Nat → ClassId} (hY : wm_Y cl0 (tys0 cA) A ad cA w_L) : wm_con l y_F_findReturning (cd_F_findReturning :: gw) rm_F_findReturning D cl0 (tys0 cA) A ad cA w_L f_F_findReturning :=
  wm_meth (cV := cV_F_findReturning) (cS := cS_F_findReturning) (by decide) rfl hY (fun r h => wm_fok_mono (fun _ h => List.mem_cons_of_mem _ h) (fk_F r h)) (fun r h => wm_cok_mono (fun _ h => List.mem_cons_of_mem _ h) (ck_F r h)) tk_F_findReturning
    (fun _ h => nomatch h)
    (fun _ h => nomatch h)
    bd_F_findReturning
/-! CodePruner$Flow.postDominates -/
def y_F_postDominates : MethodName := ⟨"CodePruner$Flow", "postDominates", "(II)Z"⟩
abbrev b_F_postDominates : ByteArray := prog_3_method_4_code
def tb_F_postDominates : List wm_R := [(0, .aload_n 0, 1, 0), (1, .getfield 9, 4, 0), (4, .iload_n 1, 5, 0), (5, .iaload, 6, 0), (6, .iconst 1, 7, 0), (7, .iload_n 2, 8, 0), (8, .ishl, 9, 0), (9, .iand, 10, 0), (10, .ifCond .eq 7, 13, 17), (13, .iconst 1, 14, 0), (14, .goto 4, 17, 18), (17, .iconst 0, 18, 0), (18, .ireturn, 19, 0)]
theorem tk_F_postDominates : tb_F_postDominates.all (wm_rokb b_F_postDominates) = true := by decide +kernel
abbrev cd_F_postDominates : Cond := Cond.code y_F_postDominates b_F_postDominates 3 (wm_rtT 3)
theorem cw_F_postDominates : cd_F_postDominates ∈ gw := gw_at 496 (by decide +kernel) rfl
theorem gi_F_postDominates : Cond.instanceMethod y_F_postDominates ∈ gw := gw_at 495 (by decide +kernel) rfl
theorem gs_F_postDominates : Cond.selects "CodePruner$Flow" y_F_postDominates y_F_postDominates ∈ gw := gw_of (List.mem_append_left _ (List.mem_of_getElem? (i := 4) (by decide +kernel))) rfl
def t_F_postDominates : wm_St := (ws_ret .int (wx_cond (wx_un (fun v => wr_ne v 0) (wx_bin wo_iand (wx_ai w_L 0 (wx_fr w_L 4 0 (wx_r 0)) (wx_i 1)) (wx_bin wo_ishl (wx_c (1 : Int32)) (wx_i 2)))) (wx_c (1 : Int32)) (wx_c (0 : Int32))))
def f_F_postDominates : List Value → wm_S → Option (Option Value × wm_S) := wm_fn (wm_isc w_L 4) 3 3 t_F_postDominates
def rm_F_postDominates : Room := { frames := 0, locals := 0 }
abbrev cV_F_postDominates : List (Nat × wm_M) := []
abbrev cS_F_postDominates : List (Nat × wm_M) := []
set_option maxRecDepth 20000 in
theorem bd_F_postDominates (w : wm_K) (ret : Option Value → wm_S → Prop) (hc : wm_cl w_L fl_F cs_F none cV_F_postDominates cS_F_postDominates ret tb_F_postDominates w) : wm_T w tb_F_postDominates ret 0 9999 t_F_postDominates :=
  (wm_t_ret hc (wm_x_cond (wm_b_un hc (wm_x_bin hc (wm_x_ai hc (wm_x_fr hc (wm_x_rn hc rfl rfl) rfl rfl) (wm_x_in hc rfl rfl) rfl) (wm_x_bin hc (wm_x_iconst hc rfl (by decide)) (wm_x_in hc rfl rfl) rfl rfl (fun _ _ _ _ _ _ q => q)) rfl rfl (fun _ _ _ _ _ _ q => q)) rfl rfl wm_z_neF) (wm_x_iconst hc rfl (by decide)) (wm_x_iconst hc rfl (by decide)) rfl) rfl rfl (fun _ _ _ _ q => q))
theorem c_F_postDominates {l : Launch} {D : va_G} {A : Nat → Prop} {ad : Nat → Nat} {cA : Nat → ClassId} (hY : wm_Y cl0 (tys0 cA) A ad cA w_L) : wm_con l y_F_postDominates (cd_F_postDominates :: gw) rm_F_postDominates D cl0 (tys0 cA) A ad cA w_L f_F_postDominates :=
  wm_meth (cV := cV_F_postDominates) (cS := cS_F_postDominates) (by decide) rfl hY (fun r h => wm_fok_mono (fun _ h => List.mem_cons_of_mem _ h) (fk_F r h)) (fun r h => wm_cok_mono (fun _ h => List.mem_cons_of_mem _ h) (ck_F r h)) tk_F_postDominates
    (fun _ h => nomatch h)
    (fun _ h => nomatch h)
    bd_F_postDominates
/-! CodePruner$Flow.isBeforeOthers -/
def y_F_isBeforeOthers : MethodName := ⟨"CodePruner$Flow", "isBeforeOthers", "(LCodePruner$Program;II)Z"⟩
abbrev b_F_isBeforeOthers : ByteArray := prog_3_method_6_code
def tb_F_isBeforeOthers : List wm_R := [(0, .iconst 0, 1, 0), (1, .istore 4, 3, 0), (3, .iload 4, 5, 0), (5, .aload_n 1, 6, 0), (6, .getfield 21, 9, 0), (9, .if_icmp .ge 37, 12, 46), (12, .iload 4, 14, 0), (14, .iload_n 3, 15, 0), (15, .if_icmp .eq 25, 18, 40), (18, .aload_n 0, 19, 0), (19, .iload 4, 21, 0), (21, .iload_n 3, 22, 0), (22, .invokevirtual 53, 25, 0), (25, .ifCond .eq 15, 28, 40), (28, .aload_n 0, 29, 0), (29, .iload 4, 31, 0), (31, .iload_n 2, 32, 0), (32, .invokevirtual 53, 35, 0), (35, .ifCond .ne 5, 38, 40), (38, .iconst 0, 39, 0), (39, .ireturn, 40, 0), (40, .iinc 4 1, 43, 0), (43, .goto (-40), 46, 3), (46, .iconst 1, 47, 0), (47, .ireturn, 48, 0)]
theorem tk_F_isBeforeOthers : tb_F_isBeforeOthers.all (wm_rokb b_F_isBeforeOthers) = true := by decide +kernel
abbrev cd_F_isBeforeOthers : Cond := Cond.code y_F_isBeforeOthers b_F_isBeforeOthers 5 (wm_rtT 3)
theorem cw_F_isBeforeOthers : cd_F_isBeforeOthers ∈ gw := gw_at 500 (by decide +kernel) rfl
theorem gi_F_isBeforeOthers : Cond.instanceMethod y_F_isBeforeOthers ∈ gw := gw_at 499 (by decide +kernel) rfl
theorem gs_F_isBeforeOthers : Cond.selects "CodePruner$Flow" y_F_isBeforeOthers y_F_isBeforeOthers ∈ gw := gw_of (List.mem_append_left _ (List.mem_of_getElem? (i := 5) (by decide +kernel))) rfl
def t_F_isBeforeOthers : wm_St := (ws_seq (ws_seq (ws_i 4 (wx_c (0 : Int32)))
  (ws_loop (wx_bin wr_lt (wx_i 4) (wx_fi w_L 1 0 (wx_r 1)))
  (ws_seq (ws_if (wb_and (wb_and (wx_bin wr_ne (wx_i 4) (wx_i 3)) (wx_un (fun v => wr_ne v 0) (wx_call wm_pi f_F_postDominates (wx_ac .ref (wx_r 0) (wx_ac .int (wx_i 4) (wx_a1 .int (wx_i 3))))))) (wb_not (wx_un (fun v => wr_ne v 0) (wx_call wm_pi f_F_postDominates (wx_ac .ref (wx_r 0) (wx_ac .int (wx_i 4) (wx_a1 .int (wx_i 2))))))))
  (ws_ret .int (wx_c (0 : Int32))))
  (ws_inc 4 (1 : Int32))) w_N))
  (ws_ret .int (wx_c (1 : Int32))))
def f_F_isBeforeOthers : List Value → wm_S → Option (Option Value × wm_S) := wm_fn (wm_isc w_L 4) 3 5 t_F_isBeforeOthers
def rm_F_isBeforeOthers : Room := { frames := 1, locals := 22 }
abbrev cV_F_isBeforeOthers : List (Nat × wm_M) := [(53, 3, f_F_postDominates)]
abbrev cS_F_isBeforeOthers : List (Nat × wm_M) := []
set_option maxRecDepth 20000 in
theorem bd_F_isBeforeOthers (w : wm_K) (ret : Option Value → wm_S → Prop) (hc : wm_cl w_L fl_F cs_F none cV_F_isBeforeOthers cS_F_isBeforeOthers ret tb_F_isBeforeOthers w) : wm_T w tb_F_isBeforeOthers ret 0 9999 t_F_isBeforeOthers :=
  (wm_t_seq (wm_t_seq (wm_t_i hc (wm_x_iconst hc rfl (by decide)) rfl)
  (wm_t_loop (wm_b_cmp hc (wm_x_i hc rfl) (wm_x_fi hc (wm_x_rn hc rfl rfl) rfl rfl) rfl rfl wm_j_ltF)
  (wm_t_seq (wm_t_if (wm_b_and (wm_b_and (wm_b_cmp hc (wm_x_i hc rfl) (wm_x_in hc rfl rfl) rfl rfl wm_j_neF) (wm_b_un hc (wm_x_callV hc wm_pi_ok (wm_a_c (wm_x_rn hc rfl rfl) (wm_a_c (wm_x_i hc rfl) (wm_a_1 (wm_x_in hc rfl rfl)))) rfl rfl (by decide)) rfl rfl wm_z_neF)) (wm_b_not (wm_b_un hc (wm_x_callV hc wm_pi_ok (wm_a_c (wm_x_rn hc rfl rfl) (wm_a_c (wm_x_i hc rfl) (wm_a_1 (wm_x_in hc rfl rfl)))) rfl rfl (by decide)) rfl rfl wm_z_neT)))
  (wm_t_ret hc (wm_x_iconst hc rfl (by decide)) rfl rfl (fun _ _ _ _ q => q)) rfl)
  (wm_t_inc hc rfl (by decide))) rfl))
  (wm_t_ret hc (wm_x_iconst hc rfl (by decide)) rfl rfl (fun _ _ _ _ q => q)))
theorem c_F_isBeforeOthers {l : Launch} {D : va_G} {A : Nat → Prop} {ad : Nat → Nat} {cA : Nat → ClassId} (hY : wm_Y cl0 (tys0 cA) A ad cA w_L) : wm_con l y_F_isBeforeOthers (cd_F_isBeforeOthers :: gw) rm_F_isBeforeOthers D cl0 (tys0 cA) A ad cA w_L f_F_isBeforeOthers :=
  wm_meth (cV := cV_F_isBeforeOthers) (cS := cS_F_isBeforeOthers) (by decide) rfl hY (fun r h => wm_fok_mono (fun _ h => List.mem_cons_of_mem _ h) (fk_F r h)) (fun r h => wm_cok_mono (fun _ h => List.mem_cons_of_mem _ h) (ck_F r h)) tk_F_isBeforeOthers
    (List.forall_mem_cons.mpr ⟨⟨y_F_postDominates, b_F_postDominates, 3, wm_rtT 3, cd_F_postDominates :: gw, gw, rm_F_postDominates, 2, 4, 3, T_F, c_F_postDominates hY, rfl, gw_V (gw_at 493 (by decide +kernel) rfl) gi_F_postDominates gs_F_postDominates gn_F cw_F_postDominates, rfl, rfl, ⟨by decide, by decide, by decide +kernel⟩, rfl, ⟨by decide, by decide⟩, rfl, fun vs S r h => (wm_fn_some (v := r.1) (S' := r.2) h).1⟩, fun _ h => nomatch h⟩)
    (fun _ h => nomatch h)
    bd_F_isBeforeOthers
/-! CodePruner$Flow.findFollowing -/
def y_F_findFollowing : MethodName := ⟨"CodePruner$Flow", "findFollowing", "(LCodePruner$Program;I)I"⟩
abbrev b_F_findFollowing : ByteArray := prog_3_method_5_code
def tb_F_findFollowing : List wm_R := [(0, .iconst 0, 1, 0), (1, .istore_n 3, 2, 0), (2, .iload_n 3, 3, 0), (3, .aload_n 1, 4, 0), (4, .getfield 21, 7, 0), (7, .if_icmp .ge 35, 10, 42), (10, .iload_n 3, 11, 0), (11, .iload_n 2, 12, 0), (12, .if_icmp .eq 24, 15, 36), (15, .aload_n 0, 16, 0), (16, .iload_n 3, 17, 0), (17, .iload_n 2, 18, 0), (18, .invokevirtual 53, 21, 0), (21, .ifCond .eq 15, 24, 36), (24, .aload_n 0, 25, 0), (25, .aload_n 1, 26, 0), (26, .iload_n 3, 27, 0), (27, .iload_n 2, 28, 0), (28, .invokevirtual 57, 31, 0), (31, .ifCond .eq 5, 34, 36), (34, .iload_n 3, 35, 0), (35, .ireturn, 36, 0), (36, .iinc 3 1, 39, 0), (39, .goto (-37), 42, 2), (42, .iconst (-1), 43, 0), (43, .ireturn, 44, 0)]
theorem tk_F_findFollowing : tb_F_findFollowing.all (wm_rokb b_F_findFollowing) = true := by decide +kernel
abbrev cd_F_findFollowing : Cond := Cond.code y_F_findFollowing b_F_findFollowing 4 (wm_rtT 1)
theorem cw_F_findFollowing : cd_F_findFollowing ∈ gw := gw_at 492 (by decide +kernel) rfl
theorem gi_F_findFollowing : Cond.instanceMethod y_F_findFollowing ∈ gw := gw_at 491 (by decide +kernel) rfl
theorem gs_F_findFollowing : Cond.selects "CodePruner$Flow" y_F_findFollowing y_F_findFollowing ∈ gw := gw_of (List.mem_append_left _ (List.mem_of_getElem? (i := 3) (by decide +kernel))) rfl
def t_F_findFollowing : wm_St := (ws_seq (ws_seq (ws_i 3 (wx_c (0 : Int32)))
  (ws_loop (wx_bin wr_lt (wx_i 3) (wx_fi w_L 1 0 (wx_r 1)))
  (ws_seq (ws_if (wb_and (wb_and (wx_bin wr_ne (wx_i 3) (wx_i 2)) (wx_un (fun v => wr_ne v 0) (wx_call wm_pi f_F_postDominates (wx_ac .ref (wx_r 0) (wx_ac .int (wx_i 3) (wx_a1 .int (wx_i 2))))))) (wx_un (fun v => wr_ne v 0) (wx_call wm_pi f_F_isBeforeOthers (wx_ac .ref (wx_r 0) (wx_ac .ref (wx_r 1) (wx_ac .int (wx_i 3) (wx_a1 .int (wx_i 2))))))))
  (ws_ret .int (wx_i 3)))
  (ws_inc 3 (1 : Int32))) w_N))
  (ws_ret .int (wx_c (-1 : Int32))))
def f_F_findFollowing : List Value → wm_S → Option (Option Value × wm_S) := wm_fn (wm_isc w_L 4) 1 4 t_F_findFollowing
def rm_F_findFollowing : Room := { frames := 2, locals := 46 }
abbrev cV_F_findFollowing : List (Nat × wm_M) := [(53, 3, f_F_postDominates), (57, 4, f_F_isBeforeOthers)]
abbrev cS_F_findFollowing : List (Nat × wm_M) := []
set_option maxRecDepth 20000 in
theorem bd_F_findFollowing (w : wm_K) (ret : Option Value → wm_S → Prop) (hc : wm_cl w_L fl_F cs_F none cV_F_findFollowing cS_F_findFollowing ret tb_F_findFollowing w) : wm_T w tb_F_findFollowing ret 0 9999 t_F_findFollowing :=
  (wm_t_seq (wm_t_seq (wm_t_in hc (wm_x_iconst hc rfl (by decide)) rfl rfl)
  (wm_t_loop (wm_b_cmp hc (wm_x_in hc rfl rfl) (wm_x_fi hc (wm_x_rn hc rfl rfl) rfl rfl) rfl rfl wm_j_ltF)
  (wm_t_seq (wm_t_if (wm_b_and (wm_b_and (wm_b_cmp hc (wm_x_in hc rfl rfl) (wm_x_in hc rfl rfl) rfl rfl wm_j_neF) (wm_b_un hc (wm_x_callV hc wm_pi_ok (wm_a_c (wm_x_rn hc rfl rfl) (wm_a_c (wm_x_in hc rfl rfl) (wm_a_1 (wm_x_in hc rfl rfl)))) rfl rfl (by decide)) rfl rfl wm_z_neF)) (wm_b_un hc (wm_x_callV hc wm_pi_ok (wm_a_c (wm_x_rn hc rfl rfl) (wm_a_c (wm_x_rn hc rfl rfl) (wm_a_c (wm_x_in hc rfl rfl) (wm_a_1 (wm_x_in hc rfl rfl))))) rfl rfl (by decide)) rfl rfl wm_z_neF))
  (wm_t_ret hc (wm_x_in hc rfl rfl) rfl rfl (fun _ _ _ _ q => q)) rfl)
  (wm_t_inc hc rfl (by decide))) rfl))
  (wm_t_ret hc (wm_x_iconst hc rfl (by decide)) rfl rfl (fun _ _ _ _ q => q)))
theorem c_F_findFollowing {l : Launch} {D : va_G} {A : Nat → Prop} {ad : Nat → Nat} {cA : Nat → ClassId} (hY : wm_Y cl0 (tys0 cA) A ad cA w_L) : wm_con l y_F_findFollowing (cd_F_findFollowing :: gw) rm_F_findFollowing D cl0 (tys0 cA) A ad cA w_L f_F_findFollowing :=
  wm_meth (cV := cV_F_findFollowing) (cS := cS_F_findFollowing) (by decide) rfl hY (fun r h => wm_fok_mono (fun _ h => List.mem_cons_of_mem _ h) (fk_F r h)) (fun r h => wm_cok_mono (fun _ h => List.mem_cons_of_mem _ h) (ck_F r h)) tk_F_findFollowing
    (List.forall_mem_cons.mpr ⟨⟨y_F_postDominates, b_F_postDominates, 3, wm_rtT 3, cd_F_postDominates :: gw, gw, rm_F_postDominates, 2, 4, 3, T_F, c_F_postDominates hY, rfl, gw_V (gw_at 493 (by decide +kernel) rfl) gi_F_postDominates gs_F_postDominates gn_F cw_F_postDominates, rfl, rfl, ⟨by decide, by decide, by decide +kernel⟩, rfl, ⟨by decide, by decide⟩, rfl, fun vs S r h => (wm_fn_some (v := r.1) (S' := r.2) h).1⟩, List.forall_mem_cons.mpr ⟨⟨y_F_isBeforeOthers, b_F_isBeforeOthers, 5, wm_rtT 3, cd_F_isBeforeOthers :: gw, gw, rm_F_isBeforeOthers, 3, 4, 3, T_F, c_F_isBeforeOthers hY, rfl, gw_V (gw_at 497 (by decide +kernel) rfl) gi_F_isBeforeOthers gs_F_isBeforeOthers gn_F cw_F_isBeforeOthers, rfl, rfl, ⟨by decide, by decide, by decide +kernel⟩, rfl, ⟨by decide, by decide⟩, rfl, fun vs S r h => (wm_fn_some (v := r.1) (S' := r.2) h).1⟩, fun _ h => nomatch h⟩⟩)
    (fun _ h => nomatch h)
    bd_F_findFollowing
/-! CodePruner$Flow.findDeciders -/
def y_F_findDeciders : MethodName := ⟨"CodePruner$Flow", "findDeciders", "(LCodePruner$Program;I)I"⟩
abbrev b_F_findDeciders : ByteArray := prog_3_method_7_code
def tb_F_findDeciders : List wm_R := [(0, .iconst 0, 1, 0), (1, .istore_n 3, 2, 0), (2, .iconst 0, 3, 0), (3, .istore 4, 5, 0), (5, .iload 4, 7, 0), (7, .aload_n 1, 8, 0), (8, .getfield 21, 11, 0), (11, .if_icmp .ge 90, 14, 101), (14, .aload_n 1, 15, 0), (15, .getfield 41, 18, 0), (18, .getfield 45, 21, 0), (21, .iload 4, 23, 0), (23, .iaload, 24, 0), (24, .iconst 2, 25, 0), (25, .if_icmp .ne 27, 28, 52), (28, .aload_n 1, 29, 0), (29, .getfield 41, 32, 0), (32, .getfield 50, 35, 0), (35, .iload 4, 37, 0), (37, .iaload, 38, 0), (38, .aload_n 0, 39, 0), (39, .getfield 9, 42, 0), (42, .iload_n 2, 43, 0), (43, .iaload, 44, 0), (44, .iand, 45, 0), (45, .ifCond .eq 7, 48, 52), (48, .iconst 1, 49, 0), (49, .goto 4, 52, 53), (52, .iconst 0, 53, 0), (53, .istore 5, 55, 0), (55, .iload_n 2, 56, 0), (56, .iload 4, 58, 0), (58, .if_icmp .eq 17, 61, 75), (61, .aload_n 0, 62, 0), (62, .iload_n 2, 63, 0), (63, .iload 4, 65, 0), (65, .invokevirtual 53, 68, 0), (68, .ifCond .eq 7, 71, 75), (71, .iconst 1, 72, 0), (72, .goto 4, 75, 76), (75, .iconst 0, 76, 0), (76, .istore 6, 78, 0), (78, .iload 5, 80, 0), (80, .ifCond .eq 15, 83, 95), (83, .iload 6, 85, 0), (85, .ifCond .ne 10, 88, 95), (88, .iload_n 3, 89, 0), (89, .iconst 1, 90, 0), (90, .iload 4, 92, 0), (92, .ishl, 93, 0), (93, .ior, 94, 0), (94, .istore_n 3, 95, 0), (95, .iinc 4 1, 98, 0), (98, .goto (-93), 101, 5), (101, .iload_n 3, 102, 0), (102, .ireturn, 103, 0)]
theorem tk_F_findDeciders : tb_F_findDeciders.all (wm_rokb b_F_findDeciders) = true := by decide +kernel
abbrev cd_F_findDeciders : Cond := Cond.code y_F_findDeciders b_F_findDeciders 7 (wm_rtT 1)
theorem cw_F_findDeciders : cd_F_findDeciders ∈ gw := gw_at 504 (by decide +kernel) rfl
theorem gi_F_findDeciders : Cond.instanceMethod y_F_findDeciders ∈ gw := gw_at 503 (by decide +kernel) rfl
theorem gs_F_findDeciders : Cond.selects "CodePruner$Flow" y_F_findDeciders y_F_findDeciders ∈ gw := gw_of (List.mem_append_left _ (List.mem_of_getElem? (i := 6) (by decide +kernel))) rfl
def t_F_findDeciders : wm_St := (ws_seq (ws_i 3 (wx_c (0 : Int32)))
  (ws_seq (ws_seq (ws_i 4 (wx_c (0 : Int32)))
  (ws_loop (wx_bin wr_lt (wx_i 4) (wx_fi w_L 1 0 (wx_r 1)))
  (ws_seq (ws_seq (ws_i 5 (wx_cond (wb_and (wx_bin wr_eq (wx_ai w_L 0 (wx_fr w_L 2 0 (wx_fr w_L 1 9 (wx_r 1))) (wx_i 4)) (wx_c (2 : Int32))) (wx_un (fun v => wr_ne v 0) (wx_bin wo_iand (wx_ai w_L 0 (wx_fr w_L 2 4 (wx_fr w_L 1 9 (wx_r 1))) (wx_i 4)) (wx_ai w_L 0 (wx_fr w_L 4 0 (wx_r 0)) (wx_i 2))))) (wx_c (1 : Int32)) (wx_c (0 : Int32))))
  (ws_seq (ws_i 6 (wx_cond (wb_and (wx_bin wr_ne (wx_i 2) (wx_i 4)) (wx_un (fun v => wr_ne v 0) (wx_call wm_pi f_F_postDominates (wx_ac .ref (wx_r 0) (wx_ac .int (wx_i 2) (wx_a1 .int (wx_i 4))))))) (wx_c (1 : Int32)) (wx_c (0 : Int32))))
  (ws_if (wb_and (wx_un (fun v => wr_ne v 0) (wx_i 5)) (wb_not (wx_un (fun v => wr_ne v 0) (wx_i 6))))
  (ws_i 3 (wx_bin wo_ior (wx_i 3) (wx_bin wo_ishl (wx_c (1 : Int32)) (wx_i 4)))))))
  (ws_inc 4 (1 : Int32))) w_N))
  (ws_ret .int (wx_i 3))))
def f_F_findDeciders : List Value → wm_S → Option (Option Value × wm_S) := wm_fn (wm_isc w_L 4) 1 7 t_F_findDeciders
def rm_F_findDeciders : Room := { frames := 1, locals := 22 }
abbrev cV_F_findDeciders : List (Nat × wm_M) := [(53, 3, f_F_postDominates)]
abbrev cS_F_findDeciders : List (Nat × wm_M) := []
set_option maxRecDepth 20000 in
theorem bd_F_findDeciders (w : wm_K) (ret : Option Value → wm_S → Prop) (hc : wm_cl w_L fl_F cs_F none cV_F_findDeciders cS_F_findDeciders ret tb_F_findDeciders w) : wm_T w tb_F_findDeciders ret 0 9999 t_F_findDeciders :=
  (wm_t_seq (wm_t_in hc (wm_x_iconst hc rfl (by decide)) rfl rfl)
  (wm_t_seq (wm_t_seq (wm_t_i hc (wm_x_iconst hc rfl (by decide)) rfl)
  (wm_t_loop (wm_b_cmp hc (wm_x_i hc rfl) (wm_x_fi hc (wm_x_rn hc rfl rfl) rfl rfl) rfl rfl wm_j_ltF)
  (wm_t_seq (wm_t_seq (wm_t_i hc (wm_x_cond (wm_b_and (wm_b_cmp hc (wm_x_ai hc (wm_x_fr hc (wm_x_fr hc (wm_x_rn hc rfl rfl) rfl rfl) rfl rfl) (wm_x_i hc rfl) rfl) (wm_x_iconst hc rfl (by decide)) rfl rfl wm_j_eqF) (wm_b_un hc (wm_x_bin hc (wm_x_ai hc (wm_x_fr hc (wm_x_fr hc (wm_x_rn hc rfl rfl) rfl rfl) rfl rfl) (wm_x_i hc rfl) rfl) (wm_x_ai hc (wm_x_fr hc (wm_x_rn hc rfl rfl) rfl rfl) (wm_x_in hc rfl rfl) rfl) rfl rfl (fun _ _ _ _ _ _ q => q)) rfl rfl wm_z_neF)) (wm_x_iconst hc rfl (by decide)) (wm_x_iconst hc rfl (by decide)) rfl) rfl)
  (wm_t_seq (wm_t_i hc (wm_x_cond (wm_b_and (wm_b_cmp hc (wm_x_in hc rfl rfl) (wm_x_i hc rfl) rfl rfl wm_j_neF) (wm_b_un hc (wm_x_callV hc wm_pi_ok (wm_a_c (wm_x_rn hc rfl rfl) (wm_a_c (wm_x_in hc rfl rfl) (wm_a_1 (wm_x_i hc rfl)))) rfl rfl (by decide)) rfl rfl wm_z_neF)) (wm_x_iconst hc rfl (by decide)) (wm_x_iconst hc rfl (by decide)) rfl) rfl)
  (wm_t_if (wm_b_and (wm_b_un hc (wm_x_i hc rfl) rfl rfl wm_z_neF) (wm_b_not (wm_b_un hc (wm_x_i hc rfl) rfl rfl wm_z_neT)))
  (wm_t_in hc (wm_x_bin hc (wm_x_in hc rfl rfl) (wm_x_bin hc (wm_x_iconst hc rfl (by decide)) (wm_x_i hc rfl) rfl rfl (fun _ _ _ _ _ _ q => q)) rfl rfl (fun _ _ _ _ _ _ q => q)) rfl rfl) rfl)))
  (wm_t_inc hc rfl (by decide))) rfl))
  (wm_t_ret hc (wm_x_in hc rfl rfl) rfl rfl (fun _ _ _ _ q => q))))
theorem c_F_findDeciders {l : Launch} {D : va_G} {A : Nat → Prop} {ad : Nat → Nat} {cA : Nat → ClassId} (hY : wm_Y cl0 (tys0 cA) A ad cA w_L) : wm_con l y_F_findDeciders (cd_F_findDeciders :: gw) rm_F_findDeciders D cl0 (tys0 cA) A ad cA w_L f_F_findDeciders :=
  wm_meth (cV := cV_F_findDeciders) (cS := cS_F_findDeciders) (by decide) rfl hY (fun r h => wm_fok_mono (fun _ h => List.mem_cons_of_mem _ h) (fk_F r h)) (fun r h => wm_cok_mono (fun _ h => List.mem_cons_of_mem _ h) (ck_F r h)) tk_F_findDeciders
    (List.forall_mem_cons.mpr ⟨⟨y_F_postDominates, b_F_postDominates, 3, wm_rtT 3, cd_F_postDominates :: gw, gw, rm_F_postDominates, 2, 4, 3, T_F, c_F_postDominates hY, rfl, gw_V (gw_at 493 (by decide +kernel) rfl) gi_F_postDominates gs_F_postDominates gn_F cw_F_postDominates, rfl, rfl, ⟨by decide, by decide, by decide +kernel⟩, rfl, ⟨by decide, by decide⟩, rfl, fun vs S r h => (wm_fn_some (v := r.1) (S' := r.2) h).1⟩, fun _ h => nomatch h⟩)
    (fun _ h => nomatch h)
    bd_F_findDeciders
/-! CodePruner$Flow.find -/
def y_F_find : MethodName := ⟨"CodePruner$Flow", "find", "(LCodePruner$Program;)V"⟩
abbrev b_F_find : ByteArray := prog_3_method_2_code
def tb_F_find : List wm_R := [(0, .iconst 0, 1, 0), (1, .istore_n 2, 2, 0), (2, .iload_n 2, 3, 0), (3, .aload_n 1, 4, 0), (4, .getfield 21, 7, 0), (7, .if_icmp .ge 27, 10, 34), (10, .aload_n 0, 11, 0), (11, .getfield 9, 14, 0), (14, .iload_n 2, 15, 0), (15, .aload_n 1, 16, 0), (16, .invokevirtual 27, 19, 0), (19, .aload_n 1, 20, 0), (20, .iload_n 2, 21, 0), (21, .invokestatic 31, 24, 0), (24, .iconst (-1), 25, 0), (25, .ixor, 26, 0), (26, .iand, 27, 0), (27, .iastore, 28, 0), (28, .iinc 2 1, 31, 0), (31, .goto (-29), 34, 2), (34, .iconst 0, 35, 0), (35, .istore_n 2, 36, 0), (36, .iload_n 2, 37, 0), (37, .aload_n 1, 38, 0), (38, .getfield 21, 41, 0), (41, .if_icmp .ge 33, 44, 74), (44, .aload_n 0, 45, 0), (45, .getfield 15, 48, 0), (48, .iload_n 2, 49, 0), (49, .aload_n 0, 50, 0), (50, .aload_n 1, 51, 0), (51, .iload_n 2, 52, 0), (52, .invokevirtual 35, 55, 0), (55, .iastore, 56, 0), (56, .aload_n 0, 57, 0), (57, .getfield 18, 60, 0), (60, .iload_n 2, 61, 0), (61, .aload_n 0, 62, 0), (62, .aload_n 1, 63, 0), (63, .iload_n 2, 64, 0), (64, .invokevirtual 38, 67, 0), (67, .iastore, 68, 0), (68, .iinc 2 1, 71, 0), (71, .goto (-35), 74, 36), (74, .return_, 75, 0)]
theorem tk_F_find : tb_F_find.all (wm_rokb b_F_find) = true := by decide +kernel
abbrev cd_F_find : Cond := Cond.code y_F_find b_F_find 3 (wm_rtT 0)
theorem cw_F_find : cd_F_find ∈ gw := gw_at 486 (by decide +kernel) rfl
theorem gi_F_find : Cond.instanceMethod y_F_find ∈ gw := gw_at 484 (by decide +kernel) rfl
theorem gs_F_find : Cond.selects "CodePruner$Flow" y_F_find y_F_find ∈ gw := gw_at 485 (by decide +kernel) rfl
def t_F_find : wm_St := (ws_seq (ws_seq (ws_i 2 (wx_c (0 : Int32)))
  (ws_loop (wx_bin wr_lt (wx_i 2) (wx_fi w_L 1 0 (wx_r 1)))
  (ws_seq (ws_ai w_L (wx_fr w_L 4 0 (wx_r 0)) (wx_i 2) (wx_bin wo_iand (wx_call wm_pi f_G_allBlocks (wx_a1 .ref (wx_r 1))) (wx_bin wo_ixor (wx_call wm_pi f_F_findReturning (wx_ac .ref (wx_r 1) (wx_a1 .int (wx_i 2)))) (wx_c (-1 : Int32)))))
  (ws_inc 2 (1 : Int32))) w_N))
  (ws_seq (ws_seq (ws_i 2 (wx_c (0 : Int32)))
  (ws_loop (wx_bin wr_lt (wx_i 2) (wx_fi w_L 1 0 (wx_r 1)))
  (ws_seq (ws_seq (ws_ai w_L (wx_fr w_L 4 1 (wx_r 0)) (wx_i 2) (wx_call wm_pi f_F_findFollowing (wx_ac .ref (wx_r 0) (wx_ac .ref (wx_r 1) (wx_a1 .int (wx_i 2))))))
  (ws_ai w_L (wx_fr w_L 4 2 (wx_r 0)) (wx_i 2) (wx_call wm_pi f_F_findDeciders (wx_ac .ref (wx_r 0) (wx_ac .ref (wx_r 1) (wx_a1 .int (wx_i 2)))))))
  (ws_inc 2 (1 : Int32))) w_N))
  ws_retv))
def f_F_find : List Value → wm_S → Option (Option Value × wm_S) := wm_fn (wm_isc w_L 4) 0 3 t_F_find
def rm_F_find : Room := { frames := 3, locals := 69 }
abbrev cV_F_find : List (Nat × wm_M) := [(27, 1, f_G_allBlocks), (35, 3, f_F_findFollowing), (38, 3, f_F_findDeciders)]
abbrev cS_F_find : List (Nat × wm_M) := [(31, 2, f_F_findReturning)]
set_option maxRecDepth 20000 in
theorem bd_F_find (w : wm_K) (ret : Option Value → wm_S → Prop) (hc : wm_cl w_L fl_F cs_F none cV_F_find cS_F_find ret tb_F_find w) : wm_T w tb_F_find ret 0 9999 t_F_find :=
  (wm_t_seq (wm_t_seq (wm_t_in hc (wm_x_iconst hc rfl (by decide)) rfl rfl)
  (wm_t_loop (wm_b_cmp hc (wm_x_in hc rfl rfl) (wm_x_fi hc (wm_x_rn hc rfl rfl) rfl rfl) rfl rfl wm_j_ltF)
  (wm_t_seq (wm_t_ai hc (wm_x_fr hc (wm_x_rn hc rfl rfl) rfl rfl) (wm_x_in hc rfl rfl) (wm_x_bin hc (wm_x_callV hc wm_pi_ok (wm_a_1 (wm_x_rn hc rfl rfl)) rfl rfl (by decide)) (wm_x_bin hc (wm_x_callS hc wm_pi_ok (wm_a_c (wm_x_rn hc rfl rfl) (wm_a_1 (wm_x_in hc rfl rfl))) rfl rfl (by decide)) (wm_x_iconst hc rfl (by decide)) rfl rfl (fun _ _ _ _ _ _ q => q)) rfl rfl (fun _ _ _ _ _ _ q => q)) rfl)
  (wm_t_inc hc rfl (by decide))) rfl))
  (wm_t_seq (wm_t_seq (wm_t_in hc (wm_x_iconst hc rfl (by decide)) rfl rfl)
  (wm_t_loop (wm_b_cmp hc (wm_x_in hc rfl rfl) (wm_x_fi hc (wm_x_rn hc rfl rfl) rfl rfl) rfl rfl wm_j_ltF)
  (wm_t_seq (wm_t_seq (wm_t_ai hc (wm_x_fr hc (wm_x_rn hc rfl rfl) rfl rfl) (wm_x_in hc rfl rfl) (wm_x_callV hc wm_pi_ok (wm_a_c (wm_x_rn hc rfl rfl) (wm_a_c (wm_x_rn hc rfl rfl) (wm_a_1 (wm_x_in hc rfl rfl)))) rfl rfl (by decide)) rfl)
  (wm_t_ai hc (wm_x_fr hc (wm_x_rn hc rfl rfl) rfl rfl) (wm_x_in hc rfl rfl) (wm_x_callV hc wm_pi_ok (wm_a_c (wm_x_rn hc rfl rfl) (wm_a_c (wm_x_rn hc rfl rfl) (wm_a_1 (wm_x_in hc rfl rfl)))) rfl rfl (by decide)) rfl))
  (wm_t_inc hc rfl (by decide))) rfl))
  (wm_t_retv hc rfl)))
theorem c_F_find {l : Launch} {D : va_G} {A : Nat → Prop} {ad : Nat → Nat} {cA : Nat → ClassId} (hY : wm_Y cl0 (tys0 cA) A ad cA w_L) : wm_con l y_F_find (cd_F_find :: gw) rm_F_find D cl0 (tys0 cA) A ad cA w_L f_F_find :=
  wm_meth (cV := cV_F_find) (cS := cS_F_find) (by decide) rfl hY (fun r h => wm_fok_mono (fun _ h => List.mem_cons_of_mem _ h) (fk_F r h)) (fun r h => wm_cok_mono (fun _ h => List.mem_cons_of_mem _ h) (ck_F r h)) tk_F_find
    (List.forall_mem_cons.mpr ⟨⟨y_G_allBlocks, b_G_allBlocks, 1, wm_rtT 1, cd_G_allBlocks :: gw, gw, rm_G_allBlocks, 0, 1, 10, T_G, c_G_allBlocks hY, rfl, gw_V (gw_at 487 (by decide +kernel) rfl) gi_G_allBlocks gs_G_allBlocks gn_G cw_G_allBlocks, rfl, rfl, ⟨by decide, by decide, by decide +kernel⟩, rfl, ⟨by decide, by decide⟩, rfl, fun vs S r h => (wm_fn_some (v := r.1) (S' := r.2) h).1⟩, List.forall_mem_cons.mpr ⟨⟨y_F_findFollowing, b_F_findFollowing, 4, wm_rtT 1, cd_F_findFollowing :: gw, gw, rm_F_findFollowing, 2, 4, 3, T_F, c_F_findFollowing hY, rfl, gw_V (gw_at 489 (by decide +kernel) rfl) gi_F_findFollowing gs_F_findFollowing gn_F cw_F_findFollowing, rfl, rfl, ⟨by decide, by decide, by decide +kernel⟩, rfl, ⟨by decide, by decide⟩, rfl, fun vs S r h => (wm_fn_some (v := r.1) (S' := r.2) h).1⟩, List.forall_mem_cons.mpr ⟨⟨y_F_findDeciders, b_F_findDeciders, 7, wm_rtT 1, cd_F_findDeciders :: gw, gw, rm_F_findDeciders, 2, 4, 3, T_F, c_F_findDeciders hY, rfl, gw_V (gw_at 501 (by decide +kernel) rfl) gi_F_findDeciders gs_F_findDeciders gn_F cw_F_findDeciders, rfl, rfl, ⟨by decide, by decide, by decide +kernel⟩, rfl, ⟨by decide, by decide⟩, rfl, fun vs S r h => (wm_fn_some (v := r.1) (S' := r.2) h).1⟩, fun _ h => nomatch h⟩⟩⟩)
    (List.forall_mem_cons.mpr ⟨⟨y_F_findReturning, b_F_findReturning, 8, wm_rtT 1, cd_F_findReturning :: gw, gw, rm_F_findReturning, c_F_findReturning hY, rfl, gw_S (gw_at 488 (by decide +kernel) rfl) gi_F_findReturning gn_F cw_F_findReturning, rfl, rfl, ⟨by decide, by decide, by decide +kernel⟩, ⟨by decide, by decide⟩⟩, fun _ h => nomatch h⟩)
    bd_F_find
end WME_F

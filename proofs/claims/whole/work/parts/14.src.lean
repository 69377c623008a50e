section WME_U
/-! CodePruner$Sources.findSetters -/
def y_U_findSetters : MethodName := ⟨"CodePruner$Sources", "findSetters", "(LCodePruner$Program;)V"⟩
abbrev b_U_findSetters : ByteArray := prog_8_method_3_code
def tb_U_findSetters : List wm_R := [(0, .iconst 0, 1, 0), (1, .istore_n 2, 2, 0), (2, .iload_n 2, 3, 0), (3, .bipush 8, 5, 0), (5, .if_icmp .ge 16, 8, 21), (8, .aload_n 0, 9, 0), (9, .getfield 9, 12, 0), (12, .iload_n 2, 13, 0), (13, .lconst 0, 14, 0), (14, .lastore, 15, 0), (15, .iinc 2 1, 18, 0), (18, .goto (-16), 21, 2), (21, .iconst 0, 22, 0), (22, .istore_n 2, 23, 0), (23, .iload_n 2, 24, 0), (24, .aload_n 1, 25, 0), (25, .getfield 38, 28, 0), (28, .if_icmp .ge 32, 31, 60), (31, .aload_n 1, 32, 0), (32, .iload_n 2, 33, 0), (33, .invokevirtual 41, 36, 0), (36, .istore_n 3, 37, 0), (37, .iload_n 3, 38, 0), (38, .iconst (-1), 39, 0), (39, .if_icmp .eq 15, 42, 54), (42, .aload_n 0, 43, 0), (43, .getfield 9, 46, 0), (46, .iload_n 3, 47, 0), (47, .dup2, 48, 0), (48, .laload, 49, 0), (49, .lconst 1, 50, 0), (50, .iload_n 2, 51, 0), (51, .lshl, 52, 0), (52, .lor, 53, 0), (53, .lastore, 54, 0), (54, .iinc 2 1, 57, 0), (57, .goto (-34), 60, 23), (60, .return_, 61, 0)]
theorem tk_U_findSetters : tb_U_findSetters.all (wm_rokb b_U_findSetters) = true := by decide +kernel
abbrev cd_U_findSetters : Cond := Cond.code y_U_findSetters b_U_findSetters 4 (wm_rtT 0)
theorem cw_U_findSetters : cd_U_findSetters ∈ gw := gw_at 512 (by decide +kernel) rfl
theorem gi_U_findSetters : Cond.instanceMethod y_U_findSetters ∈ gw := gw_at 511 (by decide +kernel) rfl
theorem gs_U_findSetters : Cond.selects "CodePruner$Sources" y_U_findSetters y_U_findSetters ∈ gw := gw_of (List.mem_append_left _ (List.mem_of_getElem? (i := 7) (by decide +kernel))) rfl
def t_U_findSetters : wm_St := (ws_seq (ws_seq (ws_i 2 (wx_c (0 : Int32)))
  (ws_loop (wx_bin wr_lt (wx_i 2) (wx_c (8 : Int32)))
  (ws_seq (ws_al w_L (wx_fr w_L 5 0 (wx_r 0)) (wx_i 2) (wx_c (0 : Int64)))
  (ws_inc 2 (1 : Int32))) w_N))
  (ws_seq (ws_seq (ws_i 2 (wx_c (0 : Int32)))
  (ws_loop (wx_bin wr_lt (wx_i 2) (wx_fi w_L 1 1 (wx_r 1)))
  (ws_seq (ws_seq (ws_i 3 (wx_call wm_pi f_G_setRegister (wx_ac .ref (wx_r 1) (wx_a1 .int (wx_i 2)))))
  (ws_if (wx_bin wr_ne (wx_i 3) (wx_c (-1 : Int32)))
  (ws_oal w_L wo_lor (wx_fr w_L 5 0 (wx_r 0)) (wx_i 3) (wx_bin wo_lshl (wx_c (1 : Int64)) (wx_i 2)))))
  (ws_inc 2 (1 : Int32))) w_N))
  ws_retv))
def f_U_findSetters : List Value → wm_S → Option (Option Value × wm_S) := wm_fn (wm_isc w_L 5) 0 4 t_U_findSetters
def rm_U_findSetters : Room := { frames := 1, locals := 21 }
abbrev cV_U_findSetters : List (Nat × wm_M) := [(41, 2, f_G_setRegister)]
abbrev cS_U_findSetters : List (Nat × wm_M) := []
set_option maxRecDepth 20000 in
theorem bd_U_findSetters (w : wm_K) (ret : Option Value → wm_S → Prop) (hc : wm_cl w_L fl_U cs_U none cV_U_findSetters cS_U_findSetters ret tb_U_findSetters w) : wm_T w tb_U_findSetters ret 0 9999 t_U_findSetters :=
  (wm_t_seq (wm_t_seq (wm_t_in hc (wm_x_iconst hc rfl (by decide)) rfl rfl)
  (wm_t_loop (wm_b_cmp hc (wm_x_in hc rfl rfl) (wm_x_bipush hc rfl (by decide)) rfl rfl wm_j_ltF)
  (wm_t_seq (wm_t_al hc (wm_x_fr hc (wm_x_rn hc rfl rfl) rfl rfl) (wm_x_in hc rfl rfl) (wm_x_lconst hc rfl (by decide)) rfl)
  (wm_t_inc hc rfl (by decide))) rfl))
  (wm_t_seq (wm_t_seq (wm_t_in hc (wm_x_iconst hc rfl (by decide)) rfl rfl)
  (wm_t_loop (wm_b_cmp hc (wm_x_in hc rfl rfl) (wm_x_fi hc (wm_x_rn hc rfl rfl) rfl rfl) rfl rfl wm_j_ltF)
  (wm_t_seq (wm_t_seq (wm_t_in hc (wm_x_callV hc wm_pi_ok (wm_a_c (wm_x_rn hc rfl rfl) (wm_a_1 (wm_x_in hc rfl rfl))) rfl rfl (by decide)) rfl rfl)
  (wm_t_if (wm_b_cmp hc (wm_x_in hc rfl rfl) (wm_x_iconst hc rfl (by decide)) rfl rfl wm_j_neF)
  (wm_t_oal hc (wm_x_fr hc (wm_x_rn hc rfl rfl) rfl rfl) (wm_x_in hc rfl rfl) rfl rfl (wm_x_bin hc (wm_x_lconst hc rfl (by decide)) (wm_x_in hc rfl rfl) rfl rfl (fun _ _ _ _ _ _ q => q)) rfl rfl (fun _ _ _ _ _ _ q => q) rfl) rfl))
  (wm_t_inc hc rfl (by decide))) rfl))
  (wm_t_retv hc rfl)))
theorem c_U_findSetters {l : Launch} {D : va_G} {A : Nat → Prop} {ad : Nat → Nat} {cA : Nat → ClassId} (hY : wm_Y cl0 (tys0 cA) A ad cA w_L) : wm_con l y_U_findSetters (cd_U_findSetters :: gw) rm_U_findSetters D cl0 (tys0 cA) A ad cA w_L f_U_findSetters :=
  wm_meth (cV := cV_U_findSetters) (cS := cS_U_findSetters) (by decide) rfl hY (fun r h => wm_fok_mono (fun _ h => List.mem_cons_of_mem _ h) (fk_U r h)) (fun r h => wm_cok_mono (fun _ h => List.mem_cons_of_mem _ h) (ck_U r h)) tk_U_findSetters
    (List.forall_mem_cons.mpr ⟨⟨y_G_setRegister, b_G_setRegister, 2, wm_rtT 1, cd_G_setRegister :: gw, gw, rm_G_setRegister, 1, 1, 10, T_G, c_G_setRegister hY, rfl, gw_V (gw_at 513 (by decide +kernel) rfl) gi_G_setRegister gs_G_setRegister gn_G cw_G_setRegister, rfl, rfl, ⟨by decide, by decide, by decide +kernel⟩, rfl, ⟨by decide, by decide⟩, rfl, fun vs S r h => (wm_fn_some (v := r.1) (S' := r.2) h).1⟩, fun _ h => nomatch h⟩)
    (fun _ h => nomatch h)
    bd_U_findSetters
/-! CodePruner$Sources.settersOf -/
def y_U_settersOf : MethodName := ⟨"CodePruner$Sources", "settersOf", "(I)J"⟩
abbrev b_U_settersOf : ByteArray := prog_8_method_6_code
def tb_U_settersOf : List wm_R := [(0, .lconst 0, 1, 0), (1, .lstore_n 2, 2, 0), (2, .iconst 0, 3, 0), (3, .istore 4, 5, 0), (5, .iload 4, 7, 0), (7, .bipush 8, 9, 0), (9, .if_icmp .ge 28, 12, 37), (12, .iload_n 1, 13, 0), (13, .iconst 1, 14, 0), (14, .iload 4, 16, 0), (16, .ishl, 17, 0), (17, .iand, 18, 0), (18, .ifCond .eq 13, 21, 31), (21, .lload_n 2, 22, 0), (22, .aload_n 0, 23, 0), (23, .getfield 9, 26, 0), (26, .iload 4, 28, 0), (28, .laload, 29, 0), (29, .lor, 30, 0), (30, .lstore_n 2, 31, 0), (31, .iinc 4 1, 34, 0), (34, .goto (-29), 37, 5), (37, .lload_n 2, 38, 0), (38, .lreturn, 39, 0)]
theorem tk_U_settersOf : tb_U_settersOf.all (wm_rokb b_U_settersOf) = true := by decide +kernel
abbrev cd_U_settersOf : Cond := Cond.code y_U_settersOf b_U_settersOf 5 (wm_rtT 2)
theorem cw_U_settersOf : cd_U_settersOf ∈ gw := gw_at 532 (by decide +kernel) rfl
theorem gi_U_settersOf : Cond.instanceMethod y_U_settersOf ∈ gw := gw_at 531 (by decide +kernel) rfl
theorem gs_U_settersOf : Cond.selects "CodePruner$Sources" y_U_settersOf y_U_settersOf ∈ gw := gw_of (List.mem_append_left _ (List.mem_of_getElem? (i := 10) (by decide +kernel))) rfl
def t_U_settersOf : wm_St := (ws_seq (ws_l 2 (wx_c (0 : Int64)))
  (ws_seq (ws_seq (ws_i 4 (wx_c (0 : Int32)))
  (ws_loop (wx_bin wr_lt (wx_i 4) (wx_c (8 : Int32)))
  (ws_seq (ws_if (wx_un (fun v => wr_ne v 0) (wx_bin wo_iand (wx_i 1) (wx_bin wo_ishl (wx_c (1 : Int32)) (wx_i 4))))
  (ws_l 2 (wx_bin wo_lor (wx_l 2) (wx_al w_L (wx_fr w_L 5 0 (wx_r 0)) (wx_i 4)))))
  (ws_inc 4 (1 : Int32))) w_N))
  (ws_ret .long (wx_l 2))))
def f_U_settersOf : List Value → wm_S → Option (Option Value × wm_S) := wm_fn (wm_isc w_L 5) 2 5 t_U_settersOf
def rm_U_settersOf : Room := { frames := 0, locals := 0 }
abbrev cV_U_settersOf : List (Nat × wm_M) := []
abbrev cS_U_settersOf : List (Nat × wm_M) := []
set_option maxRecDepth 20000 in
theorem bd_U_settersOf (w : wm_K) (ret : Option Value → wm_S → Prop) (hc : wm_cl w_L fl_U cs_U none cV_U_settersOf cS_U_settersOf ret tb_U_settersOf w) : wm_T w tb_U_settersOf ret 0 9999 t_U_settersOf :=
  (wm_t_seq (wm_t_ln hc (wm_x_lconst hc rfl (by decide)) rfl rfl)
  (wm_t_seq (wm_t_seq (wm_t_i hc (wm_x_iconst hc rfl (by decide)) rfl)
  (wm_t_loop (wm_b_cmp hc (wm_x_i hc rfl) (wm_x_bipush hc rfl (by decide)) rfl rfl wm_j_ltF)
  (wm_t_seq (wm_t_if (wm_b_un hc (wm_x_bin hc (wm_x_in hc rfl rfl) (wm_x_bin hc (wm_x_iconst hc rfl (by decide)) (wm_x_i hc rfl) rfl rfl (fun _ _ _ _ _ _ q => q)) rfl rfl (fun _ _ _ _ _ _ q => q)) rfl rfl wm_z_neF)
  (wm_t_ln hc (wm_x_bin hc (wm_x_ln hc rfl rfl) (wm_x_al hc (wm_x_fr hc (wm_x_rn hc rfl rfl) rfl rfl) (wm_x_i hc rfl) rfl) rfl rfl (fun _ _ _ _ _ _ q => q)) rfl rfl) rfl)
  (wm_t_inc hc rfl (by decide))) rfl))
  (wm_t_ret hc (wm_x_ln hc rfl rfl) rfl rfl (fun _ _ _ _ q => q))))
theorem c_U_settersOf {l : Launch} {D : va_G} {A : Nat → Prop} {ad : Nat → Nat} {cA : Nat → ClassId} (hY : wm_Y cl0 (tys0 cA) A ad cA w_L) : wm_con l y_U_settersOf (cd_U_settersOf :: gw) rm_U_settersOf D cl0 (tys0 cA) A ad cA w_L f_U_settersOf :=
  wm_meth (cV := cV_U_settersOf) (cS := cS_U_settersOf) (by decide) rfl hY (fun r h => wm_fok_mono (fun _ h => List.mem_cons_of_mem _ h) (fk_U r h)) (fun r h => wm_cok_mono (fun _ h => List.mem_cons_of_mem _ h) (ck_U r h)) tk_U_settersOf
    (fun _ h => nomatch h)
    (fun _ h => nomatch h)
    bd_U_settersOf
/-! CodePruner$Sources.goThrough -/
def y_U_goThrough : MethodName := ⟨"CodePruner$Sources", "goThrough", "(LCodePruner$Program;I)J"⟩
abbrev b_U_goThrough : ByteArray := prog_8_method_5_code
def tb_U_goThrough : List wm_R := [(0, .aload_n 0, 1, 0), (1, .getfield 15, 4, 0), (4, .iload_n 2, 5, 0), (5, .laload, 6, 0), (6, .lstore_n 3, 7, 0), (7, .iconst 0, 8, 0), (8, .istore 5, 10, 0), (10, .iload 5, 12, 0), (12, .aload_n 1, 13, 0), (13, .getfield 61, 16, 0), (16, .iload_n 2, 17, 0), (17, .iaload, 18, 0), (18, .if_icmp .ge 72, 21, 90), (21, .aload_n 1, 22, 0), (22, .getfield 64, 25, 0), (25, .iload_n 2, 26, 0), (26, .aaload, 27, 0), (27, .iload 5, 29, 0), (29, .iaload, 30, 0), (30, .istore 6, 32, 0), (32, .aload_n 0, 33, 0), (33, .getfield 18, 36, 0), (36, .iload 6, 38, 0), (38, .lload_n 3, 39, 0), (39, .aload_n 0, 40, 0), (40, .aload_n 1, 41, 0), (41, .iload 6, 43, 0), (43, .invokevirtual 68, 46, 0), (46, .invokevirtual 71, 49, 0), (49, .land, 50, 0), (50, .lastore, 51, 0), (51, .aload_n 1, 52, 0), (52, .iload 6, 54, 0), (54, .invokevirtual 41, 57, 0), (57, .istore 7, 59, 0), (59, .iload 7, 61, 0), (61, .iconst (-1), 62, 0), (62, .if_icmp .eq 22, 65, 84), (65, .lload_n 3, 66, 0), (66, .aload_n 0, 67, 0), (67, .getfield 9, 70, 0), (70, .iload 7, 72, 0), (72, .laload, 73, 0), (73, .ldc2_w 59, 76, 0), (76, .lxor, 77, 0), (77, .land, 78, 0), (78, .lconst 1, 79, 0), (79, .iload 6, 81, 0), (81, .lshl, 82, 0), (82, .lor, 83, 0), (83, .lstore_n 3, 84, 0), (84, .iinc 5 1, 87, 0), (87, .goto (-77), 90, 10), (90, .aload_n 0, 91, 0), (91, .getfield 21, 94, 0), (94, .iload_n 2, 95, 0), (95, .lload_n 3, 96, 0), (96, .aload_n 0, 97, 0), (97, .aload_n 1, 98, 0), (98, .getfield 49, 101, 0), (101, .iload_n 2, 102, 0), (102, .invokevirtual 75, 105, 0), (105, .invokevirtual 71, 108, 0), (108, .land, 109, 0), (109, .lastore, 110, 0), (110, .lload_n 3, 111, 0), (111, .lreturn, 112, 0)]
theorem tk_U_goThrough : tb_U_goThrough.all (wm_rokb b_U_goThrough) = true := by decide +kernel
abbrev cd_U_goThrough : Cond := Cond.code y_U_goThrough b_U_goThrough 8 (wm_rtT 2)
theorem cw_U_goThrough : cd_U_goThrough ∈ gw := gw_at 524 (by decide +kernel) rfl
theorem gi_U_goThrough : Cond.instanceMethod y_U_goThrough ∈ gw := gw_at 523 (by decide +kernel) rfl
theorem gs_U_goThrough : Cond.selects "CodePruner$Sources" y_U_goThrough y_U_goThrough ∈ gw := gw_of (List.mem_append_left _ (List.mem_of_getElem? (i := 9) (by decide +kernel))) rfl
def t_U_goThrough : wm_St := (ws_seq (ws_l 3 (wx_al w_L (wx_fr w_L 5 1 (wx_r 0)) (wx_i 2)))
  (ws_seq (ws_seq (ws_i 5 (wx_c (0 : Int32)))
  (ws_loop (wx_bin wr_lt (wx_i 5) (wx_ai w_L 0 (wx_fr w_L 1 7 (wx_r 1)) (wx_i 2)))
  (ws_seq (ws_seq (ws_i 6 (wx_ai w_L 0 (wx_ar w_L (wx_fr w_L 1 8 (wx_r 1)) (wx_i 2)) (wx_i 5)))
  (ws_seq (ws_al w_L (wx_fr w_L 5 2 (wx_r 0)) (wx_i 6) (wx_bin wo_land (wx_l 3) (wx_call wm_pl f_U_settersOf (wx_ac .ref (wx_r 0) (wx_a1 .int (wx_call wm_pi f_G_usedRegisters (wx_ac .ref (wx_r 1) (wx_a1 .int (wx_i 6)))))))))
  (ws_seq (ws_i 7 (wx_call wm_pi f_G_setRegister (wx_ac .ref (wx_r 1) (wx_a1 .int (wx_i 6)))))
  (ws_if (wx_bin wr_ne (wx_i 7) (wx_c (-1 : Int32)))
  (ws_l 3 (wx_bin wo_lor (wx_bin wo_land (wx_l 3) (wx_bin wo_lxor (wx_al w_L (wx_fr w_L 5 0 (wx_r 0)) (wx_i 7)) (wx_c (-1 : Int64)))) (wx_bin wo_lshl (wx_c (1 : Int64)) (wx_i 6))))))))
  (ws_inc 5 (1 : Int32))) w_N))
  (ws_seq (ws_al w_L (wx_fr w_L 5 3 (wx_r 0)) (wx_i 2) (wx_bin wo_land (wx_l 3) (wx_call wm_pl f_U_settersOf (wx_ac .ref (wx_r 0) (wx_a1 .int (wx_call wm_pi f_E_usedRegisters (wx_ac .ref (wx_fr w_L 1 9 (wx_r 1)) (wx_a1 .int (wx_i 2)))))))))
  (ws_ret .long (wx_l 3)))))
def f_U_goThrough : List Value → wm_S → Option (Option Value × wm_S) := wm_fn (wm_isc w_L 5) 2 8 t_U_goThrough
def rm_U_goThrough : Room := { frames := 1, locals := 24 }
abbrev cV_U_goThrough : List (Nat × wm_M) := [(41, 2, f_G_setRegister), (68, 2, f_G_usedRegisters), (71, 2, f_U_settersOf), (75, 2, f_E_usedRegisters)]
abbrev cS_U_goThrough : List (Nat × wm_M) := []
set_option maxRecDepth 20000 in
theorem bd_U_goThrough (w : wm_K) (ret : Option Value → wm_S → Prop) (hc : wm_cl w_L fl_U cs_U none cV_U_goThrough cS_U_goThrough ret tb_U_goThrough w) : wm_T w tb_U_goThrough ret 0 9999 t_U_goThrough :=
  (wm_t_seq (wm_t_ln hc (wm_x_al hc (wm_x_fr hc (wm_x_rn hc rfl rfl) rfl rfl) (wm_x_in hc rfl rfl) rfl) rfl rfl)
  (wm_t_seq (wm_t_seq (wm_t_i hc (wm_x_iconst hc rfl (by decide)) rfl)
  (wm_t_loop (wm_b_cmp hc (wm_x_i hc rfl) (wm_x_ai hc (wm_x_fr hc (wm_x_rn hc rfl rfl) rfl rfl) (wm_x_in hc rfl rfl) rfl) rfl rfl wm_j_ltF)
  (wm_t_seq (wm_t_seq (wm_t_i hc (wm_x_ai hc (wm_x_ar hc (wm_x_fr hc (wm_x_rn hc rfl rfl) rfl rfl) (wm_x_in hc rfl rfl) rfl) (wm_x_i hc rfl) rfl) rfl)
  (wm_t_seq (wm_t_al hc (wm_x_fr hc (wm_x_rn hc rfl rfl) rfl rfl) (wm_x_i hc rfl) (wm_x_bin hc (wm_x_ln hc rfl rfl) (wm_x_callV hc wm_pl_ok (wm_a_c (wm_x_rn hc rfl rfl) (wm_a_1 (wm_x_callV hc wm_pi_ok (wm_a_c (wm_x_rn hc rfl rfl) (wm_a_1 (wm_x_i hc rfl))) rfl rfl (by decide)))) rfl rfl (by decide)) rfl rfl (fun _ _ _ _ _ _ q => q)) rfl)
  (wm_t_seq (wm_t_i hc (wm_x_callV hc wm_pi_ok (wm_a_c (wm_x_rn hc rfl rfl) (wm_a_1 (wm_x_i hc rfl))) rfl rfl (by decide)) rfl)
  (wm_t_if (wm_b_cmp hc (wm_x_i hc rfl) (wm_x_iconst hc rfl (by decide)) rfl rfl wm_j_neF)
  (wm_t_ln hc (wm_x_bin hc (wm_x_bin hc (wm_x_ln hc rfl rfl) (wm_x_bin hc (wm_x_al hc (wm_x_fr hc (wm_x_rn hc rfl rfl) rfl rfl) (wm_x_i hc rfl) rfl) (wm_x_ldc2 hc rfl rfl) rfl rfl (fun _ _ _ _ _ _ q => q)) rfl rfl (fun _ _ _ _ _ _ q => q)) (wm_x_bin hc (wm_x_lconst hc rfl (by decide)) (wm_x_i hc rfl) rfl rfl (fun _ _ _ _ _ _ q => q)) rfl rfl (fun _ _ _ _ _ _ q => q)) rfl rfl) rfl))))
  (wm_t_inc hc rfl (by decide))) rfl))
  (wm_t_seq (wm_t_al hc (wm_x_fr hc (wm_x_rn hc rfl rfl) rfl rfl) (wm_x_in hc rfl rfl) (wm_x_bin hc (wm_x_ln hc rfl rfl) (wm_x_callV hc wm_pl_ok (wm_a_c (wm_x_rn hc rfl rfl) (wm_a_1 (wm_x_callV hc wm_pi_ok (wm_a_c (wm_x_fr hc (wm_x_rn hc rfl rfl) rfl rfl) (wm_a_1 (wm_x_in hc rfl rfl))) rfl rfl (by decide)))) rfl rfl (by decide)) rfl rfl (fun _ _ _ _ _ _ q => q)) rfl)
  (wm_t_ret hc (wm_x_ln hc rfl rfl) rfl rfl (fun _ _ _ _ q => q)))))
theorem c_U_goThrough {l : Launch} {D : va_G} {A : Nat → Prop} {ad : Nat → Nat} {cA : Nat → ClassId} (hY : wm_Y cl0 (tys0 cA) A ad cA w_L) : wm_con l y_U_goThrough (cd_U_goThrough :: gw) rm_U_goThrough D cl0 (tys0 cA) A ad cA w_L f_U_goThrough :=
  wm_meth (cV := cV_U_goThrough) (cS := cS_U_goThrough) (by decide) rfl hY (fun r h => wm_fok_mono (fun _ h => List.mem_cons_of_mem _ h) (fk_U r h)) (fun r h => wm_cok_mono (fun _ h => List.mem_cons_of_mem _ h) (ck_U r h)) tk_U_goThrough
    (List.forall_mem_cons.mpr ⟨⟨y_G_setRegister, b_G_setRegister, 2, wm_rtT 1, cd_G_setRegister :: gw, gw, rm_G_setRegister, 1, 1, 10, T_G, c_G_setRegister hY, rfl, gw_V (gw_at 513 (by decide +kernel) rfl) gi_G_setRegister gs_G_setRegister gn_G cw_G_setRegister, rfl, rfl, ⟨by decide, by decide, by decide +kernel⟩, rfl, ⟨by decide, by decide⟩, rfl, fun vs S r h => (wm_fn_some (v := r.1) (S' := r.2) h).1⟩, List.forall_mem_cons.mpr ⟨⟨y_G_usedRegisters, b_G_usedRegisters, 2, wm_rtT 1, cd_G_usedRegisters :: gw, gw, rm_G_usedRegisters, 1, 1, 10, T_G, c_G_usedRegisters hY, rfl, gw_V (gw_at 525 (by decide +kernel) rfl) gi_G_usedRegisters gs_G_usedRegisters gn_G cw_G_usedRegisters, rfl, rfl, ⟨by decide, by decide, by decide +kernel⟩, rfl, ⟨by decide, by decide⟩, rfl, fun vs S r h => (wm_fn_some (v := r.1) (S' := r.2) h).1⟩, List.forall_mem_cons.mpr ⟨⟨y_U_settersOf, b_U_settersOf, 5, wm_rtT 2, cd_U_settersOf :: gw, gw, rm_U_settersOf, 1, 5, 4, T_U, c_U_settersOf hY, rfl, gw_V (gw_at 529 (by decide +kernel) rfl) gi_U_settersOf gs_U_settersOf gn_U cw_U_settersOf, rfl, rfl, ⟨by decide, by decide, by decide +kernel⟩, rfl, ⟨by decide, by decide⟩, rfl, fun vs S r h => (wm_fn_some (v := r.1) (S' := r.2) h).1⟩, List.forall_mem_cons.mpr ⟨⟨y_E_usedRegisters, b_E_usedRegisters, 2, wm_rtT 1, cd_E_usedRegisters :: gw, gw, rm_E_usedRegisters, 1, 2, 5, T_E, c_E_usedRegisters hY, rfl, gw_V (gw_at 534 (by decide +kernel) rfl) gi_E_usedRegisters gs_E_usedRegisters gn_E cw_E_usedRegisters, rfl, rfl, ⟨by decide, by decide, by decide +kernel⟩, rfl, ⟨by decide, by decide⟩, rfl, fun vs S r h => (wm_fn_some (v := r.1) (S' := r.2) h).1⟩, fun _ h => nomatch h⟩⟩⟩⟩)
    (fun _ h => nomatch h)
    bd_U_goThrough
/-! CodePruner$Sources.passOn -/
def y_U_passOn : MethodName := ⟨"CodePruner$Sources", "passOn", "(LCodePruner$Program;)Z"⟩
abbrev b_U_passOn : ByteArray := prog_8_method_4_code
def tb_U_passOn : List wm_R := [(0, .iconst 0, 1, 0), (1, .istore_n 2, 2, 0), (2, .iconst 0, 3, 0), (3, .istore_n 3, 4, 0), (4, .iload_n 3, 5, 0), (5, .aload_n 1, 6, 0), (6, .getfield 28, 9, 0), (9, .if_icmp .ge 97, 12, 106), (12, .aload_n 0, 13, 0), (13, .aload_n 1, 14, 0), (14, .iload_n 3, 15, 0), (15, .invokevirtual 45, 18, 0), (18, .lstore 4, 20, 0), (20, .iconst 0, 21, 0), (21, .istore 6, 23, 0), (23, .iload 6, 25, 0), (25, .aload_n 1, 26, 0), (26, .getfield 28, 29, 0), (29, .if_icmp .ge 71, 32, 100), (32, .aload_n 1, 33, 0), (33, .getfield 49, 36, 0), (36, .getfield 53, 39, 0), (39, .iload_n 3, 40, 0), (40, .iaload, 41, 0), (41, .iconst 1, 42, 0), (42, .iload 6, 44, 0), (44, .ishl, 45, 0), (45, .iand, 46, 0), (46, .ifCond .eq 7, 49, 53), (49, .iconst 1, 50, 0), (50, .goto 4, 53, 54), (53, .iconst 0, 54, 0), (54, .istore 7, 56, 0), (56, .iload 7, 58, 0), (58, .ifCond .eq 36, 61, 94), (61, .lload 4, 63, 0), (63, .aload_n 0, 64, 0), (64, .getfield 15, 67, 0), (67, .iload 6, 69, 0), (69, .laload, 70, 0), (70, .ldc2_w 59, 73, 0), (73, .lxor, 74, 0), (74, .land, 75, 0), (75, .lconst 0, 76, 0), (76, .lcmp, 77, 0), (77, .ifCond .eq 17, 80, 94), (80, .aload_n 0, 81, 0), (81, .getfield 15, 84, 0), (84, .iload 6, 86, 0), (86, .dup2, 87, 0), (87, .laload, 88, 0), (88, .lload 4, 90, 0), (90, .lor, 91, 0), (91, .lastore, 92, 0), (92, .iconst 1, 93, 0), (93, .istore_n 2, 94, 0), (94, .iinc 6 1, 97, 0), (97, .goto (-74), 100, 23), (100, .iinc 3 1, 103, 0), (103, .goto (-99), 106, 4), (106, .iload_n 2, 107, 0), (107, .ireturn, 108, 0)]
theorem tk_U_passOn : tb_U_passOn.all (wm_rokb b_U_passOn) = true := by decide +kernel
abbrev cd_U_passOn : Cond := Cond.code y_U_passOn b_U_passOn 8 (wm_rtT 3)
theorem cw_U_passOn : cd_U_passOn ∈ gw := gw_at 520 (by decide +kernel) rfl
theorem gi_U_passOn : Cond.instanceMethod y_U_passOn ∈ gw := gw_at 519 (by decide +kernel) rfl
theorem gs_U_passOn : Cond.selects "CodePruner$Sources" y_U_passOn y_U_passOn ∈ gw := gw_of (List.mem_append_left _ (List.mem_of_getElem? (i := 8) (by decide +kernel))) rfl
def t_U_passOn : wm_St := (ws_seq (ws_i 2 (wx_c (0 : Int32)))
  (ws_seq (ws_seq (ws_i 3 (wx_c (0 : Int32)))
  (ws_loop (wx_bin wr_lt (wx_i 3) (wx_fi w_L 1 0 (wx_r 1)))
  (ws_seq (ws_seq (ws_l 4 (wx_call wm_pl f_U_goThrough (wx_ac .ref (wx_r 0) (wx_ac .ref (wx_r 1) (wx_a1 .int (wx_i 3))))))
  (ws_seq (ws_i 6 (wx_c (0 : Int32)))
  (ws_loop (wx_bin wr_lt (wx_i 6) (wx_fi w_L 1 0 (wx_r 1)))
  (ws_seq (ws_seq (ws_i 7 (wx_cond (wx_un (fun v => wr_ne v 0) (wx_bin wo_iand (wx_ai w_L 0 (wx_fr w_L 2 4 (wx_fr w_L 1 9 (wx_r 1))) (wx_i 3)) (wx_bin wo_ishl (wx_c (1 : Int32)) (wx_i 6)))) (wx_c (1 : Int32)) (wx_c (0 : Int32))))
  (ws_if (wb_and (wx_un (fun v => wr_ne v 0) (wx_i 7)) (wx_un (fun v => wr_ne v 0) (wx_bin lg_cmp (wx_bin wo_land (wx_l 4) (wx_bin wo_lxor (wx_al w_L (wx_fr w_L 5 1 (wx_r 0)) (wx_i 6)) (wx_c (-1 : Int64)))) (wx_c (0 : Int64)))))
  (ws_seq (ws_oal w_L wo_lor (wx_fr w_L 5 1 (wx_r 0)) (wx_i 6) (wx_l 4))
  (ws_i 2 (wx_c (1 : Int32))))))
  (ws_inc 6 (1 : Int32))) w_N)))
  (ws_inc 3 (1 : Int32))) w_N))
  (ws_ret .int (wx_i 2))))
def f_U_passOn : List Value → wm_S → Option (Option Value × wm_S) := wm_fn (wm_isc w_L 5) 3 8 t_U_passOn
def rm_U_passOn : Room := { frames := 2, locals := 51 }
abbrev cV_U_passOn : List (Nat × wm_M) := [(45, 3, f_U_goThrough)]
abbrev cS_U_passOn : List (Nat × wm_M) := []
set_option maxRecDepth 20000 in
theorem bd_U_passOn (w : wm_K) (ret : Option Value → wm_S → Prop) (hc : wm_cl w_L fl_U cs_U none cV_U_passOn cS_U_passOn ret tb_U_passOn w) : wm_T w tb_U_passOn ret 0 9999 t_U_passOn :=
  (wm_t_seq (wm_t_in hc (wm_x_iconst hc rfl (by decide)) rfl rfl)
  (wm_t_seq (wm_t_seq (wm_t_in hc (wm_x_iconst hc rfl (by decide)) rfl rfl)
  (wm_t_loop (wm_b_cmp hc (wm_x_in hc rfl rfl) (wm_x_fi hc (wm_x_rn hc rfl rfl) rfl rfl) rfl rfl wm_j_ltF)
  (wm_t_seq (wm_t_seq (wm_t_l hc (wm_x_callV hc wm_pl_ok (wm_a_c (wm_x_rn hc rfl rfl) (wm_a_c (wm_x_rn hc rfl rfl) (wm_a_1 (wm_x_in hc rfl rfl)))) rfl rfl (by decide)) rfl)
  (wm_t_seq (wm_t_i hc (wm_x_iconst hc rfl (by decide)) rfl)
  (wm_t_loop (wm_b_cmp hc (wm_x_i hc rfl) (wm_x_fi hc (wm_x_rn hc rfl rfl) rfl rfl) rfl rfl wm_j_ltF)
  (wm_t_seq (wm_t_seq (wm_t_i hc (wm_x_cond (wm_b_un hc (wm_x_bin hc (wm_x_ai hc (wm_x_fr hc (wm_x_fr hc (wm_x_rn hc rfl rfl) rfl rfl) rfl rfl) (wm_x_in hc rfl rfl) rfl) (wm_x_bin hc (wm_x_iconst hc rfl (by decide)) (wm_x_i hc rfl) rfl rfl (fun _ _ _ _ _ _ q => q)) rfl rfl (fun _ _ _ _ _ _ q => q)) rfl rfl wm_z_neF) (wm_x_iconst hc rfl (by decide)) (wm_x_iconst hc rfl (by decide)) rfl) rfl)
  (wm_t_if (wm_b_and (wm_b_un hc (wm_x_i hc rfl) rfl rfl wm_z_neF) (wm_b_un hc (wm_x_bin hc (wm_x_bin hc (wm_x_l hc rfl) (wm_x_bin hc (wm_x_al hc (wm_x_fr hc (wm_x_rn hc rfl rfl) rfl rfl) (wm_x_i hc rfl) rfl) (wm_x_ldc2 hc rfl rfl) rfl rfl (fun _ _ _ _ _ _ q => q)) rfl rfl (fun _ _ _ _ _ _ q => q)) (wm_x_lconst hc rfl (by decide)) rfl rfl (fun _ _ _ _ _ _ q => q)) rfl rfl wm_z_neF))
  (wm_t_seq (wm_t_oal hc (wm_x_fr hc (wm_x_rn hc rfl rfl) rfl rfl) (wm_x_i hc rfl) rfl rfl (wm_x_l hc rfl) rfl rfl (fun _ _ _ _ _ _ q => q) rfl)
  (wm_t_in hc (wm_x_iconst hc rfl (by decide)) rfl rfl)) rfl))
  (wm_t_inc hc rfl (by decide))) rfl)))
  (wm_t_inc hc rfl (by decide))) rfl))
  (wm_t_ret hc (wm_x_in hc rfl rfl) rfl rfl (fun _ _ _ _ q => q))))
theorem c_U_passOn {l : Launch} {D : va_G} {A : Nat → Prop} {ad : Nat → Nat} {cA : Nat → ClassId} (hY : wm_Y cl0 (tys0 cA) A ad cA w_L) : wm_con l y_U_passOn (cd_U_passOn :: gw) rm_U_passOn D cl0 (tys0 cA) A ad cA w_L f_U_passOn :=
  wm_meth (cV := cV_U_passOn) (cS := cS_U_passOn) (by decide) rfl hY (fun r h => wm_fok_mono (fun _ h => List.mem_cons_of_mem _ h) (fk_U r h)) (fun r h => wm_cok_mono (fun _ h => List.mem_cons_of_mem _ h) (ck_U r h)) tk_U_passOn
    (List.forall_mem_cons.mpr ⟨⟨y_U_goThrough, b_U_goThrough, 8, wm_rtT 2, cd_U_goThrough :: gw, gw, rm_U_goThrough, 2, 5, 4, T_U, c_U_goThrough hY, rfl, gw_V (gw_at 521 (by decide +kernel) rfl) gi_U_goThrough gs_U_goThrough gn_U cw_U_goThrough, rfl, rfl, ⟨by decide, by decide, by decide +kernel⟩, rfl, ⟨by decide, by decide⟩, rfl, fun vs S r h => (wm_fn_some (v := r.1) (S' := r.2) h).1⟩, fun _ h => nomatch h⟩)
    (fun _ h => nomatch h)
    bd_U_passOn
/-! CodePruner$Sources.find -/
def y_U_find : MethodName := ⟨"CodePruner$Sources", "find", "(LCodePruner$Program;)V"⟩
abbrev b_U_find : ByteArray := prog_8_method_2_code
def tb_U_find : List wm_R := [(0, .aload_n 0, 1, 0), (1, .aload_n 1, 2, 0), (2, .invokevirtual 24, 5, 0), (5, .iconst 0, 6, 0), (6, .istore_n 2, 7, 0), (7, .iload_n 2, 8, 0), (8, .aload_n 1, 9, 0), (9, .getfield 28, 12, 0), (12, .if_icmp .ge 16, 15, 28), (15, .aload_n 0, 16, 0), (16, .getfield 15, 19, 0), (19, .iload_n 2, 20, 0), (20, .lconst 0, 21, 0), (21, .lastore, 22, 0), (22, .iinc 2 1, 25, 0), (25, .goto (-18), 28, 7), (28, .iconst 1, 29, 0), (29, .istore_n 2, 30, 0), (30, .iconst 0, 31, 0), (31, .istore_n 3, 32, 0), (32, .iload_n 3, 33, 0), (33, .aload_n 1, 34, 0), (34, .getfield 28, 37, 0), (37, .if_icmp .gt 19, 40, 56), (40, .iload_n 2, 41, 0), (41, .ifCond .eq 15, 44, 56), (44, .aload_n 0, 45, 0), (45, .aload_n 1, 46, 0), (46, .invokevirtual 34, 49, 0), (49, .istore_n 2, 50, 0), (50, .iinc 3 1, 53, 0), (53, .goto (-21), 56, 32), (56, .return_, 57, 0)]
theorem tk_U_find : tb_U_find.all (wm_rokb b_U_find) = true := by decide +kernel
abbrev cd_U_find : Cond := Cond.code y_U_find b_U_find 4 (wm_rtT 0)
theorem cw_U_find : cd_U_find ∈ gw := gw_at 508 (by decide +kernel) rfl
theorem gi_U_find : Cond.instanceMethod y_U_find ∈ gw := gw_at 506 (by decide +kernel) rfl
theorem gs_U_find : Cond.selects "CodePruner$Sources" y_U_find y_U_find ∈ gw := gw_at 507 (by decide +kernel) rfl
def t_U_find : wm_St := (ws_seq (ws_call f_U_findSetters (wx_ac .ref (wx_r 0) (wx_a1 .ref (wx_r 1))))
  (ws_seq (ws_seq (ws_i 2 (wx_c (0 : Int32)))
  (ws_loop (wx_bin wr_lt (wx_i 2) (wx_fi w_L 1 0 (wx_r 1)))
  (ws_seq (ws_al w_L (wx_fr w_L 5 1 (wx_r 0)) (wx_i 2) (wx_c (0 : Int64)))
  (ws_inc 2 (1 : Int32))) w_N))
  (ws_seq (ws_i 2 (wx_c (1 : Int32)))
  (ws_seq (ws_seq (ws_i 3 (wx_c (0 : Int32)))
  (ws_loop (wb_and (wx_bin wr_le (wx_i 3) (wx_fi w_L 1 0 (wx_r 1))) (wx_un (fun v => wr_ne v 0) (wx_i 2)))
  (ws_seq (ws_i 2 (wx_call wm_pi f_U_passOn (wx_ac .ref (wx_r 0) (wx_a1 .ref (wx_r 1)))))
  (ws_inc 3 (1 : Int32))) w_N))
  ws_retv))))
def f_U_find : List Value → wm_S → Option (Option Value × wm_S) := wm_fn (wm_isc w_L 5) 0 4 t_U_find
def rm_U_find : Room := { frames := 3, locals := 78 }
abbrev cV_U_find : List (Nat × wm_M) := [(24, 2, f_U_findSetters), (34, 2, f_U_passOn)]
abbrev cS_U_find : List (Nat × wm_M) := []
set_option maxRecDepth 20000 in
theorem bd_U_find (w : wm_K) (ret : Option Value → wm_S → Prop) (hc : wm_cl w_L fl_U cs_U none cV_U_find cS_U_find ret tb_U_find w) : wm_T w tb_U_find ret 0 9999 t_U_find :=
  (wm_t_seq (wm_t_callV hc (wm_a_c (wm_x_rn hc rfl rfl) (wm_a_1 (wm_x_rn hc rfl rfl))) rfl rfl)
  (wm_t_seq (wm_t_seq (wm_t_in hc (wm_x_iconst hc rfl (by decide)) rfl rfl)
  (wm_t_loop (wm_b_cmp hc (wm_x_in hc rfl rfl) (wm_x_fi hc (wm_x_rn hc rfl rfl) rfl rfl) rfl rfl wm_j_ltF)
  (wm_t_seq (wm_t_al hc (wm_x_fr hc (wm_x_rn hc rfl rfl) rfl rfl) (wm_x_in hc rfl rfl) (wm_x_lconst hc rfl (by decide)) rfl)
  (wm_t_inc hc rfl (by decide))) rfl))
  (wm_t_seq (wm_t_in hc (wm_x_iconst hc rfl (by decide)) rfl rfl)
  (wm_t_seq (wm_t_seq (wm_t_in hc (wm_x_iconst hc rfl (by decide)) rfl rfl)
  (wm_t_loop (wm_b_and (wm_b_cmp hc (wm_x_in hc rfl rfl) (wm_x_fi hc (wm_x_rn hc rfl rfl) rfl rfl) rfl rfl wm_j_leF) (wm_b_un hc (wm_x_in hc rfl rfl) rfl rfl wm_z_neF))
  (wm_t_seq (wm_t_in hc (wm_x_callV hc wm_pi_ok (wm_a_c (wm_x_rn hc rfl rfl) (wm_a_1 (wm_x_rn hc rfl rfl))) rfl rfl (by decide)) rfl rfl)
  (wm_t_inc hc rfl (by decide))) rfl))
  (wm_t_retv hc rfl)))))
theorem c_U_find {l : Launch} {D : va_G} {A : Nat → Prop} {ad : Nat → Nat} {cA : Nat → ClassId} (hY : wm_Y cl0 (tys0 cA) A ad cA w_L) : wm_con l y_U_find (cd_U_find :: gw) rm_U_find D cl0 (tys0 cA) A ad cA w_L f_U_find :=
  wm_meth (cV := cV_U_find) (cS := cS_U_find) (by decide) rfl hY (fun r h => wm_fok_mono (fun _ h => List.mem_cons_of_mem _ h) (fk_U r h)) (fun r h => wm_cok_mono (fun _ h => List.mem_cons_of_mem _ h) (ck_U r h)) tk_U_find
    (List.forall_mem_cons.mpr ⟨⟨y_U_findSetters, b_U_findSetters, 4, wm_rtT 0, cd_U_findSetters :: gw, gw, rm_U_findSetters, 1, 5, 4, T_U, c_U_findSetters hY, rfl, gw_V (gw_at 509 (by decide +kernel) rfl) gi_U_findSetters gs_U_findSetters gn_U cw_U_findSetters, rfl, rfl, ⟨by decide, by decide, by decide +kernel⟩, rfl, ⟨by decide, by decide⟩, rfl, fun vs S r h => (wm_fn_some (v := r.1) (S' := r.2) h).1⟩, List.forall_mem_cons.mpr ⟨⟨y_U_passOn, b_U_passOn, 8, wm_rtT 3, cd_U_passOn :: gw, gw, rm_U_passOn, 1, 5, 4, T_U, c_U_passOn hY, rfl, gw_V (gw_at 517 (by decide +kernel) rfl) gi_U_passOn gs_U_passOn gn_U cw_U_passOn, rfl, rfl, ⟨by decide, by decide, by decide +kernel⟩, rfl, ⟨by decide, by decide⟩, rfl, fun vs S r h => (wm_fn_some (v := r.1) (S' := r.2) h).1⟩, fun _ h => nomatch h⟩⟩)
    (fun _ h => nomatch h)
    bd_U_find
end WME_U

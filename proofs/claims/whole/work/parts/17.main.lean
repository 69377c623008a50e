section WME_P
/-! CodePruner.forgetResults -/
def y_P_forgetResults : MethodName := ⟨"CodePruner", "forgetResults", "()V"⟩
abbrev b_P_forgetResults : ByteArray := prog_1_method_15_code
def tb_P_forgetResults : List wm_R := [(0, .aload_n 0, 1, 0), (1, .iconst 0, 2, 0), (2, .putfield 30, 5, 0), (5, .aload_n 0, 6, 0), (6, .getfield 26, 9, 0), (9, .iconst 0, 10, 0), (10, .iconst 0, 11, 0), (11, .invokevirtual 146, 14, 0), (14, .return_, 15, 0)]
theorem tk_P_forgetResults : tb_P_forgetResults.all (wm_rokb b_P_forgetResults) = true := by decide +kernel
abbrev cd_P_forgetResults : Cond := Cond.code y_P_forgetResults b_P_forgetResults 1 (wm_rtT 0)
theorem cw_P_forgetResults : cd_P_forgetResults ∈ gw := gw_at 273 (by decide +kernel) rfl
theorem gi_P_forgetResults : Cond.instanceMethod y_P_forgetResults ∈ gw := gw_at 272 (by decide +kernel) rfl
theorem gs_P_forgetResults : Cond.selects "CodePruner" y_P_forgetResults y_P_forgetResults ∈ gw := gw_of (List.mem_append_left _ (List.mem_of_getElem? (i := 0) (by decide +kernel))) rfl
def t_P_forgetResults : wm_St := (ws_seq (ws_fi w_L 0 3 (wx_r 0) (wx_c (0 : Int32)))
  (ws_seq (ws_call f_M_begin (wx_ac .ref (wx_fr w_L 0 2 (wx_r 0)) (wx_ac .int (wx_c (0 : Int32)) (wx_a1 .int (wx_c (0 : Int32))))))
  ws_retv))
def f_P_forgetResults : List Value → wm_S → Option (Option Value × wm_S) := wm_fn (wm_isc w_L 0) 0 1 t_P_forgetResults
def rm_P_forgetResults : Room := { frames := 1, locals := 23 }
abbrev cV_P_forgetResults : List (Nat × wm_M) := [(146, 3, f_M_begin)]
abbrev cS_P_forgetResults : List (Nat × wm_M) := []
set_option maxRecDepth 20000 in
theorem bd_P_forgetResults (w : wm_K) (ret : Option Value → wm_S → Prop) (hc : wm_cl w_L fl_P cs_P none cV_P_forgetResults cS_P_forgetResults ret tb_P_forgetResults w) : wm_T w tb_P_forgetResults ret 0 9999 t_P_forgetResults :=
  (wm_t_seq (wm_t_fi hc (wm_x_rn hc rfl rfl) (wm_x_iconst hc rfl (by decide)) rfl rfl)
  (wm_t_seq (wm_t_callV hc (wm_a_c (wm_x_fr hc (wm_x_rn hc rfl rfl) rfl rfl) (wm_a_c (wm_x_iconst hc rfl (by decide)) (wm_a_1 (wm_x_iconst hc rfl (by decide))))) rfl rfl)
  (wm_t_retv hc rfl)))
theorem c_P_forgetResults {l : Launch} {D : va_G} {A : Nat → Prop} {ad : Nat → Nat} {cA : Nat → ClassId} (hY : wm_Y cl0 (tys0 cA) A ad cA w_L) : wm_con l y_P_forgetResults (cd_P_forgetResults :: gw) rm_P_forgetResults D cl0 (tys0 cA) A ad cA w_L f_P_forgetResults :=
  wm_meth (cV := cV_P_forgetResults) (cS := cS_P_forgetResults) (by decide) rfl hY (fun r h => wm_fok_mono (fun _ h => List.mem_cons_of_mem _ h) (fk_P r h)) (fun r h => wm_cok_mono (fun _ h => List.mem_cons_of_mem _ h) (ck_P r h)) tk_P_forgetResults
    (List.forall_mem_cons.mpr ⟨⟨y_M_begin, b_M_begin, 4, wm_rtT 0, cd_M_begin :: gw, gw, rm_M_begin, 2, 7, 8, T_M, c_M_begin hY, rfl, gw_V (gw_at 274 (by decide +kernel) rfl) gi_M_begin gs_M_begin gn_M cw_M_begin, rfl, rfl, ⟨by decide, by decide, by decide +kernel⟩, rfl, ⟨by decide, by decide⟩, rfl, fun vs S r h => (wm_fn_some (v := r.1) (S' := r.2) h).1⟩, fun _ h => nomatch h⟩)
    (fun _ h => nomatch h)
    bd_P_forgetResults
/-! CodePruner.block -/
def y_P_block : MethodName := ⟨"CodePruner", "block", "()I"⟩
abbrev b_P_block : ByteArray := prog_1_method_2_code
def tb_P_block : List wm_R := [(0, .aload_n 0, 1, 0), (1, .getfield 10, 4, 0), (4, .getfield 34, 7, 0), (7, .bipush 12, 9, 0), (9, .if_icmp .lt 11, 12, 20), (12, .new 38, 15, 0), (15, .dup, 16, 0), (16, .invokespecial 40, 19, 0), (19, .athrow, 20, 0), (20, .aload_n 0, 21, 0), (21, .invokevirtual 41, 24, 0), (24, .aload_n 0, 25, 0), (25, .getfield 10, 28, 0), (28, .invokevirtual 44, 31, 0), (31, .ireturn, 32, 0)]
theorem tk_P_block : tb_P_block.all (wm_rokb b_P_block) = true := by decide +kernel
abbrev cd_P_block : Cond := Cond.code y_P_block b_P_block 1 (wm_rtT 1)
theorem cw_P_block : cd_P_block ∈ gw := gw_at 297 (by decide +kernel) rfl
theorem gi_P_block : Cond.instanceMethod y_P_block ∈ gw := gw_at 295 (by decide +kernel) rfl
theorem gs_P_block : Cond.selects "CodePruner" y_P_block y_P_block ∈ gw := gw_at 296 (by decide +kernel) rfl
def t_P_block : wm_St := (ws_seq (ws_if (wx_bin wr_ge (wx_fi w_L 1 0 (wx_fr w_L 0 0 (wx_r 0))) (wx_c (12 : Int32)))
  (ws_thr 0))
  (ws_seq (ws_call f_P_forgetResults (wx_a1 .ref (wx_r 0)))
  (ws_ret .int (wx_call wm_pi f_G_openBlock (wx_a1 .ref (wx_fr w_L 0 0 (wx_r 0)))))))
def f_P_block : List Value → wm_S → Option (Option Value × wm_S) := wt_fn (wm_isc w_L 0) 1 1 t_P_block
def rm_P_block : Room := { frames := 6, locals := 81, cells := 1, slots := 6 }
abbrev cV_P_block : List (Nat × wm_M) := [(41, 1, f_P_forgetResults), (44, 1, f_G_openBlock)]
abbrev cS_P_block : List (Nat × wm_M) := []
abbrev tt_P_block : List (Nat × Nat) := [(12, 0)]
set_option maxRecDepth 20000 in
theorem bd_P_block (w : wm_K) (ret : Option Value → wm_S → Prop) (hc : wm_cl w_L fl_P cs_P none cV_P_block cS_P_block ret tb_P_block w) (hT : wm_thw tt_P_block ret w) : wm_T w tb_P_block ret 0 9999 t_P_block :=
  (wm_t_seq (wm_t_if (wm_b_cmp hc (wm_x_fi hc (wm_x_fr hc (wm_x_rn hc rfl rfl) rfl rfl) rfl rfl) (wm_x_bipush hc rfl (by decide)) rfl rfl wm_j_geF)
  (wm_t_thr rfl (hT 12 0 rfl)) rfl)
  (wm_t_seq (wm_t_callV hc (wm_a_1 (wm_x_rn hc rfl rfl)) rfl rfl)
  (wm_t_ret hc (wm_x_callV hc wm_pi_ok (wm_a_1 (wm_x_fr hc (wm_x_rn hc rfl rfl) rfl rfl)) rfl rfl (by decide)) rfl rfl (fun _ _ _ _ q => q))))
theorem x_P_block {l : Launch} {D : va_G} {A : Nat → Prop} {ad : Nat → Nat} {cA : Nat → ClassId} (hl : l.stackTraces = false) (hY : wm_Y cl0 (tys0 cA) A ad cA w_L) : wt_con l y_P_block (cd_P_block :: gw) rm_P_block D cl0 (tys0 cA) A ad cA w_L f_P_block :=
  wt_meth (cV := cV_P_block) (cS := cS_P_block) (tt := tt_P_block) hl (by decide) rfl hY (fun r h => wm_fok_mono (fun _ h => List.mem_cons_of_mem _ h) (fk_P r h)) (fun r h => wm_cok_mono (fun _ h => List.mem_cons_of_mem _ h) (ck_P r h)) tk_P_block
    (List.forall_mem_cons.mpr ⟨⟨y_P_forgetResults, b_P_forgetResults, 1, wm_rtT 0, cd_P_forgetResults :: gw, gw, rm_P_forgetResults, 0, 0, 4, T_P, c_P_forgetResults hY, rfl, gw_V (gw_at 270 (by decide +kernel) rfl) gi_P_forgetResults gs_P_forgetResults gn_P cw_P_forgetResults, rfl, rfl, ⟨by decide, by decide, by decide +kernel⟩, rfl, ⟨by decide, by decide⟩, rfl, fun vs S r h => (wm_fn_some (v := r.1) (S' := r.2) h).1⟩, List.forall_mem_cons.mpr ⟨⟨y_G_openBlock, b_G_openBlock, 2, wm_rtT 1, cd_G_openBlock :: gw, gw, rm_G_openBlock, 0, 1, 10, T_G, c_G_openBlock hY, rfl, gw_V (gw_at 362 (by decide +kernel) rfl) gi_G_openBlock gs_G_openBlock gn_G cw_G_openBlock, rfl, rfl, ⟨by decide, by decide, by decide +kernel⟩, rfl, ⟨by decide, by decide⟩, rfl, fun vs S r h => (wm_fn_some (v := r.1) (S' := r.2) h).1⟩, fun _ h => nomatch h⟩⟩)
    (fun _ h => nomatch h)
    (List.forall_mem_cons.mpr ⟨⟨38, 40, by decide, by decide +kernel, by decide +kernel, by decide +kernel, by decide +kernel, List.mem_cons_of_mem _ th_0, rfl, List.mem_cons_of_mem _ ti_0, rfl, fun w hw hg => List.mem_cons_of_mem _ (tw_0 w hw hg), t5_0, tf_0⟩, fun _ h => nomatch h⟩)
    ⟨by decide, by decide, by decide, by decide⟩ bd_P_block
/-! CodePruner.isRegister -/
def y_P_isRegister : MethodName := ⟨"CodePruner", "isRegister", "(I)Z"⟩
abbrev b_P_isRegister : ByteArray := prog_1_method_19_code
def tb_P_isRegister : List wm_R := [(0, .iload_n 0, 1, 0), (1, .ifCond .lt 13, 4, 14), (4, .iload_n 0, 5, 0), (5, .bipush 8, 7, 0), (7, .if_icmp .ge 7, 10, 14), (10, .iconst 1, 11, 0), (11, .goto 4, 14, 15), (14, .iconst 0, 15, 0), (15, .ireturn, 16, 0)]
theorem tk_P_isRegister : tb_P_isRegister.all (wm_rokb b_P_isRegister) = true := by decide +kernel
abbrev cd_P_isRegister : Cond := Cond.code y_P_isRegister b_P_isRegister 1 (wm_rtT 3)
theorem cw_P_isRegister : cd_P_isRegister ∈ gw := gw_at 406 (by decide +kernel) rfl
theorem gi_P_isRegister : Cond.static y_P_isRegister ∈ gw := gw_at 405 (by decide +kernel) rfl
def t_P_isRegister : wm_St := (ws_ret .int (wx_cond (wb_and (wx_un (fun v => wr_ge v 0) (wx_i 0)) (wx_bin wr_lt (wx_i 0) (wx_c (8 : Int32)))) (wx_c (1 : Int32)) (wx_c (0 : Int32))))
def f_P_isRegister : List Value → wm_S → Option (Option Value × wm_S) := wm_fn wm_any 3 1 t_P_isRegister
def rm_P_isRegister : Room := { frames := 0, locals := 0 }
abbrev cV_P_isRegister : List (Nat × wm_M) := []
abbrev cS_P_isRegister : List (Nat × wm_M) := []
set_option maxRecDepth 20000 in
theorem bd_P_isRegister (w : wm_K) (ret : Option Value → wm_S → Prop) (hc : wm_cl w_L fl_P cs_P none cV_P_isRegister cS_P_isRegister ret tb_P_isRegister w) : wm_T w tb_P_isRegister ret 0 9999 t_P_isRegister :=
  (wm_t_ret hc (wm_x_cond (wm_b_and (wm_b_un hc (wm_x_in hc rfl rfl) rfl rfl wm_z_geF) (wm_b_cmp hc (wm_x_in hc rfl rfl) (wm_x_bipush hc rfl (by decide)) rfl rfl wm_j_ltF)) (wm_x_iconst hc rfl (by decide)) (wm_x_iconst hc rfl (by decide)) rfl) rfl rfl (fun _ _ _ _ q => q))
theorem c_P_isRegister {l : Launch} {D : va_G} {A : Nat → Prop} {ad : Nat → Nat} {cA : Nat → ClassId} (hY : wm_Y cl0 (tys0 cA) A ad cA w_L) : wm_con l y_P_isRegister (cd_P_isRegister :: gw) rm_P_isRegister D cl0 (tys0 cA) A ad cA w_L f_P_isRegister :=
  wm_meth (cV := cV_P_isRegister) (cS := cS_P_isRegister) (by decide) rfl hY (fun r h => wm_fok_mono (fun _ h => List.mem_cons_of_mem _ h) (fk_P r h)) (fun r h => wm_cok_mono (fun _ h => List.mem_cons_of_mem _ h) (ck_P r h)) tk_P_isRegister
    (fun _ h => nomatch h)
    (fun _ h => nomatch h)
    bd_P_isRegister
/-! CodePruner.isInstruction -/
def y_P_isInstruction : MethodName := ⟨"CodePruner", "isInstruction", "(IIII)Z"⟩
abbrev b_P_isInstruction : ByteArray := prog_1_method_17_code
def tb_P_isInstruction : List wm_R := [(0, .iload_n 0, 1, 0), (1, .ifCond .lt 16, 4, 17), (4, .iload_n 0, 5, 0), (5, .bipush 7, 7, 0), (7, .if_icmp .gt 10, 10, 17), (10, .iload_n 1, 11, 0), (11, .invokestatic 178, 14, 0), (14, .ifCond .ne 5, 17, 19), (17, .iconst 0, 18, 0), (18, .ireturn, 19, 0), (19, .iload_n 0, 20, 0), (20, .iconst 1, 21, 0), (21, .if_icmp .ne 8, 24, 29), (24, .iload_n 2, 25, 0), (25, .invokestatic 178, 28, 0), (28, .ireturn, 29, 0), (29, .iload_n 0, 30, 0), (30, .iconst 2, 31, 0), (31, .if_icmp .lt 28, 34, 59), (34, .iload_n 0, 35, 0), (35, .iconst 5, 36, 0), (36, .if_icmp .gt 23, 39, 59), (39, .iload_n 2, 40, 0), (40, .invokestatic 178, 43, 0), (43, .ifCond .eq 14, 46, 57), (46, .iload_n 3, 47, 0), (47, .invokestatic 178, 50, 0), (50, .ifCond .eq 7, 53, 57), (53, .iconst 1, 54, 0), (54, .goto 4, 57, 58), (57, .iconst 0, 58, 0), (58, .ireturn, 59, 0), (59, .iconst 1, 60, 0), (60, .ireturn, 61, 0)]
theorem tk_P_isInstruction : tb_P_isInstruction.all (wm_rokb b_P_isInstruction) = true := by decide +kernel
abbrev cd_P_isInstruction : Cond := Cond.code y_P_isInstruction b_P_isInstruction 4 (wm_rtT 3)
theorem cw_P_isInstruction : cd_P_isInstruction ∈ gw := gw_at 403 (by decide +kernel) rfl
theorem gi_P_isInstruction : Cond.static y_P_isInstruction ∈ gw := gw_at 402 (by decide +kernel) rfl
def t_P_isInstruction : wm_St := (ws_seq (ws_if (wb_or (wb_or (wx_un (fun v => wr_lt v 0) (wx_i 0)) (wx_bin wr_gt (wx_i 0) (wx_c (7 : Int32)))) (wb_not (wx_un (fun v => wr_ne v 0) (wx_call wm_pi f_P_isRegister (wx_a1 .int (wx_i 1))))))
  (ws_ret .int (wx_c (0 : Int32))))
  (ws_seq (ws_if (wx_bin wr_eq (wx_i 0) (wx_c (1 : Int32)))
  (ws_ret .int (wx_call wm_pi f_P_isRegister (wx_a1 .int (wx_i 2)))))
  (ws_seq (ws_if (wb_and (wx_bin wr_ge (wx_i 0) (wx_c (2 : Int32))) (wx_bin wr_le (wx_i 0) (wx_c (5 : Int32))))
  (ws_ret .int (wx_cond (wb_and (wx_un (fun v => wr_ne v 0) (wx_call wm_pi f_P_isRegister (wx_a1 .int (wx_i 2)))) (wx_un (fun v => wr_ne v 0) (wx_call wm_pi f_P_isRegister (wx_a1 .int (wx_i 3))))) (wx_c (1 : Int32)) (wx_c (0 : Int32)))))
  (ws_ret .int (wx_c (1 : Int32))))))
def f_P_isInstruction : List Value → wm_S → Option (Option Value × wm_S) := wm_fn wm_any 3 4 t_P_isInstruction
def rm_P_isInstruction : Room := { frames := 1, locals := 20 }
abbrev cV_P_isInstruction : List (Nat × wm_M) := []
abbrev cS_P_isInstruction : List (Nat × wm_M) := [(178, 1, f_P_isRegister)]
set_option maxRecDepth 20000 in
theorem bd_P_isInstruction (w : wm_K) (ret : Option Value → wm_S → Prop) (hc : wm_cl w_L fl_P cs_P none cV_P_isInstruction cS_P_isInstruction ret tb_P_isInstruction w) : wm_T w tb_P_isInstruction ret 0 9999 t_P_isInstruction :=
  (wm_t_seq (wm_t_if (wm_b_or (wm_b_or (wm_b_un hc (wm_x_in hc rfl rfl) rfl rfl wm_z_ltT) (wm_b_cmp hc (wm_x_in hc rfl rfl) (wm_x_bipush hc rfl (by decide)) rfl rfl wm_j_gtT)) (wm_b_not (wm_b_un hc (wm_x_callS hc wm_pi_ok (wm_a_1 (wm_x_in hc rfl rfl)) rfl rfl (by decide)) rfl rfl wm_z_neT)))
  (wm_t_ret hc (wm_x_iconst hc rfl (by decide)) rfl rfl (fun _ _ _ _ q => q)) rfl)
  (wm_t_seq (wm_t_if (wm_b_cmp hc (wm_x_in hc rfl rfl) (wm_x_iconst hc rfl (by decide)) rfl rfl wm_j_eqF)
  (wm_t_ret hc (wm_x_callS hc wm_pi_ok (wm_a_1 (wm_x_in hc rfl rfl)) rfl rfl (by decide)) rfl rfl (fun _ _ _ _ q => q)) rfl)
  (wm_t_seq (wm_t_if (wm_b_and (wm_b_cmp hc (wm_x_in hc rfl rfl) (wm_x_iconst hc rfl (by decide)) rfl rfl wm_j_geF) (wm_b_cmp hc (wm_x_in hc rfl rfl) (wm_x_iconst hc rfl (by decide)) rfl rfl wm_j_leF))
  (wm_t_ret hc (wm_x_cond (wm_b_and (wm_b_un hc (wm_x_callS hc wm_pi_ok (wm_a_1 (wm_x_in hc rfl rfl)) rfl rfl (by decide)) rfl rfl wm_z_neF) (wm_b_un hc (wm_x_callS hc wm_pi_ok (wm_a_1 (wm_x_in hc rfl rfl)) rfl rfl (by decide)) rfl rfl wm_z_neF)) (wm_x_iconst hc rfl (by decide)) (wm_x_iconst hc rfl (by decide)) rfl) rfl rfl (fun _ _ _ _ q => q)) rfl)
  (wm_t_ret hc (wm_x_iconst hc rfl (by decide)) rfl rfl (fun _ _ _ _ q => q)))))
theorem c_P_isInstruction {l : Launch} {D : va_G} {A : Nat → Prop} {ad : Nat → Nat} {cA : Nat → ClassId} (hY : wm_Y cl0 (tys0 cA) A ad cA w_L) : wm_con l y_P_isInstruction (cd_P_isInstruction :: gw) rm_P_isInstruction D cl0 (tys0 cA) A ad cA w_L f_P_isInstruction :=
  wm_meth (cV := cV_P_isInstruction) (cS := cS_P_isInstruction) (by decide) rfl hY (fun r h => wm_fok_mono (fun _ h => List.mem_cons_of_mem _ h) (fk_P r h)) (fun r h => wm_cok_mono (fun _ h => List.mem_cons_of_mem _ h) (ck_P r h)) tk_P_isInstruction
    (fun _ h => nomatch h)
    (List.forall_mem_cons.mpr ⟨⟨y_P_isRegister, b_P_isRegister, 1, wm_rtT 3, cd_P_isRegister :: gw, gw, rm_P_isRegister, c_P_isRegister hY, rfl, gw_S (gw_at 404 (by decide +kernel) rfl) gi_P_isRegister gn_P cw_P_isRegister, rfl, rfl, ⟨by decide, by decide, by decide +kernel⟩, ⟨by decide, by decide⟩⟩, fun _ h => nomatch h⟩)
    bd_P_isInstruction
/-! CodePruner.add -/
def y_P_add : MethodName := ⟨"CodePruner", "add", "(IIIII)I"⟩
abbrev b_P_add : ByteArray := prog_1_method_3_code
def tb_P_add : List wm_R := [(0, .aload_n 0, 1, 0), (1, .getfield 10, 4, 0), (4, .iload_n 1, 5, 0), (5, .invokevirtual 48, 8, 0), (8, .ifCond .ne 11, 11, 19), (11, .new 52, 14, 0), (14, .dup, 15, 0), (15, .invokespecial 54, 18, 0), (18, .athrow, 19, 0), (19, .iload_n 2, 20, 0), (20, .iload_n 3, 21, 0), (21, .iload 4, 23, 0), (23, .iload 5, 25, 0), (25, .invokestatic 55, 28, 0), (28, .ifCond .ne 11, 31, 39), (31, .new 59, 34, 0), (34, .dup, 35, 0), (35, .invokespecial 61, 38, 0), (38, .athrow, 39, 0), (39, .aload_n 0, 40, 0), (40, .getfield 10, 43, 0), (43, .getfield 62, 46, 0), (46, .bipush 60, 48, 0), (48, .if_icmp .lt 11, 51, 59), (51, .new 38, 54, 0), (54, .dup, 55, 0), (55, .invokespecial 40, 58, 0), (58, .athrow, 59, 0), (59, .aload_n 0, 60, 0), (60, .invokevirtual 41, 63, 0), (63, .aload_n 0, 64, 0), (64, .getfield 10, 67, 0), (67, .iload_n 1, 68, 0), (68, .iload_n 2, 69, 0), (69, .iload_n 3, 70, 0), (70, .iload 4, 72, 0), (72, .iload 5, 74, 0), (74, .invokevirtual 65, 77, 0), (77, .ireturn, 78, 0)]
theorem tk_P_add : tb_P_add.all (wm_rokb b_P_add) = true := by decide +kernel
abbrev cd_P_add : Cond := Cond.code y_P_add b_P_add 6 (wm_rtT 1)
theorem cw_P_add : cd_P_add ∈ gw := gw_at 381 (by decide +kernel) rfl
theorem gi_P_add : Cond.instanceMethod y_P_add ∈ gw := gw_at 379 (by decide +kernel) rfl
theorem gs_P_add : Cond.selects "CodePruner" y_P_add y_P_add ∈ gw := gw_at 380 (by decide +kernel) rfl
def t_P_add : wm_St := (ws_seq (ws_if (wb_not (wx_un (fun v => wr_ne v 0) (wx_call wm_pi f_G_hasBlock (wx_ac .ref (wx_fr w_L 0 0 (wx_r 0)) (wx_a1 .int (wx_i 1))))))
  (ws_thr 1))
  (ws_seq (ws_if (wb_not (wx_un (fun v => wr_ne v 0) (wx_call wm_pi f_P_isInstruction (wx_ac .int (wx_i 2) (wx_ac .int (wx_i 3) (wx_ac .int (wx_i 4) (wx_a1 .int (wx_i 5))))))))
  (ws_thr 2))
  (ws_seq (ws_if (wx_bin wr_ge (wx_fi w_L 1 1 (wx_fr w_L 0 0 (wx_r 0))) (wx_c (60 : Int32)))
  (ws_thr 0))
  (ws_seq (ws_call f_P_forgetResults (wx_a1 .ref (wx_r 0)))
  (ws_ret .int (wx_call wm_pi f_G_append (wx_ac .ref (wx_fr w_L 0 0 (wx_r 0)) (wx_ac .int (wx_i 1) (wx_ac .int (wx_i 2) (wx_ac .int (wx_i 3) (wx_ac .int (wx_i 4) (wx_a1 .int (wx_i 5)))))))))))))
def f_P_add : List Value → wm_S → Option (Option Value × wm_S) := wt_fn (wm_isc w_L 0) 1 6 t_P_add
def rm_P_add : Room := { frames := 6, locals := 81, cells := 1, slots := 6 }
abbrev cV_P_add : List (Nat × wm_M) := [(41, 1, f_P_forgetResults), (48, 2, f_G_hasBlock), (65, 6, f_G_append)]
abbrev cS_P_add : List (Nat × wm_M) := [(55, 4, f_P_isInstruction)]
abbrev tt_P_add : List (Nat × Nat) := [(11, 1), (31, 2), (51, 0)]
set_option maxRecDepth 20000 in
theorem bd_P_add (w : wm_K) (ret : Option Value → wm_S → Prop) (hc : wm_cl w_L fl_P cs_P none cV_P_add cS_P_add ret tb_P_add w) (hT : wm_thw tt_P_add ret w) : wm_T w tb_P_add ret 0 9999 t_P_add :=
  (wm_t_seq (wm_t_if (wm_b_not (wm_b_un hc (wm_x_callV hc wm_pi_ok (wm_a_c (wm_x_fr hc (wm_x_rn hc rfl rfl) rfl rfl) (wm_a_1 (wm_x_in hc rfl rfl))) rfl rfl (by decide)) rfl rfl wm_z_neT))
  (wm_t_thr rfl (hT 11 1 rfl)) rfl)
  (wm_t_seq (wm_t_if (wm_b_not (wm_b_un hc (wm_x_callS hc wm_pi_ok (wm_a_c (wm_x_in hc rfl rfl) (wm_a_c (wm_x_in hc rfl rfl) (wm_a_c (wm_x_i hc rfl) (wm_a_1 (wm_x_i hc rfl))))) rfl rfl (by decide)) rfl rfl wm_z_neT))
  (wm_t_thr rfl (hT 31 2 rfl)) rfl)
  (wm_t_seq (wm_t_if (wm_b_cmp hc (wm_x_fi hc (wm_x_fr hc (wm_x_rn hc rfl rfl) rfl rfl) rfl rfl) (wm_x_bipush hc rfl (by decide)) rfl rfl wm_j_geF)
  (wm_t_thr rfl (hT 51 0 rfl)) rfl)
  (wm_t_seq (wm_t_callV hc (wm_a_1 (wm_x_rn hc rfl rfl)) rfl rfl)
  (wm_t_ret hc (wm_x_callV hc wm_pi_ok (wm_a_c (wm_x_fr hc (wm_x_rn hc rfl rfl) rfl rfl) (wm_a_c (wm_x_in hc rfl rfl) (wm_a_c (wm_x_in hc rfl rfl) (wm_a_c (wm_x_in hc rfl rfl) (wm_a_c (wm_x_i hc rfl) (wm_a_1 (wm_x_i hc rfl))))))) rfl rfl (by decide)) rfl rfl (fun _ _ _ _ q => q))))))
theorem x_P_add {l : Launch} {D : va_G} {A : Nat → Prop} {ad : Nat → Nat} {cA : Nat → ClassId} (hl : l.stackTraces = false) (hY : wm_Y cl0 (tys0 cA) A ad cA w_L) : wt_con l y_P_add (cd_P_add :: gw) rm_P_add D cl0 (tys0 cA) A ad cA w_L f_P_add :=
  wt_meth (cV := cV_P_add) (cS := cS_P_add) (tt := tt_P_add) hl (by decide) rfl hY (fun r h => wm_fok_mono (fun _ h => List.mem_cons_of_mem _ h) (fk_P r h)) (fun r h => wm_cok_mono (fun _ h => List.mem_cons_of_mem _ h) (ck_P r h)) tk_P_add
    (List.forall_mem_cons.mpr ⟨⟨y_P_forgetResults, b_P_forgetResults, 1, wm_rtT 0, cd_P_forgetResults :: gw, gw, rm_P_forgetResults, 0, 0, 4, T_P, c_P_forgetResults hY, rfl, gw_V (gw_at 270 (by decide +kernel) rfl) gi_P_forgetResults gs_P_forgetResults gn_P cw_P_forgetResults, rfl, rfl, ⟨by decide, by decide, by decide +kernel⟩, rfl, ⟨by decide, by decide⟩, rfl, fun vs S r h => (wm_fn_some (v := r.1) (S' := r.2) h).1⟩, List.forall_mem_cons.mpr ⟨⟨y_G_hasBlock, b_G_hasBlock, 2, wm_rtT 3, cd_G_hasBlock :: gw, gw, rm_G_hasBlock, 1, 1, 10, T_G, c_G_hasBlock hY, rfl, gw_V (gw_at 382 (by decide +kernel) rfl) gi_G_hasBlock gs_G_hasBlock gn_G cw_G_hasBlock, rfl, rfl, ⟨by decide, by decide, by decide +kernel⟩, rfl, ⟨by decide, by decide⟩, rfl, fun vs S r h => (wm_fn_some (v := r.1) (S' := r.2) h).1⟩, List.forall_mem_cons.mpr ⟨⟨y_G_append, b_G_append, 7, wm_rtT 1, cd_G_append :: gw, gw, rm_G_append, 5, 1, 10, T_G, c_G_append hY, rfl, gw_V (gw_at 422 (by decide +kernel) rfl) gi_G_append gs_G_append gn_G cw_G_append, rfl, rfl, ⟨by decide, by decide, by decide +kernel⟩, rfl, ⟨by decide, by decide⟩, rfl, fun vs S r h => (wm_fn_some (v := r.1) (S' := r.2) h).1⟩, fun _ h => nomatch h⟩⟩⟩)
    (List.forall_mem_cons.mpr ⟨Or.inl ⟨y_P_isInstruction, b_P_isInstruction, 4, wm_rtT 3, cd_P_isInstruction :: gw, gw, rm_P_isInstruction, c_P_isInstruction hY, rfl, gw_S (gw_at 401 (by decide +kernel) rfl) gi_P_isInstruction gn_P cw_P_isInstruction, rfl, rfl, ⟨by decide, by decide, by decide +kernel⟩, ⟨by decide, by decide⟩⟩, fun _ h => nomatch h⟩)
    (List.forall_mem_cons.mpr ⟨⟨52, 54, by decide, by decide +kernel, by decide +kernel, by decide +kernel, by decide +kernel, List.mem_cons_of_mem _ th_1, rfl, List.mem_cons_of_mem _ ti_1, rfl, fun w hw hg => List.mem_cons_of_mem _ (tw_1 w hw hg), t5_1, tf_1⟩, List.forall_mem_cons.mpr ⟨⟨59, 61, by decide, by decide +kernel, by decide +kernel, by decide +kernel, by decide +kernel, List.mem_cons_of_mem _ th_2, rfl, List.mem_cons_of_mem _ ti_2, rfl, fun w hw hg => List.mem_cons_of_mem _ (tw_2 w hw hg), t5_2, tf_2⟩, List.forall_mem_cons.mpr ⟨⟨38, 40, by decide, by decide +kernel, by decide +kernel, by decide +kernel, by decide +kernel, List.mem_cons_of_mem _ th_0, rfl, List.mem_cons_of_mem _ ti_0, rfl, fun w hw hg => List.mem_cons_of_mem _ (tw_0 w hw hg), t5_0, tf_0⟩, fun _ h => nomatch h⟩⟩⟩)
    ⟨by decide, by decide, by decide, by decide⟩ bd_P_add
/-! CodePruner.mayBeBlock -/
def y_P_mayBeBlock : MethodName := ⟨"CodePruner", "mayBeBlock", "(I)Z"⟩
abbrev b_P_mayBeBlock : ByteArray := prog_1_method_20_code
def tb_P_mayBeBlock : List wm_R := [(0, .iload_n 0, 1, 0), (1, .ifCond .lt 13, 4, 14), (4, .iload_n 0, 5, 0), (5, .bipush 12, 7, 0), (7, .if_icmp .ge 7, 10, 14), (10, .iconst 1, 11, 0), (11, .goto 4, 14, 15), (14, .iconst 0, 15, 0), (15, .ireturn, 16, 0)]
theorem tk_P_mayBeBlock : tb_P_mayBeBlock.all (wm_rokb b_P_mayBeBlock) = true := by decide +kernel
abbrev cd_P_mayBeBlock : Cond := Cond.code y_P_mayBeBlock b_P_mayBeBlock 1 (wm_rtT 3)
theorem cw_P_mayBeBlock : cd_P_mayBeBlock ∈ gw := gw_at 438 (by decide +kernel) rfl
theorem gi_P_mayBeBlock : Cond.static y_P_mayBeBlock ∈ gw := gw_at 437 (by decide +kernel) rfl
def t_P_mayBeBlock : wm_St := (ws_ret .int (wx_cond (wb_and (wx_un (fun v => wr_ge v 0) (wx_i 0)) (wx_bin wr_lt (wx_i 0) (wx_c (12 : Int32)))) (wx_c (1 : Int32)) (wx_c (0 : Int32))))
def f_P_mayBeBlock : List Value → wm_S → Option (Option Value × wm_S) := wm_fn wm_any 3 1 t_P_mayBeBlock
def rm_P_mayBeBlock : Room := { frames := 0, locals := 0 }
abbrev cV_P_mayBeBlock : List (Nat × wm_M) := []
abbrev cS_P_mayBeBlock : List (Nat × wm_M) := []
set_option maxRecDepth 20000 in
theorem bd_P_mayBeBlock (w : wm_K) (ret : Option Value → wm_S → Prop) (hc : wm_cl w_L fl_P cs_P none cV_P_mayBeBlock cS_P_mayBeBlock ret tb_P_mayBeBlock w) : wm_T w tb_P_mayBeBlock ret 0 9999 t_P_mayBeBlock :=
  (wm_t_ret hc (wm_x_cond (wm_b_and (wm_b_un hc (wm_x_in hc rfl rfl) rfl rfl wm_z_geF) (wm_b_cmp hc (wm_x_in hc rfl rfl) (wm_x_bipush hc rfl (by decide)) rfl rfl wm_j_ltF)) (wm_x_iconst hc rfl (by decide)) (wm_x_iconst hc rfl (by decide)) rfl) rfl rfl (fun _ _ _ _ q => q))
theorem c_P_mayBeBlock {l : Launch} {D : va_G} {A : Nat → Prop} {ad : Nat → Nat} {cA : Nat → ClassId} (hY : wm_Y cl0 (tys0 cA) A ad cA w_L) : wm_con l y_P_mayBeBlock (cd_P_mayBeBlock :: gw) rm_P_mayBeBlock D cl0 (tys0 cA) A ad cA w_L f_P_mayBeBlock :=
  wm_meth (cV := cV_P_mayBeBlock) (cS := cS_P_mayBeBlock) (by decide) rfl hY (fun r h => wm_fok_mono (fun _ h => List.mem_cons_of_mem _ h) (fk_P r h)) (fun r h => wm_cok_mono (fun _ h => List.mem_cons_of_mem _ h) (ck_P r h)) tk_P_mayBeBlock
    (fun _ h => nomatch h)
    (fun _ h => nomatch h)
    bd_P_mayBeBlock
/-! CodePruner.isEnd -/
def y_P_isEnd : MethodName := ⟨"CodePruner", "isEnd", "(IIII)Z"⟩
abbrev b_P_isEnd : ByteArray := prog_1_method_18_code
def tb_P_isEnd : List wm_R := [(0, .iload_n 0, 1, 0), (1, .tableswitch 64 0 2 #[27, 32, 37], 28, 0), (28, .iload_n 1, 29, 0), (29, .invokestatic 178, 32, 0), (32, .ireturn, 33, 0), (33, .iload_n 2, 34, 0), (34, .invokestatic 181, 37, 0), (37, .ireturn, 38, 0), (38, .iload_n 1, 39, 0), (39, .invokestatic 178, 42, 0), (42, .ifCond .eq 21, 45, 63), (45, .iload_n 2, 46, 0), (46, .invokestatic 181, 49, 0), (49, .ifCond .eq 14, 52, 63), (52, .iload_n 3, 53, 0), (53, .invokestatic 181, 56, 0), (56, .ifCond .eq 7, 59, 63), (59, .iconst 1, 60, 0), (60, .goto 4, 63, 64), (63, .iconst 0, 64, 0), (64, .ireturn, 65, 0), (65, .iconst 0, 66, 0), (66, .ireturn, 67, 0)]
theorem tk_P_isEnd : tb_P_isEnd.all (wm_rokb b_P_isEnd) = true := by decide +kernel
abbrev cd_P_isEnd : Cond := Cond.code y_P_isEnd b_P_isEnd 4 (wm_rtT 3)
theorem cw_P_isEnd : cd_P_isEnd ∈ gw := gw_at 435 (by decide +kernel) rfl
theorem gi_P_isEnd : Cond.static y_P_isEnd ∈ gw := gw_at 434 (by decide +kernel) rfl
def t_P_isEnd : wm_St := (ws_sw (wx_i 0) 0 [(ws_ret .int (wx_call wm_pi f_P_isRegister (wx_a1 .int (wx_i 1)))),
  (ws_ret .int (wx_call wm_pi f_P_mayBeBlock (wx_a1 .int (wx_i 2)))),
  (ws_ret .int (wx_cond (wb_and (wb_and (wx_un (fun v => wr_ne v 0) (wx_call wm_pi f_P_isRegister (wx_a1 .int (wx_i 1)))) (wx_un (fun v => wr_ne v 0) (wx_call wm_pi f_P_mayBeBlock (wx_a1 .int (wx_i 2))))) (wx_un (fun v => wr_ne v 0) (wx_call wm_pi f_P_mayBeBlock (wx_a1 .int (wx_i 3))))) (wx_c (1 : Int32)) (wx_c (0 : Int32))))]
  (ws_ret .int (wx_c (0 : Int32))))
def f_P_isEnd : List Value → wm_S → Option (Option Value × wm_S) := wm_fn wm_any 3 4 t_P_isEnd
def rm_P_isEnd : Room := { frames := 1, locals := 20 }
abbrev cV_P_isEnd : List (Nat × wm_M) := []
abbrev cS_P_isEnd : List (Nat × wm_M) := [(178, 1, f_P_isRegister), (181, 1, f_P_mayBeBlock)]
set_option maxRecDepth 20000 in
theorem bd_P_isEnd (w : wm_K) (ret : Option Value → wm_S → Prop) (hc : wm_cl w_L fl_P cs_P none cV_P_isEnd cS_P_isEnd ret tb_P_isEnd w) : wm_T w tb_P_isEnd ret 0 9999 t_P_isEnd :=
  (wm_t_sw hc (wm_x_in hc rfl rfl) rfl rfl
  ⟨⟨28, _, rfl, (wm_t_ret hc (wm_x_callS hc wm_pi_ok (wm_a_1 (wm_x_in hc rfl rfl)) rfl rfl (by decide)) rfl rfl (fun _ _ _ _ q => q)), rfl⟩, ⟨⟨33, _, rfl, (wm_t_ret hc (wm_x_callS hc wm_pi_ok (wm_a_1 (wm_x_in hc rfl rfl)) rfl rfl (by decide)) rfl rfl (fun _ _ _ _ q => q)), rfl⟩, ⟨⟨38, _, rfl, (wm_t_ret hc (wm_x_cond (wm_b_and (wm_b_and (wm_b_un hc (wm_x_callS hc wm_pi_ok (wm_a_1 (wm_x_in hc rfl rfl)) rfl rfl (by decide)) rfl rfl wm_z_neF) (wm_b_un hc (wm_x_callS hc wm_pi_ok (wm_a_1 (wm_x_in hc rfl rfl)) rfl rfl (by decide)) rfl rfl wm_z_neF)) (wm_b_un hc (wm_x_callS hc wm_pi_ok (wm_a_1 (wm_x_in hc rfl rfl)) rfl rfl (by decide)) rfl rfl wm_z_neF)) (wm_x_iconst hc rfl (by decide)) (wm_x_iconst hc rfl (by decide)) rfl) rfl rfl (fun _ _ _ _ q => q)), rfl⟩, trivial⟩⟩⟩
  ⟨65, _, rfl, (wm_t_ret hc (wm_x_iconst hc rfl (by decide)) rfl rfl (fun _ _ _ _ q => q)), rfl⟩)
theorem c_P_isEnd {l : Launch} {D : va_G} {A : Nat → Prop} {ad : Nat → Nat} {cA : Nat → ClassId} (hY : wm_Y cl0 (tys0 cA) A ad cA w_L) : wm_con l y_P_isEnd (cd_P_isEnd :: gw) rm_P_isEnd D cl0 (tys0 cA) A ad cA w_L f_P_isEnd :=
  wm_meth (cV := cV_P_isEnd) (cS := cS_P_isEnd) (by decide) rfl hY (fun r h => wm_fok_mono (fun _ h => List.mem_cons_of_mem _ h) (fk_P r h)) (fun r h => wm_cok_mono (fun _ h => List.mem_cons_of_mem _ h) (ck_P r h)) tk_P_isEnd
    (fun _ h => nomatch h)
    (List.forall_mem_cons.mpr ⟨⟨y_P_isRegister, b_P_isRegister, 1, wm_rtT 3, cd_P_isRegister :: gw, gw, rm_P_isRegister, c_P_isRegister hY, rfl, gw_S (gw_at 404 (by decide +kernel) rfl) gi_P_isRegister gn_P cw_P_isRegister, rfl, rfl, ⟨by decide, by decide, by decide +kernel⟩, ⟨by decide, by decide⟩⟩, List.forall_mem_cons.mpr ⟨⟨y_P_mayBeBlock, b_P_mayBeBlock, 1, wm_rtT 3, cd_P_mayBeBlock :: gw, gw, rm_P_mayBeBlock, c_P_mayBeBlock hY, rfl, gw_S (gw_at 436 (by decide +kernel) rfl) gi_P_mayBeBlock gn_P cw_P_mayBeBlock, rfl, rfl, ⟨by decide, by decide, by decide +kernel⟩, ⟨by decide, by decide⟩⟩, fun _ h => nomatch h⟩⟩)
    bd_P_isEnd
/-! CodePruner.end -/
def y_P_end : MethodName := ⟨"CodePruner", "end", "(IIIII)V"⟩
abbrev b_P_end : ByteArray := prog_1_method_4_code
def tb_P_end : List wm_R := [(0, .aload_n 0, 1, 0), (1, .getfield 10, 4, 0), (4, .iload_n 1, 5, 0), (5, .invokevirtual 48, 8, 0), (8, .ifCond .ne 11, 11, 19), (11, .new 52, 14, 0), (14, .dup, 15, 0), (15, .invokespecial 54, 18, 0), (18, .athrow, 19, 0), (19, .iload_n 2, 20, 0), (20, .iload_n 3, 21, 0), (21, .iload 4, 23, 0), (23, .iload 5, 25, 0), (25, .invokestatic 69, 28, 0), (28, .ifCond .ne 11, 31, 39), (31, .new 59, 34, 0), (34, .dup, 35, 0), (35, .invokespecial 61, 38, 0), (38, .athrow, 39, 0), (39, .aload_n 0, 40, 0), (40, .invokevirtual 41, 43, 0), (43, .aload_n 0, 44, 0), (44, .getfield 10, 47, 0), (47, .getfield 72, 50, 0), (50, .iload_n 1, 51, 0), (51, .iload_n 2, 52, 0), (52, .iload_n 3, 53, 0), (53, .iload 4, 55, 0), (55, .iload 5, 57, 0), (57, .invokevirtual 76, 60, 0), (60, .return_, 61, 0)]
theorem tk_P_end : tb_P_end.all (wm_rokb b_P_end) = true := by decide +kernel
abbrev cd_P_end : Cond := Cond.code y_P_end b_P_end 6 (wm_rtT 0)
theorem cw_P_end : cd_P_end ∈ gw := gw_at 432 (by decide +kernel) rfl
theorem gi_P_end : Cond.instanceMethod y_P_end ∈ gw := gw_at 430 (by decide +kernel) rfl
theorem gs_P_end : Cond.selects "CodePruner" y_P_end y_P_end ∈ gw := gw_at 431 (by decide +kernel) rfl
def t_P_end : wm_St := (ws_seq (ws_if (wb_not (wx_un (fun v => wr_ne v 0) (wx_call wm_pi f_G_hasBlock (wx_ac .ref (wx_fr w_L 0 0 (wx_r 0)) (wx_a1 .int (wx_i 1))))))
  (ws_thr 1))
  (ws_seq (ws_if (wb_not (wx_un (fun v => wr_ne v 0) (wx_call wm_pi f_P_isEnd (wx_ac .int (wx_i 2) (wx_ac .int (wx_i 3) (wx_ac .int (wx_i 4) (wx_a1 .int (wx_i 5))))))))
  (ws_thr 2))
  (ws_seq (ws_call f_P_forgetResults (wx_a1 .ref (wx_r 0)))
  (ws_seq (ws_call f_E_put (wx_ac .ref (wx_fr w_L 1 9 (wx_fr w_L 0 0 (wx_r 0))) (wx_ac .int (wx_i 1) (wx_ac .int (wx_i 2) (wx_ac .int (wx_i 3) (wx_ac .int (wx_i 4) (wx_a1 .int (wx_i 5))))))))
  ws_retv))))
def f_P_end : List Value → wm_S → Option (Option Value × wm_S) := wt_fn (wm_isc w_L 0) 0 6 t_P_end
def rm_P_end : Room := { frames := 6, locals := 81, cells := 1, slots := 6 }
abbrev cV_P_end : List (Nat × wm_M) := [(41, 1, f_P_forgetResults), (48, 2, f_G_hasBlock), (76, 6, f_E_put)]
abbrev cS_P_end : List (Nat × wm_M) := [(69, 4, f_P_isEnd)]
abbrev tt_P_end : List (Nat × Nat) := [(11, 1), (31, 2)]
set_option maxRecDepth 20000 in
theorem bd_P_end (w : wm_K) (ret : Option Value → wm_S → Prop) (hc : wm_cl w_L fl_P cs_P none cV_P_end cS_P_end ret tb_P_end w) (hT : wm_thw tt_P_end ret w) : wm_T w tb_P_end ret 0 9999 t_P_end :=
  (wm_t_seq (wm_t_if (wm_b_not (wm_b_un hc (wm_x_callV hc wm_pi_ok (wm_a_c (wm_x_fr hc (wm_x_rn hc rfl rfl) rfl rfl) (wm_a_1 (wm_x_in hc rfl rfl))) rfl rfl (by decide)) rfl rfl wm_z_neT))
  (wm_t_thr rfl (hT 11 1 rfl)) rfl)
  (wm_t_seq (wm_t_if (wm_b_not (wm_b_un hc (wm_x_callS hc wm_pi_ok (wm_a_c (wm_x_in hc rfl rfl) (wm_a_c (wm_x_in hc rfl rfl) (wm_a_c (wm_x_i hc rfl) (wm_a_1 (wm_x_i hc rfl))))) rfl rfl (by decide)) rfl rfl wm_z_neT))
  (wm_t_thr rfl (hT 31 2 rfl)) rfl)
  (wm_t_seq (wm_t_callV hc (wm_a_1 (wm_x_rn hc rfl rfl)) rfl rfl)
  (wm_t_seq (wm_t_callV hc (wm_a_c (wm_x_fr hc (wm_x_fr hc (wm_x_rn hc rfl rfl) rfl rfl) rfl rfl) (wm_a_c (wm_x_in hc rfl rfl) (wm_a_c (wm_x_in hc rfl rfl) (wm_a_c (wm_x_in hc rfl rfl) (wm_a_c (wm_x_i hc rfl) (wm_a_1 (wm_x_i hc rfl))))))) rfl rfl)
  (wm_t_retv hc rfl)))))
theorem x_P_end {l : Launch} {D : va_G} {A : Nat → Prop} {ad : Nat → Nat} {cA : Nat → ClassId} (hl : l.stackTraces = false) (hY : wm_Y cl0 (tys0 cA) A ad cA w_L) : wt_con l y_P_end (cd_P_end :: gw) rm_P_end D cl0 (tys0 cA) A ad cA w_L f_P_end :=
  wt_meth (cV := cV_P_end) (cS := cS_P_end) (tt := tt_P_end) hl (by decide) rfl hY (fun r h => wm_fok_mono (fun _ h => List.mem_cons_of_mem _ h) (fk_P r h)) (fun r h => wm_cok_mono (fun _ h => List.mem_cons_of_mem _ h) (ck_P r h)) tk_P_end
    (List.forall_mem_cons.mpr ⟨⟨y_P_forgetResults, b_P_forgetResults, 1, wm_rtT 0, cd_P_forgetResults :: gw, gw, rm_P_forgetResults, 0, 0, 4, T_P, c_P_forgetResults hY, rfl, gw_V (gw_at 270 (by decide +kernel) rfl) gi_P_forgetResults gs_P_forgetResults gn_P cw_P_forgetResults, rfl, rfl, ⟨by decide, by decide, by decide +kernel⟩, rfl, ⟨by decide, by decide⟩, rfl, fun vs S r h => (wm_fn_some (v := r.1) (S' := r.2) h).1⟩, List.forall_mem_cons.mpr ⟨⟨y_G_hasBlock, b_G_hasBlock, 2, wm_rtT 3, cd_G_hasBlock :: gw, gw, rm_G_hasBlock, 1, 1, 10, T_G, c_G_hasBlock hY, rfl, gw_V (gw_at 382 (by decide +kernel) rfl) gi_G_hasBlock gs_G_hasBlock gn_G cw_G_hasBlock, rfl, rfl, ⟨by decide, by decide, by decide +kernel⟩, rfl, ⟨by decide, by decide⟩, rfl, fun vs S r h => (wm_fn_some (v := r.1) (S' := r.2) h).1⟩, List.forall_mem_cons.mpr ⟨⟨y_E_put, b_E_put, 6, wm_rtT 0, cd_E_put :: gw, gw, rm_E_put, 5, 2, 5, T_E, c_E_put hY, rfl, gw_V (gw_at 439 (by decide +kernel) rfl) gi_E_put gs_E_put gn_E cw_E_put, rfl, rfl, ⟨by decide, by decide, by decide +kernel⟩, rfl, ⟨by decide, by decide⟩, rfl, fun vs S r h => (wm_fn_some (v := r.1) (S' := r.2) h).1⟩, fun _ h => nomatch h⟩⟩⟩)
    (List.forall_mem_cons.mpr ⟨Or.inl ⟨y_P_isEnd, b_P_isEnd, 4, wm_rtT 3, cd_P_isEnd :: gw, gw, rm_P_isEnd, c_P_isEnd hY, rfl, gw_S (gw_at 433 (by decide +kernel) rfl) gi_P_isEnd gn_P cw_P_isEnd, rfl, rfl, ⟨by decide, by decide, by decide +kernel⟩, ⟨by decide, by decide⟩⟩, fun _ h => nomatch h⟩)
    (List.forall_mem_cons.mpr ⟨⟨52, 54, by decide, by decide +kernel, by decide +kernel, by decide +kernel, by decide +kernel, List.mem_cons_of_mem _ th_1, rfl, List.mem_cons_of_mem _ ti_1, rfl, fun w hw hg => List.mem_cons_of_mem _ (tw_1 w hw hg), t5_1, tf_1⟩, List.forall_mem_cons.mpr ⟨⟨59, 61, by decide, by decide +kernel, by decide +kernel, by decide +kernel, by decide +kernel, List.mem_cons_of_mem _ th_2, rfl, List.mem_cons_of_mem _ ti_2, rfl, fun w hw hg => List.mem_cons_of_mem _ (tw_2 w hw hg), t5_2, tf_2⟩, fun _ h => nomatch h⟩⟩)
    ⟨by decide, by decide, by decide, by decide⟩ bd_P_end
/-! CodePruner.clear -/
def y_P_clear : MethodName := ⟨"CodePruner", "clear", "()V"⟩
abbrev b_P_clear : ByteArray := prog_1_method_5_code
def tb_P_clear : List wm_R := [(0, .aload_n 0, 1, 0), (1, .invokevirtual 41, 4, 0), (4, .aload_n 0, 5, 0), (5, .getfield 10, 8, 0), (8, .invokevirtual 82, 11, 0), (11, .return_, 12, 0)]
theorem tk_P_clear : tb_P_clear.all (wm_rokb b_P_clear) = true := by decide +kernel
abbrev cd_P_clear : Cond := Cond.code y_P_clear b_P_clear 1 (wm_rtT 0)
theorem cw_P_clear : cd_P_clear ∈ gw := gw_at 269 (by decide +kernel) rfl
theorem gi_P_clear : Cond.instanceMethod y_P_clear ∈ gw := gw_at 267 (by decide +kernel) rfl
theorem gs_P_clear : Cond.selects "CodePruner" y_P_clear y_P_clear ∈ gw := gw_at 268 (by decide +kernel) rfl
def t_P_clear : wm_St := (ws_seq (ws_call f_P_forgetResults (wx_a1 .ref (wx_r 0)))
  (ws_seq (ws_call f_G_empty (wx_a1 .ref (wx_fr w_L 0 0 (wx_r 0))))
  ws_retv))
def f_P_clear : List Value → wm_S → Option (Option Value × wm_S) := wm_fn (wm_isc w_L 0) 0 1 t_P_clear
def rm_P_clear : Room := { frames := 2, locals := 43 }
abbrev cV_P_clear : List (Nat × wm_M) := [(41, 1, f_P_forgetResults), (82, 1, f_G_empty)]
abbrev cS_P_clear : List (Nat × wm_M) := []
set_option maxRecDepth 20000 in
theorem bd_P_clear (w : wm_K) (ret : Option Value → wm_S → Prop) (hc : wm_cl w_L fl_P cs_P none cV_P_clear cS_P_clear ret tb_P_clear w) : wm_T w tb_P_clear ret 0 9999 t_P_clear :=
  (wm_t_seq (wm_t_callV hc (wm_a_1 (wm_x_rn hc rfl rfl)) rfl rfl)
  (wm_t_seq (wm_t_callV hc (wm_a_1 (wm_x_fr hc (wm_x_rn hc rfl rfl) rfl rfl)) rfl rfl)
  (wm_t_retv hc rfl)))
theorem c_P_clear {l : Launch} {D : va_G} {A : Nat → Prop} {ad : Nat → Nat} {cA : Nat → ClassId} (hY : wm_Y cl0 (tys0 cA) A ad cA w_L) : wm_con l y_P_clear (cd_P_clear :: gw) rm_P_clear D cl0 (tys0 cA) A ad cA w_L f_P_clear :=
  wm_meth (cV := cV_P_clear) (cS := cS_P_clear) (by decide) rfl hY (fun r h => wm_fok_mono (fun _ h => List.mem_cons_of_mem _ h) (fk_P r h)) (fun r h => wm_cok_mono (fun _ h => List.mem_cons_of_mem _ h) (ck_P r h)) tk_P_clear
    (List.forall_mem_cons.mpr ⟨⟨y_P_forgetResults, b_P_forgetResults, 1, wm_rtT 0, cd_P_forgetResults :: gw, gw, rm_P_forgetResults, 0, 0, 4, T_P, c_P_forgetResults hY, rfl, gw_V (gw_at 270 (by decide +kernel) rfl) gi_P_forgetResults gs_P_forgetResults gn_P cw_P_forgetResults, rfl, rfl, ⟨by decide, by decide, by decide +kernel⟩, rfl, ⟨by decide, by decide⟩, rfl, fun vs S r h => (wm_fn_some (v := r.1) (S' := r.2) h).1⟩, List.forall_mem_cons.mpr ⟨⟨y_G_empty, b_G_empty, 1, wm_rtT 0, cd_G_empty :: gw, gw, rm_G_empty, 0, 1, 10, T_G, c_G_empty hY, rfl, gw_V (gw_at 278 (by decide +kernel) rfl) gi_G_empty gs_G_empty gn_G cw_G_empty, rfl, rfl, ⟨by decide, by decide, by decide +kernel⟩, rfl, ⟨by decide, by decide⟩, rfl, fun vs S r h => (wm_fn_some (v := r.1) (S' := r.2) h).1⟩, fun _ h => nomatch h⟩⟩)
    (fun _ h => nomatch h)
    bd_P_clear
/-! CodePruner.isSound -/
def y_P_isSound : MethodName := ⟨"CodePruner", "isSound", "()Z"⟩
abbrev b_P_isSound : ByteArray := prog_1_method_16_code
def tb_P_isSound : List wm_R := [(0, .aload_n 0, 1, 0), (1, .getfield 10, 4, 0), (4, .invokevirtual 134, 7, 0), (7, .ifCond .eq 25, 10, 32), (10, .aload_n 0, 11, 0), (11, .getfield 10, 14, 0), (14, .iconst (-1), 15, 0), (15, .invokestatic 171, 18, 0), (18, .aload_n 0, 19, 0), (19, .getfield 10, 22, 0), (22, .invokevirtual 175, 25, 0), (25, .if_icmp .ne 7, 28, 32), (28, .iconst 1, 29, 0), (29, .goto 4, 32, 33), (32, .iconst 0, 33, 0), (33, .ireturn, 34, 0)]
theorem tk_P_isSound : tb_P_isSound.all (wm_rokb b_P_isSound) = true := by decide +kernel
abbrev cd_P_isSound : Cond := Cond.code y_P_isSound b_P_isSound 1 (wm_rtT 3)
theorem cw_P_isSound : cd_P_isSound ∈ gw := gw_at 451 (by decide +kernel) rfl
theorem gi_P_isSound : Cond.instanceMethod y_P_isSound ∈ gw := gw_at 450 (by decide +kernel) rfl
theorem gs_P_isSound : Cond.selects "CodePruner" y_P_isSound y_P_isSound ∈ gw := gw_of (List.mem_append_left _ (List.mem_of_getElem? (i := 2) (by decide +kernel))) rfl
def t_P_isSound : wm_St := (ws_ret .int (wx_cond (wb_and (wx_un (fun v => wr_ne v 0) (wx_call wm_pi f_G_leadsOnlyToBlocks (wx_a1 .ref (wx_fr w_L 0 0 (wx_r 0))))) (wx_bin wr_eq (wx_call wm_pi f_F_findReturning (wx_ac .ref (wx_fr w_L 0 0 (wx_r 0)) (wx_a1 .int (wx_c (-1 : Int32))))) (wx_call wm_pi f_G_allBlocks (wx_a1 .ref (wx_fr w_L 0 0 (wx_r 0)))))) (wx_c (1 : Int32)) (wx_c (0 : Int32))))
def f_P_isSound : List Value → wm_S → Option (Option Value × wm_S) := wm_fn (wm_isc w_L 0) 3 1 t_P_isSound
def rm_P_isSound : Room := { frames := 2, locals := 42 }
abbrev cV_P_isSound : List (Nat × wm_M) := [(134, 1, f_G_leadsOnlyToBlocks), (175, 1, f_G_allBlocks)]
abbrev cS_P_isSound : List (Nat × wm_M) := [(171, 2, f_F_findReturning)]
set_option maxRecDepth 20000 in
theorem bd_P_isSound (w : wm_K) (ret : Option Value → wm_S → Prop) (hc : wm_cl w_L fl_P cs_P none cV_P_isSound cS_P_isSound ret tb_P_isSound w) : wm_T w tb_P_isSound ret 0 9999 t_P_isSound :=
  (wm_t_ret hc (wm_x_cond (wm_b_and (wm_b_un hc (wm_x_callV hc wm_pi_ok (wm_a_1 (wm_x_fr hc (wm_x_rn hc rfl rfl) rfl rfl)) rfl rfl (by decide)) rfl rfl wm_z_neF) (wm_b_cmp hc (wm_x_callS hc wm_pi_ok (wm_a_c (wm_x_fr hc (wm_x_rn hc rfl rfl) rfl rfl) (wm_a_1 (wm_x_iconst hc rfl (by decide)))) rfl rfl (by decide)) (wm_x_callV hc wm_pi_ok (wm_a_1 (wm_x_fr hc (wm_x_rn hc rfl rfl) rfl rfl)) rfl rfl (by decide)) rfl rfl wm_j_eqF)) (wm_x_iconst hc rfl (by decide)) (wm_x_iconst hc rfl (by decide)) rfl) rfl rfl (fun _ _ _ _ q => q))
theorem c_P_isSound {l : Launch} {D : va_G} {A : Nat → Prop} {ad : Nat → Nat} {cA : Nat → ClassId} (hY : wm_Y cl0 (tys0 cA) A ad cA w_L) : wm_con l y_P_isSound (cd_P_isSound :: gw) rm_P_isSound D cl0 (tys0 cA) A ad cA w_L f_P_isSound :=
  wm_meth (cV := cV_P_isSound) (cS := cS_P_isSound) (by decide) rfl hY (fun r h => wm_fok_mono (fun _ h => List.mem_cons_of_mem _ h) (fk_P r h)) (fun r h => wm_cok_mono (fun _ h => List.mem_cons_of_mem _ h) (ck_P r h)) tk_P_isSound
    (List.forall_mem_cons.mpr ⟨⟨y_G_leadsOnlyToBlocks, b_G_leadsOnlyToBlocks, 3, wm_rtT 3, cd_G_leadsOnlyToBlocks :: gw, gw, rm_G_leadsOnlyToBlocks, 0, 1, 10, T_G, c_G_leadsOnlyToBlocks hY, rfl, gw_V (gw_at 452 (by decide +kernel) rfl) gi_G_leadsOnlyToBlocks gs_G_leadsOnlyToBlocks gn_G cw_G_leadsOnlyToBlocks, rfl, rfl, ⟨by decide, by decide, by decide +kernel⟩, rfl, ⟨by decide, by decide⟩, rfl, fun vs S r h => (wm_fn_some (v := r.1) (S' := r.2) h).1⟩, List.forall_mem_cons.mpr ⟨⟨y_G_allBlocks, b_G_allBlocks, 1, wm_rtT 1, cd_G_allBlocks :: gw, gw, rm_G_allBlocks, 0, 1, 10, T_G, c_G_allBlocks hY, rfl, gw_V (gw_at 463 (by decide +kernel) rfl) gi_G_allBlocks gs_G_allBlocks gn_G cw_G_allBlocks, rfl, rfl, ⟨by decide, by decide, by decide +kernel⟩, rfl, ⟨by decide, by decide⟩, rfl, fun vs S r h => (wm_fn_some (v := r.1) (S' := r.2) h).1⟩, fun _ h => nomatch h⟩⟩)
    (List.forall_mem_cons.mpr ⟨⟨y_F_findReturning, b_F_findReturning, 8, wm_rtT 1, cd_F_findReturning :: gw, gw, rm_F_findReturning, c_F_findReturning hY, rfl, gw_S (gw_at 460 (by decide +kernel) rfl) gi_F_findReturning gn_F cw_F_findReturning, rfl, rfl, ⟨by decide, by decide, by decide +kernel⟩, ⟨by decide, by decide⟩⟩, fun _ h => nomatch h⟩)
    bd_P_isSound
/-! CodePruner.prune -/
def y_P_prune : MethodName := ⟨"CodePruner", "prune", "()I"⟩
abbrev b_P_prune : ByteArray := prog_1_method_6_code
def tb_P_prune : List wm_R := [(0, .aload_n 0, 1, 0), (1, .getfield 10, 4, 0), (4, .getfield 34, 7, 0), (7, .ifCond .ne 11, 10, 18), (10, .new 38, 13, 0), (13, .dup, 14, 0), (14, .invokespecial 40, 17, 0), (17, .athrow, 18, 0), (18, .aload_n 0, 19, 0), (19, .invokevirtual 85, 22, 0), (22, .ifCond .ne 11, 25, 33), (25, .new 89, 28, 0), (28, .dup, 29, 0), (29, .invokespecial 91, 32, 0), (32, .athrow, 33, 0), (33, .aload_n 0, 34, 0), (34, .getfield 30, 37, 0), (37, .ifCond .ne 19, 40, 56), (40, .aload_n 0, 41, 0), (41, .getfield 19, 44, 0), (44, .aload_n 0, 45, 0), (45, .getfield 10, 48, 0), (48, .invokevirtual 92, 51, 0), (51, .aload_n 0, 52, 0), (52, .iconst 1, 53, 0), (53, .putfield 30, 56, 0), (56, .aload_n 0, 57, 0), (57, .getfield 19, 60, 0), (60, .getfield 96, 63, 0), (63, .ireturn, 64, 0)]
theorem tk_P_prune : tb_P_prune.all (wm_rokb b_P_prune) = true := by decide +kernel
abbrev cd_P_prune : Cond := Cond.code y_P_prune b_P_prune 1 (wm_rtT 1)
theorem cw_P_prune : cd_P_prune ∈ gw := gw_at 447 (by decide +kernel) rfl
theorem gi_P_prune : Cond.instanceMethod y_P_prune ∈ gw := gw_at 445 (by decide +kernel) rfl
theorem gs_P_prune : Cond.selects "CodePruner" y_P_prune y_P_prune ∈ gw := gw_at 446 (by decide +kernel) rfl
def t_P_prune : wm_St := (ws_seq (ws_if (wx_un (fun v => wr_eq v 0) (wx_fi w_L 1 0 (wx_fr w_L 0 0 (wx_r 0))))
  (ws_thr 0))
  (ws_seq (ws_if (wb_not (wx_un (fun v => wr_ne v 0) (wx_call wm_pi f_P_isSound (wx_a1 .ref (wx_r 0)))))
  (ws_thr 3))
  (ws_seq (ws_if (wb_not (wx_un (fun v => wr_ne v 0) (wx_fi w_L 0 3 (wx_r 0))))
  (ws_seq (ws_call f_R_make (wx_ac .ref (wx_fr w_L 0 1 (wx_r 0)) (wx_a1 .ref (wx_fr w_L 0 0 (wx_r 0)))))
  (ws_fi w_L 0 3 (wx_r 0) (wx_c (1 : Int32)))))
  (ws_ret .int (wx_fi w_L 3 4 (wx_fr w_L 0 1 (wx_r 0)))))))
def f_P_prune : List Value → wm_S → Option (Option Value × wm_S) := wt_fn (wm_isc w_L 0) 1 1 t_P_prune
def rm_P_prune : Room := { frames := 6, locals := 123, cells := 1, slots := 6 }
abbrev cV_P_prune : List (Nat × wm_M) := [(85, 1, f_P_isSound), (92, 2, f_R_make)]
abbrev cS_P_prune : List (Nat × wm_M) := []
abbrev tt_P_prune : List (Nat × Nat) := [(10, 0), (25, 3)]
set_option maxRecDepth 20000 in
theorem bd_P_prune (w : wm_K) (ret : Option Value → wm_S → Prop) (hc : wm_cl w_L fl_P cs_P none cV_P_prune cS_P_prune ret tb_P_prune w) (hT : wm_thw tt_P_prune ret w) : wm_T w tb_P_prune ret 0 9999 t_P_prune :=
  (wm_t_seq (wm_t_if (wm_b_un hc (wm_x_fi hc (wm_x_fr hc (wm_x_rn hc rfl rfl) rfl rfl) rfl rfl) rfl rfl wm_z_eqF)
  (wm_t_thr rfl (hT 10 0 rfl)) rfl)
  (wm_t_seq (wm_t_if (wm_b_not (wm_b_un hc (wm_x_callV hc wm_pi_ok (wm_a_1 (wm_x_rn hc rfl rfl)) rfl rfl (by decide)) rfl rfl wm_z_neT))
  (wm_t_thr rfl (hT 25 3 rfl)) rfl)
  (wm_t_seq (wm_t_if (wm_b_not (wm_b_un hc (wm_x_fi hc (wm_x_rn hc rfl rfl) rfl rfl) rfl rfl wm_z_neT))
  (wm_t_seq (wm_t_callV hc (wm_a_c (wm_x_fr hc (wm_x_rn hc rfl rfl) rfl rfl) (wm_a_1 (wm_x_fr hc (wm_x_rn hc rfl rfl) rfl rfl))) rfl rfl)
  (wm_t_fi hc (wm_x_rn hc rfl rfl) (wm_x_iconst hc rfl (by decide)) rfl rfl)) rfl)
  (wm_t_ret hc (wm_x_fi hc (wm_x_fr hc (wm_x_rn hc rfl rfl) rfl rfl) rfl rfl) rfl rfl (fun _ _ _ _ q => q)))))
theorem x_P_prune {l : Launch} {D : va_G} {A : Nat → Prop} {ad : Nat → Nat} {cA : Nat → ClassId} (hl : l.stackTraces = false) (hY : wm_Y cl0 (tys0 cA) A ad cA w_L) : wt_con l y_P_prune (cd_P_prune :: gw) rm_P_prune D cl0 (tys0 cA) A ad cA w_L f_P_prune :=
  wt_meth (cV := cV_P_prune) (cS := cS_P_prune) (tt := tt_P_prune) hl (by decide) rfl hY (fun r h => wm_fok_mono (fun _ h => List.mem_cons_of_mem _ h) (fk_P r h)) (fun r h => wm_cok_mono (fun _ h => List.mem_cons_of_mem _ h) (ck_P r h)) tk_P_prune
    (List.forall_mem_cons.mpr ⟨⟨y_P_isSound, b_P_isSound, 1, wm_rtT 3, cd_P_isSound :: gw, gw, rm_P_isSound, 0, 0, 4, T_P, c_P_isSound hY, rfl, gw_V (gw_at 448 (by decide +kernel) rfl) gi_P_isSound gs_P_isSound gn_P cw_P_isSound, rfl, rfl, ⟨by decide, by decide, by decide +kernel⟩, rfl, ⟨by decide, by decide⟩, rfl, fun vs S r h => (wm_fn_some (v := r.1) (S' := r.2) h).1⟩, List.forall_mem_cons.mpr ⟨⟨y_R_make, b_R_make, 3, wm_rtT 0, cd_R_make :: gw, gw, rm_R_make, 1, 3, 6, T_R, c_R_make hY, rfl, gw_V (gw_at 479 (by decide +kernel) rfl) gi_R_make gs_R_make gn_R cw_R_make, rfl, rfl, ⟨by decide, by decide, by decide +kernel⟩, rfl, ⟨by decide, by decide⟩, rfl, fun vs S r h => (wm_fn_some (v := r.1) (S' := r.2) h).1⟩, fun _ h => nomatch h⟩⟩)
    (fun _ h => nomatch h)
    (List.forall_mem_cons.mpr ⟨⟨38, 40, by decide, by decide +kernel, by decide +kernel, by decide +kernel, by decide +kernel, List.mem_cons_of_mem _ th_0, rfl, List.mem_cons_of_mem _ ti_0, rfl, fun w hw hg => List.mem_cons_of_mem _ (tw_0 w hw hg), t5_0, tf_0⟩, List.forall_mem_cons.mpr ⟨⟨89, 91, by decide, by decide +kernel, by decide +kernel, by decide +kernel, by decide +kernel, List.mem_cons_of_mem _ th_3, rfl, List.mem_cons_of_mem _ ti_3, rfl, fun w hw hg => List.mem_cons_of_mem _ (tw_3 w hw hg), t5_3, tf_3⟩, fun _ h => nomatch h⟩⟩)
    ⟨by decide, by decide, by decide, by decide⟩ bd_P_prune
/-! CodePruner.count -/
def y_P_count : MethodName := ⟨"CodePruner", "count", "(I)I"⟩
abbrev b_P_count : ByteArray := prog_1_method_7_code
def tb_P_count : List wm_R := [(0, .iload_n 1, 1, 0), (1, .tableswitch 62 0 2 #[27, 35, 43], 28, 0), (28, .aload_n 0, 29, 0), (29, .getfield 10, 32, 0), (32, .getfield 34, 35, 0), (35, .ireturn, 36, 0), (36, .aload_n 0, 37, 0), (37, .getfield 10, 40, 0), (40, .getfield 62, 43, 0), (43, .ireturn, 44, 0), (44, .aload_n 0, 45, 0), (45, .getfield 30, 48, 0), (48, .ifCond .eq 13, 51, 61), (51, .aload_n 0, 52, 0), (52, .getfield 19, 55, 0), (55, .getfield 99, 58, 0), (58, .goto 4, 61, 62), (61, .iconst (-1), 62, 0), (62, .ireturn, 63, 0), (63, .iconst (-1), 64, 0), (64, .ireturn, 65, 0)]
theorem tk_P_count : tb_P_count.all (wm_rokb b_P_count) = true := by decide +kernel
abbrev cd_P_count : Cond := Cond.code y_P_count b_P_count 2 (wm_rtT 1)
theorem cw_P_count : cd_P_count ∈ gw := gw_at 285 (by decide +kernel) rfl
theorem gi_P_count : Cond.instanceMethod y_P_count ∈ gw := gw_at 283 (by decide +kernel) rfl
theorem gs_P_count : Cond.selects "CodePruner" y_P_count y_P_count ∈ gw := gw_at 284 (by decide +kernel) rfl
def t_P_count : wm_St := (ws_sw (wx_i 1) 0 [(ws_ret .int (wx_fi w_L 1 0 (wx_fr w_L 0 0 (wx_r 0)))),
  (ws_ret .int (wx_fi w_L 1 1 (wx_fr w_L 0 0 (wx_r 0)))),
  (ws_ret .int (wx_cond (wx_un (fun v => wr_ne v 0) (wx_fi w_L 0 3 (wx_r 0))) (wx_fi w_L 3 5 (wx_fr w_L 0 1 (wx_r 0))) (wx_c (-1 : Int32))))]
  (ws_ret .int (wx_c (-1 : Int32))))
def f_P_count : List Value → wm_S → Option (Option Value × wm_S) := wm_fn (wm_isc w_L 0) 1 2 t_P_count
def rm_P_count : Room := { frames := 0, locals := 0 }
abbrev cV_P_count : List (Nat × wm_M) := []
abbrev cS_P_count : List (Nat × wm_M) := []
set_option maxRecDepth 20000 in
theorem bd_P_count (w : wm_K) (ret : Option Value → wm_S → Prop) (hc : wm_cl w_L fl_P cs_P none cV_P_count cS_P_count ret tb_P_count w) : wm_T w tb_P_count ret 0 9999 t_P_count :=
  (wm_t_sw hc (wm_x_in hc rfl rfl) rfl rfl
  ⟨⟨28, _, rfl, (wm_t_ret hc (wm_x_fi hc (wm_x_fr hc (wm_x_rn hc rfl rfl) rfl rfl) rfl rfl) rfl rfl (fun _ _ _ _ q => q)), rfl⟩, ⟨⟨36, _, rfl, (wm_t_ret hc (wm_x_fi hc (wm_x_fr hc (wm_x_rn hc rfl rfl) rfl rfl) rfl rfl) rfl rfl (fun _ _ _ _ q => q)), rfl⟩, ⟨⟨44, _, rfl, (wm_t_ret hc (wm_x_cond (wm_b_un hc (wm_x_fi hc (wm_x_rn hc rfl rfl) rfl rfl) rfl rfl wm_z_neF) (wm_x_fi hc (wm_x_fr hc (wm_x_rn hc rfl rfl) rfl rfl) rfl rfl) (wm_x_iconst hc rfl (by decide)) rfl) rfl rfl (fun _ _ _ _ q => q)), rfl⟩, trivial⟩⟩⟩
  ⟨63, _, rfl, (wm_t_ret hc (wm_x_iconst hc rfl (by decide)) rfl rfl (fun _ _ _ _ q => q)), rfl⟩)
theorem c_P_count {l : Launch} {D : va_G} {A : Nat → Prop} {ad : Nat → Nat} {cA : Nat → ClassId} (hY : wm_Y cl0 (tys0 cA) A ad cA w_L) : wm_con l y_P_count (cd_P_count :: gw) rm_P_count D cl0 (tys0 cA) A ad cA w_L f_P_count :=
  wm_meth (cV := cV_P_count) (cS := cS_P_count) (by decide) rfl hY (fun r h => wm_fok_mono (fun _ h => List.mem_cons_of_mem _ h) (fk_P r h)) (fun r h => wm_cok_mono (fun _ h => List.mem_cons_of_mem _ h) (ck_P r h)) tk_P_count
    (fun _ h => nomatch h)
    (fun _ h => nomatch h)
    bd_P_count
/-! CodePruner.next -/
def y_P_next : MethodName := ⟨"CodePruner", "next", "(I)I"⟩
abbrev b_P_next : ByteArray := prog_1_method_8_code
def tb_P_next : List wm_R := [(0, .aload_n 0, 1, 0), (1, .getfield 30, 4, 0), (4, .ifCond .eq 14, 7, 18), (7, .aload_n 0, 8, 0), (8, .getfield 10, 11, 0), (11, .iload_n 1, 12, 0), (12, .invokevirtual 48, 15, 0), (15, .ifCond .ne 11, 18, 26), (18, .new 52, 21, 0), (21, .dup, 22, 0), (22, .invokespecial 54, 25, 0), (25, .athrow, 26, 0), (26, .aload_n 0, 27, 0), (27, .getfield 19, 30, 0), (30, .getfield 102, 33, 0), (33, .getfield 106, 36, 0), (36, .iload_n 1, 37, 0), (37, .iaload, 38, 0), (38, .ireturn, 39, 0)]
theorem tk_P_next : tb_P_next.all (wm_rokb b_P_next) = true := by decide +kernel
abbrev cd_P_next : Cond := Cond.code y_P_next b_P_next 2 (wm_rtT 1)
theorem cw_P_next : cd_P_next ∈ gw := gw_at 590 (by decide +kernel) rfl
theorem gi_P_next : Cond.instanceMethod y_P_next ∈ gw := gw_at 588 (by decide +kernel) rfl
theorem gs_P_next : Cond.selects "CodePruner" y_P_next y_P_next ∈ gw := gw_at 589 (by decide +kernel) rfl
def t_P_next : wm_St := (ws_seq (ws_if (wb_or (wb_not (wx_un (fun v => wr_ne v 0) (wx_fi w_L 0 3 (wx_r 0)))) (wb_not (wx_un (fun v => wr_ne v 0) (wx_call wm_pi f_G_hasBlock (wx_ac .ref (wx_fr w_L 0 0 (wx_r 0)) (wx_a1 .int (wx_i 1)))))))
  (ws_thr 1))
  (ws_ret .int (wx_ai w_L 0 (wx_fr w_L 4 1 (wx_fr w_L 3 0 (wx_fr w_L 0 1 (wx_r 0)))) (wx_i 1))))
def f_P_next : List Value → wm_S → Option (Option Value × wm_S) := wt_fn (wm_isc w_L 0) 1 2 t_P_next
def rm_P_next : Room := { frames := 6, locals := 81, cells := 1, slots := 6 }
abbrev cV_P_next : List (Nat × wm_M) := [(48, 2, f_G_hasBlock)]
abbrev cS_P_next : List (Nat × wm_M) := []
abbrev tt_P_next : List (Nat × Nat) := [(18, 1)]
set_option maxRecDepth 20000 in
theorem bd_P_next (w : wm_K) (ret : Option Value → wm_S → Prop) (hc : wm_cl w_L fl_P cs_P none cV_P_next cS_P_next ret tb_P_next w) (hT : wm_thw tt_P_next ret w) : wm_T w tb_P_next ret 0 9999 t_P_next :=
  (wm_t_seq (wm_t_if (wm_b_or (wm_b_not (wm_b_un hc (wm_x_fi hc (wm_x_rn hc rfl rfl) rfl rfl) rfl rfl wm_z_neF)) (wm_b_not (wm_b_un hc (wm_x_callV hc wm_pi_ok (wm_a_c (wm_x_fr hc (wm_x_rn hc rfl rfl) rfl rfl) (wm_a_1 (wm_x_in hc rfl rfl))) rfl rfl (by decide)) rfl rfl wm_z_neT)))
  (wm_t_thr rfl (hT 18 1 rfl)) rfl)
  (wm_t_ret hc (wm_x_ai hc (wm_x_fr hc (wm_x_fr hc (wm_x_fr hc (wm_x_rn hc rfl rfl) rfl rfl) rfl rfl) rfl rfl) (wm_x_in hc rfl rfl) rfl) rfl rfl (fun _ _ _ _ q => q)))
theorem x_P_next {l : Launch} {D : va_G} {A : Nat → Prop} {ad : Nat → Nat} {cA : Nat → ClassId} (hl : l.stackTraces = false) (hY : wm_Y cl0 (tys0 cA) A ad cA w_L) : wt_con l y_P_next (cd_P_next :: gw) rm_P_next D cl0 (tys0 cA) A ad cA w_L f_P_next :=
  wt_meth (cV := cV_P_next) (cS := cS_P_next) (tt := tt_P_next) hl (by decide) rfl hY (fun r h => wm_fok_mono (fun _ h => List.mem_cons_of_mem _ h) (fk_P r h)) (fun r h => wm_cok_mono (fun _ h => List.mem_cons_of_mem _ h) (ck_P r h)) tk_P_next
    (List.forall_mem_cons.mpr ⟨⟨y_G_hasBlock, b_G_hasBlock, 2, wm_rtT 3, cd_G_hasBlock :: gw, gw, rm_G_hasBlock, 1, 1, 10, T_G, c_G_hasBlock hY, rfl, gw_V (gw_at 382 (by decide +kernel) rfl) gi_G_hasBlock gs_G_hasBlock gn_G cw_G_hasBlock, rfl, rfl, ⟨by decide, by decide, by decide +kernel⟩, rfl, ⟨by decide, by decide⟩, rfl, fun vs S r h => (wm_fn_some (v := r.1) (S' := r.2) h).1⟩, fun _ h => nomatch h⟩)
    (fun _ h => nomatch h)
    (List.forall_mem_cons.mpr ⟨⟨52, 54, by decide, by decide +kernel, by decide +kernel, by decide +kernel, by decide +kernel, List.mem_cons_of_mem _ th_1, rfl, List.mem_cons_of_mem _ ti_1, rfl, fun w hw hg => List.mem_cons_of_mem _ (tw_1 w hw hg), t5_1, tf_1⟩, fun _ h => nomatch h⟩)
    ⟨by decide, by decide, by decide, by decide⟩ bd_P_next
/-! CodePruner.depends -/
def y_P_depends : MethodName := ⟨"CodePruner", "depends", "(II)Z"⟩
abbrev b_P_depends : ByteArray := prog_1_method_9_code
def tb_P_depends : List wm_R := [(0, .aload_n 0, 1, 0), (1, .getfield 30, 4, 0), (4, .ifCond .eq 25, 7, 29), (7, .aload_n 0, 8, 0), (8, .getfield 10, 11, 0), (11, .iload_n 1, 12, 0), (12, .invokevirtual 48, 15, 0), (15, .ifCond .eq 14, 18, 29), (18, .aload_n 0, 19, 0), (19, .getfield 10, 22, 0), (22, .iload_n 2, 23, 0), (23, .invokevirtual 48, 26, 0), (26, .ifCond .ne 11, 29, 37), (29, .new 52, 32, 0), (32, .dup, 33, 0), (33, .invokespecial 54, 36, 0), (36, .athrow, 37, 0), (37, .aload_n 0, 38, 0), (38, .getfield 19, 41, 0), (41, .getfield 102, 44, 0), (44, .getfield 112, 47, 0), (47, .iload_n 1, 48, 0), (48, .iaload, 49, 0), (49, .iconst 1, 50, 0), (50, .iload_n 2, 51, 0), (51, .ishl, 52, 0), (52, .iand, 53, 0), (53, .ifCond .eq 7, 56, 60), (56, .iconst 1, 57, 0), (57, .goto 4, 60, 61), (60, .iconst 0, 61, 0), (61, .ireturn, 62, 0)]
theorem tk_P_depends : tb_P_depends.all (wm_rokb b_P_depends) = true := by decide +kernel
abbrev cd_P_depends : Cond := Cond.code y_P_depends b_P_depends 3 (wm_rtT 3)
theorem cw_P_depends : cd_P_depends ∈ gw := gw_at 597 (by decide +kernel) rfl
theorem gi_P_depends : Cond.instanceMethod y_P_depends ∈ gw := gw_at 595 (by decide +kernel) rfl
theorem gs_P_depends : Cond.selects "CodePruner" y_P_depends y_P_depends ∈ gw := gw_at 596 (by decide +kernel) rfl
def t_P_depends : wm_St := (ws_seq (ws_if (wb_or (wb_or (wb_not (wx_un (fun v => wr_ne v 0) (wx_fi w_L 0 3 (wx_r 0)))) (wb_not (wx_un (fun v => wr_ne v 0) (wx_call wm_pi f_G_hasBlock (wx_ac .ref (wx_fr w_L 0 0 (wx_r 0)) (wx_a1 .int (wx_i 1))))))) (wb_not (wx_un (fun v => wr_ne v 0) (wx_call wm_pi f_G_hasBlock (wx_ac .ref (wx_fr w_L 0 0 (wx_r 0)) (wx_a1 .int (wx_i 2)))))))
  (ws_thr 1))
  (ws_ret .int (wx_cond (wx_un (fun v => wr_ne v 0) (wx_bin wo_iand (wx_ai w_L 0 (wx_fr w_L 4 2 (wx_fr w_L 3 0 (wx_fr w_L 0 1 (wx_r 0)))) (wx_i 1)) (wx_bin wo_ishl (wx_c (1 : Int32)) (wx_i 2)))) (wx_c (1 : Int32)) (wx_c (0 : Int32)))))
def f_P_depends : List Value → wm_S → Option (Option Value × wm_S) := wt_fn (wm_isc w_L 0) 3 3 t_P_depends
def rm_P_depends : Room := { frames := 6, locals := 81, cells := 1, slots := 6 }
abbrev cV_P_depends : List (Nat × wm_M) := [(48, 2, f_G_hasBlock)]
abbrev cS_P_depends : List (Nat × wm_M) := []
abbrev tt_P_depends : List (Nat × Nat) := [(29, 1)]
set_option maxRecDepth 20000 in
theorem bd_P_depends (w : wm_K) (ret : Option Value → wm_S → Prop) (hc : wm_cl w_L fl_P cs_P none cV_P_depends cS_P_depends ret tb_P_depends w) (hT : wm_thw tt_P_depends ret w) : wm_T w tb_P_depends ret 0 9999 t_P_depends :=
  (wm_t_seq (wm_t_if (wm_b_or (wm_b_or (wm_b_not (wm_b_un hc (wm_x_fi hc (wm_x_rn hc rfl rfl) rfl rfl) rfl rfl wm_z_neF)) (wm_b_not (wm_b_un hc (wm_x_callV hc wm_pi_ok (wm_a_c (wm_x_fr hc (wm_x_rn hc rfl rfl) rfl rfl) (wm_a_1 (wm_x_in hc rfl rfl))) rfl rfl (by decide)) rfl rfl wm_z_neF))) (wm_b_not (wm_b_un hc (wm_x_callV hc wm_pi_ok (wm_a_c (wm_x_fr hc (wm_x_rn hc rfl rfl) rfl rfl) (wm_a_1 (wm_x_in hc rfl rfl))) rfl rfl (by decide)) rfl rfl wm_z_neT)))
  (wm_t_thr rfl (hT 29 1 rfl)) rfl)
  (wm_t_ret hc (wm_x_cond (wm_b_un hc (wm_x_bin hc (wm_x_ai hc (wm_x_fr hc (wm_x_fr hc (wm_x_fr hc (wm_x_rn hc rfl rfl) rfl rfl) rfl rfl) rfl rfl) (wm_x_in hc rfl rfl) rfl) (wm_x_bin hc (wm_x_iconst hc rfl (by decide)) (wm_x_in hc rfl rfl) rfl rfl (fun _ _ _ _ _ _ q => q)) rfl rfl (fun _ _ _ _ _ _ q => q)) rfl rfl wm_z_neF) (wm_x_iconst hc rfl (by decide)) (wm_x_iconst hc rfl (by decide)) rfl) rfl rfl (fun _ _ _ _ q => q)))
theorem x_P_depends {l : Launch} {D : va_G} {A : Nat → Prop} {ad : Nat → Nat} {cA : Nat → ClassId} (hl : l.stackTraces = false) (hY : wm_Y cl0 (tys0 cA) A ad cA w_L) : wt_con l y_P_depends (cd_P_depends :: gw) rm_P_depends D cl0 (tys0 cA) A ad cA w_L f_P_depends :=
  wt_meth (cV := cV_P_depends) (cS := cS_P_depends) (tt := tt_P_depends) hl (by decide) rfl hY (fun r h => wm_fok_mono (fun _ h => List.mem_cons_of_mem _ h) (fk_P r h)) (fun r h => wm_cok_mono (fun _ h => List.mem_cons_of_mem _ h) (ck_P r h)) tk_P_depends
    (List.forall_mem_cons.mpr ⟨⟨y_G_hasBlock, b_G_hasBlock, 2, wm_rtT 3, cd_G_hasBlock :: gw, gw, rm_G_hasBlock, 1, 1, 10, T_G, c_G_hasBlock hY, rfl, gw_V (gw_at 382 (by decide +kernel) rfl) gi_G_hasBlock gs_G_hasBlock gn_G cw_G_hasBlock, rfl, rfl, ⟨by decide, by decide, by decide +kernel⟩, rfl, ⟨by decide, by decide⟩, rfl, fun vs S r h => (wm_fn_some (v := r.1) (S' := r.2) h).1⟩, fun _ h => nomatch h⟩)
    (fun _ h => nomatch h)
    (List.forall_mem_cons.mpr ⟨⟨52, 54, by decide, by decide +kernel, by decide +kernel, by decide +kernel, by decide +kernel, List.mem_cons_of_mem _ th_1, rfl, List.mem_cons_of_mem _ ti_1, rfl, fun w hw hg => List.mem_cons_of_mem _ (tw_1 w hw hg), t5_1, tf_1⟩, fun _ h => nomatch h⟩)
    ⟨by decide, by decide, by decide, by decide⟩ bd_P_depends
/-! CodePruner.needed -/
def y_P_needed : MethodName := ⟨"CodePruner", "needed", "(I)Z"⟩
abbrev b_P_needed : ByteArray := prog_1_method_10_code
def tb_P_needed : List wm_R := [(0, .aload_n 0, 1, 0), (1, .getfield 30, 4, 0), (4, .ifCond .eq 18, 7, 22), (7, .iload_n 1, 8, 0), (8, .ifCond .lt 14, 11, 22), (11, .iload_n 1, 12, 0), (12, .aload_n 0, 13, 0), (13, .getfield 10, 16, 0), (16, .getfield 62, 19, 0), (19, .if_icmp .lt 11, 22, 30), (22, .new 52, 25, 0), (25, .dup, 26, 0), (26, .invokespecial 54, 29, 0), (29, .athrow, 30, 0), (30, .aload_n 0, 31, 0), (31, .getfield 19, 34, 0), (34, .getfield 115, 37, 0), (37, .iload_n 1, 38, 0), (38, .invokevirtual 119, 41, 0), (41, .ireturn, 42, 0)]
theorem tk_P_needed : tb_P_needed.all (wm_rokb b_P_needed) = true := by decide +kernel
abbrev cd_P_needed : Cond := Cond.code y_P_needed b_P_needed 2 (wm_rtT 3)
theorem cw_P_needed : cd_P_needed ∈ gw := gw_at 604 (by decide +kernel) rfl
theorem gi_P_needed : Cond.instanceMethod y_P_needed ∈ gw := gw_at 602 (by decide +kernel) rfl
theorem gs_P_needed : Cond.selects "CodePruner" y_P_needed y_P_needed ∈ gw := gw_at 603 (by decide +kernel) rfl
def t_P_needed : wm_St := (ws_seq (ws_if (wb_or (wb_or (wb_not (wx_un (fun v => wr_ne v 0) (wx_fi w_L 0 3 (wx_r 0)))) (wx_un (fun v => wr_lt v 0) (wx_i 1))) (wx_bin wr_ge (wx_i 1) (wx_fi w_L 1 1 (wx_fr w_L 0 0 (wx_r 0)))))
  (ws_thr 1))
  (ws_ret .int (wx_call wm_pi f_N_hasInstruction (wx_ac .ref (wx_fr w_L 3 2 (wx_fr w_L 0 1 (wx_r 0))) (wx_a1 .int (wx_i 1))))))
def f_P_needed : List Value → wm_S → Option (Option Value × wm_S) := wt_fn (wm_isc w_L 0) 3 2 t_P_needed
def rm_P_needed : Room := { frames := 6, locals := 81, cells := 1, slots := 6 }
abbrev cV_P_needed : List (Nat × wm_M) := [(119, 2, f_N_hasInstruction)]
abbrev cS_P_needed : List (Nat × wm_M) := []
abbrev tt_P_needed : List (Nat × Nat) := [(22, 1)]
set_option maxRecDepth 20000 in
theorem bd_P_needed (w : wm_K) (ret : Option Value → wm_S → Prop) (hc : wm_cl w_L fl_P cs_P none cV_P_needed cS_P_needed ret tb_P_needed w) (hT : wm_thw tt_P_needed ret w) : wm_T w tb_P_needed ret 0 9999 t_P_needed :=
  (wm_t_seq (wm_t_if (wm_b_or (wm_b_or (wm_b_not (wm_b_un hc (wm_x_fi hc (wm_x_rn hc rfl rfl) rfl rfl) rfl rfl wm_z_neF)) (wm_b_un hc (wm_x_in hc rfl rfl) rfl rfl wm_z_ltT)) (wm_b_cmp hc (wm_x_in hc rfl rfl) (wm_x_fi hc (wm_x_fr hc (wm_x_rn hc rfl rfl) rfl rfl) rfl rfl) rfl rfl wm_j_geF))
  (wm_t_thr rfl (hT 22 1 rfl)) rfl)
  (wm_t_ret hc (wm_x_callV hc wm_pi_ok (wm_a_c (wm_x_fr hc (wm_x_fr hc (wm_x_rn hc rfl rfl) rfl rfl) rfl rfl) (wm_a_1 (wm_x_in hc rfl rfl))) rfl rfl (by decide)) rfl rfl (fun _ _ _ _ q => q)))
theorem x_P_needed {l : Launch} {D : va_G} {A : Nat → Prop} {ad : Nat → Nat} {cA : Nat → ClassId} (hl : l.stackTraces = false) (hY : wm_Y cl0 (tys0 cA) A ad cA w_L) : wt_con l y_P_needed (cd_P_needed :: gw) rm_P_needed D cl0 (tys0 cA) A ad cA w_L f_P_needed :=
  wt_meth (cV := cV_P_needed) (cS := cS_P_needed) (tt := tt_P_needed) hl (by decide) rfl hY (fun r h => wm_fok_mono (fun _ h => List.mem_cons_of_mem _ h) (fk_P r h)) (fun r h => wm_cok_mono (fun _ h => List.mem_cons_of_mem _ h) (ck_P r h)) tk_P_needed
    (List.forall_mem_cons.mpr ⟨⟨y_N_hasInstruction, b_N_hasInstruction, 2, wm_rtT 3, cd_N_hasInstruction :: gw, gw, rm_N_hasInstruction, 1, 6, 2, T_N, c_N_hasInstruction hY, rfl, gw_V (gw_at 605 (by decide +kernel) rfl) gi_N_hasInstruction gs_N_hasInstruction gn_N cw_N_hasInstruction, rfl, rfl, ⟨by decide, by decide, by decide +kernel⟩, rfl, ⟨by decide, by decide⟩, rfl, fun vs S r h => (wm_fn_some (v := r.1) (S' := r.2) h).1⟩, fun _ h => nomatch h⟩)
    (fun _ h => nomatch h)
    (List.forall_mem_cons.mpr ⟨⟨52, 54, by decide, by decide +kernel, by decide +kernel, by decide +kernel, by decide +kernel, List.mem_cons_of_mem _ th_1, rfl, List.mem_cons_of_mem _ ti_1, rfl, fun w hw hg => List.mem_cons_of_mem _ (tw_1 w hw hg), t5_1, tf_1⟩, fun _ h => nomatch h⟩)
    ⟨by decide, by decide, by decide, by decide⟩ bd_P_needed
/-! CodePruner.ends -/
def y_P_ends : MethodName := ⟨"CodePruner", "ends", "(II)I"⟩
abbrev b_P_ends : ByteArray := prog_1_method_11_code
def tb_P_ends : List wm_R := [(0, .aload_n 0, 1, 0), (1, .getfield 30, 4, 0), (4, .ifCond .eq 23, 7, 27), (7, .aload_n 0, 8, 0), (8, .getfield 10, 11, 0), (11, .iload_n 1, 12, 0), (12, .invokevirtual 48, 15, 0), (15, .ifCond .eq 12, 18, 27), (18, .iload_n 2, 19, 0), (19, .ifCond .lt 8, 22, 27), (22, .iload_n 2, 23, 0), (23, .iconst 2, 24, 0), (24, .if_icmp .le 11, 27, 35), (27, .new 52, 30, 0), (30, .dup, 31, 0), (31, .invokespecial 54, 34, 0), (34, .athrow, 35, 0), (35, .iload_n 2, 36, 0), (36, .ifCond .ne 16, 39, 52), (39, .aload_n 0, 40, 0), (40, .getfield 19, 43, 0), (43, .getfield 124, 46, 0), (46, .getfield 125, 49, 0), (49, .iload_n 1, 50, 0), (50, .iaload, 51, 0), (51, .ireturn, 52, 0), (52, .iload_n 2, 53, 0), (53, .iconst 1, 54, 0), (54, .if_icmp .ne 18, 57, 72), (57, .aload_n 0, 58, 0), (58, .getfield 19, 61, 0), (61, .getfield 124, 64, 0), (64, .getfield 128, 67, 0), (67, .iload_n 1, 68, 0), (68, .iaload, 69, 0), (69, .goto 15, 72, 84), (72, .aload_n 0, 73, 0), (73, .getfield 19, 76, 0), (76, .getfield 124, 79, 0), (79, .getfield 131, 82, 0), (82, .iload_n 1, 83, 0), (83, .iaload, 84, 0), (84, .ireturn, 85, 0)]
theorem tk_P_ends : tb_P_ends.all (wm_rokb b_P_ends) = true := by decide +kernel
abbrev cd_P_ends : Cond := Cond.code y_P_ends b_P_ends 3 (wm_rtT 1)
theorem cw_P_ends : cd_P_ends ∈ gw := gw_at 612 (by decide +kernel) rfl
theorem gi_P_ends : Cond.instanceMethod y_P_ends ∈ gw := gw_at 610 (by decide +kernel) rfl
theorem gs_P_ends : Cond.selects "CodePruner" y_P_ends y_P_ends ∈ gw := gw_at 611 (by decide +kernel) rfl
def t_P_ends : wm_St := (ws_seq (ws_if (wb_or (wb_or (wb_or (wb_not (wx_un (fun v => wr_ne v 0) (wx_fi w_L 0 3 (wx_r 0)))) (wb_not (wx_un (fun v => wr_ne v 0) (wx_call wm_pi f_G_hasBlock (wx_ac .ref (wx_fr w_L 0 0 (wx_r 0)) (wx_a1 .int (wx_i 1))))))) (wx_un (fun v => wr_lt v 0) (wx_i 2))) (wx_bin wr_gt (wx_i 2) (wx_c (2 : Int32))))
  (ws_thr 1))
  (ws_seq (ws_if (wx_un (fun v => wr_eq v 0) (wx_i 2))
  (ws_ret .int (wx_ai w_L 0 (wx_fr w_L 2 0 (wx_fr w_L 3 3 (wx_fr w_L 0 1 (wx_r 0)))) (wx_i 1))))
  (ws_ret .int (wx_cond (wx_bin wr_eq (wx_i 2) (wx_c (1 : Int32))) (wx_ai w_L 0 (wx_fr w_L 2 2 (wx_fr w_L 3 3 (wx_fr w_L 0 1 (wx_r 0)))) (wx_i 1)) (wx_ai w_L 0 (wx_fr w_L 2 3 (wx_fr w_L 3 3 (wx_fr w_L 0 1 (wx_r 0)))) (wx_i 1))))))
def f_P_ends : List Value → wm_S → Option (Option Value × wm_S) := wt_fn (wm_isc w_L 0) 1 3 t_P_ends
def rm_P_ends : Room := { frames := 6, locals := 81, cells := 1, slots := 6 }
abbrev cV_P_ends : List (Nat × wm_M) := [(48, 2, f_G_hasBlock)]
abbrev cS_P_ends : List (Nat × wm_M) := []
abbrev tt_P_ends : List (Nat × Nat) := [(27, 1)]
set_option maxRecDepth 20000 in
theorem bd_P_ends (w : wm_K) (ret : Option Value → wm_S → Prop) (hc : wm_cl w_L fl_P cs_P none cV_P_ends cS_P_ends ret tb_P_ends w) (hT : wm_thw tt_P_ends ret w) : wm_T w tb_P_ends ret 0 9999 t_P_ends :=
  (wm_t_seq (wm_t_if (wm_b_or (wm_b_or (wm_b_or (wm_b_not (wm_b_un hc (wm_x_fi hc (wm_x_rn hc rfl rfl) rfl rfl) rfl rfl wm_z_neF)) (wm_b_not (wm_b_un hc (wm_x_callV hc wm_pi_ok (wm_a_c (wm_x_fr hc (wm_x_rn hc rfl rfl) rfl rfl) (wm_a_1 (wm_x_in hc rfl rfl))) rfl rfl (by decide)) rfl rfl wm_z_neF))) (wm_b_un hc (wm_x_in hc rfl rfl) rfl rfl wm_z_ltT)) (wm_b_cmp hc (wm_x_in hc rfl rfl) (wm_x_iconst hc rfl (by decide)) rfl rfl wm_j_gtF))
  (wm_t_thr rfl (hT 27 1 rfl)) rfl)
  (wm_t_seq (wm_t_if (wm_b_un hc (wm_x_in hc rfl rfl) rfl rfl wm_z_eqF)
  (wm_t_ret hc (wm_x_ai hc (wm_x_fr hc (wm_x_fr hc (wm_x_fr hc (wm_x_rn hc rfl rfl) rfl rfl) rfl rfl) rfl rfl) (wm_x_in hc rfl rfl) rfl) rfl rfl (fun _ _ _ _ q => q)) rfl)
  (wm_t_ret hc (wm_x_cond (wm_b_cmp hc (wm_x_in hc rfl rfl) (wm_x_iconst hc rfl (by decide)) rfl rfl wm_j_eqF) (wm_x_ai hc (wm_x_fr hc (wm_x_fr hc (wm_x_fr hc (wm_x_rn hc rfl rfl) rfl rfl) rfl rfl) rfl rfl) (wm_x_in hc rfl rfl) rfl) (wm_x_ai hc (wm_x_fr hc (wm_x_fr hc (wm_x_fr hc (wm_x_rn hc rfl rfl) rfl rfl) rfl rfl) rfl rfl) (wm_x_in hc rfl rfl) rfl) rfl) rfl rfl (fun _ _ _ _ q => q))))
theorem x_P_ends {l : Launch} {D : va_G} {A : Nat → Prop} {ad : Nat → Nat} {cA : Nat → ClassId} (hl : l.stackTraces = false) (hY : wm_Y cl0 (tys0 cA) A ad cA w_L) : wt_con l y_P_ends (cd_P_ends :: gw) rm_P_ends D cl0 (tys0 cA) A ad cA w_L f_P_ends :=
  wt_meth (cV := cV_P_ends) (cS := cS_P_ends) (tt := tt_P_ends) hl (by decide) rfl hY (fun r h => wm_fok_mono (fun _ h => List.mem_cons_of_mem _ h) (fk_P r h)) (fun r h => wm_cok_mono (fun _ h => List.mem_cons_of_mem _ h) (ck_P r h)) tk_P_ends
    (List.forall_mem_cons.mpr ⟨⟨y_G_hasBlock, b_G_hasBlock, 2, wm_rtT 3, cd_G_hasBlock :: gw, gw, rm_G_hasBlock, 1, 1, 10, T_G, c_G_hasBlock hY, rfl, gw_V (gw_at 382 (by decide +kernel) rfl) gi_G_hasBlock gs_G_hasBlock gn_G cw_G_hasBlock, rfl, rfl, ⟨by decide, by decide, by decide +kernel⟩, rfl, ⟨by decide, by decide⟩, rfl, fun vs S r h => (wm_fn_some (v := r.1) (S' := r.2) h).1⟩, fun _ h => nomatch h⟩)
    (fun _ h => nomatch h)
    (List.forall_mem_cons.mpr ⟨⟨52, 54, by decide, by decide +kernel, by decide +kernel, by decide +kernel, by decide +kernel, List.mem_cons_of_mem _ th_1, rfl, List.mem_cons_of_mem _ ti_1, rfl, fun w hw hg => List.mem_cons_of_mem _ (tw_1 w hw hg), t5_1, tf_1⟩, fun _ h => nomatch h⟩)
    ⟨by decide, by decide, by decide, by decide⟩ bd_P_ends
/-! CodePruner.run -/
def y_P_run : MethodName := ⟨"CodePruner", "run", "(ZII)I"⟩
abbrev b_P_run : ByteArray := prog_1_method_12_code
def tb_P_run : List wm_R := [(0, .aload_n 0, 1, 0), (1, .getfield 10, 4, 0), (4, .getfield 34, 7, 0), (7, .ifCond .eq 14, 10, 21), (10, .iload_n 1, 11, 0), (11, .ifCond .eq 18, 14, 29), (14, .aload_n 0, 15, 0), (15, .getfield 30, 18, 0), (18, .ifCond .ne 11, 21, 29), (21, .new 38, 24, 0), (24, .dup, 25, 0), (25, .invokespecial 40, 28, 0), (28, .athrow, 29, 0), (29, .aload_n 0, 30, 0), (30, .getfield 10, 33, 0), (33, .invokevirtual 134, 36, 0), (36, .ifCond .ne 11, 39, 47), (39, .new 89, 42, 0), (42, .dup, 43, 0), (43, .invokespecial 91, 46, 0), (46, .athrow, 47, 0), (47, .iconst 0, 48, 0), (48, .iload_n 3, 49, 0), (49, .sipush 2000, 52, 0), (52, .invokestatic 137, 55, 0), (55, .invokestatic 143, 58, 0), (58, .istore 4, 60, 0), (60, .aload_n 0, 61, 0), (61, .getfield 26, 64, 0), (64, .iload_n 2, 65, 0), (65, .iload 4, 67, 0), (67, .invokevirtual 146, 70, 0), (70, .iload_n 1, 71, 0), (71, .ifCond .eq 32, 74, 103), (74, .aload_n 0, 75, 0), (75, .getfield 26, 78, 0), (78, .aload_n 0, 79, 0), (79, .getfield 10, 82, 0), (82, .aload_n 0, 83, 0), (83, .getfield 19, 86, 0), (86, .getfield 124, 89, 0), (89, .aload_n 0, 90, 0), (90, .getfield 19, 93, 0), (93, .getfield 115, 96, 0), (96, .getfield 150, 99, 0), (99, .invokevirtual 153, 102, 0), (102, .ireturn, 103, 0), (103, .aload_n 0, 104, 0), (104, .getfield 26, 107, 0), (107, .aload_n 0, 108, 0), (108, .getfield 10, 111, 0), (111, .aload_n 0, 112, 0), (112, .getfield 10, 115, 0), (115, .getfield 72, 118, 0), (118, .ldc2_w 157, 121, 0), (121, .invokevirtual 153, 124, 0), (124, .ireturn, 125, 0)]
theorem tk_P_run : tb_P_run.all (wm_rokb b_P_run) = true := by decide +kernel
abbrev cd_P_run : Cond := Cond.code y_P_run b_P_run 5 (wm_rtT 1)
theorem cw_P_run : cd_P_run ∈ gw := gw_at 619 (by decide +kernel) rfl
theorem gi_P_run : Cond.instanceMethod y_P_run ∈ gw := gw_at 617 (by decide +kernel) rfl
theorem gs_P_run : Cond.selects "CodePruner" y_P_run y_P_run ∈ gw := gw_at 618 (by decide +kernel) rfl
def t_P_run : wm_St := (ws_seq (ws_if (wb_or (wx_un (fun v => wr_eq v 0) (wx_fi w_L 1 0 (wx_fr w_L 0 0 (wx_r 0)))) (wb_and (wx_un (fun v => wr_ne v 0) (wx_i 1)) (wb_not (wx_un (fun v => wr_ne v 0) (wx_fi w_L 0 3 (wx_r 0))))))
  (ws_thr 0))
  (ws_seq (ws_if (wb_not (wx_un (fun v => wr_ne v 0) (wx_call wm_pi f_G_leadsOnlyToBlocks (wx_a1 .ref (wx_fr w_L 0 0 (wx_r 0))))))
  (ws_thr 3))
  (ws_seq (ws_i 4 (wx_call wm_pi f_A_max (wx_ac .int (wx_c (0 : Int32)) (wx_a1 .int (wx_call wm_pi f_A_min (wx_ac .int (wx_i 3) (wx_a1 .int (wx_c (2000 : Int32)))))))))
  (ws_seq (ws_call f_M_begin (wx_ac .ref (wx_fr w_L 0 2 (wx_r 0)) (wx_ac .int (wx_i 2) (wx_a1 .int (wx_i 4)))))
  (ws_seq (ws_if (wx_un (fun v => wr_ne v 0) (wx_i 1))
  (ws_ret .int (wx_call wm_pi f_M_execute (wx_ac .ref (wx_fr w_L 0 2 (wx_r 0)) (wx_ac .ref (wx_fr w_L 0 0 (wx_r 0)) (wx_ac .ref (wx_fr w_L 3 3 (wx_fr w_L 0 1 (wx_r 0))) (wx_a1 .long (wx_fl w_L 6 0 (wx_fr w_L 3 2 (wx_fr w_L 0 1 (wx_r 0)))))))))))
  (ws_ret .int (wx_call wm_pi f_M_execute (wx_ac .ref (wx_fr w_L 0 2 (wx_r 0)) (wx_ac .ref (wx_fr w_L 0 0 (wx_r 0)) (wx_ac .ref (wx_fr w_L 1 9 (wx_fr w_L 0 0 (wx_r 0))) (wx_a1 .long (wx_c (-1 : Int64)))))))))))))
def f_P_run : List Value → wm_S → Option (Option Value × wm_S) := wt_fn (wm_isc w_L 0) 1 5 t_P_run
def rm_P_run : Room := { frames := 6, locals := 98, cells := 1, slots := 6 }
abbrev cV_P_run : List (Nat × wm_M) := [(134, 1, f_G_leadsOnlyToBlocks), (146, 3, f_M_begin), (153, 4, f_M_execute)]
abbrev cS_P_run : List (Nat × wm_M) := [(137, 2, f_A_min), (143, 2, f_A_max)]
abbrev tt_P_run : List (Nat × Nat) := [(21, 0), (39, 3)]
set_option maxRecDepth 20000 in
theorem bd_P_run (w : wm_K) (ret : Option Value → wm_S → Prop) (hc : wm_cl w_L fl_P cs_P none cV_P_run cS_P_run ret tb_P_run w) (hT : wm_thw tt_P_run ret w) : wm_T w tb_P_run ret 0 9999 t_P_run :=
  (wm_t_seq (wm_t_if (wm_b_or (wm_b_un hc (wm_x_fi hc (wm_x_fr hc (wm_x_rn hc rfl rfl) rfl rfl) rfl rfl) rfl rfl wm_z_eqT) (wm_b_and (wm_b_un hc (wm_x_in hc rfl rfl) rfl rfl wm_z_neF) (wm_b_not (wm_b_un hc (wm_x_fi hc (wm_x_rn hc rfl rfl) rfl rfl) rfl rfl wm_z_neT))))
  (wm_t_thr rfl (hT 21 0 rfl)) rfl)
  (wm_t_seq (wm_t_if (wm_b_not (wm_b_un hc (wm_x_callV hc wm_pi_ok (wm_a_1 (wm_x_fr hc (wm_x_rn hc rfl rfl) rfl rfl)) rfl rfl (by decide)) rfl rfl wm_z_neT))
  (wm_t_thr rfl (hT 39 3 rfl)) rfl)
  (wm_t_seq (wm_t_i hc (wm_x_callS hc wm_pi_ok (wm_a_c (wm_x_iconst hc rfl (by decide)) (wm_a_1 (wm_x_callS hc wm_pi_ok (wm_a_c (wm_x_in hc rfl rfl) (wm_a_1 (wm_x_sipush hc rfl (by decide)))) rfl rfl (by decide)))) rfl rfl (by decide)) rfl)
  (wm_t_seq (wm_t_callV hc (wm_a_c (wm_x_fr hc (wm_x_rn hc rfl rfl) rfl rfl) (wm_a_c (wm_x_in hc rfl rfl) (wm_a_1 (wm_x_i hc rfl)))) rfl rfl)
  (wm_t_seq (wm_t_if (wm_b_un hc (wm_x_in hc rfl rfl) rfl rfl wm_z_neF)
  (wm_t_ret hc (wm_x_callV hc wm_pi_ok (wm_a_c (wm_x_fr hc (wm_x_rn hc rfl rfl) rfl rfl) (wm_a_c (wm_x_fr hc (wm_x_rn hc rfl rfl) rfl rfl) (wm_a_c (wm_x_fr hc (wm_x_fr hc (wm_x_rn hc rfl rfl) rfl rfl) rfl rfl) (wm_a_1 (wm_x_fl hc (wm_x_fr hc (wm_x_fr hc (wm_x_rn hc rfl rfl) rfl rfl) rfl rfl) rfl rfl))))) rfl rfl (by decide)) rfl rfl (fun _ _ _ _ q => q)) rfl)
  (wm_t_ret hc (wm_x_callV hc wm_pi_ok (wm_a_c (wm_x_fr hc (wm_x_rn hc rfl rfl) rfl rfl) (wm_a_c (wm_x_fr hc (wm_x_rn hc rfl rfl) rfl rfl) (wm_a_c (wm_x_fr hc (wm_x_fr hc (wm_x_rn hc rfl rfl) rfl rfl) rfl rfl) (wm_a_1 (wm_x_ldc2 hc rfl rfl))))) rfl rfl (by decide)) rfl rfl (fun _ _ _ _ q => q)))))))
theorem x_P_run {l : Launch} {D : va_G} {A : Nat → Prop} {ad : Nat → Nat} {cA : Nat → ClassId} (hl : l.stackTraces = false) (hY : wm_Y cl0 (tys0 cA) A ad cA w_L) : wt_con l y_P_run (cd_P_run :: gw) rm_P_run D cl0 (tys0 cA) A ad cA w_L f_P_run :=
  wt_meth (cV := cV_P_run) (cS := cS_P_run) (tt := tt_P_run) hl (by decide) rfl hY (fun r h => wm_fok_mono (fun _ h => List.mem_cons_of_mem _ h) (fk_P r h)) (fun r h => wm_cok_mono (fun _ h => List.mem_cons_of_mem _ h) (ck_P r h)) tk_P_run
    (List.forall_mem_cons.mpr ⟨⟨y_G_leadsOnlyToBlocks, b_G_leadsOnlyToBlocks, 3, wm_rtT 3, cd_G_leadsOnlyToBlocks :: gw, gw, rm_G_leadsOnlyToBlocks, 0, 1, 10, T_G, c_G_leadsOnlyToBlocks hY, rfl, gw_V (gw_at 452 (by decide +kernel) rfl) gi_G_leadsOnlyToBlocks gs_G_leadsOnlyToBlocks gn_G cw_G_leadsOnlyToBlocks, rfl, rfl, ⟨by decide, by decide, by decide +kernel⟩, rfl, ⟨by decide, by decide⟩, rfl, fun vs S r h => (wm_fn_some (v := r.1) (S' := r.2) h).1⟩, List.forall_mem_cons.mpr ⟨⟨y_M_begin, b_M_begin, 4, wm_rtT 0, cd_M_begin :: gw, gw, rm_M_begin, 2, 7, 8, T_M, c_M_begin hY, rfl, gw_V (gw_at 274 (by decide +kernel) rfl) gi_M_begin gs_M_begin gn_M cw_M_begin, rfl, rfl, ⟨by decide, by decide, by decide +kernel⟩, rfl, ⟨by decide, by decide⟩, rfl, fun vs S r h => (wm_fn_some (v := r.1) (S' := r.2) h).1⟩, List.forall_mem_cons.mpr ⟨⟨y_M_execute, b_M_execute, 9, wm_rtT 1, cd_M_execute :: gw, gw, rm_M_execute, 3, 7, 8, T_M, c_M_execute hY, rfl, gw_V (gw_at 626 (by decide +kernel) rfl) gi_M_execute gs_M_execute gn_M cw_M_execute, rfl, rfl, ⟨by decide, by decide, by decide +kernel⟩, rfl, ⟨by decide, by decide⟩, rfl, fun vs S r h => (wm_fn_some (v := r.1) (S' := r.2) h).1⟩, fun _ h => nomatch h⟩⟩⟩)
    (List.forall_mem_cons.mpr ⟨Or.inr ⟨rfl, by decide, by decide, List.mem_cons_of_mem _ gn_A, Or.inr ⟨rfl, List.mem_cons_of_mem _ (gw_at 620 (by decide +kernel) rfl), List.mem_cons_of_mem _ (gw_at 621 (by decide +kernel) rfl), List.mem_cons_of_mem _ (gw_at 622 (by decide +kernel) rfl)⟩⟩, List.forall_mem_cons.mpr ⟨Or.inr ⟨rfl, by decide, by decide, List.mem_cons_of_mem _ gn_A, Or.inl ⟨rfl, List.mem_cons_of_mem _ (gw_at 623 (by decide +kernel) rfl), List.mem_cons_of_mem _ (gw_at 624 (by decide +kernel) rfl), List.mem_cons_of_mem _ (gw_at 625 (by decide +kernel) rfl)⟩⟩, fun _ h => nomatch h⟩⟩)
    (List.forall_mem_cons.mpr ⟨⟨38, 40, by decide, by decide +kernel, by decide +kernel, by decide +kernel, by decide +kernel, List.mem_cons_of_mem _ th_0, rfl, List.mem_cons_of_mem _ ti_0, rfl, fun w hw hg => List.mem_cons_of_mem _ (tw_0 w hw hg), t5_0, tf_0⟩, List.forall_mem_cons.mpr ⟨⟨89, 91, by decide, by decide +kernel, by decide +kernel, by decide +kernel, by decide +kernel, List.mem_cons_of_mem _ th_3, rfl, List.mem_cons_of_mem _ ti_3, rfl, fun w hw hg => List.mem_cons_of_mem _ (tw_3 w hw hg), t5_3, tf_3⟩, fun _ h => nomatch h⟩⟩)
    ⟨by decide, by decide, by decide, by decide⟩ bd_P_run
/-! CodePruner.ran -/
def y_P_ran : MethodName := ⟨"CodePruner", "ran", "(I)I"⟩
abbrev b_P_ran : ByteArray := prog_1_method_13_code
def tb_P_ran : List wm_R := [(0, .iload_n 1, 1, 0), (1, .tableswitch 51 0 2 #[27, 35, 43], 28, 0), (28, .aload_n 0, 29, 0), (29, .getfield 26, 32, 0), (32, .getfield 159, 35, 0), (35, .ireturn, 36, 0), (36, .aload_n 0, 37, 0), (37, .getfield 26, 40, 0), (40, .getfield 162, 43, 0), (43, .ireturn, 44, 0), (44, .aload_n 0, 45, 0), (45, .getfield 26, 48, 0), (48, .getfield 165, 51, 0), (51, .ireturn, 52, 0), (52, .iconst (-1), 53, 0), (53, .ireturn, 54, 0)]
theorem tk_P_ran : tb_P_ran.all (wm_rokb b_P_ran) = true := by decide +kernel
abbrev cd_P_ran : Cond := Cond.code y_P_ran b_P_ran 2 (wm_rtT 1)
theorem cw_P_ran : cd_P_ran ∈ gw := gw_at 289 (by decide +kernel) rfl
theorem gi_P_ran : Cond.instanceMethod y_P_ran ∈ gw := gw_at 287 (by decide +kernel) rfl
theorem gs_P_ran : Cond.selects "CodePruner" y_P_ran y_P_ran ∈ gw := gw_at 288 (by decide +kernel) rfl
def t_P_ran : wm_St := (ws_sw (wx_i 1) 0 [(ws_ret .int (wx_fi w_L 7 2 (wx_fr w_L 0 2 (wx_r 0)))),
  (ws_ret .int (wx_fi w_L 7 3 (wx_fr w_L 0 2 (wx_r 0)))),
  (ws_ret .int (wx_fi w_L 7 4 (wx_fr w_L 0 2 (wx_r 0))))]
  (ws_ret .int (wx_c (-1 : Int32))))
def f_P_ran : List Value → wm_S → Option (Option Value × wm_S) := wm_fn (wm_isc w_L 0) 1 2 t_P_ran
def rm_P_ran : Room := { frames := 0, locals := 0 }
abbrev cV_P_ran : List (Nat × wm_M) := []
abbrev cS_P_ran : List (Nat × wm_M) := []
set_option maxRecDepth 20000 in
theorem bd_P_ran (w : wm_K) (ret : Option Value → wm_S → Prop) (hc : wm_cl w_L fl_P cs_P none cV_P_ran cS_P_ran ret tb_P_ran w) : wm_T w tb_P_ran ret 0 9999 t_P_ran :=
  (wm_t_sw hc (wm_x_in hc rfl rfl) rfl rfl
  ⟨⟨28, _, rfl, (wm_t_ret hc (wm_x_fi hc (wm_x_fr hc (wm_x_rn hc rfl rfl) rfl rfl) rfl rfl) rfl rfl (fun _ _ _ _ q => q)), rfl⟩, ⟨⟨36, _, rfl, (wm_t_ret hc (wm_x_fi hc (wm_x_fr hc (wm_x_rn hc rfl rfl) rfl rfl) rfl rfl) rfl rfl (fun _ _ _ _ q => q)), rfl⟩, ⟨⟨44, _, rfl, (wm_t_ret hc (wm_x_fi hc (wm_x_fr hc (wm_x_rn hc rfl rfl) rfl rfl) rfl rfl) rfl rfl (fun _ _ _ _ q => q)), rfl⟩, trivial⟩⟩⟩
  ⟨52, _, rfl, (wm_t_ret hc (wm_x_iconst hc rfl (by decide)) rfl rfl (fun _ _ _ _ q => q)), rfl⟩)
theorem c_P_ran {l : Launch} {D : va_G} {A : Nat → Prop} {ad : Nat → Nat} {cA : Nat → ClassId} (hY : wm_Y cl0 (tys0 cA) A ad cA w_L) : wm_con l y_P_ran (cd_P_ran :: gw) rm_P_ran D cl0 (tys0 cA) A ad cA w_L f_P_ran :=
  wm_meth (cV := cV_P_ran) (cS := cS_P_ran) (by decide) rfl hY (fun r h => wm_fok_mono (fun _ h => List.mem_cons_of_mem _ h) (fk_P r h)) (fun r h => wm_cok_mono (fun _ h => List.mem_cons_of_mem _ h) (ck_P r h)) tk_P_ran
    (fun _ h => nomatch h)
    (fun _ h => nomatch h)
    bd_P_ran
/-! CodePruner.out -/
def y_P_out : MethodName := ⟨"CodePruner", "out", "(I)I"⟩
abbrev b_P_out : ByteArray := prog_1_method_14_code
def tb_P_out : List wm_R := [(0, .iload_n 1, 1, 0), (1, .ifCond .lt 20, 4, 21), (4, .iload_n 1, 5, 0), (5, .aload_n 0, 6, 0), (6, .getfield 26, 9, 0), (9, .getfield 162, 12, 0), (12, .if_icmp .ge 9, 15, 21), (15, .iload_n 1, 16, 0), (16, .bipush 50, 18, 0), (18, .if_icmp .lt 11, 21, 29), (21, .new 52, 24, 0), (24, .dup, 25, 0), (25, .invokespecial 54, 28, 0), (28, .athrow, 29, 0), (29, .aload_n 0, 30, 0), (30, .getfield 26, 33, 0), (33, .getfield 168, 36, 0), (36, .iload_n 1, 37, 0), (37, .iaload, 38, 0), (38, .ireturn, 39, 0)]
theorem tk_P_out : tb_P_out.all (wm_rokb b_P_out) = true := by decide +kernel
abbrev cd_P_out : Cond := Cond.code y_P_out b_P_out 2 (wm_rtT 1)
theorem cw_P_out : cd_P_out ∈ gw := gw_at 656 (by decide +kernel) rfl
theorem gi_P_out : Cond.instanceMethod y_P_out ∈ gw := gw_at 654 (by decide +kernel) rfl
theorem gs_P_out : Cond.selects "CodePruner" y_P_out y_P_out ∈ gw := gw_at 655 (by decide +kernel) rfl
def t_P_out : wm_St := (ws_seq (ws_if (wb_or (wb_or (wx_un (fun v => wr_lt v 0) (wx_i 1)) (wx_bin wr_ge (wx_i 1) (wx_fi w_L 7 3 (wx_fr w_L 0 2 (wx_r 0))))) (wx_bin wr_ge (wx_i 1) (wx_c (50 : Int32))))
  (ws_thr 1))
  (ws_ret .int (wx_ai w_L 0 (wx_fr w_L 7 1 (wx_fr w_L 0 2 (wx_r 0))) (wx_i 1))))
def f_P_out : List Value → wm_S → Option (Option Value × wm_S) := wt_fn (wm_isc w_L 0) 1 2 t_P_out
def rm_P_out : Room := { frames := 6, locals := 81, cells := 1, slots := 6 }
abbrev cV_P_out : List (Nat × wm_M) := []
abbrev cS_P_out : List (Nat × wm_M) := []
abbrev tt_P_out : List (Nat × Nat) := [(21, 1)]
set_option maxRecDepth 20000 in
theorem bd_P_out (w : wm_K) (ret : Option Value → wm_S → Prop) (hc : wm_cl w_L fl_P cs_P none cV_P_out cS_P_out ret tb_P_out w) (hT : wm_thw tt_P_out ret w) : wm_T w tb_P_out ret 0 9999 t_P_out :=
  (wm_t_seq (wm_t_if (wm_b_or (wm_b_or (wm_b_un hc (wm_x_in hc rfl rfl) rfl rfl wm_z_ltT) (wm_b_cmp hc (wm_x_in hc rfl rfl) (wm_x_fi hc (wm_x_fr hc (wm_x_rn hc rfl rfl) rfl rfl) rfl rfl) rfl rfl wm_j_geT)) (wm_b_cmp hc (wm_x_in hc rfl rfl) (wm_x_bipush hc rfl (by decide)) rfl rfl wm_j_geF))
  (wm_t_thr rfl (hT 21 1 rfl)) rfl)
  (wm_t_ret hc (wm_x_ai hc (wm_x_fr hc (wm_x_fr hc (wm_x_rn hc rfl rfl) rfl rfl) rfl rfl) (wm_x_in hc rfl rfl) rfl) rfl rfl (fun _ _ _ _ q => q)))
theorem x_P_out {l : Launch} {D : va_G} {A : Nat → Prop} {ad : Nat → Nat} {cA : Nat → ClassId} (hl : l.stackTraces = false) (hY : wm_Y cl0 (tys0 cA) A ad cA w_L) : wt_con l y_P_out (cd_P_out :: gw) rm_P_out D cl0 (tys0 cA) A ad cA w_L f_P_out :=
  wt_meth (cV := cV_P_out) (cS := cS_P_out) (tt := tt_P_out) hl (by decide) rfl hY (fun r h => wm_fok_mono (fun _ h => List.mem_cons_of_mem _ h) (fk_P r h)) (fun r h => wm_cok_mono (fun _ h => List.mem_cons_of_mem _ h) (ck_P r h)) tk_P_out
    (fun _ h => nomatch h)
    (fun _ h => nomatch h)
    (List.forall_mem_cons.mpr ⟨⟨52, 54, by decide, by decide +kernel, by decide +kernel, by decide +kernel, by decide +kernel, List.mem_cons_of_mem _ th_1, rfl, List.mem_cons_of_mem _ ti_1, rfl, fun w hw hg => List.mem_cons_of_mem _ (tw_1 w hw hg), t5_1, tf_1⟩, fun _ h => nomatch h⟩)
    ⟨by decide, by decide, by decide, by decide⟩ bd_P_out
end WME_P

section WME_Z
/-! CodePrunerModel.depends -/
def y_Z_depends : MethodName := ⟨"CodePrunerModel", "depends", "(II)Z"⟩
abbrev b_Z_depends : ByteArray := prog_10_method_36_code
def tb_Z_depends : List wm_R := [(0, .aload_n 0, 1, 0), (1, .aload_n 0, 2, 0), (2, .getfield 75, 5, 0), (5, .ifCond .eq 23, 8, 28), (8, .aload_n 0, 9, 0), (9, .iload_n 1, 10, 0), (10, .invokevirtual 118, 13, 0), (13, .ifCond .eq 15, 16, 28), (16, .aload_n 0, 17, 0), (17, .iload_n 2, 18, 0), (18, .invokevirtual 118, 21, 0), (21, .ifCond .eq 7, 24, 28), (24, .iconst 0, 25, 0), (25, .goto 4, 28, 29), (28, .iconst 1, 29, 0), (29, .putfield 71, 32, 0), (32, .aload_n 0, 33, 0), (33, .getfield 71, 36, 0), (36, .ifCond .ne 16, 39, 52), (39, .aload_n 0, 40, 0), (40, .iload_n 1, 41, 0), (41, .iload_n 2, 42, 0), (42, .invokevirtual 157, 45, 0), (45, .ifCond .eq 7, 48, 52), (48, .iconst 1, 49, 0), (49, .goto 4, 52, 53), (52, .iconst 0, 53, 0), (53, .ireturn, 54, 0)]
theorem tk_Z_depends : tb_Z_depends.all (wm_rokb b_Z_depends) = true := by decide +kernel
abbrev cd_Z_depends : Cond := Cond.code y_Z_depends b_Z_depends 3 (wm_rtT 3)
theorem cw_Z_depends : cd_Z_depends ∈ gw := gw_at 887 (by decide +kernel) rfl
theorem gi_Z_depends : Cond.instanceMethod y_Z_depends ∈ gw := gw_at 885 (by decide +kernel) rfl
theorem gs_Z_depends : Cond.selects "CodePrunerModel" y_Z_depends y_Z_depends ∈ gw := gw_at 886 (by decide +kernel) rfl
def t_Z_depends : wm_St := (ws_seq (ws_fi w_L 8 0 (wx_r 0) (wx_cond (wb_and (wb_and (wx_un (fun v => wr_ne v 0) (wx_fi w_L 8 12 (wx_r 0))) (wx_un (fun v => wr_ne v 0) (wx_call wm_pi f_Z_isBlock (wx_ac .ref (wx_r 0) (wx_a1 .int (wx_i 1)))))) (wx_un (fun v => wr_ne v 0) (wx_call wm_pi f_Z_isBlock (wx_ac .ref (wx_r 0) (wx_a1 .int (wx_i 2)))))) (wx_c (0 : Int32)) (wx_c (1 : Int32))))
  (ws_ret .int (wx_cond (wb_and (wx_un (fun v => wr_eq v 0) (wx_fi w_L 8 0 (wx_r 0))) (wx_un (fun v => wr_ne v 0) (wx_call wm_pi f_Z_dependsOn (wx_ac .ref (wx_r 0) (wx_ac .int (wx_i 1) (wx_a1 .int (wx_i 2))))))) (wx_c (1 : Int32)) (wx_c (0 : Int32)))))
def f_Z_depends : List Value → wm_S → Option (Option Value × wm_S) := wm_fn (wm_isc w_L 8) 3 3 t_Z_depends
def rm_Z_depends : Room := { frames := 2, locals := 44 }
abbrev cV_Z_depends : List (Nat × wm_M) := [(118, 2, f_Z_isBlock), (157, 3, f_Z_dependsOn)]
abbrev cS_Z_depends : List (Nat × wm_M) := []
set_option maxRecDepth 20000 in
theorem bd_Z_depends (w : wm_K) (ret : Option Value → wm_S → Prop) (hc : wm_cl w_L fl_Z cs_Z none cV_Z_depends cS_Z_depends ret tb_Z_depends w) : wm_T w tb_Z_depends ret 0 9999 t_Z_depends :=
  (wm_t_seq (wm_t_fi hc (wm_x_rn hc rfl rfl) (wm_x_cond (wm_b_and (wm_b_and (wm_b_un hc (wm_x_fi hc (wm_x_rn hc rfl rfl) rfl rfl) rfl rfl wm_z_neF) (wm_b_un hc (wm_x_callV hc wm_pi_ok (wm_a_c (wm_x_rn hc rfl rfl) (wm_a_1 (wm_x_in hc rfl rfl))) rfl rfl (by decide)) rfl rfl wm_z_neF)) (wm_b_un hc (wm_x_callV hc wm_pi_ok (wm_a_c (wm_x_rn hc rfl rfl) (wm_a_1 (wm_x_in hc rfl rfl))) rfl rfl (by decide)) rfl rfl wm_z_neF)) (wm_x_iconst hc rfl (by decide)) (wm_x_iconst hc rfl (by decide)) rfl) rfl rfl)
  (wm_t_ret hc (wm_x_cond (wm_b_and (wm_b_un hc (wm_x_fi hc (wm_x_rn hc rfl rfl) rfl rfl) rfl rfl wm_z_eqF) (wm_b_un hc (wm_x_callV hc wm_pi_ok (wm_a_c (wm_x_rn hc rfl rfl) (wm_a_c (wm_x_in hc rfl rfl) (wm_a_1 (wm_x_in hc rfl rfl)))) rfl rfl (by decide)) rfl rfl wm_z_neF)) (wm_x_iconst hc rfl (by decide)) (wm_x_iconst hc rfl (by decide)) rfl) rfl rfl (fun _ _ _ _ q => q)))
theorem c_Z_depends {l : Launch} {D : va_G} {A : Nat → Prop} {ad : Nat → Nat} {cA : Nat → ClassId} (hY : wm_Y cl0 (tys0 cA) A ad cA w_L) : wm_con l y_Z_depends (cd_Z_depends :: gw) rm_Z_depends D cl0 (tys0 cA) A ad cA w_L f_Z_depends :=
  wm_meth (cV := cV_Z_depends) (cS := cS_Z_depends) (by decide) rfl hY (fun r h => wm_fok_mono (fun _ h => List.mem_cons_of_mem _ h) (fk_Z r h)) (fun r h => wm_cok_mono (fun _ h => List.mem_cons_of_mem _ h) (ck_Z r h)) tk_Z_depends
    (List.forall_mem_cons.mpr ⟨⟨y_Z_isBlock, b_Z_isBlock, 2, wm_rtT 3, cd_Z_isBlock :: gw, gw, rm_Z_isBlock, 1, 8, 29, T_Z, c_Z_isBlock hY, rfl, gw_V (gw_at 784 (by decide +kernel) rfl) gi_Z_isBlock gs_Z_isBlock gn_Z cw_Z_isBlock, rfl, rfl, ⟨by decide, by decide, by decide +kernel⟩, rfl, ⟨by decide, by decide⟩, rfl, fun vs S r h => (wm_fn_some (v := r.1) (S' := r.2) h).1⟩, List.forall_mem_cons.mpr ⟨⟨y_Z_dependsOn, b_Z_dependsOn, 3, wm_rtT 3, cd_Z_dependsOn :: gw, gw, rm_Z_dependsOn, 2, 8, 29, T_Z, c_Z_dependsOn hY, rfl, gw_V (gw_at 864 (by decide +kernel) rfl) gi_Z_dependsOn gs_Z_dependsOn gn_Z cw_Z_dependsOn, rfl, rfl, ⟨by decide, by decide, by decide +kernel⟩, rfl, ⟨by decide, by decide⟩, rfl, fun vs S r h => (wm_fn_some (v := r.1) (S' := r.2) h).1⟩, fun _ h => nomatch h⟩⟩)
    (fun _ h => nomatch h)
    bd_Z_depends
/-! CodePrunerModel.needed -/
def y_Z_needed : MethodName := ⟨"CodePrunerModel", "needed", "(I)Z"⟩
abbrev b_Z_needed : ByteArray := prog_10_method_37_code
def tb_Z_needed : List wm_R := [(0, .aload_n 0, 1, 0), (1, .aload_n 0, 2, 0), (2, .getfield 75, 5, 0), (5, .ifCond .eq 21, 8, 26), (8, .iload_n 1, 9, 0), (9, .iconst 0, 10, 0), (10, .aload_n 0, 11, 0), (11, .getfield 121, 14, 0), (14, .iconst 1, 15, 0), (15, .isub, 16, 0), (16, .invokestatic 104, 19, 0), (19, .ifCond .ne 7, 22, 26), (22, .iconst 0, 23, 0), (23, .goto 4, 26, 27), (26, .iconst 1, 27, 0), (27, .putfield 71, 30, 0), (30, .aload_n 0, 31, 0), (31, .getfield 71, 34, 0), (34, .ifCond .ne 16, 37, 50), (37, .aload_n 0, 38, 0), (38, .getfield 50, 41, 0), (41, .iload_n 1, 42, 0), (42, .baload, 43, 0), (43, .ifCond .eq 7, 46, 50), (46, .iconst 1, 47, 0), (47, .goto 4, 50, 51), (50, .iconst 0, 51, 0), (51, .ireturn, 52, 0)]
theorem tk_Z_needed : tb_Z_needed.all (wm_rokb b_Z_needed) = true := by decide +kernel
abbrev cd_Z_needed : Cond := Cond.code y_Z_needed b_Z_needed 2 (wm_rtT 3)
theorem cw_Z_needed : cd_Z_needed ∈ gw := gw_at 891 (by decide +kernel) rfl
theorem gi_Z_needed : Cond.instanceMethod y_Z_needed ∈ gw := gw_at 889 (by decide +kernel) rfl
theorem gs_Z_needed : Cond.selects "CodePrunerModel" y_Z_needed y_Z_needed ∈ gw := gw_at 890 (by decide +kernel) rfl
def t_Z_needed : wm_St := (ws_seq (ws_fi w_L 8 0 (wx_r 0) (wx_cond (wb_and (wx_un (fun v => wr_ne v 0) (wx_fi w_L 8 12 (wx_r 0))) (wb_not (wx_un (fun v => wr_ne v 0) (wx_call wm_pi f_Z_outside (wx_ac .int (wx_i 1) (wx_ac .int (wx_c (0 : Int32)) (wx_a1 .int (wx_bin wo_isub (wx_fi w_L 8 6 (wx_r 0)) (wx_c (1 : Int32)))))))))) (wx_c (0 : Int32)) (wx_c (1 : Int32))))
  (ws_ret .int (wx_cond (wb_and (wx_un (fun v => wr_eq v 0) (wx_fi w_L 8 0 (wx_r 0))) (wx_un (fun v => wr_ne v 0) (wx_ai w_L 3 (wx_fr w_L 8 17 (wx_r 0)) (wx_i 1)))) (wx_c (1 : Int32)) (wx_c (0 : Int32)))))
def f_Z_needed : List Value → wm_S → Option (Option Value × wm_S) := wm_fn (wm_isc w_L 8) 3 2 t_Z_needed
def rm_Z_needed : Room := { frames := 1, locals := 22 }
abbrev cV_Z_needed : List (Nat × wm_M) := []
abbrev cS_Z_needed : List (Nat × wm_M) := [(104, 3, f_Z_outside)]
set_option maxRecDepth 20000 in
theorem bd_Z_needed (w : wm_K) (ret : Option Value → wm_S → Prop) (hc : wm_cl w_L fl_Z cs_Z none cV_Z_needed cS_Z_needed ret tb_Z_needed w) : wm_T w tb_Z_needed ret 0 9999 t_Z_needed :=
  (wm_t_seq (wm_t_fi hc (wm_x_rn hc rfl rfl) (wm_x_cond (wm_b_and (wm_b_un hc (wm_x_fi hc (wm_x_rn hc rfl rfl) rfl rfl) rfl rfl wm_z_neF) (wm_b_not (wm_b_un hc (wm_x_callS hc wm_pi_ok (wm_a_c (wm_x_in hc rfl rfl) (wm_a_c (wm_x_iconst hc rfl (by decide)) (wm_a_1 (wm_x_bin hc (wm_x_fi hc (wm_x_rn hc rfl rfl) rfl rfl) (wm_x_iconst hc rfl (by decide)) rfl rfl (fun _ _ _ _ _ _ q => q))))) rfl rfl (by decide)) rfl rfl wm_z_neT))) (wm_x_iconst hc rfl (by decide)) (wm_x_iconst hc rfl (by decide)) rfl) rfl rfl)
  (wm_t_ret hc (wm_x_cond (wm_b_and (wm_b_un hc (wm_x_fi hc (wm_x_rn hc rfl rfl) rfl rfl) rfl rfl wm_z_eqF) (wm_b_un hc (wm_x_az hc (wm_x_fr hc (wm_x_rn hc rfl rfl) rfl rfl) (wm_x_in hc rfl rfl) rfl) rfl rfl wm_z_neF)) (wm_x_iconst hc rfl (by decide)) (wm_x_iconst hc rfl (by decide)) rfl) rfl rfl (fun _ _ _ _ q => q)))
theorem c_Z_needed {l : Launch} {D : va_G} {A : Nat → Prop} {ad : Nat → Nat} {cA : Nat → ClassId} (hY : wm_Y cl0 (tys0 cA) A ad cA w_L) : wm_con l y_Z_needed (cd_Z_needed :: gw) rm_Z_needed D cl0 (tys0 cA) A ad cA w_L f_Z_needed :=
  wm_meth (cV := cV_Z_needed) (cS := cS_Z_needed) (by decide) rfl hY (fun r h => wm_fok_mono (fun _ h => List.mem_cons_of_mem _ h) (fk_Z r h)) (fun r h => wm_cok_mono (fun _ h => List.mem_cons_of_mem _ h) (ck_Z r h)) tk_Z_needed
    (fun _ h => nomatch h)
    (List.forall_mem_cons.mpr ⟨⟨y_Z_outside, b_Z_outside, 3, wm_rtT 3, cd_Z_outside :: gw, gw, rm_Z_outside, c_Z_outside hY, rfl, gw_S (gw_at 772 (by decide +kernel) rfl) gi_Z_outside gn_Z cw_Z_outside, rfl, rfl, ⟨by decide, by decide, by decide +kernel⟩, ⟨by decide, by decide⟩⟩, fun _ h => nomatch h⟩)
    bd_Z_needed
/-! CodePrunerModel.ends -/
def y_Z_ends : MethodName := ⟨"CodePrunerModel", "ends", "(II)I"⟩
abbrev b_Z_ends : ByteArray := prog_10_method_38_code
def tb_Z_ends : List wm_R := [(0, .aload_n 0, 1, 0), (1, .getfield 75, 4, 0), (4, .ifCond .eq 20, 7, 24), (7, .aload_n 0, 8, 0), (8, .iload_n 1, 9, 0), (9, .invokevirtual 118, 12, 0), (12, .ifCond .eq 12, 15, 24), (15, .iload_n 2, 16, 0), (16, .iconst 0, 17, 0), (17, .iconst 2, 18, 0), (18, .invokestatic 104, 21, 0), (21, .ifCond .eq 9, 24, 30), (24, .aload_n 0, 25, 0), (25, .iconst 1, 26, 0), (26, .invokevirtual 181, 29, 0), (29, .ireturn, 30, 0), (30, .aload_n 0, 31, 0), (31, .iconst 0, 32, 0), (32, .putfield 71, 35, 0), (35, .iload_n 2, 36, 0), (36, .ifCond .ne 12, 39, 48), (39, .aload_n 0, 40, 0), (40, .getfield 56, 43, 0), (43, .iload_n 1, 44, 0), (44, .iaload, 45, 0), (45, .goto 23, 48, 68), (48, .iload_n 2, 49, 0), (49, .iconst 1, 50, 0), (50, .if_icmp .ne 12, 53, 62), (53, .aload_n 0, 54, 0), (54, .getfield 59, 57, 0), (57, .iload_n 1, 58, 0), (58, .iaload, 59, 0), (59, .goto 9, 62, 68), (62, .aload_n 0, 63, 0), (63, .getfield 62, 66, 0), (66, .iload_n 1, 67, 0), (67, .iaload, 68, 0), (68, .ireturn, 69, 0)]
theorem tk_Z_ends : tb_Z_ends.all (wm_rokb b_Z_ends) = true := by decide +kernel
abbrev cd_Z_ends : Cond := Cond.code y_Z_ends b_Z_ends 3 (wm_rtT 1)
theorem cw_Z_ends : cd_Z_ends ∈ gw := gw_at 895 (by decide +kernel) rfl
theorem gi_Z_ends : Cond.instanceMethod y_Z_ends ∈ gw := gw_at 893 (by decide +kernel) rfl
theorem gs_Z_ends : Cond.selects "CodePrunerModel" y_Z_ends y_Z_ends ∈ gw := gw_at 894 (by decide +kernel) rfl
def t_Z_ends : wm_St := (ws_seq (ws_if (wb_or (wb_or (wb_not (wx_un (fun v => wr_ne v 0) (wx_fi w_L 8 12 (wx_r 0)))) (wb_not (wx_un (fun v => wr_ne v 0) (wx_call wm_pi f_Z_isBlock (wx_ac .ref (wx_r 0) (wx_a1 .int (wx_i 1))))))) (wx_un (fun v => wr_ne v 0) (wx_call wm_pi f_Z_outside (wx_ac .int (wx_i 2) (wx_ac .int (wx_c (0 : Int32)) (wx_a1 .int (wx_c (2 : Int32))))))))
  (ws_ret .int (wx_call wm_pi f_Z_refuse (wx_ac .ref (wx_r 0) (wx_a1 .int (wx_c (1 : Int32)))))))
  (ws_seq (ws_fi w_L 8 0 (wx_r 0) (wx_c (0 : Int32)))
  (ws_ret .int (wx_cond (wx_un (fun v => wr_eq v 0) (wx_i 2)) (wx_ai w_L 0 (wx_fr w_L 8 19 (wx_r 0)) (wx_i 1)) (wx_cond (wx_bin wr_eq (wx_i 2) (wx_c (1 : Int32))) (wx_ai w_L 0 (wx_fr w_L 8 20 (wx_r 0)) (wx_i 1)) (wx_ai w_L 0 (wx_fr w_L 8 21 (wx_r 0)) (wx_i 1)))))))
def f_Z_ends : List Value → wm_S → Option (Option Value × wm_S) := wm_fn (wm_isc w_L 8) 1 3 t_Z_ends
def rm_Z_ends : Room := { frames := 2, locals := 43 }
abbrev cV_Z_ends : List (Nat × wm_M) := [(118, 2, f_Z_isBlock), (181, 2, f_Z_refuse)]
abbrev cS_Z_ends : List (Nat × wm_M) := [(104, 3, f_Z_outside)]
set_option maxRecDepth 20000 in
theorem bd_Z_ends (w : wm_K) (ret : Option Value → wm_S → Prop) (hc : wm_cl w_L fl_Z cs_Z none cV_Z_ends cS_Z_ends ret tb_Z_ends w) : wm_T w tb_Z_ends ret 0 9999 t_Z_ends :=
  (wm_t_seq (wm_t_if (wm_b_or (wm_b_or (wm_b_not (wm_b_un hc (wm_x_fi hc (wm_x_rn hc rfl rfl) rfl rfl) rfl rfl wm_z_neF)) (wm_b_not (wm_b_un hc (wm_x_callV hc wm_pi_ok (wm_a_c (wm_x_rn hc rfl rfl) (wm_a_1 (wm_x_in hc rfl rfl))) rfl rfl (by decide)) rfl rfl wm_z_neF))) (wm_b_un hc (wm_x_callS hc wm_pi_ok (wm_a_c (wm_x_in hc rfl rfl) (wm_a_c (wm_x_iconst hc rfl (by decide)) (wm_a_1 (wm_x_iconst hc rfl (by decide))))) rfl rfl (by decide)) rfl rfl wm_z_neF))
  (wm_t_ret hc (wm_x_callV hc wm_pi_ok (wm_a_c (wm_x_rn hc rfl rfl) (wm_a_1 (wm_x_iconst hc rfl (by decide)))) rfl rfl (by decide)) rfl rfl (fun _ _ _ _ q => q)) rfl)
  (wm_t_seq (wm_t_fi hc (wm_x_rn hc rfl rfl) (wm_x_iconst hc rfl (by decide)) rfl rfl)
  (wm_t_ret hc (wm_x_cond (wm_b_un hc (wm_x_in hc rfl rfl) rfl rfl wm_z_eqF) (wm_x_ai hc (wm_x_fr hc (wm_x_rn hc rfl rfl) rfl rfl) (wm_x_in hc rfl rfl) rfl) (wm_x_cond (wm_b_cmp hc (wm_x_in hc rfl rfl) (wm_x_iconst hc rfl (by decide)) rfl rfl wm_j_eqF) (wm_x_ai hc (wm_x_fr hc (wm_x_rn hc rfl rfl) rfl rfl) (wm_x_in hc rfl rfl) rfl) (wm_x_ai hc (wm_x_fr hc (wm_x_rn hc rfl rfl) rfl rfl) (wm_x_in hc rfl rfl) rfl) rfl) rfl) rfl rfl (fun _ _ _ _ q => q))))
theorem c_Z_ends {l : Launch} {D : va_G} {A : Nat → Prop} {ad : Nat → Nat} {cA : Nat → ClassId} (hY : wm_Y cl0 (tys0 cA) A ad cA w_L) : wm_con l y_Z_ends (cd_Z_ends :: gw) rm_Z_ends D cl0 (tys0 cA) A ad cA w_L f_Z_ends :=
  wm_meth (cV := cV_Z_ends) (cS := cS_Z_ends) (by decide) rfl hY (fun r h => wm_fok_mono (fun _ h => List.mem_cons_of_mem _ h) (fk_Z r h)) (fun r h => wm_cok_mono (fun _ h => List.mem_cons_of_mem _ h) (ck_Z r h)) tk_Z_ends
    (List.forall_mem_cons.mpr ⟨⟨y_Z_isBlock, b_Z_isBlock, 2, wm_rtT 3, cd_Z_isBlock :: gw, gw, rm_Z_isBlock, 1, 8, 29, T_Z, c_Z_isBlock hY, rfl, gw_V (gw_at 784 (by decide +kernel) rfl) gi_Z_isBlock gs_Z_isBlock gn_Z cw_Z_isBlock, rfl, rfl, ⟨by decide, by decide, by decide +kernel⟩, rfl, ⟨by decide, by decide⟩, rfl, fun vs S r h => (wm_fn_some (v := r.1) (S' := r.2) h).1⟩, List.forall_mem_cons.mpr ⟨⟨y_Z_refuse, b_Z_refuse, 2, wm_rtT 1, cd_Z_refuse :: gw, gw, rm_Z_refuse, 1, 8, 29, T_Z, c_Z_refuse hY, rfl, gw_V (gw_at 880 (by decide +kernel) rfl) gi_Z_refuse gs_Z_refuse gn_Z cw_Z_refuse, rfl, rfl, ⟨by decide, by decide, by decide +kernel⟩, rfl, ⟨by decide, by decide⟩, rfl, fun vs S r h => (wm_fn_some (v := r.1) (S' := r.2) h).1⟩, fun _ h => nomatch h⟩⟩)
    (List.forall_mem_cons.mpr ⟨⟨y_Z_outside, b_Z_outside, 3, wm_rtT 3, cd_Z_outside :: gw, gw, rm_Z_outside, c_Z_outside hY, rfl, gw_S (gw_at 772 (by decide +kernel) rfl) gi_Z_outside gn_Z cw_Z_outside, rfl, rfl, ⟨by decide, by decide, by decide +kernel⟩, ⟨by decide, by decide⟩⟩, fun _ h => nomatch h⟩)
    bd_Z_ends
/-! CodePrunerModel.act -/
def y_Z_act : MethodName := ⟨"CodePrunerModel", "act", "(I)Z"⟩
abbrev b_Z_act : ByteArray := prog_10_method_39_code
def tb_Z_act : List wm_R := [(0, .aload_n 0, 1, 0), (1, .dup, 2, 0), (2, .getfield 83, 5, 0), (5, .iconst 1, 6, 0), (6, .iadd, 7, 0), (7, .putfield 83, 10, 0), (10, .aload_n 0, 11, 0), (11, .getfield 25, 14, 0), (14, .iload_n 1, 15, 0), (15, .iaload, 16, 0), (16, .invokestatic 112, 19, 0), (19, .ifCond .eq 17, 22, 36), (22, .aload_n 0, 23, 0), (23, .getfield 65, 26, 0), (26, .aload_n 0, 27, 0), (27, .getfield 31, 30, 0), (30, .iload_n 1, 31, 0), (31, .iaload, 32, 0), (32, .iaload, 33, 0), (33, .goto 4, 36, 37), (36, .iconst 0, 37, 0), (37, .istore_n 2, 38, 0), (38, .aload_n 0, 39, 0), (39, .getfield 25, 42, 0), (42, .iload_n 1, 43, 0), (43, .iaload, 44, 0), (44, .invokestatic 115, 47, 0), (47, .ifCond .eq 17, 50, 64), (50, .aload_n 0, 51, 0), (51, .getfield 65, 54, 0), (54, .aload_n 0, 55, 0), (55, .getfield 34, 58, 0), (58, .iload_n 1, 59, 0), (59, .iaload, 60, 0), (60, .iaload, 61, 0), (61, .goto 4, 64, 65), (64, .iconst 0, 65, 0), (65, .istore_n 3, 66, 0), (66, .aload_n 0, 67, 0), (67, .getfield 25, 70, 0), (70, .iload_n 1, 71, 0), (71, .iaload, 72, 0), (72, .tableswitch 196 0 6 #[44, 64, 79, 96, 113, 130, 153], 116, 0), (116, .aload_n 0, 117, 0), (117, .getfield 65, 120, 0), (120, .aload_n 0, 121, 0), (121, .getfield 28, 124, 0), (124, .iload_n 1, 125, 0), (125, .iaload, 126, 0), (126, .aload_n 0, 127, 0), (127, .getfield 31, 130, 0), (130, .iload_n 1, 131, 0), (131, .iaload, 132, 0), (132, .iastore, 133, 0), (133, .goto 174, 136, 307), (136, .aload_n 0, 137, 0), (137, .getfield 65, 140, 0), (140, .aload_n 0, 141, 0), (141, .getfield 28, 144, 0), (144, .iload_n 1, 145, 0), (145, .iaload, 146, 0), (146, .iload_n 2, 147, 0), (147, .iastore, 148, 0), (148, .goto 159, 151, 307), (151, .aload_n 0, 152, 0), (152, .getfield 65, 155, 0), (155, .aload_n 0, 156, 0), (156, .getfield 28, 159, 0), (159, .iload_n 1, 160, 0), (160, .iaload, 161, 0), (161, .iload_n 2, 162, 0), (162, .iload_n 3, 163, 0), (163, .iadd, 164, 0), (164, .iastore, 165, 0), (165, .goto 142, 168, 307), (168, .aload_n 0, 169, 0), (169, .getfield 65, 172, 0), (172, .aload_n 0, 173, 0), (173, .getfield 28, 176, 0), (176, .iload_n 1, 177, 0), (177, .iaload, 178, 0), (178, .iload_n 2, 179, 0), (179, .iload_n 3, 180, 0), (180, .isub, 181, 0), (181, .iastore, 182, 0), (182, .goto 125, 185, 307), (185, .aload_n 0, 186, 0), (186, .getfield 65, 189, 0), (189, .aload_n 0, 190, 0), (190, .getfield 28, 193, 0), (193, .iload_n 1, 194, 0), (194, .iaload, 195, 0), (195, .iload_n 2, 196, 0), (196, .iload_n 3, 197, 0), (197, .imul, 198, 0), (198, .iastore, 199, 0), (199, .goto 108, 202, 307), (202, .iload_n 3, 203, 0), (203, .ifCond .ne 5, 206, 208), (206, .iconst 0, 207, 0), (207, .ireturn, 208, 0), (208, .aload_n 0, 209, 0), (209, .getfield 65, 212, 0), (212, .aload_n 0, 213, 0), (213, .getfield 28, 216, 0), (216, .iload_n 1, 217, 0), (217, .iaload, 218, 0), (218, .iload_n 2, 219, 0), (219, .iload_n 3, 220, 0), (220, .idiv, 221, 0), (221, .iastore, 222, 0), (222, .goto 85, 225, 307), (225, .aload_n 0, 226, 0), (226, .getfield 65, 229, 0), (229, .aload_n 0, 230, 0), (230, .getfield 28, 233, 0), (233, .iload_n 1, 234, 0), (234, .iaload, 235, 0), (235, .aload_n 0, 236, 0), (236, .getfield 95, 239, 0), (239, .iconst 4, 240, 0), (240, .aload_n 0, 241, 0), (241, .getfield 92, 244, 0), (244, .bipush 8, 246, 0), (246, .irem, 247, 0), (247, .imul, 248, 0), (248, .ishr, 249, 0), (249, .bipush 15, 251, 0), (251, .iand, 252, 0), (252, .iconst 4, 253, 0), (253, .isub, 254, 0), (254, .iastore, 255, 0), (255, .aload_n 0, 256, 0), (256, .dup, 257, 0), (257, .getfield 92, 260, 0), (260, .iconst 1, 261, 0), (261, .iadd, 262, 0), (262, .putfield 92, 265, 0), (265, .goto 42, 268, 307), (268, .aload_n 0, 269, 0), (269, .getfield 86, 272, 0), (272, .bipush 50, 274, 0), (274, .if_icmp .ge 23, 277, 297), (277, .aload_n 0, 278, 0), (278, .getfield 68, 281, 0), (281, .aload_n 0, 282, 0), (282, .getfield 86, 285, 0), (285, .aload_n 0, 286, 0), (286, .getfield 65, 289, 0), (289, .aload_n 0, 290, 0), (290, .getfield 28, 293, 0), (293, .iload_n 1, 294, 0), (294, .iaload, 295, 0), (295, .iaload, 296, 0), (296, .iastore, 297, 0), (297, .aload_n 0, 298, 0), (298, .dup, 299, 0), (299, .getfield 86, 302, 0), (302, .iconst 1, 303, 0), (303, .iadd, 304, 0), (304, .putfield 86, 307, 0), (307, .iconst 1, 308, 0), (308, .ireturn, 309, 0)]
theorem tk_Z_act : tb_Z_act.all (wm_rokb b_Z_act) = true := by decide +kernel
abbrev cd_Z_act : Cond := Cond.code y_Z_act b_Z_act 4 (wm_rtT 3)
theorem cw_Z_act : cd_Z_act ∈ gw := gw_at 903 (by decide +kernel) rfl
theorem gi_Z_act : Cond.instanceMethod y_Z_act ∈ gw := gw_at 902 (by decide +kernel) rfl
theorem gs_Z_act : Cond.selects "CodePrunerModel" y_Z_act y_Z_act ∈ gw := gw_of (List.mem_append_left _ (List.mem_of_getElem? (i := 41) (by decide +kernel))) rfl
def t_Z_act : wm_St := (ws_seq (ws_ofi w_L 8 23 wo_iadd (wx_r 0) (wx_c (1 : Int32)))
  (ws_seq (ws_i 2 (wx_cond (wx_un (fun v => wr_ne v 0) (wx_call wm_pi f_Z_hasFirst (wx_a1 .int (wx_ai w_L 0 (wx_fr w_L 8 8 (wx_r 0)) (wx_i 1))))) (wx_ai w_L 0 (wx_fr w_L 8 22 (wx_r 0)) (wx_ai w_L 0 (wx_fr w_L 8 10 (wx_r 0)) (wx_i 1))) (wx_c (0 : Int32))))
  (ws_seq (ws_i 3 (wx_cond (wx_un (fun v => wr_ne v 0) (wx_call wm_pi f_Z_hasSecond (wx_a1 .int (wx_ai w_L 0 (wx_fr w_L 8 8 (wx_r 0)) (wx_i 1))))) (wx_ai w_L 0 (wx_fr w_L 8 22 (wx_r 0)) (wx_ai w_L 0 (wx_fr w_L 8 11 (wx_r 0)) (wx_i 1))) (wx_c (0 : Int32))))
  (ws_seq (ws_sw (wx_ai w_L 0 (wx_fr w_L 8 8 (wx_r 0)) (wx_i 1)) 0 [(ws_ai w_L (wx_fr w_L 8 22 (wx_r 0)) (wx_ai w_L 0 (wx_fr w_L 8 9 (wx_r 0)) (wx_i 1)) (wx_ai w_L 0 (wx_fr w_L 8 10 (wx_r 0)) (wx_i 1))),
  (ws_ai w_L (wx_fr w_L 8 22 (wx_r 0)) (wx_ai w_L 0 (wx_fr w_L 8 9 (wx_r 0)) (wx_i 1)) (wx_i 2)),
  (ws_ai w_L (wx_fr w_L 8 22 (wx_r 0)) (wx_ai w_L 0 (wx_fr w_L 8 9 (wx_r 0)) (wx_i 1)) (wx_bin wo_iadd (wx_i 2) (wx_i 3))),
  (ws_ai w_L (wx_fr w_L 8 22 (wx_r 0)) (wx_ai w_L 0 (wx_fr w_L 8 9 (wx_r 0)) (wx_i 1)) (wx_bin wo_isub (wx_i 2) (wx_i 3))),
  (ws_ai w_L (wx_fr w_L 8 22 (wx_r 0)) (wx_ai w_L 0 (wx_fr w_L 8 9 (wx_r 0)) (wx_i 1)) (wx_bin wo_imul (wx_i 2) (wx_i 3))),
  (ws_seq (ws_if (wx_un (fun v => wr_eq v 0) (wx_i 3))
  (ws_ret .int (wx_c (0 : Int32))))
  (ws_ai w_L (wx_fr w_L 8 22 (wx_r 0)) (wx_ai w_L 0 (wx_fr w_L 8 9 (wx_r 0)) (wx_i 1)) (wx_div (wx_i 2) (wx_i 3)))),
  (ws_seq (ws_ai w_L (wx_fr w_L 8 22 (wx_r 0)) (wx_ai w_L 0 (wx_fr w_L 8 9 (wx_r 0)) (wx_i 1)) (wx_bin wo_isub (wx_bin wo_iand (wx_bin wo_ishr (wx_fi w_L 8 26 (wx_r 0)) (wx_bin wo_imul (wx_c (4 : Int32)) (wx_rem (wx_fi w_L 8 27 (wx_r 0)) (wx_c (8 : Int32))))) (wx_c (15 : Int32))) (wx_c (4 : Int32))))
  (ws_ofi w_L 8 27 wo_iadd (wx_r 0) (wx_c (1 : Int32))))]
  (ws_seq (ws_if (wx_bin wr_lt (wx_fi w_L 8 24 (wx_r 0)) (wx_c (50 : Int32)))
  (ws_ai w_L (wx_fr w_L 8 28 (wx_r 0)) (wx_fi w_L 8 24 (wx_r 0)) (wx_ai w_L 0 (wx_fr w_L 8 22 (wx_r 0)) (wx_ai w_L 0 (wx_fr w_L 8 9 (wx_r 0)) (wx_i 1)))))
  (ws_ofi w_L 8 24 wo_iadd (wx_r 0) (wx_c (1 : Int32)))))
  (ws_ret .int (wx_c (1 : Int32)))))))
def f_Z_act : List Value → wm_S → Option (Option Value × wm_S) := wm_fn (wm_isc w_L 8) 3 4 t_Z_act
def rm_Z_act : Room := { frames := 1, locals := 20 }
abbrev cV_Z_act : List (Nat × wm_M) := []
abbrev cS_Z_act : List (Nat × wm_M) := [(112, 1, f_Z_hasFirst), (115, 1, f_Z_hasSecond)]
set_option maxRecDepth 20000 in
theorem bd_Z_act (w : wm_K) (ret : Option Value → wm_S → Prop) (hc : wm_cl w_L fl_Z cs_Z none cV_Z_act cS_Z_act ret tb_Z_act w) : wm_T w tb_Z_act ret 0 9999 t_Z_act :=
  (wm_t_seq (wm_t_ofi hc (wm_x_rn hc rfl rfl) rfl rfl (wm_x_iconst hc rfl (by decide)) rfl rfl (fun _ _ _ _ _ _ q => q) rfl rfl)
  (wm_t_seq (wm_t_in hc (wm_x_cond (wm_b_un hc (wm_x_callS hc wm_pi_ok (wm_a_1 (wm_x_ai hc (wm_x_fr hc (wm_x_rn hc rfl rfl) rfl rfl) (wm_x_in hc rfl rfl) rfl)) rfl rfl (by decide)) rfl rfl wm_z_neF) (wm_x_ai hc (wm_x_fr hc (wm_x_rn hc rfl rfl) rfl rfl) (wm_x_ai hc (wm_x_fr hc (wm_x_rn hc rfl rfl) rfl rfl) (wm_x_in hc rfl rfl) rfl) rfl) (wm_x_iconst hc rfl (by decide)) rfl) rfl rfl)
  (wm_t_seq (wm_t_in hc (wm_x_cond (wm_b_un hc (wm_x_callS hc wm_pi_ok (wm_a_1 (wm_x_ai hc (wm_x_fr hc (wm_x_rn hc rfl rfl) rfl rfl) (wm_x_in hc rfl rfl) rfl)) rfl rfl (by decide)) rfl rfl wm_z_neF) (wm_x_ai hc (wm_x_fr hc (wm_x_rn hc rfl rfl) rfl rfl) (wm_x_ai hc (wm_x_fr hc (wm_x_rn hc rfl rfl) rfl rfl) (wm_x_in hc rfl rfl) rfl) rfl) (wm_x_iconst hc rfl (by decide)) rfl) rfl rfl)
  (wm_t_seq (wm_t_sw (pE := 307) hc (wm_x_ai hc (wm_x_fr hc (wm_x_rn hc rfl rfl) rfl rfl) (wm_x_in hc rfl rfl) rfl) rfl rfl
  ⟨⟨116, _, rfl, (wm_t_ai hc (wm_x_fr hc (wm_x_rn hc rfl rfl) rfl rfl) (wm_x_ai hc (wm_x_fr hc (wm_x_rn hc rfl rfl) rfl rfl) (wm_x_in hc rfl rfl) rfl) (wm_x_ai hc (wm_x_fr hc (wm_x_rn hc rfl rfl) rfl rfl) (wm_x_in hc rfl rfl) rfl) rfl), rfl⟩, ⟨⟨136, _, rfl, (wm_t_ai hc (wm_x_fr hc (wm_x_rn hc rfl rfl) rfl rfl) (wm_x_ai hc (wm_x_fr hc (wm_x_rn hc rfl rfl) rfl rfl) (wm_x_in hc rfl rfl) rfl) (wm_x_in hc rfl rfl) rfl), rfl⟩, ⟨⟨151, _, rfl, (wm_t_ai hc (wm_x_fr hc (wm_x_rn hc rfl rfl) rfl rfl) (wm_x_ai hc (wm_x_fr hc (wm_x_rn hc rfl rfl) rfl rfl) (wm_x_in hc rfl rfl) rfl) (wm_x_bin hc (wm_x_in hc rfl rfl) (wm_x_in hc rfl rfl) rfl rfl (fun _ _ _ _ _ _ q => q)) rfl), rfl⟩, ⟨⟨168, _, rfl, (wm_t_ai hc (wm_x_fr hc (wm_x_rn hc rfl rfl) rfl rfl) (wm_x_ai hc (wm_x_fr hc (wm_x_rn hc rfl rfl) rfl rfl) (wm_x_in hc rfl rfl) rfl) (wm_x_bin hc (wm_x_in hc rfl rfl) (wm_x_in hc rfl rfl) rfl rfl (fun _ _ _ _ _ _ q => q)) rfl), rfl⟩, ⟨⟨185, _, rfl, (wm_t_ai hc (wm_x_fr hc (wm_x_rn hc rfl rfl) rfl rfl) (wm_x_ai hc (wm_x_fr hc (wm_x_rn hc rfl rfl) rfl rfl) (wm_x_in hc rfl rfl) rfl) (wm_x_bin hc (wm_x_in hc rfl rfl) (wm_x_in hc rfl rfl) rfl rfl (fun _ _ _ _ _ _ q => q)) rfl), rfl⟩, ⟨⟨202, _, rfl, (wm_t_seq (wm_t_if (wm_b_un hc (wm_x_in hc rfl rfl) rfl rfl wm_z_eqF)
  (wm_t_ret hc (wm_x_iconst hc rfl (by decide)) rfl rfl (fun _ _ _ _ q => q)) rfl)
  (wm_t_ai hc (wm_x_fr hc (wm_x_rn hc rfl rfl) rfl rfl) (wm_x_ai hc (wm_x_fr hc (wm_x_rn hc rfl rfl) rfl rfl) (wm_x_in hc rfl rfl) rfl) (wm_x_div hc (wm_x_in hc rfl rfl) (wm_x_in hc rfl rfl) rfl) rfl)), rfl⟩, ⟨⟨225, _, rfl, (wm_t_seq (wm_t_ai hc (wm_x_fr hc (wm_x_rn hc rfl rfl) rfl rfl) (wm_x_ai hc (wm_x_fr hc (wm_x_rn hc rfl rfl) rfl rfl) (wm_x_in hc rfl rfl) rfl) (wm_x_bin hc (wm_x_bin hc (wm_x_bin hc (wm_x_fi hc (wm_x_rn hc rfl rfl) rfl rfl) (wm_x_bin hc (wm_x_iconst hc rfl (by decide)) (wm_x_rem hc (wm_x_fi hc (wm_x_rn hc rfl rfl) rfl rfl) (wm_x_bipush hc rfl (by decide)) rfl) rfl rfl (fun _ _ _ _ _ _ q => q)) rfl rfl (fun _ _ _ _ _ _ q => q)) (wm_x_bipush hc rfl (by decide)) rfl rfl (fun _ _ _ _ _ _ q => q)) (wm_x_iconst hc rfl (by decide)) rfl rfl (fun _ _ _ _ _ _ q => q)) rfl)
  (wm_t_ofi hc (wm_x_rn hc rfl rfl) rfl rfl (wm_x_iconst hc rfl (by decide)) rfl rfl (fun _ _ _ _ _ _ q => q) rfl rfl)), rfl⟩, trivial⟩⟩⟩⟩⟩⟩⟩
  ⟨268, _, rfl, (wm_t_seq (wm_t_if (wm_b_cmp hc (wm_x_fi hc (wm_x_rn hc rfl rfl) rfl rfl) (wm_x_bipush hc rfl (by decide)) rfl rfl wm_j_ltF)
  (wm_t_ai hc (wm_x_fr hc (wm_x_rn hc rfl rfl) rfl rfl) (wm_x_fi hc (wm_x_rn hc rfl rfl) rfl rfl) (wm_x_ai hc (wm_x_fr hc (wm_x_rn hc rfl rfl) rfl rfl) (wm_x_ai hc (wm_x_fr hc (wm_x_rn hc rfl rfl) rfl rfl) (wm_x_in hc rfl rfl) rfl) rfl) rfl) rfl)
  (wm_t_ofi hc (wm_x_rn hc rfl rfl) rfl rfl (wm_x_iconst hc rfl (by decide)) rfl rfl (fun _ _ _ _ _ _ q => q) rfl rfl)), rfl⟩)
  (wm_t_ret hc (wm_x_iconst hc rfl (by decide)) rfl rfl (fun _ _ _ _ q => q))))))
theorem c_Z_act {l : Launch} {D : va_G} {A : Nat → Prop} {ad : Nat → Nat} {cA : Nat → ClassId} (hY : wm_Y cl0 (tys0 cA) A ad cA w_L) : wm_con l y_Z_act (cd_Z_act :: gw) rm_Z_act D cl0 (tys0 cA) A ad cA w_L f_Z_act :=
  wm_meth (cV := cV_Z_act) (cS := cS_Z_act) (by decide) rfl hY (fun r h => wm_fok_mono (fun _ h => List.mem_cons_of_mem _ h) (fk_Z r h)) (fun r h => wm_cok_mono (fun _ h => List.mem_cons_of_mem _ h) (ck_Z r h)) tk_Z_act
    (fun _ h => nomatch h)
    (List.forall_mem_cons.mpr ⟨⟨y_Z_hasFirst, b_Z_hasFirst, 1, wm_rtT 3, cd_Z_hasFirst :: gw, gw, rm_Z_hasFirst, c_Z_hasFirst hY, rfl, gw_S (gw_at 778 (by decide +kernel) rfl) gi_Z_hasFirst gn_Z cw_Z_hasFirst, rfl, rfl, ⟨by decide, by decide, by decide +kernel⟩, ⟨by decide, by decide⟩⟩, List.forall_mem_cons.mpr ⟨⟨y_Z_hasSecond, b_Z_hasSecond, 1, wm_rtT 3, cd_Z_hasSecond :: gw, gw, rm_Z_hasSecond, c_Z_hasSecond hY, rfl, gw_S (gw_at 781 (by decide +kernel) rfl) gi_Z_hasSecond gn_Z cw_Z_hasSecond, rfl, rfl, ⟨by decide, by decide, by decide +kernel⟩, ⟨by decide, by decide⟩⟩, fun _ h => nomatch h⟩⟩)
    bd_Z_act
/-! CodePrunerModel.run -/
def y_Z_run : MethodName := ⟨"CodePrunerModel", "run", "(ZII)I"⟩
abbrev b_Z_run : ByteArray := prog_10_method_40_code
def tb_Z_run : List wm_R := [(0, .aload_n 0, 1, 0), (1, .aload_n 0, 2, 0), (2, .getfield 98, 5, 0), (5, .ifCond .eq 14, 8, 19), (8, .iload_n 1, 9, 0), (9, .ifCond .eq 14, 12, 23), (12, .aload_n 0, 13, 0), (13, .getfield 75, 16, 0), (16, .ifCond .ne 7, 19, 23), (19, .iconst 1, 20, 0), (20, .goto 15, 23, 35), (23, .aload_n 0, 24, 0), (24, .invokevirtual 128, 27, 0), (27, .ifCond .eq 7, 30, 34), (30, .iconst 0, 31, 0), (31, .goto 4, 34, 35), (34, .iconst 2, 35, 0), (35, .putfield 71, 38, 0), (38, .aload_n 0, 39, 0), (39, .getfield 71, 42, 0), (42, .ifCond .le 5, 45, 47), (45, .iconst 0, 46, 0), (46, .ireturn, 47, 0), (47, .aload_n 0, 48, 0), (48, .iload_n 2, 49, 0), (49, .invokevirtual 79, 52, 0), (52, .iload_n 3, 53, 0), (53, .sipush 2000, 56, 0), (56, .if_icmp .le 9, 59, 65), (59, .sipush 2000, 62, 0), (62, .goto 4, 65, 66), (65, .iload_n 3, 66, 0), (66, .istore 4, 68, 0), (68, .iconst 0, 69, 0), (69, .istore 5, 71, 0), (71, .iconst 0, 72, 0), (72, .istore 6, 74, 0), (74, .aload_n 0, 75, 0), (75, .getfield 83, 78, 0), (78, .iload 4, 80, 0), (80, .if_icmp .ge 214, 83, 294), (83, .iload 6, 85, 0), (85, .aload_n 0, 86, 0), (86, .getfield 121, 89, 0), (89, .if_icmp .ne 150, 92, 239), (92, .aload_n 0, 93, 0), (93, .dup, 94, 0), (94, .getfield 83, 97, 0), (97, .iconst 1, 98, 0), (98, .iadd, 99, 0), (99, .putfield 83, 102, 0), (102, .iload_n 1, 103, 0), (103, .ifCond .eq 13, 106, 116), (106, .aload_n 0, 107, 0), (107, .getfield 56, 110, 0), (110, .iload 5, 112, 0), (112, .iaload, 113, 0), (113, .goto 10, 116, 123), (116, .aload_n 0, 117, 0), (117, .getfield 7, 120, 0), (120, .iload 5, 122, 0), (122, .iaload, 123, 0), (123, .istore 7, 125, 0), (125, .iload 7, 127, 0), (127, .ifCond .ne 21, 130, 148), (130, .aload_n 0, 131, 0), (131, .aload_n 0, 132, 0), (132, .getfield 65, 135, 0), (135, .aload_n 0, 136, 0), (136, .getfield 13, 139, 0), (139, .iload 5, 141, 0), (141, .iaload, 142, 0), (142, .iaload, 143, 0), (143, .putfield 89, 146, 0), (146, .iconst 0, 147, 0), (147, .ireturn, 148, 0), (148, .iload 7, 150, 0), (150, .iconst 1, 151, 0), (151, .if_icmp .eq 18, 154, 169), (154, .aload_n 0, 155, 0), (155, .getfield 65, 158, 0), (158, .aload_n 0, 159, 0), (159, .getfield 13, 162, 0), (162, .iload 5, 164, 0), (164, .iaload, 165, 0), (165, .iaload, 166, 0), (166, .ifCond .eq 7, 169, 173), (169, .iconst 1, 170, 0), (170, .goto 4, 173, 174), (173, .iconst 0, 174, 0), (174, .istore 8, 176, 0), (176, .iload_n 1, 177, 0), (177, .ifCond .eq 28, 180, 205), (180, .iload 8, 182, 0), (182, .ifCond .eq 13, 185, 195), (185, .aload_n 0, 186, 0), (186, .getfield 59, 189, 0), (189, .iload 5, 191, 0), (191, .iaload, 192, 0), (192, .goto 35, 195, 227), (195, .aload_n 0, 196, 0), (196, .getfield 62, 199, 0), (199, .iload 5, 201, 0), (201, .iaload, 202, 0), (202, .goto 25, 205, 227), (205, .iload 8, 207, 0), (207, .ifCond .eq 13, 210, 220), (210, .aload_n 0, 211, 0), (211, .getfield 16, 214, 0), (214, .iload 5, 216, 0), (216, .iaload, 217, 0), (217, .goto 10, 220, 227), (220, .aload_n 0, 221, 0), (221, .getfield 19, 224, 0), (224, .iload 5, 226, 0), (226, .iaload, 227, 0), (227, .istore 9, 229, 0), (229, .iload 9, 231, 0), (231, .istore 5, 233, 0), (233, .iconst 0, 234, 0), (234, .istore 6, 236, 0), (236, .goto (-162), 239, 74), (239, .aload_n 0, 240, 0), (240, .getfield 22, 243, 0), (243, .iload 6, 245, 0), (245, .iaload, 246, 0), (246, .iload 5, 248, 0), (248, .if_icmp .ne 21, 251, 269), (251, .iload_n 1, 252, 0), (252, .ifCond .eq 13, 255, 265), (255, .aload_n 0, 256, 0), (256, .getfield 50, 259, 0), (259, .iload 6, 261, 0), (261, .baload, 262, 0), (262, .ifCond .eq 7, 265, 269), (265, .iconst 1, 266, 0), (266, .goto 4, 269, 270), (269, .iconst 0, 270, 0), (270, .istore 7, 272, 0), (272, .iload 7, 274, 0), (274, .ifCond .eq 14, 277, 288), (277, .aload_n 0, 278, 0), (278, .iload 6, 280, 0), (280, .invokevirtual 184, 283, 0), (283, .ifCond .ne 5, 286, 288), (286, .iconst 1, 287, 0), (287, .ireturn, 288, 0), (288, .iinc 6 1, 291, 0), (291, .goto (-217), 294, 74), (294, .iconst 2, 295, 0), (295, .ireturn, 296, 0)]
theorem tk_Z_run : tb_Z_run.all (wm_rokb b_Z_run) = true := by decide +kernel
abbrev cd_Z_run : Cond := Cond.code y_Z_run b_Z_run 10 (wm_rtT 1)
theorem cw_Z_run : cd_Z_run ∈ gw := gw_at 899 (by decide +kernel) rfl
theorem gi_Z_run : Cond.instanceMethod y_Z_run ∈ gw := gw_at 897 (by decide +kernel) rfl
theorem gs_Z_run : Cond.selects "CodePrunerModel" y_Z_run y_Z_run ∈ gw := gw_at 898 (by decide +kernel) rfl
def t_Z_run : wm_St := (ws_seq (ws_fi w_L 8 0 (wx_r 0) (wx_cond (wb_or (wx_un (fun v => wr_eq v 0) (wx_fi w_L 8 1 (wx_r 0))) (wb_and (wx_un (fun v => wr_ne v 0) (wx_i 1)) (wb_not (wx_un (fun v => wr_ne v 0) (wx_fi w_L 8 12 (wx_r 0)))))) (wx_c (1 : Int32)) (wx_cond (wx_un (fun v => wr_ne v 0) (wx_call wm_pi f_Z_closed (wx_a1 .ref (wx_r 0)))) (wx_c (0 : Int32)) (wx_c (2 : Int32)))))
  (ws_seq (ws_if (wx_un (fun v => wr_gt v 0) (wx_fi w_L 8 0 (wx_r 0)))
  (ws_ret .int (wx_c (0 : Int32))))
  (ws_seq (ws_call f_Z_begin (wx_ac .ref (wx_r 0) (wx_a1 .int (wx_i 2))))
  (ws_seq (ws_i 4 (wx_cond (wx_bin wr_gt (wx_i 3) (wx_c (2000 : Int32))) (wx_c (2000 : Int32)) (wx_i 3)))
  (ws_seq (ws_i 5 (wx_c (0 : Int32)))
  (ws_seq (ws_i 6 (wx_c (0 : Int32)))
  (ws_seq (ws_loop (wx_bin wr_lt (wx_fi w_L 8 23 (wx_r 0)) (wx_i 4))
  (ws_ife (wx_bin wr_eq (wx_i 6) (wx_fi w_L 8 6 (wx_r 0)))
  (ws_seq (ws_ofi w_L 8 23 wo_iadd (wx_r 0) (wx_c (1 : Int32)))
  (ws_seq (ws_i 7 (wx_cond (wx_un (fun v => wr_ne v 0) (wx_i 1)) (wx_ai w_L 0 (wx_fr w_L 8 19 (wx_r 0)) (wx_i 5)) (wx_ai w_L 0 (wx_fr w_L 8 2 (wx_r 0)) (wx_i 5))))
  (ws_seq (ws_if (wx_un (fun v => wr_eq v 0) (wx_i 7))
  (ws_seq (ws_fi w_L 8 25 (wx_r 0) (wx_ai w_L 0 (wx_fr w_L 8 22 (wx_r 0)) (wx_ai w_L 0 (wx_fr w_L 8 3 (wx_r 0)) (wx_i 5))))
  (ws_ret .int (wx_c (0 : Int32)))))
  (ws_seq (ws_i 8 (wx_cond (wb_or (wx_bin wr_eq (wx_i 7) (wx_c (1 : Int32))) (wx_un (fun v => wr_ne v 0) (wx_ai w_L 0 (wx_fr w_L 8 22 (wx_r 0)) (wx_ai w_L 0 (wx_fr w_L 8 3 (wx_r 0)) (wx_i 5))))) (wx_c (1 : Int32)) (wx_c (0 : Int32))))
  (ws_seq (ws_i 9 (wx_cond (wx_un (fun v => wr_ne v 0) (wx_i 1)) (wx_cond (wx_un (fun v => wr_ne v 0) (wx_i 8)) (wx_ai w_L 0 (wx_fr w_L 8 20 (wx_r 0)) (wx_i 5)) (wx_ai w_L 0 (wx_fr w_L 8 21 (wx_r 0)) (wx_i 5))) (wx_cond (wx_un (fun v => wr_ne v 0) (wx_i 8)) (wx_ai w_L 0 (wx_fr w_L 8 4 (wx_r 0)) (wx_i 5)) (wx_ai w_L 0 (wx_fr w_L 8 5 (wx_r 0)) (wx_i 5)))))
  (ws_seq (ws_i 5 (wx_i 9))
  (ws_i 6 (wx_c (0 : Int32)))))))))
  (ws_seq (ws_i 7 (wx_cond (wb_and (wx_bin wr_eq (wx_ai w_L 0 (wx_fr w_L 8 7 (wx_r 0)) (wx_i 6)) (wx_i 5)) (wb_or (wb_not (wx_un (fun v => wr_ne v 0) (wx_i 1))) (wx_un (fun v => wr_ne v 0) (wx_ai w_L 3 (wx_fr w_L 8 17 (wx_r 0)) (wx_i 6))))) (wx_c (1 : Int32)) (wx_c (0 : Int32))))
  (ws_seq (ws_if (wb_and (wx_un (fun v => wr_ne v 0) (wx_i 7)) (wb_not (wx_un (fun v => wr_ne v 0) (wx_call wm_pi f_Z_act (wx_ac .ref (wx_r 0) (wx_a1 .int (wx_i 6)))))))
  (ws_ret .int (wx_c (1 : Int32))))
  (ws_inc 6 (1 : Int32))))) w_N)
  (ws_ret .int (wx_c (2 : Int32))))))))))
def f_Z_run : List Value → wm_S → Option (Option Value × wm_S) := wm_fn (wm_isc w_L 8) 1 10 t_Z_run
def rm_Z_run : Room := { frames := 2, locals := 43 }
abbrev cV_Z_run : List (Nat × wm_M) := [(79, 2, f_Z_begin), (128, 1, f_Z_closed), (184, 2, f_Z_act)]
abbrev cS_Z_run : List (Nat × wm_M) := []
set_option maxRecDepth 20000 in
theorem bd_Z_run (w : wm_K) (ret : Option Value → wm_S → Prop) (hc : wm_cl w_L fl_Z cs_Z none cV_Z_run cS_Z_run ret tb_Z_run w) : wm_T w tb_Z_run ret 0 9999 t_Z_run :=
  (wm_t_seq (wm_t_fi hc (wm_x_rn hc rfl rfl) (wm_x_cond (wm_b_or (wm_b_un hc (wm_x_fi hc (wm_x_rn hc rfl rfl) rfl rfl) rfl rfl wm_z_eqT) (wm_b_and (wm_b_un hc (wm_x_in hc rfl rfl) rfl rfl wm_z_neF) (wm_b_not (wm_b_un hc (wm_x_fi hc (wm_x_rn hc rfl rfl) rfl rfl) rfl rfl wm_z_neT)))) (wm_x_iconst hc rfl (by decide)) (wm_x_cond (wm_b_un hc (wm_x_callV hc wm_pi_ok (wm_a_1 (wm_x_rn hc rfl rfl)) rfl rfl (by decide)) rfl rfl wm_z_neF) (wm_x_iconst hc rfl (by decide)) (wm_x_iconst hc rfl (by decide)) rfl) rfl) rfl rfl)
  (wm_t_seq (wm_t_if (wm_b_un hc (wm_x_fi hc (wm_x_rn hc rfl rfl) rfl rfl) rfl rfl wm_z_gtF)
  (wm_t_ret hc (wm_x_iconst hc rfl (by decide)) rfl rfl (fun _ _ _ _ q => q)) rfl)
  (wm_t_seq (wm_t_callV hc (wm_a_c (wm_x_rn hc rfl rfl) (wm_a_1 (wm_x_in hc rfl rfl))) rfl rfl)
  (wm_t_seq (wm_t_i hc (wm_x_cond (wm_b_cmp hc (wm_x_in hc rfl rfl) (wm_x_sipush hc rfl (by decide)) rfl rfl wm_j_gtF) (wm_x_sipush hc rfl (by decide)) (wm_x_in hc rfl rfl) rfl) rfl)
  (wm_t_seq (wm_t_i hc (wm_x_iconst hc rfl (by decide)) rfl)
  (wm_t_seq (wm_t_i hc (wm_x_iconst hc rfl (by decide)) rfl)
  (wm_t_seq (wm_t_loop (wm_b_cmp hc (wm_x_fi hc (wm_x_rn hc rfl rfl) rfl rfl) (wm_x_i hc rfl) rfl rfl wm_j_ltF)
  (wm_t_ife (wm_b_cmp hc (wm_x_i hc rfl) (wm_x_fi hc (wm_x_rn hc rfl rfl) rfl rfl) rfl rfl wm_j_eqF)
  (wm_t_seq (wm_t_ofi hc (wm_x_rn hc rfl rfl) rfl rfl (wm_x_iconst hc rfl (by decide)) rfl rfl (fun _ _ _ _ _ _ q => q) rfl rfl)
  (wm_t_seq (wm_t_i hc (wm_x_cond (wm_b_un hc (wm_x_in hc rfl rfl) rfl rfl wm_z_neF) (wm_x_ai hc (wm_x_fr hc (wm_x_rn hc rfl rfl) rfl rfl) (wm_x_i hc rfl) rfl) (wm_x_ai hc (wm_x_fr hc (wm_x_rn hc rfl rfl) rfl rfl) (wm_x_i hc rfl) rfl) rfl) rfl)
  (wm_t_seq (wm_t_if (wm_b_un hc (wm_x_i hc rfl) rfl rfl wm_z_eqF)
  (wm_t_seq (wm_t_fi hc (wm_x_rn hc rfl rfl) (wm_x_ai hc (wm_x_fr hc (wm_x_rn hc rfl rfl) rfl rfl) (wm_x_ai hc (wm_x_fr hc (wm_x_rn hc rfl rfl) rfl rfl) (wm_x_i hc rfl) rfl) rfl) rfl rfl)
  (wm_t_ret hc (wm_x_iconst hc rfl (by decide)) rfl rfl (fun _ _ _ _ q => q))) rfl)
  (wm_t_seq (wm_t_i hc (wm_x_cond (wm_b_or (wm_b_cmp hc (wm_x_i hc rfl) (wm_x_iconst hc rfl (by decide)) rfl rfl wm_j_eqT) (wm_b_un hc (wm_x_ai hc (wm_x_fr hc (wm_x_rn hc rfl rfl) rfl rfl) (wm_x_ai hc (wm_x_fr hc (wm_x_rn hc rfl rfl) rfl rfl) (wm_x_i hc rfl) rfl) rfl) rfl rfl wm_z_neF)) (wm_x_iconst hc rfl (by decide)) (wm_x_iconst hc rfl (by decide)) rfl) rfl)
  (wm_t_seq (wm_t_i hc (wm_x_cond (wm_b_un hc (wm_x_in hc rfl rfl) rfl rfl wm_z_neF) (wm_x_cond (wm_b_un hc (wm_x_i hc rfl) rfl rfl wm_z_neF) (wm_x_ai hc (wm_x_fr hc (wm_x_rn hc rfl rfl) rfl rfl) (wm_x_i hc rfl) rfl) (wm_x_ai hc (wm_x_fr hc (wm_x_rn hc rfl rfl) rfl rfl) (wm_x_i hc rfl) rfl) rfl) (wm_x_cond (wm_b_un hc (wm_x_i hc rfl) rfl rfl wm_z_neF) (wm_x_ai hc (wm_x_fr hc (wm_x_rn hc rfl rfl) rfl rfl) (wm_x_i hc rfl) rfl) (wm_x_ai hc (wm_x_fr hc (wm_x_rn hc rfl rfl) rfl rfl) (wm_x_i hc rfl) rfl) rfl) rfl) rfl)
  (wm_t_seq (wm_t_i hc (wm_x_i hc rfl) rfl)
  (wm_t_i hc (wm_x_iconst hc rfl (by decide)) rfl)))))))
  (wm_t_seq (wm_t_i hc (wm_x_cond (wm_b_and (wm_b_cmp hc (wm_x_ai hc (wm_x_fr hc (wm_x_rn hc rfl rfl) rfl rfl) (wm_x_i hc rfl) rfl) (wm_x_i hc rfl) rfl rfl wm_j_eqF) (wm_b_or (wm_b_not (wm_b_un hc (wm_x_in hc rfl rfl) rfl rfl wm_z_neF)) (wm_b_un hc (wm_x_az hc (wm_x_fr hc (wm_x_rn hc rfl rfl) rfl rfl) (wm_x_i hc rfl) rfl) rfl rfl wm_z_neF))) (wm_x_iconst hc rfl (by decide)) (wm_x_iconst hc rfl (by decide)) rfl) rfl)
  (wm_t_seq (wm_t_if (wm_b_and (wm_b_un hc (wm_x_i hc rfl) rfl rfl wm_z_neF) (wm_b_not (wm_b_un hc (wm_x_callV hc wm_pi_ok (wm_a_c (wm_x_rn hc rfl rfl) (wm_a_1 (wm_x_i hc rfl))) rfl rfl (by decide)) rfl rfl wm_z_neT)))
  (wm_t_ret hc (wm_x_iconst hc rfl (by decide)) rfl rfl (fun _ _ _ _ q => q)) rfl)
  (wm_t_inc hc rfl (by decide)))) rfl) rfl)
  (wm_t_ret hc (wm_x_iconst hc rfl (by decide)) rfl rfl (fun _ _ _ _ q => q)))))))))
theorem c_Z_run {l : Launch} {D : va_G} {A : Nat → Prop} {ad : Nat → Nat} {cA : Nat → ClassId} (hY : wm_Y cl0 (tys0 cA) A ad cA w_L) : wm_con l y_Z_run (cd_Z_run :: gw) rm_Z_run D cl0 (tys0 cA) A ad cA w_L f_Z_run :=
  wm_meth (cV := cV_Z_run) (cS := cS_Z_run) (by decide) rfl hY (fun r h => wm_fok_mono (fun _ h => List.mem_cons_of_mem _ h) (fk_Z r h)) (fun r h => wm_cok_mono (fun _ h => List.mem_cons_of_mem _ h) (ck_Z r h)) tk_Z_run
    (List.forall_mem_cons.mpr ⟨⟨y_Z_begin, b_Z_begin, 3, wm_rtT 0, cd_Z_begin :: gw, gw, rm_Z_begin, 1, 8, 29, T_Z, c_Z_begin hY, rfl, gw_V (gw_at 764 (by decide +kernel) rfl) gi_Z_begin gs_Z_begin gn_Z cw_Z_begin, rfl, rfl, ⟨by decide, by decide, by decide +kernel⟩, rfl, ⟨by decide, by decide⟩, rfl, fun vs S r h => (wm_fn_some (v := r.1) (S' := r.2) h).1⟩, List.forall_mem_cons.mpr ⟨⟨y_Z_closed, b_Z_closed, 3, wm_rtT 3, cd_Z_closed :: gw, gw, rm_Z_closed, 0, 8, 29, T_Z, c_Z_closed hY, rfl, gw_V (gw_at 804 (by decide +kernel) rfl) gi_Z_closed gs_Z_closed gn_Z cw_Z_closed, rfl, rfl, ⟨by decide, by decide, by decide +kernel⟩, rfl, ⟨by decide, by decide⟩, rfl, fun vs S r h => (wm_fn_some (v := r.1) (S' := r.2) h).1⟩, List.forall_mem_cons.mpr ⟨⟨y_Z_act, b_Z_act, 4, wm_rtT 3, cd_Z_act :: gw, gw, rm_Z_act, 1, 8, 29, T_Z, c_Z_act hY, rfl, gw_V (gw_at 900 (by decide +kernel) rfl) gi_Z_act gs_Z_act gn_Z cw_Z_act, rfl, rfl, ⟨by decide, by decide, by decide +kernel⟩, rfl, ⟨by decide, by decide⟩, rfl, fun vs S r h => (wm_fn_some (v := r.1) (S' := r.2) h).1⟩, fun _ h => nomatch h⟩⟩⟩)
    (fun _ h => nomatch h)
    bd_Z_run
/-! CodePrunerModel.ran -/
def y_Z_ran : MethodName := ⟨"CodePrunerModel", "ran", "(I)I"⟩
abbrev b_Z_ran : ByteArray := prog_10_method_41_code
def tb_Z_ran : List wm_R := [(0, .aload_n 0, 1, 0), (1, .iconst 0, 2, 0), (2, .putfield 71, 5, 0), (5, .iload_n 1, 6, 0), (6, .ifCond .ne 10, 9, 16), (9, .aload_n 0, 10, 0), (10, .getfield 83, 13, 0), (13, .goto 28, 16, 41), (16, .iload_n 1, 17, 0), (17, .iconst 1, 18, 0), (18, .if_icmp .ne 10, 21, 28), (21, .aload_n 0, 22, 0), (22, .getfield 86, 25, 0), (25, .goto 16, 28, 41), (28, .iload_n 1, 29, 0), (29, .iconst 2, 30, 0), (30, .if_icmp .ne 10, 33, 40), (33, .aload_n 0, 34, 0), (34, .getfield 89, 37, 0), (37, .goto 4, 40, 41), (40, .iconst (-1), 41, 0), (41, .ireturn, 42, 0)]
theorem tk_Z_ran : tb_Z_ran.all (wm_rokb b_Z_ran) = true := by decide +kernel
abbrev cd_Z_ran : Cond := Cond.code y_Z_ran b_Z_ran 2 (wm_rtT 1)
theorem cw_Z_ran : cd_Z_ran ∈ gw := gw_at 907 (by decide +kernel) rfl
theorem gi_Z_ran : Cond.instanceMethod y_Z_ran ∈ gw := gw_at 905 (by decide +kernel) rfl
theorem gs_Z_ran : Cond.selects "CodePrunerModel" y_Z_ran y_Z_ran ∈ gw := gw_at 906 (by decide +kernel) rfl
def t_Z_ran : wm_St := (ws_seq (ws_fi w_L 8 0 (wx_r 0) (wx_c (0 : Int32)))
  (ws_ret .int (wx_cond (wx_un (fun v => wr_eq v 0) (wx_i 1)) (wx_fi w_L 8 23 (wx_r 0)) (wx_cond (wx_bin wr_eq (wx_i 1) (wx_c (1 : Int32))) (wx_fi w_L 8 24 (wx_r 0)) (wx_cond (wx_bin wr_eq (wx_i 1) (wx_c (2 : Int32))) (wx_fi w_L 8 25 (wx_r 0)) (wx_c (-1 : Int32)))))))
def f_Z_ran : List Value → wm_S → Option (Option Value × wm_S) := wm_fn (wm_isc w_L 8) 1 2 t_Z_ran
def rm_Z_ran : Room := { frames := 0, locals := 0 }
abbrev cV_Z_ran : List (Nat × wm_M) := []
abbrev cS_Z_ran : List (Nat × wm_M) := []
set_option maxRecDepth 20000 in
theorem bd_Z_ran (w : wm_K) (ret : Option Value → wm_S → Prop) (hc : wm_cl w_L fl_Z cs_Z none cV_Z_ran cS_Z_ran ret tb_Z_ran w) : wm_T w tb_Z_ran ret 0 9999 t_Z_ran :=
  (wm_t_seq (wm_t_fi hc (wm_x_rn hc rfl rfl) (wm_x_iconst hc rfl (by decide)) rfl rfl)
  (wm_t_ret hc (wm_x_cond (wm_b_un hc (wm_x_in hc rfl rfl) rfl rfl wm_z_eqF) (wm_x_fi hc (wm_x_rn hc rfl rfl) rfl rfl) (wm_x_cond (wm_b_cmp hc (wm_x_in hc rfl rfl) (wm_x_iconst hc rfl (by decide)) rfl rfl wm_j_eqF) (wm_x_fi hc (wm_x_rn hc rfl rfl) rfl rfl) (wm_x_cond (wm_b_cmp hc (wm_x_in hc rfl rfl) (wm_x_iconst hc rfl (by decide)) rfl rfl wm_j_eqF) (wm_x_fi hc (wm_x_rn hc rfl rfl) rfl rfl) (wm_x_iconst hc rfl (by decide)) rfl) rfl) rfl) rfl rfl (fun _ _ _ _ q => q)))
theorem c_Z_ran {l : Launch} {D : va_G} {A : Nat → Prop} {ad : Nat → Nat} {cA : Nat → ClassId} (hY : wm_Y cl0 (tys0 cA) A ad cA w_L) : wm_con l y_Z_ran (cd_Z_ran :: gw) rm_Z_ran D cl0 (tys0 cA) A ad cA w_L f_Z_ran :=
  wm_meth (cV := cV_Z_ran) (cS := cS_Z_ran) (by decide) rfl hY (fun r h => wm_fok_mono (fun _ h => List.mem_cons_of_mem _ h) (fk_Z r h)) (fun r h => wm_cok_mono (fun _ h => List.mem_cons_of_mem _ h) (ck_Z r h)) tk_Z_ran
    (fun _ h => nomatch h)
    (fun _ h => nomatch h)
    bd_Z_ran
/-! CodePrunerModel.out -/
def y_Z_out : MethodName := ⟨"CodePrunerModel", "out", "(I)I"⟩
abbrev b_Z_out : ByteArray := prog_10_method_42_code
def tb_Z_out : List wm_R := [(0, .iload_n 1, 1, 0), (1, .iconst 0, 2, 0), (2, .aload_n 0, 3, 0), (3, .getfield 86, 6, 0), (6, .iconst 1, 7, 0), (7, .isub, 8, 0), (8, .invokestatic 104, 11, 0), (11, .ifCond .ne 9, 14, 20), (14, .iload_n 1, 15, 0), (15, .bipush 49, 17, 0), (17, .if_icmp .le 9, 20, 26), (20, .aload_n 0, 21, 0), (21, .iconst 1, 22, 0), (22, .invokevirtual 181, 25, 0), (25, .ireturn, 26, 0), (26, .aload_n 0, 27, 0), (27, .iconst 0, 28, 0), (28, .putfield 71, 31, 0), (31, .aload_n 0, 32, 0), (32, .getfield 68, 35, 0), (35, .iload_n 1, 36, 0), (36, .iaload, 37, 0), (37, .ireturn, 38, 0)]
theorem tk_Z_out : tb_Z_out.all (wm_rokb b_Z_out) = true := by decide +kernel
abbrev cd_Z_out : Cond := Cond.code y_Z_out b_Z_out 2 (wm_rtT 1)
theorem cw_Z_out : cd_Z_out ∈ gw := gw_at 911 (by decide +kernel) rfl
theorem gi_Z_out : Cond.instanceMethod y_Z_out ∈ gw := gw_at 909 (by decide +kernel) rfl
theorem gs_Z_out : Cond.selects "CodePrunerModel" y_Z_out y_Z_out ∈ gw := gw_at 910 (by decide +kernel) rfl
def t_Z_out : wm_St := (ws_seq (ws_if (wb_or (wx_un (fun v => wr_ne v 0) (wx_call wm_pi f_Z_outside (wx_ac .int (wx_i 1) (wx_ac .int (wx_c (0 : Int32)) (wx_a1 .int (wx_bin wo_isub (wx_fi w_L 8 24 (wx_r 0)) (wx_c (1 : Int32)))))))) (wx_bin wr_gt (wx_i 1) (wx_c (49 : Int32))))
  (ws_ret .int (wx_call wm_pi f_Z_refuse (wx_ac .ref (wx_r 0) (wx_a1 .int (wx_c (1 : Int32)))))))
  (ws_seq (ws_fi w_L 8 0 (wx_r 0) (wx_c (0 : Int32)))
  (ws_ret .int (wx_ai w_L 0 (wx_fr w_L 8 28 (wx_r 0)) (wx_i 1)))))
def f_Z_out : List Value → wm_S → Option (Option Value × wm_S) := wm_fn (wm_isc w_L 8) 1 2 t_Z_out
def rm_Z_out : Room := { frames := 1, locals := 22 }
abbrev cV_Z_out : List (Nat × wm_M) := [(181, 2, f_Z_refuse)]
abbrev cS_Z_out : List (Nat × wm_M) := [(104, 3, f_Z_outside)]
set_option maxRecDepth 20000 in
theorem bd_Z_out (w : wm_K) (ret : Option Value → wm_S → Prop) (hc : wm_cl w_L fl_Z cs_Z none cV_Z_out cS_Z_out ret tb_Z_out w) : wm_T w tb_Z_out ret 0 9999 t_Z_out :=
  (wm_t_seq (wm_t_if (wm_b_or (wm_b_un hc (wm_x_callS hc wm_pi_ok (wm_a_c (wm_x_in hc rfl rfl) (wm_a_c (wm_x_iconst hc rfl (by decide)) (wm_a_1 (wm_x_bin hc (wm_x_fi hc (wm_x_rn hc rfl rfl) rfl rfl) (wm_x_iconst hc rfl (by decide)) rfl rfl (fun _ _ _ _ _ _ q => q))))) rfl rfl (by decide)) rfl rfl wm_z_neT) (wm_b_cmp hc (wm_x_in hc rfl rfl) (wm_x_bipush hc rfl (by decide)) rfl rfl wm_j_gtF))
  (wm_t_ret hc (wm_x_callV hc wm_pi_ok (wm_a_c (wm_x_rn hc rfl rfl) (wm_a_1 (wm_x_iconst hc rfl (by decide)))) rfl rfl (by decide)) rfl rfl (fun _ _ _ _ q => q)) rfl)
  (wm_t_seq (wm_t_fi hc (wm_x_rn hc rfl rfl) (wm_x_iconst hc rfl (by decide)) rfl rfl)
  (wm_t_ret hc (wm_x_ai hc (wm_x_fr hc (wm_x_rn hc rfl rfl) rfl rfl) (wm_x_in hc rfl rfl) rfl) rfl rfl (fun _ _ _ _ q => q))))
theorem c_Z_out {l : Launch} {D : va_G} {A : Nat → Prop} {ad : Nat → Nat} {cA : Nat → ClassId} (hY : wm_Y cl0 (tys0 cA) A ad cA w_L) : wm_con l y_Z_out (cd_Z_out :: gw) rm_Z_out D cl0 (tys0 cA) A ad cA w_L f_Z_out :=
  wm_meth (cV := cV_Z_out) (cS := cS_Z_out) (by decide) rfl hY (fun r h => wm_fok_mono (fun _ h => List.mem_cons_of_mem _ h) (fk_Z r h)) (fun r h => wm_cok_mono (fun _ h => List.mem_cons_of_mem _ h) (ck_Z r h)) tk_Z_out
    (List.forall_mem_cons.mpr ⟨⟨y_Z_refuse, b_Z_refuse, 2, wm_rtT 1, cd_Z_refuse :: gw, gw, rm_Z_refuse, 1, 8, 29, T_Z, c_Z_refuse hY, rfl, gw_V (gw_at 880 (by decide +kernel) rfl) gi_Z_refuse gs_Z_refuse gn_Z cw_Z_refuse, rfl, rfl, ⟨by decide, by decide, by decide +kernel⟩, rfl, ⟨by decide, by decide⟩, rfl, fun vs S r h => (wm_fn_some (v := r.1) (S' := r.2) h).1⟩, fun _ h => nomatch h⟩)
    (List.forall_mem_cons.mpr ⟨⟨y_Z_outside, b_Z_outside, 3, wm_rtT 3, cd_Z_outside :: gw, gw, rm_Z_outside, c_Z_outside hY, rfl, gw_S (gw_at 772 (by decide +kernel) rfl) gi_Z_outside gn_Z cw_Z_outside, rfl, rfl, ⟨by decide, by decide, by decide +kernel⟩, ⟨by decide, by decide⟩⟩, fun _ h => nomatch h⟩)
    bd_Z_out
end WME_Z

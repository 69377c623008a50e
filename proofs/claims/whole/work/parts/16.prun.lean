section WME_R
/-! CodePruner$Pruned.findLanding -/
def y_R_findLanding : MethodName := ⟨"CodePruner$Pruned", "findLanding", "(LCodePruner$Program;I)I"⟩
abbrev b_R_findLanding : ByteArray := prog_7_method_4_code
def tb_R_findLanding : List wm_R := [(0, .aload_n 0, 1, 0), (1, .getfield 12, 4, 0), (4, .getfield 96, 7, 0), (7, .iload_n 2, 8, 0), (8, .iaload, 9, 0), (9, .istore_n 3, 10, 0), (10, .iconst 0, 11, 0), (11, .istore 4, 13, 0), (13, .iload 4, 15, 0), (15, .bipush 12, 17, 0), (17, .if_icmp .ge 41, 20, 58), (20, .aload_n 1, 21, 0), (21, .iload_n 3, 22, 0), (22, .invokevirtual 99, 25, 0), (25, .ifCond .eq 33, 28, 58), (28, .aload_n 0, 29, 0), (29, .getfield 28, 32, 0), (32, .aload_n 1, 33, 0), (33, .iload_n 3, 34, 0), (34, .invokevirtual 102, 37, 0), (37, .ifCond .eq 5, 40, 42), (40, .iload_n 3, 41, 0), (41, .ireturn, 42, 0), (42, .aload_n 0, 43, 0), (43, .getfield 12, 46, 0), (46, .getfield 96, 49, 0), (49, .iload_n 3, 50, 0), (50, .iaload, 51, 0), (51, .istore_n 3, 52, 0), (52, .iinc 4 1, 55, 0), (55, .goto (-42), 58, 13), (58, .aload_n 1, 59, 0), (59, .getfield 75, 62, 0), (62, .getfield 106, 65, 0), (65, .iload_n 2, 66, 0), (66, .iaload, 67, 0), (67, .ireturn, 68, 0)]
theorem tk_R_findLanding : tb_R_findLanding.all (wm_rokb b_R_findLanding) = true := by decide +kernel
abbrev cd_R_findLanding : Cond := Cond.code y_R_findLanding b_R_findLanding 5 (wm_rtT 1)
theorem cw_R_findLanding : cd_R_findLanding ∈ gw := gw_at 572 (by decide +kernel) rfl
theorem gi_R_findLanding : Cond.instanceMethod y_R_findLanding ∈ gw := gw_at 571 (by decide +kernel) rfl
theorem gs_R_findLanding : Cond.selects "CodePruner$Pruned" y_R_findLanding y_R_findLanding ∈ gw := gw_of (List.mem_append_left _ (List.mem_of_getElem? (i := 14) (by decide +kernel))) rfl
def t_R_findLanding : wm_St := (ws_seq (ws_i 3 (wx_ai w_L 0 (wx_fr w_L 4 1 (wx_fr w_L 3 0 (wx_r 0))) (wx_i 2)))
  (ws_seq (ws_seq (ws_i 4 (wx_c (0 : Int32)))
  (ws_loop (wb_and (wx_bin wr_lt (wx_i 4) (wx_c (12 : Int32))) (wx_un (fun v => wr_ne v 0) (wx_call wm_pi f_G_hasBlock (wx_ac .ref (wx_r 1) (wx_a1 .int (wx_i 3))))))
  (ws_seq (ws_seq (ws_if (wx_un (fun v => wr_ne v 0) (wx_call wm_pi f_N_hasSomethingIn (wx_ac .ref (wx_fr w_L 3 2 (wx_r 0)) (wx_ac .ref (wx_r 1) (wx_a1 .int (wx_i 3))))))
  (ws_ret .int (wx_i 3)))
  (ws_i 3 (wx_ai w_L 0 (wx_fr w_L 4 1 (wx_fr w_L 3 0 (wx_r 0))) (wx_i 3))))
  (ws_inc 4 (1 : Int32))) w_N))
  (ws_ret .int (wx_ai w_L 0 (wx_fr w_L 2 2 (wx_fr w_L 1 9 (wx_r 1))) (wx_i 2)))))
def f_R_findLanding : List Value → wm_S → Option (Option Value × wm_S) := wm_fn (wm_isc w_L 3) 1 5 t_R_findLanding
def rm_R_findLanding : Room := { frames := 2, locals := 44 }
abbrev cV_R_findLanding : List (Nat × wm_M) := [(99, 2, f_G_hasBlock), (102, 3, f_N_hasSomethingIn)]
abbrev cS_R_findLanding : List (Nat × wm_M) := []
set_option maxRecDepth 20000 in
theorem bd_R_findLanding (w : wm_K) (ret : Option Value → wm_S → Prop) (hc : wm_cl w_L fl_R cs_R none cV_R_findLanding cS_R_findLanding ret tb_R_findLanding w) : wm_T w tb_R_findLanding ret 0 9999 t_R_findLanding :=
  (wm_t_seq (wm_t_in hc (wm_x_ai hc (wm_x_fr hc (wm_x_fr hc (wm_x_rn hc rfl rfl) rfl rfl) rfl rfl) (wm_x_in hc rfl rfl) rfl) rfl rfl)
  (wm_t_seq (wm_t_seq (wm_t_i hc (wm_x_iconst hc rfl (by decide)) rfl)
  (wm_t_loop (wm_b_and (wm_b_cmp hc (wm_x_i hc rfl) (wm_x_bipush hc rfl (by decide)) rfl rfl wm_j_ltF) (wm_b_un hc (wm_x_callV hc wm_pi_ok (wm_a_c (wm_x_rn hc rfl rfl) (wm_a_1 (wm_x_in hc rfl rfl))) rfl rfl (by decide)) rfl rfl wm_z_neF))
  (wm_t_seq (wm_t_seq (wm_t_if (wm_b_un hc (wm_x_callV hc wm_pi_ok (wm_a_c (wm_x_fr hc (wm_x_rn hc rfl rfl) rfl rfl) (wm_a_c (wm_x_rn hc rfl rfl) (wm_a_1 (wm_x_in hc rfl rfl)))) rfl rfl (by decide)) rfl rfl wm_z_neF)
  (wm_t_ret hc (wm_x_in hc rfl rfl) rfl rfl (fun _ _ _ _ q => q)) rfl)
  (wm_t_in hc (wm_x_ai hc (wm_x_fr hc (wm_x_fr hc (wm_x_rn hc rfl rfl) rfl rfl) rfl rfl) (wm_x_in hc rfl rfl) rfl) rfl rfl))
  (wm_t_inc hc rfl (by decide))) rfl))
  (wm_t_ret hc (wm_x_ai hc (wm_x_fr hc (wm_x_fr hc (wm_x_rn hc rfl rfl) rfl rfl) rfl rfl) (wm_x_in hc rfl rfl) rfl) rfl rfl (fun _ _ _ _ q => q))))
theorem c_R_findLanding {l : Launch} {D : va_G} {A : Nat → Prop} {ad : Nat → Nat} {cA : Nat → ClassId} (hY : wm_Y cl0 (tys0 cA) A ad cA w_L) : wm_con l y_R_findLanding (cd_R_findLanding :: gw) rm_R_findLanding D cl0 (tys0 cA) A ad cA w_L f_R_findLanding :=
  wm_meth (cV := cV_R_findLanding) (cS := cS_R_findLanding) (by decide) rfl hY (fun r h => wm_fok_mono (fun _ h => List.mem_cons_of_mem _ h) (fk_R r h)) (fun r h => wm_cok_mono (fun _ h => List.mem_cons_of_mem _ h) (ck_R r h)) tk_R_findLanding
    (List.forall_mem_cons.mpr ⟨⟨y_G_hasBlock, b_G_hasBlock, 2, wm_rtT 3, cd_G_hasBlock :: gw, gw, rm_G_hasBlock, 1, 1, 10, T_G, c_G_hasBlock hY, rfl, gw_V (gw_at 573 (by decide +kernel) rfl) gi_G_hasBlock gs_G_hasBlock gn_G cw_G_hasBlock, rfl, rfl, ⟨by decide, by decide, by decide +kernel⟩, rfl, ⟨by decide, by decide⟩, rfl, fun vs S r h => (wm_fn_some (v := r.1) (S' := r.2) h).1⟩, List.forall_mem_cons.mpr ⟨⟨y_N_hasSomethingIn, b_N_hasSomethingIn, 4, wm_rtT 3, cd_N_hasSomethingIn :: gw, gw, rm_N_hasSomethingIn, 2, 6, 2, T_N, c_N_hasSomethingIn hY, rfl, gw_V (gw_at 574 (by decide +kernel) rfl) gi_N_hasSomethingIn gs_N_hasSomethingIn gn_N cw_N_hasSomethingIn, rfl, rfl, ⟨by decide, by decide, by decide +kernel⟩, rfl, ⟨by decide, by decide⟩, rfl, fun vs S r h => (wm_fn_some (v := r.1) (S' := r.2) h).1⟩, fun _ h => nomatch h⟩⟩)
    (fun _ h => nomatch h)
    bd_R_findLanding
/-! CodePruner$Pruned.makeEnd -/
def y_R_makeEnd : MethodName := ⟨"CodePruner$Pruned", "makeEnd", "(LCodePruner$Program;I)V"⟩
abbrev b_R_makeEnd : ByteArray := prog_7_method_3_code
def tb_R_makeEnd : List wm_R := [(0, .aload_n 1, 1, 0), (1, .getfield 75, 4, 0), (4, .getfield 76, 7, 0), (7, .iload_n 2, 8, 0), (8, .iaload, 9, 0), (9, .iconst 2, 10, 0), (10, .if_icmp .ne 44, 13, 54), (13, .aload_n 0, 14, 0), (14, .getfield 28, 17, 0), (17, .iload_n 2, 18, 0), (18, .invokevirtual 80, 21, 0), (21, .ifCond .ne 33, 24, 54), (24, .aload_n 0, 25, 0), (25, .getfield 35, 28, 0), (28, .iload_n 2, 29, 0), (29, .iconst 1, 30, 0), (30, .iconst 0, 31, 0), (31, .aload_n 0, 32, 0), (32, .aload_n 1, 33, 0), (33, .iload_n 2, 34, 0), (34, .invokevirtual 84, 37, 0), (37, .iconst (-1), 38, 0), (38, .invokevirtual 88, 41, 0), (41, .aload_n 0, 42, 0), (42, .dup, 43, 0), (43, .getfield 43, 46, 0), (46, .iconst 1, 47, 0), (47, .iadd, 48, 0), (48, .putfield 43, 51, 0), (51, .goto 15, 54, 66), (54, .aload_n 0, 55, 0), (55, .getfield 35, 58, 0), (58, .aload_n 1, 59, 0), (59, .getfield 75, 62, 0), (62, .iload_n 2, 63, 0), (63, .invokevirtual 92, 66, 0), (66, .return_, 67, 0)]
theorem tk_R_makeEnd : tb_R_makeEnd.all (wm_rokb b_R_makeEnd) = true := by decide +kernel
abbrev cd_R_makeEnd : Cond := Cond.code y_R_makeEnd b_R_makeEnd 3 (wm_rtT 0)
theorem cw_R_makeEnd : cd_R_makeEnd ∈ gw := gw_at 567 (by decide +kernel) rfl
theorem gi_R_makeEnd : Cond.instanceMethod y_R_makeEnd ∈ gw := gw_at 566 (by decide +kernel) rfl
theorem gs_R_makeEnd : Cond.selects "CodePruner$Pruned" y_R_makeEnd y_R_makeEnd ∈ gw := gw_of (List.mem_append_left _ (List.mem_of_getElem? (i := 13) (by decide +kernel))) rfl
def t_R_makeEnd : wm_St := (ws_seq (ws_ife (wb_and (wx_bin wr_eq (wx_ai w_L 0 (wx_fr w_L 2 0 (wx_fr w_L 1 9 (wx_r 1))) (wx_i 2)) (wx_c (2 : Int32))) (wb_not (wx_un (fun v => wr_ne v 0) (wx_call wm_pi f_N_hasEnd (wx_ac .ref (wx_fr w_L 3 2 (wx_r 0)) (wx_a1 .int (wx_i 2)))))))
  (ws_seq (ws_call f_E_put (wx_ac .ref (wx_fr w_L 3 3 (wx_r 0)) (wx_ac .int (wx_i 2) (wx_ac .int (wx_c (1 : Int32)) (wx_ac .int (wx_c (0 : Int32)) (wx_ac .int (wx_call wm_pi f_R_findLanding (wx_ac .ref (wx_r 0) (wx_ac .ref (wx_r 1) (wx_a1 .int (wx_i 2))))) (wx_a1 .int (wx_c (-1 : Int32)))))))))
  (ws_ofi w_L 3 5 wo_iadd (wx_r 0) (wx_c (1 : Int32))))
  (ws_call f_E_copyFrom (wx_ac .ref (wx_fr w_L 3 3 (wx_r 0)) (wx_ac .ref (wx_fr w_L 1 9 (wx_r 1)) (wx_a1 .int (wx_i 2))))))
  ws_retv)
def f_R_makeEnd : List Value → wm_S → Option (Option Value × wm_S) := wm_fn (wm_isc w_L 3) 0 3 t_R_makeEnd
def rm_R_makeEnd : Room := { frames := 3, locals := 68 }
abbrev cV_R_makeEnd : List (Nat × wm_M) := [(80, 2, f_N_hasEnd), (84, 3, f_R_findLanding), (88, 6, f_E_put), (92, 3, f_E_copyFrom)]
abbrev cS_R_makeEnd : List (Nat × wm_M) := []
set_option maxRecDepth 20000 in
theorem bd_R_makeEnd (w : wm_K) (ret : Option Value → wm_S → Prop) (hc : wm_cl w_L fl_R cs_R none cV_R_makeEnd cS_R_makeEnd ret tb_R_makeEnd w) : wm_T w tb_R_makeEnd ret 0 9999 t_R_makeEnd :=
  (wm_t_seq (wm_t_ife (wm_b_and (wm_b_cmp hc (wm_x_ai hc (wm_x_fr hc (wm_x_fr hc (wm_x_rn hc rfl rfl) rfl rfl) rfl rfl) (wm_x_in hc rfl rfl) rfl) (wm_x_iconst hc rfl (by decide)) rfl rfl wm_j_eqF) (wm_b_not (wm_b_un hc (wm_x_callV hc wm_pi_ok (wm_a_c (wm_x_fr hc (wm_x_rn hc rfl rfl) rfl rfl) (wm_a_1 (wm_x_in hc rfl rfl))) rfl rfl (by decide)) rfl rfl wm_z_neT)))
  (wm_t_seq (wm_t_callV hc (wm_a_c (wm_x_fr hc (wm_x_rn hc rfl rfl) rfl rfl) (wm_a_c (wm_x_in hc rfl rfl) (wm_a_c (wm_x_iconst hc rfl (by decide)) (wm_a_c (wm_x_iconst hc rfl (by decide)) (wm_a_c (wm_x_callV hc wm_pi_ok (wm_a_c (wm_x_rn hc rfl rfl) (wm_a_c (wm_x_rn hc rfl rfl) (wm_a_1 (wm_x_in hc rfl rfl)))) rfl rfl (by decide)) (wm_a_1 (wm_x_iconst hc rfl (by decide)))))))) rfl rfl)
  (wm_t_ofi hc (wm_x_rn hc rfl rfl) rfl rfl (wm_x_iconst hc rfl (by decide)) rfl rfl (fun _ _ _ _ _ _ q => q) rfl rfl))
  (wm_t_callV hc (wm_a_c (wm_x_fr hc (wm_x_rn hc rfl rfl) rfl rfl) (wm_a_c (wm_x_fr hc (wm_x_rn hc rfl rfl) rfl rfl) (wm_a_1 (wm_x_in hc rfl rfl)))) rfl rfl) rfl)
  (wm_t_retv hc rfl))
theorem c_R_makeEnd {l : Launch} {D : va_G} {A : Nat → Prop} {ad : Nat → Nat} {cA : Nat → ClassId} (hY : wm_Y cl0 (tys0 cA) A ad cA w_L) : wm_con l y_R_makeEnd (cd_R_makeEnd :: gw) rm_R_makeEnd D cl0 (tys0 cA) A ad cA w_L f_R_makeEnd :=
  wm_meth (cV := cV_R_makeEnd) (cS := cS_R_makeEnd) (by decide) rfl hY (fun r h => wm_fok_mono (fun _ h => List.mem_cons_of_mem _ h) (fk_R r h)) (fun r h => wm_cok_mono (fun _ h => List.mem_cons_of_mem _ h) (ck_R r h)) tk_R_makeEnd
    (List.forall_mem_cons.mpr ⟨⟨y_N_hasEnd, b_N_hasEnd, 2, wm_rtT 3, cd_N_hasEnd :: gw, gw, rm_N_hasEnd, 1, 6, 2, T_N, c_N_hasEnd hY, rfl, gw_V (gw_at 568 (by decide +kernel) rfl) gi_N_hasEnd gs_N_hasEnd gn_N cw_N_hasEnd, rfl, rfl, ⟨by decide, by decide, by decide +kernel⟩, rfl, ⟨by decide, by decide⟩, rfl, fun vs S r h => (wm_fn_some (v := r.1) (S' := r.2) h).1⟩, List.forall_mem_cons.mpr ⟨⟨y_R_findLanding, b_R_findLanding, 5, wm_rtT 1, cd_R_findLanding :: gw, gw, rm_R_findLanding, 2, 3, 6, T_R, c_R_findLanding hY, rfl, gw_V (gw_at 569 (by decide +kernel) rfl) gi_R_findLanding gs_R_findLanding gn_R cw_R_findLanding, rfl, rfl, ⟨by decide, by decide, by decide +kernel⟩, rfl, ⟨by decide, by decide⟩, rfl, fun vs S r h => (wm_fn_some (v := r.1) (S' := r.2) h).1⟩, List.forall_mem_cons.mpr ⟨⟨y_E_put, b_E_put, 6, wm_rtT 0, cd_E_put :: gw, gw, rm_E_put, 5, 2, 5, T_E, c_E_put hY, rfl, gw_V (gw_at 578 (by decide +kernel) rfl) gi_E_put gs_E_put gn_E cw_E_put, rfl, rfl, ⟨by decide, by decide, by decide +kernel⟩, rfl, ⟨by decide, by decide⟩, rfl, fun vs S r h => (wm_fn_some (v := r.1) (S' := r.2) h).1⟩, List.forall_mem_cons.mpr ⟨⟨y_E_copyFrom, b_E_copyFrom, 3, wm_rtT 0, cd_E_copyFrom :: gw, gw, rm_E_copyFrom, 2, 2, 5, T_E, c_E_copyFrom hY, rfl, gw_V (gw_at 579 (by decide +kernel) rfl) gi_E_copyFrom gs_E_copyFrom gn_E cw_E_copyFrom, rfl, rfl, ⟨by decide, by decide, by decide +kernel⟩, rfl, ⟨by decide, by decide⟩, rfl, fun vs S r h => (wm_fn_some (v := r.1) (S' := r.2) h).1⟩, fun _ h => nomatch h⟩⟩⟩⟩)
    (fun _ h => nomatch h)
    bd_R_makeEnd
/-! CodePruner$Pruned.make -/
def y_R_make : MethodName := ⟨"CodePruner$Pruned", "make", "(LCodePruner$Program;)V"⟩
abbrev b_R_make : ByteArray := prog_7_method_2_code
def tb_R_make : List wm_R := [(0, .aload_n 0, 1, 0), (1, .getfield 12, 4, 0), (4, .aload_n 1, 5, 0), (5, .invokevirtual 46, 8, 0), (8, .aload_n 0, 9, 0), (9, .getfield 21, 12, 0), (12, .aload_n 1, 13, 0), (13, .invokevirtual 50, 16, 0), (16, .aload_n 0, 17, 0), (17, .getfield 28, 20, 0), (20, .aload_n 1, 21, 0), (21, .aload_n 0, 22, 0), (22, .getfield 12, 25, 0), (25, .aload_n 0, 26, 0), (26, .getfield 21, 29, 0), (29, .invokevirtual 51, 32, 0), (32, .aload_n 0, 33, 0), (33, .aload_n 1, 34, 0), (34, .getfield 54, 37, 0), (37, .aload_n 0, 38, 0), (38, .getfield 28, 41, 0), (41, .getfield 59, 44, 0), (44, .invokestatic 62, 47, 0), (47, .isub, 48, 0), (48, .putfield 39, 51, 0), (51, .aload_n 0, 52, 0), (52, .iconst 0, 53, 0), (53, .putfield 43, 56, 0), (56, .iconst 0, 57, 0), (57, .istore_n 2, 58, 0), (58, .iload_n 2, 59, 0), (59, .aload_n 1, 60, 0), (60, .getfield 68, 63, 0), (63, .if_icmp .ge 15, 66, 78), (66, .aload_n 0, 67, 0), (67, .aload_n 1, 68, 0), (68, .iload_n 2, 69, 0), (69, .invokevirtual 71, 72, 0), (72, .iinc 2 1, 75, 0), (75, .goto (-17), 78, 58), (78, .return_, 79, 0)]
theorem tk_R_make : tb_R_make.all (wm_rokb b_R_make) = true := by decide +kernel
abbrev cd_R_make : Cond := Cond.code y_R_make b_R_make 3 (wm_rtT 0)
theorem cw_R_make : cd_R_make ∈ gw := gw_at 482 (by decide +kernel) rfl
theorem gi_R_make : Cond.instanceMethod y_R_make ∈ gw := gw_at 480 (by decide +kernel) rfl
theorem gs_R_make : Cond.selects "CodePruner$Pruned" y_R_make y_R_make ∈ gw := gw_at 481 (by decide +kernel) rfl
def t_R_make : wm_St := (ws_seq (ws_call f_F_find (wx_ac .ref (wx_fr w_L 3 0 (wx_r 0)) (wx_a1 .ref (wx_r 1))))
  (ws_seq (ws_call f_U_find (wx_ac .ref (wx_fr w_L 3 1 (wx_r 0)) (wx_a1 .ref (wx_r 1))))
  (ws_seq (ws_call f_N_find (wx_ac .ref (wx_fr w_L 3 2 (wx_r 0)) (wx_ac .ref (wx_r 1) (wx_ac .ref (wx_fr w_L 3 0 (wx_r 0)) (wx_a1 .ref (wx_fr w_L 3 1 (wx_r 0)))))))
  (ws_seq (ws_fi w_L 3 4 (wx_r 0) (wx_bin wo_isub (wx_fi w_L 1 1 (wx_r 1)) (wx_call wm_pi f_J_bitCount (wx_a1 .long (wx_fl w_L 6 0 (wx_fr w_L 3 2 (wx_r 0)))))))
  (ws_seq (ws_fi w_L 3 5 (wx_r 0) (wx_c (0 : Int32)))
  (ws_seq (ws_seq (ws_i 2 (wx_c (0 : Int32)))
  (ws_loop (wx_bin wr_lt (wx_i 2) (wx_fi w_L 1 0 (wx_r 1)))
  (ws_seq (ws_call f_R_makeEnd (wx_ac .ref (wx_r 0) (wx_ac .ref (wx_r 1) (wx_a1 .int (wx_i 2)))))
  (ws_inc 2 (1 : Int32))) w_N))
  ws_retv))))))
def f_R_make : List Value → wm_S → Option (Option Value × wm_S) := wm_fn (wm_isc w_L 3) 0 3 t_R_make
def rm_R_make : Room := { frames := 4, locals := 101 }
abbrev cV_R_make : List (Nat × wm_M) := [(46, 2, f_F_find), (50, 2, f_U_find), (51, 4, f_N_find), (71, 3, f_R_makeEnd)]
abbrev cS_R_make : List (Nat × wm_M) := [(62, 1, f_J_bitCount)]
set_option maxRecDepth 20000 in
theorem bd_R_make (w : wm_K) (ret : Option Value → wm_S → Prop) (hc : wm_cl w_L fl_R cs_R none cV_R_make cS_R_make ret tb_R_make w) : wm_T w tb_R_make ret 0 9999 t_R_make :=
  (wm_t_seq (wm_t_callV hc (wm_a_c (wm_x_fr hc (wm_x_rn hc rfl rfl) rfl rfl) (wm_a_1 (wm_x_rn hc rfl rfl))) rfl rfl)
  (wm_t_seq (wm_t_callV hc (wm_a_c (wm_x_fr hc (wm_x_rn hc rfl rfl) rfl rfl) (wm_a_1 (wm_x_rn hc rfl rfl))) rfl rfl)
  (wm_t_seq (wm_t_callV hc (wm_a_c (wm_x_fr hc (wm_x_rn hc rfl rfl) rfl rfl) (wm_a_c (wm_x_rn hc rfl rfl) (wm_a_c (wm_x_fr hc (wm_x_rn hc rfl rfl) rfl rfl) (wm_a_1 (wm_x_fr hc (wm_x_rn hc rfl rfl) rfl rfl))))) rfl rfl)
  (wm_t_seq (wm_t_fi hc (wm_x_rn hc rfl rfl) (wm_x_bin hc (wm_x_fi hc (wm_x_rn hc rfl rfl) rfl rfl) (wm_x_callS hc wm_pi_ok (wm_a_1 (wm_x_fl hc (wm_x_fr hc (wm_x_rn hc rfl rfl) rfl rfl) rfl rfl)) rfl rfl (by decide)) rfl rfl (fun _ _ _ _ _ _ q => q)) rfl rfl)
  (wm_t_seq (wm_t_fi hc (wm_x_rn hc rfl rfl) (wm_x_iconst hc rfl (by decide)) rfl rfl)
  (wm_t_seq (wm_t_seq (wm_t_in hc (wm_x_iconst hc rfl (by decide)) rfl rfl)
  (wm_t_loop (wm_b_cmp hc (wm_x_in hc rfl rfl) (wm_x_fi hc (wm_x_rn hc rfl rfl) rfl rfl) rfl rfl wm_j_ltF)
  (wm_t_seq (wm_t_callV hc (wm_a_c (wm_x_rn hc rfl rfl) (wm_a_c (wm_x_rn hc rfl rfl) (wm_a_1 (wm_x_in hc rfl rfl)))) rfl rfl)
  (wm_t_inc hc rfl (by decide))) rfl))
  (wm_t_retv hc rfl)))))))
theorem c_R_make {l : Launch} {D : va_G} {A : Nat → Prop} {ad : Nat → Nat} {cA : Nat → ClassId} (hY : wm_Y cl0 (tys0 cA) A ad cA w_L) : wm_con l y_R_make (cd_R_make :: gw) rm_R_make D cl0 (tys0 cA) A ad cA w_L f_R_make :=
  wm_meth (cV := cV_R_make) (cS := cS_R_make) (by decide) rfl hY (fun r h => wm_fok_mono (fun _ h => List.mem_cons_of_mem _ h) (fk_R r h)) (fun r h => wm_cok_mono (fun _ h => List.mem_cons_of_mem _ h) (ck_R r h)) tk_R_make
    (List.forall_mem_cons.mpr ⟨⟨y_F_find, b_F_find, 3, wm_rtT 0, cd_F_find :: gw, gw, rm_F_find, 1, 4, 3, T_F, c_F_find hY, rfl, gw_V (gw_at 483 (by decide +kernel) rfl) gi_F_find gs_F_find gn_F cw_F_find, rfl, rfl, ⟨by decide, by decide, by decide +kernel⟩, rfl, ⟨by decide, by decide⟩, rfl, fun vs S r h => (wm_fn_some (v := r.1) (S' := r.2) h).1⟩, List.forall_mem_cons.mpr ⟨⟨y_U_find, b_U_find, 4, wm_rtT 0, cd_U_find :: gw, gw, rm_U_find, 1, 5, 4, T_U, c_U_find hY, rfl, gw_V (gw_at 505 (by decide +kernel) rfl) gi_U_find gs_U_find gn_U cw_U_find, rfl, rfl, ⟨by decide, by decide, by decide +kernel⟩, rfl, ⟨by decide, by decide⟩, rfl, fun vs S r h => (wm_fn_some (v := r.1) (S' := r.2) h).1⟩, List.forall_mem_cons.mpr ⟨⟨y_N_find, b_N_find, 6, wm_rtT 0, cd_N_find :: gw, gw, rm_N_find, 3, 6, 2, T_N, c_N_find hY, rfl, gw_V (gw_at 538 (by decide +kernel) rfl) gi_N_find gs_N_find gn_N cw_N_find, rfl, rfl, ⟨by decide, by decide, by decide +kernel⟩, rfl, ⟨by decide, by decide⟩, rfl, fun vs S r h => (wm_fn_some (v := r.1) (S' := r.2) h).1⟩, List.forall_mem_cons.mpr ⟨⟨y_R_makeEnd, b_R_makeEnd, 3, wm_rtT 0, cd_R_makeEnd :: gw, gw, rm_R_makeEnd, 2, 3, 6, T_R, c_R_makeEnd hY, rfl, gw_V (gw_at 564 (by decide +kernel) rfl) gi_R_makeEnd gs_R_makeEnd gn_R cw_R_makeEnd, rfl, rfl, ⟨by decide, by decide, by decide +kernel⟩, rfl, ⟨by decide, by decide⟩, rfl, fun vs S r h => (wm_fn_some (v := r.1) (S' := r.2) h).1⟩, fun _ h => nomatch h⟩⟩⟩⟩)
    (List.forall_mem_cons.mpr ⟨⟨y_J_bitCount, b_J_bitCount, 2, wm_rtT 1, cd_J_bitCount :: gw, gw, rm_J_bitCount, c_J_bitCount hY, rfl, gw_S (gw_at 558 (by decide +kernel) rfl) gi_J_bitCount gn_J cw_J_bitCount, rfl, rfl, ⟨by decide, by decide, by decide +kernel⟩, ⟨by decide, by decide⟩⟩, fun _ h => nomatch h⟩)
    bd_R_make
end WME_R

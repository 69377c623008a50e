section WME_N
/-! CodePruner$Needs.begin -/
def y_N_begin : MethodName := ⟨"CodePruner$Needs", "begin", "(LCodePruner$Program;)V"⟩
abbrev b_N_begin : ByteArray := prog_5_method_6_code
def tb_N_begin : List wm_R := [(0, .aload_n 0, 1, 0), (1, .lconst 0, 2, 0), (2, .putfield 9, 5, 0), (5, .aload_n 0, 6, 0), (6, .iconst 0, 7, 0), (7, .putfield 15, 10, 0), (10, .iconst 0, 11, 0), (11, .istore_n 2, 12, 0), (12, .iload_n 2, 13, 0), (13, .aload_n 1, 14, 0), (14, .getfield 44, 17, 0), (17, .if_icmp .ge 31, 20, 48), (20, .aload_n 1, 21, 0), (21, .getfield 46, 24, 0), (24, .iload_n 2, 25, 0), (25, .iaload, 26, 0), (26, .iconst 5, 27, 0), (27, .if_icmp .lt 15, 30, 42), (30, .aload_n 0, 31, 0), (31, .dup, 32, 0), (32, .getfield 9, 35, 0), (35, .lconst 1, 36, 0), (36, .iload_n 2, 37, 0), (37, .lshl, 38, 0), (38, .lor, 39, 0), (39, .putfield 9, 42, 0), (42, .iinc 2 1, 45, 0), (45, .goto (-33), 48, 12), (48, .iconst 0, 49, 0), (49, .istore_n 2, 50, 0), (50, .iload_n 2, 51, 0), (51, .aload_n 1, 52, 0), (52, .getfield 49, 55, 0), (55, .if_icmp .ge 33, 58, 88), (58, .aload_n 1, 59, 0), (59, .getfield 52, 62, 0), (62, .getfield 55, 65, 0), (65, .iload_n 2, 66, 0), (66, .iaload, 67, 0), (67, .ifCond .ne 15, 70, 82), (70, .aload_n 0, 71, 0), (71, .dup, 72, 0), (72, .getfield 15, 75, 0), (75, .iconst 1, 76, 0), (76, .iload_n 2, 77, 0), (77, .ishl, 78, 0), (78, .ior, 79, 0), (79, .putfield 15, 82, 0), (82, .iinc 2 1, 85, 0), (85, .goto (-35), 88, 50), (88, .return_, 89, 0)]
theorem tk_N_begin : tb_N_begin.all (wm_rokb b_N_begin) = true := by decide +kernel
abbrev cd_N_begin : Cond := Cond.code y_N_begin b_N_begin 3 (wm_rtT 0)
theorem cw_N_begin : cd_N_begin ∈ gw := gw_at 545 (by decide +kernel) rfl
theorem gi_N_begin : Cond.instanceMethod y_N_begin ∈ gw := gw_at 544 (by decide +kernel) rfl
theorem gs_N_begin : Cond.selects "CodePruner$Needs" y_N_begin y_N_begin ∈ gw := gw_of (List.mem_append_left _ (List.mem_of_getElem? (i := 11) (by decide +kernel))) rfl
def t_N_begin : wm_St := (ws_seq (ws_fl w_L 6 0 (wx_r 0) (wx_c (0 : Int64)))
  (ws_seq (ws_fi w_L 6 1 (wx_r 0) (wx_c (0 : Int32)))
  (ws_seq (ws_seq (ws_i 2 (wx_c (0 : Int32)))
  (ws_loop (wx_bin wr_lt (wx_i 2) (wx_fi w_L 1 1 (wx_r 1)))
  (ws_seq (ws_if (wx_bin wr_ge (wx_ai w_L 0 (wx_fr w_L 1 2 (wx_r 1)) (wx_i 2)) (wx_c (5 : Int32)))
  (ws_ofl w_L 6 0 wo_lor (wx_r 0) (wx_bin wo_lshl (wx_c (1 : Int64)) (wx_i 2))))
  (ws_inc 2 (1 : Int32))) w_N))
  (ws_seq (ws_seq (ws_i 2 (wx_c (0 : Int32)))
  (ws_loop (wx_bin wr_lt (wx_i 2) (wx_fi w_L 1 0 (wx_r 1)))
  (ws_seq (ws_if (wx_un (fun v => wr_eq v 0) (wx_ai w_L 0 (wx_fr w_L 2 0 (wx_fr w_L 1 9 (wx_r 1))) (wx_i 2)))
  (ws_ofi w_L 6 1 wo_ior (wx_r 0) (wx_bin wo_ishl (wx_c (1 : Int32)) (wx_i 2))))
  (ws_inc 2 (1 : Int32))) w_N))
  ws_retv))))
def f_N_begin : List Value → wm_S → Option (Option Value × wm_S) := wm_fn (wm_isc w_L 6) 0 3 t_N_begin
def rm_N_begin : Room := { frames := 0, locals := 0 }
abbrev cV_N_begin : List (Nat × wm_M) := []
abbrev cS_N_begin : List (Nat × wm_M) := []
set_option maxRecDepth 20000 in
theorem bd_N_begin (w : wm_K) (ret : Option Value → wm_S → Prop) (hc : wm_cl w_L fl_N cs_N none cV_N_begin cS_N_begin ret tb_N_begin w) : wm_T w tb_N_begin ret 0 9999 t_N_begin :=
  (wm_t_seq (wm_t_fl hc (wm_x_rn hc rfl rfl) (wm_x_lconst hc rfl (by decide)) rfl rfl)
  (wm_t_seq (wm_t_fi hc (wm_x_rn hc rfl rfl) (wm_x_iconst hc rfl (by decide)) rfl rfl)
  (wm_t_seq (wm_t_seq (wm_t_in hc (wm_x_iconst hc rfl (by decide)) rfl rfl)
  (wm_t_loop (wm_b_cmp hc (wm_x_in hc rfl rfl) (wm_x_fi hc (wm_x_rn hc rfl rfl) rfl rfl) rfl rfl wm_j_ltF)
  (wm_t_seq (wm_t_if (wm_b_cmp hc (wm_x_ai hc (wm_x_fr hc (wm_x_rn hc rfl rfl) rfl rfl) (wm_x_in hc rfl rfl) rfl) (wm_x_iconst hc rfl (by decide)) rfl rfl wm_j_geF)
  (wm_t_ofl hc (wm_x_rn hc rfl rfl) rfl rfl (wm_x_bin hc (wm_x_lconst hc rfl (by decide)) (wm_x_in hc rfl rfl) rfl rfl (fun _ _ _ _ _ _ q => q)) rfl rfl (fun _ _ _ _ _ _ q => q) rfl rfl) rfl)
  (wm_t_inc hc rfl (by decide))) rfl))
  (wm_t_seq (wm_t_seq (wm_t_in hc (wm_x_iconst hc rfl (by decide)) rfl rfl)
  (wm_t_loop (wm_b_cmp hc (wm_x_in hc rfl rfl) (wm_x_fi hc (wm_x_rn hc rfl rfl) rfl rfl) rfl rfl wm_j_ltF)
  (wm_t_seq (wm_t_if (wm_b_un hc (wm_x_ai hc (wm_x_fr hc (wm_x_fr hc (wm_x_rn hc rfl rfl) rfl rfl) rfl rfl) (wm_x_in hc rfl rfl) rfl) rfl rfl wm_z_eqF)
  (wm_t_ofi hc (wm_x_rn hc rfl rfl) rfl rfl (wm_x_bin hc (wm_x_iconst hc rfl (by decide)) (wm_x_in hc rfl rfl) rfl rfl (fun _ _ _ _ _ _ q => q)) rfl rfl (fun _ _ _ _ _ _ q => q) rfl rfl) rfl)
  (wm_t_inc hc rfl (by decide))) rfl))
  (wm_t_retv hc rfl)))))
theorem c_N_begin {l : Launch} {D : va_G} {A : Nat → Prop} {ad : Nat → Nat} {cA : Nat → ClassId} (hY : wm_Y cl0 (tys0 cA) A ad cA w_L) : wm_con l y_N_begin (cd_N_begin :: gw) rm_N_begin D cl0 (tys0 cA) A ad cA w_L f_N_begin :=
  wm_meth (cV := cV_N_begin) (cS := cS_N_begin) (by decide) rfl hY (fun r h => wm_fok_mono (fun _ h => List.mem_cons_of_mem _ h) (fk_N r h)) (fun r h => wm_cok_mono (fun _ h => List.mem_cons_of_mem _ h) (ck_N r h)) tk_N_begin
    (fun _ h => nomatch h)
    (fun _ h => nomatch h)
    bd_N_begin
/-! CodePruner$Needs.hasInstruction -/
def y_N_hasInstruction : MethodName := ⟨"CodePruner$Needs", "hasInstruction", "(I)Z"⟩
abbrev b_N_hasInstruction : ByteArray := prog_5_method_3_code
def tb_N_hasInstruction : List wm_R := [(0, .aload_n 0, 1, 0), (1, .getfield 9, 4, 0), (4, .lconst 1, 5, 0), (5, .iload_n 1, 6, 0), (6, .lshl, 7, 0), (7, .land, 8, 0), (8, .lconst 0, 9, 0), (9, .lcmp, 10, 0), (10, .ifCond .eq 7, 13, 17), (13, .iconst 1, 14, 0), (14, .goto 4, 17, 18), (17, .iconst 0, 18, 0), (18, .ireturn, 19, 0)]
theorem tk_N_hasInstruction : tb_N_hasInstruction.all (wm_rokb b_N_hasInstruction) = true := by decide +kernel
abbrev cd_N_hasInstruction : Cond := Cond.code y_N_hasInstruction b_N_hasInstruction 2 (wm_rtT 3)
theorem cw_N_hasInstruction : cd_N_hasInstruction ∈ gw := gw_at 553 (by decide +kernel) rfl
theorem gi_N_hasInstruction : Cond.instanceMethod y_N_hasInstruction ∈ gw := gw_at 551 (by decide +kernel) rfl
theorem gs_N_hasInstruction : Cond.selects "CodePruner$Needs" y_N_hasInstruction y_N_hasInstruction ∈ gw := gw_at 552 (by decide +kernel) rfl
def t_N_hasInstruction : wm_St := (ws_ret .int (wx_cond (wx_un (fun v => wr_ne v 0) (wx_bin lg_cmp (wx_bin wo_land (wx_fl w_L 6 0 (wx_r 0)) (wx_bin wo_lshl (wx_c (1 : Int64)) (wx_i 1))) (wx_c (0 : Int64)))) (wx_c (1 : Int32)) (wx_c (0 : Int32))))
def f_N_hasInstruction : List Value → wm_S → Option (Option Value × wm_S) := wm_fn (wm_isc w_L 6) 3 2 t_N_hasInstruction
def rm_N_hasInstruction : Room := { frames := 0, locals := 0 }
abbrev cV_N_hasInstruction : List (Nat × wm_M) := []
abbrev cS_N_hasInstruction : List (Nat × wm_M) := []
set_option maxRecDepth 20000 in
theorem bd_N_hasInstruction (w : wm_K) (ret : Option Value → wm_S → Prop) (hc : wm_cl w_L fl_N cs_N none cV_N_hasInstruction cS_N_hasInstruction ret tb_N_hasInstruction w) : wm_T w tb_N_hasInstruction ret 0 9999 t_N_hasInstruction :=
  (wm_t_ret hc (wm_x_cond (wm_b_un hc (wm_x_bin hc (wm_x_bin hc (wm_x_fl hc (wm_x_rn hc rfl rfl) rfl rfl) (wm_x_bin hc (wm_x_lconst hc rfl (by decide)) (wm_x_in hc rfl rfl) rfl rfl (fun _ _ _ _ _ _ q => q)) rfl rfl (fun _ _ _ _ _ _ q => q)) (wm_x_lconst hc rfl (by decide)) rfl rfl (fun _ _ _ _ _ _ q => q)) rfl rfl wm_z_neF) (wm_x_iconst hc rfl (by decide)) (wm_x_iconst hc rfl (by decide)) rfl) rfl rfl (fun _ _ _ _ q => q))
theorem c_N_hasInstruction {l : Launch} {D : va_G} {A : Nat → Prop} {ad : Nat → Nat} {cA : Nat → ClassId} (hY : wm_Y cl0 (tys0 cA) A ad cA w_L) : wm_con l y_N_hasInstruction (cd_N_hasInstruction :: gw) rm_N_hasInstruction D cl0 (tys0 cA) A ad cA w_L f_N_hasInstruction :=
  wm_meth (cV := cV_N_hasInstruction) (cS := cS_N_hasInstruction) (by decide) rfl hY (fun r h => wm_fok_mono (fun _ h => List.mem_cons_of_mem _ h) (fk_N r h)) (fun r h => wm_cok_mono (fun _ h => List.mem_cons_of_mem _ h) (ck_N r h)) tk_N_hasInstruction
    (fun _ h => nomatch h)
    (fun _ h => nomatch h)
    bd_N_hasInstruction
/-! CodePruner$Needs.hasEnd -/
def y_N_hasEnd : MethodName := ⟨"CodePruner$Needs", "hasEnd", "(I)Z"⟩
abbrev b_N_hasEnd : ByteArray := prog_5_method_4_code
def tb_N_hasEnd : List wm_R := [(0, .aload_n 0, 1, 0), (1, .getfield 15, 4, 0), (4, .iconst 1, 5, 0), (5, .iload_n 1, 6, 0), (6, .ishl, 7, 0), (7, .iand, 8, 0), (8, .ifCond .eq 7, 11, 15), (11, .iconst 1, 12, 0), (12, .goto 4, 15, 16), (15, .iconst 0, 16, 0), (16, .ireturn, 17, 0)]
theorem tk_N_hasEnd : tb_N_hasEnd.all (wm_rokb b_N_hasEnd) = true := by decide +kernel
abbrev cd_N_hasEnd : Cond := Cond.code y_N_hasEnd b_N_hasEnd 2 (wm_rtT 3)
theorem cw_N_hasEnd : cd_N_hasEnd ∈ gw := gw_at 557 (by decide +kernel) rfl
theorem gi_N_hasEnd : Cond.instanceMethod y_N_hasEnd ∈ gw := gw_at 555 (by decide +kernel) rfl
theorem gs_N_hasEnd : Cond.selects "CodePruner$Needs" y_N_hasEnd y_N_hasEnd ∈ gw := gw_at 556 (by decide +kernel) rfl
def t_N_hasEnd : wm_St := (ws_ret .int (wx_cond (wx_un (fun v => wr_ne v 0) (wx_bin wo_iand (wx_fi w_L 6 1 (wx_r 0)) (wx_bin wo_ishl (wx_c (1 : Int32)) (wx_i 1)))) (wx_c (1 : Int32)) (wx_c (0 : Int32))))
def f_N_hasEnd : List Value → wm_S → Option (Option Value × wm_S) := wm_fn (wm_isc w_L 6) 3 2 t_N_hasEnd
def rm_N_hasEnd : Room := { frames := 0, locals := 0 }
abbrev cV_N_hasEnd : List (Nat × wm_M) := []
abbrev cS_N_hasEnd : List (Nat × wm_M) := []
set_option maxRecDepth 20000 in
theorem bd_N_hasEnd (w : wm_K) (ret : Option Value → wm_S → Prop) (hc : wm_cl w_L fl_N cs_N none cV_N_hasEnd cS_N_hasEnd ret tb_N_hasEnd w) : wm_T w tb_N_hasEnd ret 0 9999 t_N_hasEnd :=
  (wm_t_ret hc (wm_x_cond (wm_b_un hc (wm_x_bin hc (wm_x_fi hc (wm_x_rn hc rfl rfl) rfl rfl) (wm_x_bin hc (wm_x_iconst hc rfl (by decide)) (wm_x_in hc rfl rfl) rfl rfl (fun _ _ _ _ _ _ q => q)) rfl rfl (fun _ _ _ _ _ _ q => q)) rfl rfl wm_z_neF) (wm_x_iconst hc rfl (by decide)) (wm_x_iconst hc rfl (by decide)) rfl) rfl rfl (fun _ _ _ _ q => q))
theorem c_N_hasEnd {l : Launch} {D : va_G} {A : Nat → Prop} {ad : Nat → Nat} {cA : Nat → ClassId} (hY : wm_Y cl0 (tys0 cA) A ad cA w_L) : wm_con l y_N_hasEnd (cd_N_hasEnd :: gw) rm_N_hasEnd D cl0 (tys0 cA) A ad cA w_L f_N_hasEnd :=
  wm_meth (cV := cV_N_hasEnd) (cS := cS_N_hasEnd) (by decide) rfl hY (fun r h => wm_fok_mono (fun _ h => List.mem_cons_of_mem _ h) (fk_N r h)) (fun r h => wm_cok_mono (fun _ h => List.mem_cons_of_mem _ h) (ck_N r h)) tk_N_hasEnd
    (fun _ h => nomatch h)
    (fun _ h => nomatch h)
    bd_N_hasEnd
/-! CodePruner$Needs.grow -/
def y_N_grow : MethodName := ⟨"CodePruner$Needs", "grow", "(LCodePruner$Program;LCodePruner$Flow;LCodePruner$Sources;)Z"⟩
abbrev b_N_grow : ByteArray := prog_5_method_7_code
def tb_N_grow : List wm_R := [(0, .aload_n 0, 1, 0), (1, .getfield 9, 4, 0), (4, .lstore 4, 6, 0), (6, .aload_n 0, 7, 0), (7, .getfield 15, 10, 0), (10, .istore 6, 12, 0), (12, .aload_n 1, 13, 0), (13, .getfield 44, 16, 0), (16, .iconst 1, 17, 0), (17, .isub, 18, 0), (18, .istore 7, 20, 0), (20, .iload 7, 22, 0), (22, .ifCond .lt 55, 25, 77), (25, .aload_n 0, 26, 0), (26, .iload 7, 28, 0), (28, .invokevirtual 41, 31, 0), (31, .ifCond .eq 40, 34, 71), (34, .aload_n 0, 35, 0), (35, .dup, 36, 0), (36, .getfield 9, 39, 0), (39, .aload_n 3, 40, 0), (40, .getfield 60, 43, 0), (43, .iload 7, 45, 0), (45, .laload, 46, 0), (46, .lor, 47, 0), (47, .putfield 9, 50, 0), (50, .aload_n 0, 51, 0), (51, .dup, 52, 0), (52, .getfield 15, 55, 0), (55, .aload_n 2, 56, 0), (56, .getfield 66, 59, 0), (59, .aload_n 1, 60, 0), (60, .getfield 71, 63, 0), (63, .iload 7, 65, 0), (65, .iaload, 66, 0), (66, .iaload, 67, 0), (67, .ior, 68, 0), (68, .putfield 15, 71, 0), (71, .iinc 7 (-1), 74, 0), (74, .goto (-54), 77, 20), (77, .iconst 0, 78, 0), (78, .istore 7, 80, 0), (80, .iload 7, 82, 0), (82, .aload_n 1, 83, 0), (83, .getfield 49, 86, 0), (86, .if_icmp .ge 50, 89, 136), (89, .aload_n 0, 90, 0), (90, .iload 7, 92, 0), (92, .invokevirtual 27, 95, 0), (95, .ifCond .eq 35, 98, 130), (98, .aload_n 0, 99, 0), (99, .dup, 100, 0), (100, .getfield 9, 103, 0), (103, .aload_n 3, 104, 0), (104, .getfield 74, 107, 0), (107, .iload 7, 109, 0), (109, .laload, 110, 0), (110, .lor, 111, 0), (111, .putfield 9, 114, 0), (114, .aload_n 0, 115, 0), (115, .dup, 116, 0), (116, .getfield 15, 119, 0), (119, .aload_n 2, 120, 0), (120, .getfield 66, 123, 0), (123, .iload 7, 125, 0), (125, .iaload, 126, 0), (126, .ior, 127, 0), (127, .putfield 15, 130, 0), (130, .iinc 7 1, 133, 0), (133, .goto (-53), 136, 80), (136, .aload_n 0, 137, 0), (137, .getfield 9, 140, 0), (140, .lload 4, 142, 0), (142, .lcmp, 143, 0), (143, .ifCond .ne 12, 146, 155), (146, .aload_n 0, 147, 0), (147, .getfield 15, 150, 0), (150, .iload 6, 152, 0), (152, .if_icmp .eq 7, 155, 159), (155, .iconst 1, 156, 0), (156, .goto 4, 159, 160), (159, .iconst 0, 160, 0), (160, .ireturn, 161, 0)]
theorem tk_N_grow : tb_N_grow.all (wm_rokb b_N_grow) = true := by decide +kernel
abbrev cd_N_grow : Cond := Cond.code y_N_grow b_N_grow 8 (wm_rtT 3)
theorem cw_N_grow : cd_N_grow ∈ gw := gw_at 549 (by decide +kernel) rfl
theorem gi_N_grow : Cond.instanceMethod y_N_grow ∈ gw := gw_at 548 (by decide +kernel) rfl
theorem gs_N_grow : Cond.selects "CodePruner$Needs" y_N_grow y_N_grow ∈ gw := gw_of (List.mem_append_left _ (List.mem_of_getElem? (i := 12) (by decide +kernel))) rfl
def t_N_grow : wm_St := (ws_seq (ws_l 4 (wx_fl w_L 6 0 (wx_r 0)))
  (ws_seq (ws_i 6 (wx_fi w_L 6 1 (wx_r 0)))
  (ws_seq (ws_seq (ws_i 7 (wx_bin wo_isub (wx_fi w_L 1 1 (wx_r 1)) (wx_c (1 : Int32))))
  (ws_loop (wx_un (fun v => wr_ge v 0) (wx_i 7))
  (ws_seq (ws_if (wx_un (fun v => wr_ne v 0) (wx_call wm_pi f_N_hasInstruction (wx_ac .ref (wx_r 0) (wx_a1 .int (wx_i 7)))))
  (ws_seq (ws_ofl w_L 6 0 wo_lor (wx_r 0) (wx_al w_L (wx_fr w_L 5 2 (wx_r 3)) (wx_i 7)))
  (ws_ofi w_L 6 1 wo_ior (wx_r 0) (wx_ai w_L 0 (wx_fr w_L 4 2 (wx_r 2)) (wx_ai w_L 0 (wx_fr w_L 1 6 (wx_r 1)) (wx_i 7))))))
  (ws_inc 7 (-1 : Int32))) w_N))
  (ws_seq (ws_seq (ws_i 7 (wx_c (0 : Int32)))
  (ws_loop (wx_bin wr_lt (wx_i 7) (wx_fi w_L 1 0 (wx_r 1)))
  (ws_seq (ws_if (wx_un (fun v => wr_ne v 0) (wx_call wm_pi f_N_hasEnd (wx_ac .ref (wx_r 0) (wx_a1 .int (wx_i 7)))))
  (ws_seq (ws_ofl w_L 6 0 wo_lor (wx_r 0) (wx_al w_L (wx_fr w_L 5 3 (wx_r 3)) (wx_i 7)))
  (ws_ofi w_L 6 1 wo_ior (wx_r 0) (wx_ai w_L 0 (wx_fr w_L 4 2 (wx_r 2)) (wx_i 7)))))
  (ws_inc 7 (1 : Int32))) w_N))
  (ws_ret .int (wx_cond (wb_or (wx_un (fun v => wr_ne v 0) (wx_bin lg_cmp (wx_fl w_L 6 0 (wx_r 0)) (wx_l 4))) (wx_bin wr_ne (wx_fi w_L 6 1 (wx_r 0)) (wx_i 6))) (wx_c (1 : Int32)) (wx_c (0 : Int32))))))))
def f_N_grow : List Value → wm_S → Option (Option Value × wm_S) := wm_fn (wm_isc w_L 6) 3 8 t_N_grow
def rm_N_grow : Room := { frames := 1, locals := 21 }
abbrev cV_N_grow : List (Nat × wm_M) := [(27, 2, f_N_hasEnd), (41, 2, f_N_hasInstruction)]
abbrev cS_N_grow : List (Nat × wm_M) := []
set_option maxRecDepth 20000 in
theorem bd_N_grow (w : wm_K) (ret : Option Value → wm_S → Prop) (hc : wm_cl w_L fl_N cs_N none cV_N_grow cS_N_grow ret tb_N_grow w) : wm_T w tb_N_grow ret 0 9999 t_N_grow :=
  (wm_t_seq (wm_t_l hc (wm_x_fl hc (wm_x_rn hc rfl rfl) rfl rfl) rfl)
  (wm_t_seq (wm_t_i hc (wm_x_fi hc (wm_x_rn hc rfl rfl) rfl rfl) rfl)
  (wm_t_seq (wm_t_seq (wm_t_i hc (wm_x_bin hc (wm_x_fi hc (wm_x_rn hc rfl rfl) rfl rfl) (wm_x_iconst hc rfl (by decide)) rfl rfl (fun _ _ _ _ _ _ q => q)) rfl)
  (wm_t_loop (wm_b_un hc (wm_x_i hc rfl) rfl rfl wm_z_geF)
  (wm_t_seq (wm_t_if (wm_b_un hc (wm_x_callV hc wm_pi_ok (wm_a_c (wm_x_rn hc rfl rfl) (wm_a_1 (wm_x_i hc rfl))) rfl rfl (by decide)) rfl rfl wm_z_neF)
  (wm_t_seq (wm_t_ofl hc (wm_x_rn hc rfl rfl) rfl rfl (wm_x_al hc (wm_x_fr hc (wm_x_rn hc rfl rfl) rfl rfl) (wm_x_i hc rfl) rfl) rfl rfl (fun _ _ _ _ _ _ q => q) rfl rfl)
  (wm_t_ofi hc (wm_x_rn hc rfl rfl) rfl rfl (wm_x_ai hc (wm_x_fr hc (wm_x_rn hc rfl rfl) rfl rfl) (wm_x_ai hc (wm_x_fr hc (wm_x_rn hc rfl rfl) rfl rfl) (wm_x_i hc rfl) rfl) rfl) rfl rfl (fun _ _ _ _ _ _ q => q) rfl rfl)) rfl)
  (wm_t_inc hc rfl (by decide))) rfl))
  (wm_t_seq (wm_t_seq (wm_t_i hc (wm_x_iconst hc rfl (by decide)) rfl)
  (wm_t_loop (wm_b_cmp hc (wm_x_i hc rfl) (wm_x_fi hc (wm_x_rn hc rfl rfl) rfl rfl) rfl rfl wm_j_ltF)
  (wm_t_seq (wm_t_if (wm_b_un hc (wm_x_callV hc wm_pi_ok (wm_a_c (wm_x_rn hc rfl rfl) (wm_a_1 (wm_x_i hc rfl))) rfl rfl (by decide)) rfl rfl wm_z_neF)
  (wm_t_seq (wm_t_ofl hc (wm_x_rn hc rfl rfl) rfl rfl (wm_x_al hc (wm_x_fr hc (wm_x_rn hc rfl rfl) rfl rfl) (wm_x_i hc rfl) rfl) rfl rfl (fun _ _ _ _ _ _ q => q) rfl rfl)
  (wm_t_ofi hc (wm_x_rn hc rfl rfl) rfl rfl (wm_x_ai hc (wm_x_fr hc (wm_x_rn hc rfl rfl) rfl rfl) (wm_x_i hc rfl) rfl) rfl rfl (fun _ _ _ _ _ _ q => q) rfl rfl)) rfl)
  (wm_t_inc hc rfl (by decide))) rfl))
  (wm_t_ret hc (wm_x_cond (wm_b_or (wm_b_un hc (wm_x_bin hc (wm_x_fl hc (wm_x_rn hc rfl rfl) rfl rfl) (wm_x_l hc rfl) rfl rfl (fun _ _ _ _ _ _ q => q)) rfl rfl wm_z_neT) (wm_b_cmp hc (wm_x_fi hc (wm_x_rn hc rfl rfl) rfl rfl) (wm_x_i hc rfl) rfl rfl wm_j_neF)) (wm_x_iconst hc rfl (by decide)) (wm_x_iconst hc rfl (by decide)) rfl) rfl rfl (fun _ _ _ _ q => q))))))
theorem c_N_grow {l : Launch} {D : va_G} {A : Nat → Prop} {ad : Nat → Nat} {cA : Nat → ClassId} (hY : wm_Y cl0 (tys0 cA) A ad cA w_L) : wm_con l y_N_grow (cd_N_grow :: gw) rm_N_grow D cl0 (tys0 cA) A ad cA w_L f_N_grow :=
  wm_meth (cV := cV_N_grow) (cS := cS_N_grow) (by decide) rfl hY (fun r h => wm_fok_mono (fun _ h => List.mem_cons_of_mem _ h) (fk_N r h)) (fun r h => wm_cok_mono (fun _ h => List.mem_cons_of_mem _ h) (ck_N r h)) tk_N_grow
    (List.forall_mem_cons.mpr ⟨⟨y_N_hasEnd, b_N_hasEnd, 2, wm_rtT 3, cd_N_hasEnd :: gw, gw, rm_N_hasEnd, 1, 6, 2, T_N, c_N_hasEnd hY, rfl, gw_V (gw_at 554 (by decide +kernel) rfl) gi_N_hasEnd gs_N_hasEnd gn_N cw_N_hasEnd, rfl, rfl, ⟨by decide, by decide, by decide +kernel⟩, rfl, ⟨by decide, by decide⟩, rfl, fun vs S r h => (wm_fn_some (v := r.1) (S' := r.2) h).1⟩, List.forall_mem_cons.mpr ⟨⟨y_N_hasInstruction, b_N_hasInstruction, 2, wm_rtT 3, cd_N_hasInstruction :: gw, gw, rm_N_hasInstruction, 1, 6, 2, T_N, c_N_hasInstruction hY, rfl, gw_V (gw_at 550 (by decide +kernel) rfl) gi_N_hasInstruction gs_N_hasInstruction gn_N cw_N_hasInstruction, rfl, rfl, ⟨by decide, by decide, by decide +kernel⟩, rfl, ⟨by decide, by decide⟩, rfl, fun vs S r h => (wm_fn_some (v := r.1) (S' := r.2) h).1⟩, fun _ h => nomatch h⟩⟩)
    (fun _ h => nomatch h)
    bd_N_grow
/-! CodePruner$Needs.find -/
def y_N_find : MethodName := ⟨"CodePruner$Needs", "find", "(LCodePruner$Program;LCodePruner$Flow;LCodePruner$Sources;)V"⟩
abbrev b_N_find : ByteArray := prog_5_method_2_code
def tb_N_find : List wm_R := [(0, .aload_n 0, 1, 0), (1, .aload_n 1, 2, 0), (2, .invokevirtual 19, 5, 0), (5, .iconst 1, 6, 0), (6, .istore 4, 8, 0), (8, .iconst 0, 9, 0), (9, .istore 5, 11, 0), (11, .iload 5, 13, 0), (13, .bipush 72, 15, 0), (15, .if_icmp .gt 23, 18, 38), (18, .iload 4, 20, 0), (20, .ifCond .eq 18, 23, 38), (23, .aload_n 0, 24, 0), (24, .aload_n 1, 25, 0), (25, .aload_n 2, 26, 0), (26, .aload_n 3, 27, 0), (27, .invokevirtual 23, 30, 0), (30, .istore 4, 32, 0), (32, .iinc 5 1, 35, 0), (35, .goto (-24), 38, 11), (38, .return_, 39, 0)]
theorem tk_N_find : tb_N_find.all (wm_rokb b_N_find) = true := by decide +kernel
abbrev cd_N_find : Cond := Cond.code y_N_find b_N_find 6 (wm_rtT 0)
theorem cw_N_find : cd_N_find ∈ gw := gw_at 541 (by decide +kernel) rfl
theorem gi_N_find : Cond.instanceMethod y_N_find ∈ gw := gw_at 539 (by decide +kernel) rfl
theorem gs_N_find : Cond.selects "CodePruner$Needs" y_N_find y_N_find ∈ gw := gw_at 540 (by decide +kernel) rfl
def t_N_find : wm_St := (ws_seq (ws_call f_N_begin (wx_ac .ref (wx_r 0) (wx_a1 .ref (wx_r 1))))
  (ws_seq (ws_i 4 (wx_c (1 : Int32)))
  (ws_seq (ws_seq (ws_i 5 (wx_c (0 : Int32)))
  (ws_loop (wb_and (wx_bin wr_le (wx_i 5) (wx_c (72 : Int32))) (wx_un (fun v => wr_ne v 0) (wx_i 4)))
  (ws_seq (ws_i 4 (wx_call wm_pi f_N_grow (wx_ac .ref (wx_r 0) (wx_ac .ref (wx_r 1) (wx_ac .ref (wx_r 2) (wx_a1 .ref (wx_r 3)))))))
  (ws_inc 5 (1 : Int32))) w_N))
  ws_retv)))
def f_N_find : List Value → wm_S → Option (Option Value × wm_S) := wm_fn (wm_isc w_L 6) 0 6 t_N_find
def rm_N_find : Room := { frames := 2, locals := 48 }
abbrev cV_N_find : List (Nat × wm_M) := [(19, 2, f_N_begin), (23, 4, f_N_grow)]
abbrev cS_N_find : List (Nat × wm_M) := []
set_option maxRecDepth 20000 in
theorem bd_N_find (w : wm_K) (ret : Option Value → wm_S → Prop) (hc : wm_cl w_L fl_N cs_N none cV_N_find cS_N_find ret tb_N_find w) : wm_T w tb_N_find ret 0 9999 t_N_find :=
  (wm_t_seq (wm_t_callV hc (wm_a_c (wm_x_rn hc rfl rfl) (wm_a_1 (wm_x_rn hc rfl rfl))) rfl rfl)
  (wm_t_seq (wm_t_i hc (wm_x_iconst hc rfl (by decide)) rfl)
  (wm_t_seq (wm_t_seq (wm_t_i hc (wm_x_iconst hc rfl (by decide)) rfl)
  (wm_t_loop (wm_b_and (wm_b_cmp hc (wm_x_i hc rfl) (wm_x_bipush hc rfl (by decide)) rfl rfl wm_j_leF) (wm_b_un hc (wm_x_i hc rfl) rfl rfl wm_z_neF))
  (wm_t_seq (wm_t_i hc (wm_x_callV hc wm_pi_ok (wm_a_c (wm_x_rn hc rfl rfl) (wm_a_c (wm_x_rn hc rfl rfl) (wm_a_c (wm_x_rn hc rfl rfl) (wm_a_1 (wm_x_rn hc rfl rfl))))) rfl rfl (by decide)) rfl)
  (wm_t_inc hc rfl (by decide))) rfl))
  (wm_t_retv hc rfl))))
theorem c_N_find {l : Launch} {D : va_G} {A : Nat → Prop} {ad : Nat → Nat} {cA : Nat → ClassId} (hY : wm_Y cl0 (tys0 cA) A ad cA w_L) : wm_con l y_N_find (cd_N_find :: gw) rm_N_find D cl0 (tys0 cA) A ad cA w_L f_N_find :=
  wm_meth (cV := cV_N_find) (cS := cS_N_find) (by decide) rfl hY (fun r h => wm_fok_mono (fun _ h => List.mem_cons_of_mem _ h) (fk_N r h)) (fun r h => wm_cok_mono (fun _ h => List.mem_cons_of_mem _ h) (ck_N r h)) tk_N_find
    (List.forall_mem_cons.mpr ⟨⟨y_N_begin, b_N_begin, 3, wm_rtT 0, cd_N_begin :: gw, gw, rm_N_begin, 1, 6, 2, T_N, c_N_begin hY, rfl, gw_V (gw_at 542 (by decide +kernel) rfl) gi_N_begin gs_N_begin gn_N cw_N_begin, rfl, rfl, ⟨by decide, by decide, by decide +kernel⟩, rfl, ⟨by decide, by decide⟩, rfl, fun vs S r h => (wm_fn_some (v := r.1) (S' := r.2) h).1⟩, List.forall_mem_cons.mpr ⟨⟨y_N_grow, b_N_grow, 8, wm_rtT 3, cd_N_grow :: gw, gw, rm_N_grow, 3, 6, 2, T_N, c_N_grow hY, rfl, gw_V (gw_at 546 (by decide +kernel) rfl) gi_N_grow gs_N_grow gn_N cw_N_grow, rfl, rfl, ⟨by decide, by decide, by decide +kernel⟩, rfl, ⟨by decide, by decide⟩, rfl, fun vs S r h => (wm_fn_some (v := r.1) (S' := r.2) h).1⟩, fun _ h => nomatch h⟩⟩)
    (fun _ h => nomatch h)
    bd_N_find
/-! CodePruner$Needs.hasSomethingIn -/
def y_N_hasSomethingIn : MethodName := ⟨"CodePruner$Needs", "hasSomethingIn", "(LCodePruner$Program;I)Z"⟩
abbrev b_N_hasSomethingIn : ByteArray := prog_5_method_5_code
def tb_N_hasSomethingIn : List wm_R := [(0, .aload_n 0, 1, 0), (1, .iload_n 2, 2, 0), (2, .invokevirtual 27, 5, 0), (5, .ifCond .eq 5, 8, 10), (8, .iconst 1, 9, 0), (9, .ireturn, 10, 0), (10, .iconst 0, 11, 0), (11, .istore_n 3, 12, 0), (12, .iload_n 3, 13, 0), (13, .aload_n 1, 14, 0), (14, .getfield 31, 17, 0), (17, .iload_n 2, 18, 0), (18, .iaload, 19, 0), (19, .if_icmp .ge 26, 22, 45), (22, .aload_n 0, 23, 0), (23, .aload_n 1, 24, 0), (24, .getfield 37, 27, 0), (27, .iload_n 2, 28, 0), (28, .aaload, 29, 0), (29, .iload_n 3, 30, 0), (30, .iaload, 31, 0), (31, .invokevirtual 41, 34, 0), (34, .ifCond .eq 5, 37, 39), (37, .iconst 1, 38, 0), (38, .ireturn, 39, 0), (39, .iinc 3 1, 42, 0), (42, .goto (-30), 45, 12), (45, .iconst 0, 46, 0), (46, .ireturn, 47, 0)]
theorem tk_N_hasSomethingIn : tb_N_hasSomethingIn.all (wm_rokb b_N_hasSomethingIn) = true := by decide +kernel
abbrev cd_N_hasSomethingIn : Cond := Cond.code y_N_hasSomethingIn b_N_hasSomethingIn 4 (wm_rtT 3)
theorem cw_N_hasSomethingIn : cd_N_hasSomethingIn ∈ gw := gw_at 577 (by decide +kernel) rfl
theorem gi_N_hasSomethingIn : Cond.instanceMethod y_N_hasSomethingIn ∈ gw := gw_at 575 (by decide +kernel) rfl
theorem gs_N_hasSomethingIn : Cond.selects "CodePruner$Needs" y_N_hasSomethingIn y_N_hasSomethingIn ∈ gw := gw_at 576 (by decide +kernel) rfl
def t_N_hasSomethingIn : wm_St := (ws_seq (ws_if (wx_un (fun v => wr_ne v 0) (wx_call wm_pi f_N_hasEnd (wx_ac .ref (wx_r 0) (wx_a1 .int (wx_i 2)))))
  (ws_ret .int (wx_c (1 : Int32))))
  (ws_seq (ws_seq (ws_i 3 (wx_c (0 : Int32)))
  (ws_loop (wx_bin wr_lt (wx_i 3) (wx_ai w_L 0 (wx_fr w_L 1 7 (wx_r 1)) (wx_i 2)))
  (ws_seq (ws_if (wx_un (fun v => wr_ne v 0) (wx_call wm_pi f_N_hasInstruction (wx_ac .ref (wx_r 0) (wx_a1 .int (wx_ai w_L 0 (wx_ar w_L (wx_fr w_L 1 8 (wx_r 1)) (wx_i 2)) (wx_i 3))))))
  (ws_ret .int (wx_c (1 : Int32))))
  (ws_inc 3 (1 : Int32))) w_N))
  (ws_ret .int (wx_c (0 : Int32)))))
def f_N_hasSomethingIn : List Value → wm_S → Option (Option Value × wm_S) := wm_fn (wm_isc w_L 6) 3 4 t_N_hasSomethingIn
def rm_N_hasSomethingIn : Room := { frames := 1, locals := 21 }
abbrev cV_N_hasSomethingIn : List (Nat × wm_M) := [(27, 2, f_N_hasEnd), (41, 2, f_N_hasInstruction)]
abbrev cS_N_hasSomethingIn : List (Nat × wm_M) := []
set_option maxRecDepth 20000 in
theorem bd_N_hasSomethingIn (w : wm_K) (ret : Option Value → wm_S → Prop) (hc : wm_cl w_L fl_N cs_N none cV_N_hasSomethingIn cS_N_hasSomethingIn ret tb_N_hasSomethingIn w) : wm_T w tb_N_hasSomethingIn ret 0 9999 t_N_hasSomethingIn :=
  (wm_t_seq (wm_t_if (wm_b_un hc (wm_x_callV hc wm_pi_ok (wm_a_c (wm_x_rn hc rfl rfl) (wm_a_1 (wm_x_in hc rfl rfl))) rfl rfl (by decide)) rfl rfl wm_z_neF)
  (wm_t_ret hc (wm_x_iconst hc rfl (by decide)) rfl rfl (fun _ _ _ _ q => q)) rfl)
  (wm_t_seq (wm_t_seq (wm_t_in hc (wm_x_iconst hc rfl (by decide)) rfl rfl)
  (wm_t_loop (wm_b_cmp hc (wm_x_in hc rfl rfl) (wm_x_ai hc (wm_x_fr hc (wm_x_rn hc rfl rfl) rfl rfl) (wm_x_in hc rfl rfl) rfl) rfl rfl wm_j_ltF)
  (wm_t_seq (wm_t_if (wm_b_un hc (wm_x_callV hc wm_pi_ok (wm_a_c (wm_x_rn hc rfl rfl) (wm_a_1 (wm_x_ai hc (wm_x_ar hc (wm_x_fr hc (wm_x_rn hc rfl rfl) rfl rfl) (wm_x_in hc rfl rfl) rfl) (wm_x_in hc rfl rfl) rfl))) rfl rfl (by decide)) rfl rfl wm_z_neF)
  (wm_t_ret hc (wm_x_iconst hc rfl (by decide)) rfl rfl (fun _ _ _ _ q => q)) rfl)
  (wm_t_inc hc rfl (by decide))) rfl))
  (wm_t_ret hc (wm_x_iconst hc rfl (by decide)) rfl rfl (fun _ _ _ _ q => q))))
theorem c_N_hasSomethingIn {l : Launch} {D : va_G} {A : Nat → Prop} {ad : Nat → Nat} {cA : Nat → ClassId} (hY : wm_Y cl0 (tys0 cA) A ad cA w_L) : wm_con l y_N_hasSomethingIn (cd_N_hasSomethingIn :: gw) rm_N_hasSomethingIn D cl0 (tys0 cA) A ad cA w_L f_N_hasSomethingIn :=
  wm_meth (cV := cV_N_hasSomethingIn) (cS := cS_N_hasSomethingIn) (by decide) rfl hY (fun r h => wm_fok_mono (fun _ h => List.mem_cons_of_mem _ h) (fk_N r h)) (fun r h => wm_cok_mono (fun _ h => List.mem_cons_of_mem _ h) (ck_N r h)) tk_N_hasSomethingIn
    (List.forall_mem_cons.mpr ⟨⟨y_N_hasEnd, b_N_hasEnd, 2, wm_rtT 3, cd_N_hasEnd :: gw, gw, rm_N_hasEnd, 1, 6, 2, T_N, c_N_hasEnd hY, rfl, gw_V (gw_at 554 (by decide +kernel) rfl) gi_N_hasEnd gs_N_hasEnd gn_N cw_N_hasEnd, rfl, rfl, ⟨by decide, by decide, by decide +kernel⟩, rfl, ⟨by decide, by decide⟩, rfl, fun vs S r h => (wm_fn_some (v := r.1) (S' := r.2) h).1⟩, List.forall_mem_cons.mpr ⟨⟨y_N_hasInstruction, b_N_hasInstruction, 2, wm_rtT 3, cd_N_hasInstruction :: gw, gw, rm_N_hasInstruction, 1, 6, 2, T_N, c_N_hasInstruction hY, rfl, gw_V (gw_at 550 (by decide +kernel) rfl) gi_N_hasInstruction gs_N_hasInstruction gn_N cw_N_hasInstruction, rfl, rfl, ⟨by decide, by decide, by decide +kernel⟩, rfl, ⟨by decide, by decide⟩, rfl, fun vs S r h => (wm_fn_some (v := r.1) (S' := r.2) h).1⟩, fun _ h => nomatch h⟩⟩)
    (fun _ h => nomatch h)
    bd_N_hasSomethingIn
end WME_N

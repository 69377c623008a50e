section WME_JAEM
/-! java/lang/Long.bitCount -/
def y_J_bitCount : MethodName := ⟨"java/lang/Long", "bitCount", "(J)I"⟩
abbrev b_J_bitCount : ByteArray := prog_14_method_50_code
def tb_J_bitCount : List wm_R := [(0, .lload_n 0, 1, 0), (1, .lload_n 0, 2, 0), (2, .iconst 1, 3, 0), (3, .lushr, 4, 0), (4, .ldc2_w 314, 7, 0), (7, .land, 8, 0), (8, .lsub, 9, 0), (9, .lstore_n 0, 10, 0), (10, .lload_n 0, 11, 0), (11, .ldc2_w 316, 14, 0), (14, .land, 15, 0), (15, .lload_n 0, 16, 0), (16, .iconst 2, 17, 0), (17, .lushr, 18, 0), (18, .ldc2_w 316, 21, 0), (21, .land, 22, 0), (22, .ladd, 23, 0), (23, .lstore_n 0, 24, 0), (24, .lload_n 0, 25, 0), (25, .lload_n 0, 26, 0), (26, .iconst 4, 27, 0), (27, .lushr, 28, 0), (28, .ladd, 29, 0), (29, .ldc2_w 318, 32, 0), (32, .land, 33, 0), (33, .lstore_n 0, 34, 0), (34, .lload_n 0, 35, 0), (35, .lload_n 0, 36, 0), (36, .bipush 8, 38, 0), (38, .lushr, 39, 0), (39, .ladd, 40, 0), (40, .lstore_n 0, 41, 0), (41, .lload_n 0, 42, 0), (42, .lload_n 0, 43, 0), (43, .bipush 16, 45, 0), (45, .lushr, 46, 0), (46, .ladd, 47, 0), (47, .lstore_n 0, 48, 0), (48, .lload_n 0, 49, 0), (49, .lload_n 0, 50, 0), (50, .bipush 32, 52, 0), (52, .lushr, 53, 0), (53, .ladd, 54, 0), (54, .lstore_n 0, 55, 0), (55, .lload_n 0, 56, 0), (56, .l2i, 57, 0), (57, .bipush 127, 59, 0), (59, .iand, 60, 0), (60, .ireturn, 61, 0)]
theorem tk_J_bitCount : tb_J_bitCount.all (wm_rokb b_J_bitCount) = true := by decide +kernel
abbrev cd_J_bitCount : Cond := Cond.code y_J_bitCount b_J_bitCount 2 (wm_rtT 1)
theorem cw_J_bitCount : cd_J_bitCount ∈ gw := gw_at 560 (by decide +kernel) rfl
theorem gi_J_bitCount : Cond.static y_J_bitCount ∈ gw := gw_at 559 (by decide +kernel) rfl
def t_J_bitCount : wm_St := (ws_seq (ws_l 0 (wx_bin wo_lsub (wx_l 0) (wx_bin wo_land (wx_bin wo_lushr (wx_l 0) (wx_c (1 : Int32))) (wx_c (6148914691236517205 : Int64)))))
  (ws_seq (ws_l 0 (wx_bin wo_ladd (wx_bin wo_land (wx_l 0) (wx_c (3689348814741910323 : Int64))) (wx_bin wo_land (wx_bin wo_lushr (wx_l 0) (wx_c (2 : Int32))) (wx_c (3689348814741910323 : Int64)))))
  (ws_seq (ws_l 0 (wx_bin wo_land (wx_bin wo_ladd (wx_l 0) (wx_bin wo_lushr (wx_l 0) (wx_c (4 : Int32)))) (wx_c (1085102592571150095 : Int64))))
  (ws_seq (ws_l 0 (wx_bin wo_ladd (wx_l 0) (wx_bin wo_lushr (wx_l 0) (wx_c (8 : Int32)))))
  (ws_seq (ws_l 0 (wx_bin wo_ladd (wx_l 0) (wx_bin wo_lushr (wx_l 0) (wx_c (16 : Int32)))))
  (ws_seq (ws_l 0 (wx_bin wo_ladd (wx_l 0) (wx_bin wo_lushr (wx_l 0) (wx_c (32 : Int32)))))
  (ws_ret .int (wx_bin wo_iand (wx_un wo_l2i (wx_l 0)) (wx_c (127 : Int32))))))))))
def f_J_bitCount : List Value → wm_S → Option (Option Value × wm_S) := wm_fn wm_any 1 2 t_J_bitCount
def rm_J_bitCount : Room := { frames := 0, locals := 0 }
abbrev cV_J_bitCount : List (Nat × wm_M) := []
abbrev cS_J_bitCount : List (Nat × wm_M) := []
set_option maxRecDepth 20000 in
theorem bd_J_bitCount (w : wm_K) (ret : Option Value → wm_S → Prop) (hc : wm_cl w_L fl_J cs_J none cV_J_bitCount cS_J_bitCount ret tb_J_bitCount w) : wm_T w tb_J_bitCount ret 0 9999 t_J_bitCount :=
  (wm_t_seq (wm_t_ln hc (wm_x_bin hc (wm_x_ln hc rfl rfl) (wm_x_bin hc (wm_x_bin hc (wm_x_ln hc rfl rfl) (wm_x_iconst hc rfl (by decide)) rfl rfl (fun _ _ _ _ _ _ q => q)) (wm_x_ldc2 hc rfl rfl) rfl rfl (fun _ _ _ _ _ _ q => q)) rfl rfl (fun _ _ _ _ _ _ q => q)) rfl rfl)
  (wm_t_seq (wm_t_ln hc (wm_x_bin hc (wm_x_bin hc (wm_x_ln hc rfl rfl) (wm_x_ldc2 hc rfl rfl) rfl rfl (fun _ _ _ _ _ _ q => q)) (wm_x_bin hc (wm_x_bin hc (wm_x_ln hc rfl rfl) (wm_x_iconst hc rfl (by decide)) rfl rfl (fun _ _ _ _ _ _ q => q)) (wm_x_ldc2 hc rfl rfl) rfl rfl (fun _ _ _ _ _ _ q => q)) rfl rfl (fun _ _ _ _ _ _ q => q)) rfl rfl)
  (wm_t_seq (wm_t_ln hc (wm_x_bin hc (wm_x_bin hc (wm_x_ln hc rfl rfl) (wm_x_bin hc (wm_x_ln hc rfl rfl) (wm_x_iconst hc rfl (by decide)) rfl rfl (fun _ _ _ _ _ _ q => q)) rfl rfl (fun _ _ _ _ _ _ q => q)) (wm_x_ldc2 hc rfl rfl) rfl rfl (fun _ _ _ _ _ _ q => q)) rfl rfl)
  (wm_t_seq (wm_t_ln hc (wm_x_bin hc (wm_x_ln hc rfl rfl) (wm_x_bin hc (wm_x_ln hc rfl rfl) (wm_x_bipush hc rfl (by decide)) rfl rfl (fun _ _ _ _ _ _ q => q)) rfl rfl (fun _ _ _ _ _ _ q => q)) rfl rfl)
  (wm_t_seq (wm_t_ln hc (wm_x_bin hc (wm_x_ln hc rfl rfl) (wm_x_bin hc (wm_x_ln hc rfl rfl) (wm_x_bipush hc rfl (by decide)) rfl rfl (fun _ _ _ _ _ _ q => q)) rfl rfl (fun _ _ _ _ _ _ q => q)) rfl rfl)
  (wm_t_seq (wm_t_ln hc (wm_x_bin hc (wm_x_ln hc rfl rfl) (wm_x_bin hc (wm_x_ln hc rfl rfl) (wm_x_bipush hc rfl (by decide)) rfl rfl (fun _ _ _ _ _ _ q => q)) rfl rfl (fun _ _ _ _ _ _ q => q)) rfl rfl)
  (wm_t_ret hc (wm_x_bin hc (wm_x_un hc (wm_x_ln hc rfl rfl) rfl rfl (fun _ _ _ _ _ q => q)) (wm_x_bipush hc rfl (by decide)) rfl rfl (fun _ _ _ _ _ _ q => q)) rfl rfl (fun _ _ _ _ q => q))))))))
theorem c_J_bitCount {l : Launch} {D : va_G} {A : Nat → Prop} {ad : Nat → Nat} {cA : Nat → ClassId} (hY : wm_Y cl0 (tys0 cA) A ad cA w_L) : wm_con l y_J_bitCount (cd_J_bitCount :: gw) rm_J_bitCount D cl0 (tys0 cA) A ad cA w_L f_J_bitCount :=
  wm_meth (cV := cV_J_bitCount) (cS := cS_J_bitCount) (by decide) rfl hY (fun r h => wm_fok_mono (fun _ h => List.mem_cons_of_mem _ h) (fk_J r h)) (fun r h => wm_cok_mono (fun _ h => List.mem_cons_of_mem _ h) (ck_J r h)) tk_J_bitCount
    (fun _ h => nomatch h)
    (fun _ h => nomatch h)
    bd_J_bitCount
/-! CodePruner$Machine.begin -/
def y_M_begin : MethodName := ⟨"CodePruner$Machine", "begin", "(II)V"⟩
abbrev b_M_begin : ByteArray := prog_4_method_2_code
def tb_M_begin : List wm_R := [(0, .iconst 0, 1, 0), (1, .istore_n 3, 2, 0), (2, .iload_n 3, 3, 0), (3, .bipush 8, 5, 0), (5, .if_icmp .ge 16, 8, 21), (8, .aload_n 0, 9, 0), (9, .getfield 9, 12, 0), (12, .iload_n 3, 13, 0), (13, .iconst 0, 14, 0), (14, .iastore, 15, 0), (15, .iinc 3 1, 18, 0), (18, .goto (-16), 21, 2), (21, .aload_n 0, 22, 0), (22, .iconst 0, 23, 0), (23, .putfield 18, 26, 0), (26, .aload_n 0, 27, 0), (27, .iconst 0, 28, 0), (28, .putfield 22, 31, 0), (31, .aload_n 0, 32, 0), (32, .iconst 0, 33, 0), (33, .putfield 25, 36, 0), (36, .aload_n 0, 37, 0), (37, .iload_n 1, 38, 0), (38, .putfield 28, 41, 0), (41, .aload_n 0, 42, 0), (42, .iconst 0, 43, 0), (43, .putfield 31, 46, 0), (46, .aload_n 0, 47, 0), (47, .iload_n 2, 48, 0), (48, .putfield 34, 51, 0), (51, .return_, 52, 0)]
theorem tk_M_begin : tb_M_begin.all (wm_rokb b_M_begin) = true := by decide +kernel
abbrev cd_M_begin : Cond := Cond.code y_M_begin b_M_begin 4 (wm_rtT 0)
theorem cw_M_begin : cd_M_begin ∈ gw := gw_at 277 (by decide +kernel) rfl
theorem gi_M_begin : Cond.instanceMethod y_M_begin ∈ gw := gw_at 275 (by decide +kernel) rfl
theorem gs_M_begin : Cond.selects "CodePruner$Machine" y_M_begin y_M_begin ∈ gw := gw_at 276 (by decide +kernel) rfl
def t_M_begin : wm_St := (ws_seq (ws_seq (ws_i 3 (wx_c (0 : Int32)))
  (ws_loop (wx_bin wr_lt (wx_i 3) (wx_c (8 : Int32)))
  (ws_seq (ws_ai w_L (wx_fr w_L 7 0 (wx_r 0)) (wx_i 3) (wx_c (0 : Int32)))
  (ws_inc 3 (1 : Int32))) w_N))
  (ws_seq (ws_fi w_L 7 2 (wx_r 0) (wx_c (0 : Int32)))
  (ws_seq (ws_fi w_L 7 3 (wx_r 0) (wx_c (0 : Int32)))
  (ws_seq (ws_fi w_L 7 4 (wx_r 0) (wx_c (0 : Int32)))
  (ws_seq (ws_fi w_L 7 5 (wx_r 0) (wx_i 1))
  (ws_seq (ws_fi w_L 7 6 (wx_r 0) (wx_c (0 : Int32)))
  (ws_seq (ws_fi w_L 7 7 (wx_r 0) (wx_i 2))
  ws_retv)))))))
def f_M_begin : List Value → wm_S → Option (Option Value × wm_S) := wm_fn (wm_isc w_L 7) 0 4 t_M_begin
def rm_M_begin : Room := { frames := 0, locals := 0 }
abbrev cV_M_begin : List (Nat × wm_M) := []
abbrev cS_M_begin : List (Nat × wm_M) := []
set_option maxRecDepth 20000 in
theorem bd_M_begin (w : wm_K) (ret : Option Value → wm_S → Prop) (hc : wm_cl w_L fl_M cs_M none cV_M_begin cS_M_begin ret tb_M_begin w) : wm_T w tb_M_begin ret 0 9999 t_M_begin :=
  (wm_t_seq (wm_t_seq (wm_t_in hc (wm_x_iconst hc rfl (by decide)) rfl rfl)
  (wm_t_loop (wm_b_cmp hc (wm_x_in hc rfl rfl) (wm_x_bipush hc rfl (by decide)) rfl rfl wm_j_ltF)
  (wm_t_seq (wm_t_ai hc (wm_x_fr hc (wm_x_rn hc rfl rfl) rfl rfl) (wm_x_in hc rfl rfl) (wm_x_iconst hc rfl (by decide)) rfl)
  (wm_t_inc hc rfl (by decide))) rfl))
  (wm_t_seq (wm_t_fi hc (wm_x_rn hc rfl rfl) (wm_x_iconst hc rfl (by decide)) rfl rfl)
  (wm_t_seq (wm_t_fi hc (wm_x_rn hc rfl rfl) (wm_x_iconst hc rfl (by decide)) rfl rfl)
  (wm_t_seq (wm_t_fi hc (wm_x_rn hc rfl rfl) (wm_x_iconst hc rfl (by decide)) rfl rfl)
  (wm_t_seq (wm_t_fi hc (wm_x_rn hc rfl rfl) (wm_x_in hc rfl rfl) rfl rfl)
  (wm_t_seq (wm_t_fi hc (wm_x_rn hc rfl rfl) (wm_x_iconst hc rfl (by decide)) rfl rfl)
  (wm_t_seq (wm_t_fi hc (wm_x_rn hc rfl rfl) (wm_x_in hc rfl rfl) rfl rfl)
  (wm_t_retv hc rfl))))))))
theorem c_M_begin {l : Launch} {D : va_G} {A : Nat → Prop} {ad : Nat → Nat} {cA : Nat → ClassId} (hY : wm_Y cl0 (tys0 cA) A ad cA w_L) : wm_con l y_M_begin (cd_M_begin :: gw) rm_M_begin D cl0 (tys0 cA) A ad cA w_L f_M_begin :=
  wm_meth (cV := cV_M_begin) (cS := cS_M_begin) (by decide) rfl hY (fun r h => wm_fok_mono (fun _ h => List.mem_cons_of_mem _ h) (fk_M r h)) (fun r h => wm_cok_mono (fun _ h => List.mem_cons_of_mem _ h) (ck_M r h)) tk_M_begin
    (fun _ h => nomatch h)
    (fun _ h => nomatch h)
    bd_M_begin
/-! CodePruner$Ends.setOf -/
def y_E_setOf : MethodName := ⟨"CodePruner$Ends", "setOf", "(I)I"⟩
abbrev b_E_setOf : ByteArray := prog_2_method_5_code
def tb_E_setOf : List wm_R := [(0, .iload_n 0, 1, 0), (1, .iconst (-1), 2, 0), (2, .if_icmp .ne 7, 5, 9), (5, .iconst 0, 6, 0), (6, .goto 6, 9, 12), (9, .iconst 1, 10, 0), (10, .iload_n 0, 11, 0), (11, .ishl, 12, 0), (12, .ireturn, 13, 0)]
theorem tk_E_setOf : tb_E_setOf.all (wm_rokb b_E_setOf) = true := by decide +kernel
abbrev cd_E_setOf : Cond := Cond.code y_E_setOf b_E_setOf 1 (wm_rtT 1)
theorem cw_E_setOf : cd_E_setOf ∈ gw := gw_at 372 (by decide +kernel) rfl
theorem gi_E_setOf : Cond.static y_E_setOf ∈ gw := gw_at 371 (by decide +kernel) rfl
def t_E_setOf : wm_St := (ws_ret .int (wx_cond (wx_bin wr_eq (wx_i 0) (wx_c (-1 : Int32))) (wx_c (0 : Int32)) (wx_bin wo_ishl (wx_c (1 : Int32)) (wx_i 0))))
def f_E_setOf : List Value → wm_S → Option (Option Value × wm_S) := wm_fn wm_any 1 1 t_E_setOf
def rm_E_setOf : Room := { frames := 0, locals := 0 }
abbrev cV_E_setOf : List (Nat × wm_M) := []
abbrev cS_E_setOf : List (Nat × wm_M) := []
set_option maxRecDepth 20000 in
theorem bd_E_setOf (w : wm_K) (ret : Option Value → wm_S → Prop) (hc : wm_cl w_L fl_E cs_E none cV_E_setOf cS_E_setOf ret tb_E_setOf w) : wm_T w tb_E_setOf ret 0 9999 t_E_setOf :=
  (wm_t_ret hc (wm_x_cond (wm_b_cmp hc (wm_x_in hc rfl rfl) (wm_x_iconst hc rfl (by decide)) rfl rfl wm_j_eqF) (wm_x_iconst hc rfl (by decide)) (wm_x_bin hc (wm_x_iconst hc rfl (by decide)) (wm_x_in hc rfl rfl) rfl rfl (fun _ _ _ _ _ _ q => q)) rfl) rfl rfl (fun _ _ _ _ q => q))
theorem c_E_setOf {l : Launch} {D : va_G} {A : Nat → Prop} {ad : Nat → Nat} {cA : Nat → ClassId} (hY : wm_Y cl0 (tys0 cA) A ad cA w_L) : wm_con l y_E_setOf (cd_E_setOf :: gw) rm_E_setOf D cl0 (tys0 cA) A ad cA w_L f_E_setOf :=
  wm_meth (cV := cV_E_setOf) (cS := cS_E_setOf) (by decide) rfl hY (fun r h => wm_fok_mono (fun _ h => List.mem_cons_of_mem _ h) (fk_E r h)) (fun r h => wm_cok_mono (fun _ h => List.mem_cons_of_mem _ h) (ck_E r h)) tk_E_setOf
    (fun _ h => nomatch h)
    (fun _ h => nomatch h)
    bd_E_setOf
/-! CodePruner$Ends.put -/
def y_E_put : MethodName := ⟨"CodePruner$Ends", "put", "(IIIII)V"⟩
abbrev b_E_put : ByteArray := prog_2_method_2_code
def tb_E_put : List wm_R := [(0, .aload_n 0, 1, 0), (1, .getfield 9, 4, 0), (4, .iload_n 1, 5, 0), (5, .iload_n 2, 6, 0), (6, .iastore, 7, 0), (7, .aload_n 0, 8, 0), (8, .getfield 15, 11, 0), (11, .iload_n 1, 12, 0), (12, .iload_n 2, 13, 0), (13, .iconst 1, 14, 0), (14, .if_icmp .ne 7, 17, 21), (17, .iconst 0, 18, 0), (18, .goto 4, 21, 22), (21, .iload_n 3, 22, 0), (22, .iastore, 23, 0), (23, .aload_n 0, 24, 0), (24, .getfield 18, 27, 0), (27, .iload_n 1, 28, 0), (28, .iload_n 2, 29, 0), (29, .ifCond .ne 7, 32, 36), (32, .iconst (-1), 33, 0), (33, .goto 5, 36, 38), (36, .iload 4, 38, 0), (38, .iastore, 39, 0), (39, .aload_n 0, 40, 0), (40, .getfield 21, 43, 0), (43, .iload_n 1, 44, 0), (44, .iload_n 2, 45, 0), (45, .iconst 2, 46, 0), (46, .if_icmp .ne 8, 49, 54), (49, .iload 5, 51, 0), (51, .goto 4, 54, 55), (54, .iconst (-1), 55, 0), (55, .iastore, 56, 0), (56, .aload_n 0, 57, 0), (57, .getfield 24, 60, 0), (60, .iload_n 1, 61, 0), (61, .aload_n 0, 62, 0), (62, .getfield 18, 65, 0), (65, .iload_n 1, 66, 0), (66, .iaload, 67, 0), (67, .invokestatic 27, 70, 0), (70, .aload_n 0, 71, 0), (71, .getfield 21, 74, 0), (74, .iload_n 1, 75, 0), (75, .iaload, 76, 0), (76, .invokestatic 27, 79, 0), (79, .ior, 80, 0), (80, .iastore, 81, 0), (81, .return_, 82, 0)]
theorem tk_E_put : tb_E_put.all (wm_rokb b_E_put) = true := by decide +kernel
abbrev cd_E_put : Cond := Cond.code y_E_put b_E_put 6 (wm_rtT 0)
theorem cw_E_put : cd_E_put ∈ gw := gw_at 369 (by decide +kernel) rfl
theorem gi_E_put : Cond.instanceMethod y_E_put ∈ gw := gw_at 367 (by decide +kernel) rfl
theorem gs_E_put : Cond.selects "CodePruner$Ends" y_E_put y_E_put ∈ gw := gw_at 368 (by decide +kernel) rfl
def t_E_put : wm_St := (ws_seq (ws_ai w_L (wx_fr w_L 2 0 (wx_r 0)) (wx_i 1) (wx_i 2))
  (ws_seq (ws_ai w_L (wx_fr w_L 2 1 (wx_r 0)) (wx_i 1) (wx_cond (wx_bin wr_eq (wx_i 2) (wx_c (1 : Int32))) (wx_c (0 : Int32)) (wx_i 3)))
  (ws_seq (ws_ai w_L (wx_fr w_L 2 2 (wx_r 0)) (wx_i 1) (wx_cond (wx_un (fun v => wr_eq v 0) (wx_i 2)) (wx_c (-1 : Int32)) (wx_i 4)))
  (ws_seq (ws_ai w_L (wx_fr w_L 2 3 (wx_r 0)) (wx_i 1) (wx_cond (wx_bin wr_eq (wx_i 2) (wx_c (2 : Int32))) (wx_i 5) (wx_c (-1 : Int32))))
  (ws_seq (ws_ai w_L (wx_fr w_L 2 4 (wx_r 0)) (wx_i 1) (wx_bin wo_ior (wx_call wm_pi f_E_setOf (wx_a1 .int (wx_ai w_L 0 (wx_fr w_L 2 2 (wx_r 0)) (wx_i 1)))) (wx_call wm_pi f_E_setOf (wx_a1 .int (wx_ai w_L 0 (wx_fr w_L 2 3 (wx_r 0)) (wx_i 1))))))
  ws_retv)))))
def f_E_put : List Value → wm_S → Option (Option Value × wm_S) := wm_fn (wm_isc w_L 2) 0 6 t_E_put
def rm_E_put : Room := { frames := 1, locals := 20 }
abbrev cV_E_put : List (Nat × wm_M) := []
abbrev cS_E_put : List (Nat × wm_M) := [(27, 1, f_E_setOf)]
set_option maxRecDepth 20000 in
theorem bd_E_put (w : wm_K) (ret : Option Value → wm_S → Prop) (hc : wm_cl w_L fl_E cs_E none cV_E_put cS_E_put ret tb_E_put w) : wm_T w tb_E_put ret 0 9999 t_E_put :=
  (wm_t_seq (wm_t_ai hc (wm_x_fr hc (wm_x_rn hc rfl rfl) rfl rfl) (wm_x_in hc rfl rfl) (wm_x_in hc rfl rfl) rfl)
  (wm_t_seq (wm_t_ai hc (wm_x_fr hc (wm_x_rn hc rfl rfl) rfl rfl) (wm_x_in hc rfl rfl) (wm_x_cond (wm_b_cmp hc (wm_x_in hc rfl rfl) (wm_x_iconst hc rfl (by decide)) rfl rfl wm_j_eqF) (wm_x_iconst hc rfl (by decide)) (wm_x_in hc rfl rfl) rfl) rfl)
  (wm_t_seq (wm_t_ai hc (wm_x_fr hc (wm_x_rn hc rfl rfl) rfl rfl) (wm_x_in hc rfl rfl) (wm_x_cond (wm_b_un hc (wm_x_in hc rfl rfl) rfl rfl wm_z_eqF) (wm_x_iconst hc rfl (by decide)) (wm_x_i hc rfl) rfl) rfl)
  (wm_t_seq (wm_t_ai hc (wm_x_fr hc (wm_x_rn hc rfl rfl) rfl rfl) (wm_x_in hc rfl rfl) (wm_x_cond (wm_b_cmp hc (wm_x_in hc rfl rfl) (wm_x_iconst hc rfl (by decide)) rfl rfl wm_j_eqF) (wm_x_i hc rfl) (wm_x_iconst hc rfl (by decide)) rfl) rfl)
  (wm_t_seq (wm_t_ai hc (wm_x_fr hc (wm_x_rn hc rfl rfl) rfl rfl) (wm_x_in hc rfl rfl) (wm_x_bin hc (wm_x_callS hc wm_pi_ok (wm_a_1 (wm_x_ai hc (wm_x_fr hc (wm_x_rn hc rfl rfl) rfl rfl) (wm_x_in hc rfl rfl) rfl)) rfl rfl (by decide)) (wm_x_callS hc wm_pi_ok (wm_a_1 (wm_x_ai hc (wm_x_fr hc (wm_x_rn hc rfl rfl) rfl rfl) (wm_x_in hc rfl rfl) rfl)) rfl rfl (by decide)) rfl rfl (fun _ _ _ _ _ _ q => q)) rfl)
  (wm_t_retv hc rfl))))))
theorem c_E_put {l : Launch} {D : va_G} {A : Nat → Prop} {ad : Nat → Nat} {cA : Nat → ClassId} (hY : wm_Y cl0 (tys0 cA) A ad cA w_L) : wm_con l y_E_put (cd_E_put :: gw) rm_E_put D cl0 (tys0 cA) A ad cA w_L f_E_put :=
  wm_meth (cV := cV_E_put) (cS := cS_E_put) (by decide) rfl hY (fun r h => wm_fok_mono (fun _ h => List.mem_cons_of_mem _ h) (fk_E r h)) (fun r h => wm_cok_mono (fun _ h => List.mem_cons_of_mem _ h) (ck_E r h)) tk_E_put
    (fun _ h => nomatch h)
    (List.forall_mem_cons.mpr ⟨⟨y_E_setOf, b_E_setOf, 1, wm_rtT 1, cd_E_setOf :: gw, gw, rm_E_setOf, c_E_setOf hY, rfl, gw_S (gw_at 370 (by decide +kernel) rfl) gi_E_setOf gn_E cw_E_setOf, rfl, rfl, ⟨by decide, by decide, by decide +kernel⟩, ⟨by decide, by decide⟩⟩, fun _ h => nomatch h⟩)
    bd_E_put
/-! CodePruner$Ends.usedRegisters -/
def y_E_usedRegisters : MethodName := ⟨"CodePruner$Ends", "usedRegisters", "(I)I"⟩
abbrev b_E_usedRegisters : ByteArray := prog_2_method_4_code
def tb_E_usedRegisters : List wm_R := [(0, .aload_n 0, 1, 0), (1, .getfield 9, 4, 0), (4, .iload_n 1, 5, 0), (5, .iaload, 6, 0), (6, .iconst 1, 7, 0), (7, .if_icmp .ne 7, 10, 14), (10, .iconst 0, 11, 0), (11, .goto 11, 14, 22), (14, .iconst 1, 15, 0), (15, .aload_n 0, 16, 0), (16, .getfield 15, 19, 0), (19, .iload_n 1, 20, 0), (20, .iaload, 21, 0), (21, .ishl, 22, 0), (22, .ireturn, 23, 0)]
theorem tk_E_usedRegisters : tb_E_usedRegisters.all (wm_rokb b_E_usedRegisters) = true := by decide +kernel
abbrev cd_E_usedRegisters : Cond := Cond.code y_E_usedRegisters b_E_usedRegisters 2 (wm_rtT 1)
theorem cw_E_usedRegisters : cd_E_usedRegisters ∈ gw := gw_at 537 (by decide +kernel) rfl
theorem gi_E_usedRegisters : Cond.instanceMethod y_E_usedRegisters ∈ gw := gw_at 535 (by decide +kernel) rfl
theorem gs_E_usedRegisters : Cond.selects "CodePruner$Ends" y_E_usedRegisters y_E_usedRegisters ∈ gw := gw_at 536 (by decide +kernel) rfl
def t_E_usedRegisters : wm_St := (ws_ret .int (wx_cond (wx_bin wr_eq (wx_ai w_L 0 (wx_fr w_L 2 0 (wx_r 0)) (wx_i 1)) (wx_c (1 : Int32))) (wx_c (0 : Int32)) (wx_bin wo_ishl (wx_c (1 : Int32)) (wx_ai w_L 0 (wx_fr w_L 2 1 (wx_r 0)) (wx_i 1)))))
def f_E_usedRegisters : List Value → wm_S → Option (Option Value × wm_S) := wm_fn (wm_isc w_L 2) 1 2 t_E_usedRegisters
def rm_E_usedRegisters : Room := { frames := 0, locals := 0 }
abbrev cV_E_usedRegisters : List (Nat × wm_M) := []
abbrev cS_E_usedRegisters : List (Nat × wm_M) := []
set_option maxRecDepth 20000 in
theorem bd_E_usedRegisters (w : wm_K) (ret : Option Value → wm_S → Prop) (hc : wm_cl w_L fl_E cs_E none cV_E_usedRegisters cS_E_usedRegisters ret tb_E_usedRegisters w) : wm_T w tb_E_usedRegisters ret 0 9999 t_E_usedRegisters :=
  (wm_t_ret hc (wm_x_cond (wm_b_cmp hc (wm_x_ai hc (wm_x_fr hc (wm_x_rn hc rfl rfl) rfl rfl) (wm_x_in hc rfl rfl) rfl) (wm_x_iconst hc rfl (by decide)) rfl rfl wm_j_eqF) (wm_x_iconst hc rfl (by decide)) (wm_x_bin hc (wm_x_iconst hc rfl (by decide)) (wm_x_ai hc (wm_x_fr hc (wm_x_rn hc rfl rfl) rfl rfl) (wm_x_in hc rfl rfl) rfl) rfl rfl (fun _ _ _ _ _ _ q => q)) rfl) rfl rfl (fun _ _ _ _ q => q))
theorem c_E_usedRegisters {l : Launch} {D : va_G} {A : Nat → Prop} {ad : Nat → Nat} {cA : Nat → ClassId} (hY : wm_Y cl0 (tys0 cA) A ad cA w_L) : wm_con l y_E_usedRegisters (cd_E_usedRegisters :: gw) rm_E_usedRegisters D cl0 (tys0 cA) A ad cA w_L f_E_usedRegisters :=
  wm_meth (cV := cV_E_usedRegisters) (cS := cS_E_usedRegisters) (by decide) rfl hY (fun r h => wm_fok_mono (fun _ h => List.mem_cons_of_mem _ h) (fk_E r h)) (fun r h => wm_cok_mono (fun _ h => List.mem_cons_of_mem _ h) (ck_E r h)) tk_E_usedRegisters
    (fun _ h => nomatch h)
    (fun _ h => nomatch h)
    bd_E_usedRegisters
/-! CodePruner$Ends.copyFrom -/
def y_E_copyFrom : MethodName := ⟨"CodePruner$Ends", "copyFrom", "(LCodePruner$Ends;I)V"⟩
abbrev b_E_copyFrom : ByteArray := prog_2_method_3_code
def tb_E_copyFrom : List wm_R := [(0, .aload_n 0, 1, 0), (1, .iload_n 2, 2, 0), (2, .aload_n 1, 3, 0), (3, .getfield 9, 6, 0), (6, .iload_n 2, 7, 0), (7, .iaload, 8, 0), (8, .aload_n 1, 9, 0), (9, .getfield 15, 12, 0), (12, .iload_n 2, 13, 0), (13, .iaload, 14, 0), (14, .aload_n 1, 15, 0), (15, .getfield 18, 18, 0), (18, .iload_n 2, 19, 0), (19, .iaload, 20, 0), (20, .aload_n 1, 21, 0), (21, .getfield 21, 24, 0), (24, .iload_n 2, 25, 0), (25, .iaload, 26, 0), (26, .invokevirtual 31, 29, 0), (29, .return_, 30, 0)]
theorem tk_E_copyFrom : tb_E_copyFrom.all (wm_rokb b_E_copyFrom) = true := by decide +kernel
abbrev cd_E_copyFrom : Cond := Cond.code y_E_copyFrom b_E_copyFrom 3 (wm_rtT 0)
theorem cw_E_copyFrom : cd_E_copyFrom ∈ gw := gw_at 582 (by decide +kernel) rfl
theorem gi_E_copyFrom : Cond.instanceMethod y_E_copyFrom ∈ gw := gw_at 580 (by decide +kernel) rfl
theorem gs_E_copyFrom : Cond.selects "CodePruner$Ends" y_E_copyFrom y_E_copyFrom ∈ gw := gw_at 581 (by decide +kernel) rfl
def t_E_copyFrom : wm_St := (ws_seq (ws_call f_E_put (wx_ac .ref (wx_r 0) (wx_ac .int (wx_i 2) (wx_ac .int (wx_ai w_L 0 (wx_fr w_L 2 0 (wx_r 1)) (wx_i 2)) (wx_ac .int (wx_ai w_L 0 (wx_fr w_L 2 1 (wx_r 1)) (wx_i 2)) (wx_ac .int (wx_ai w_L 0 (wx_fr w_L 2 2 (wx_r 1)) (wx_i 2)) (wx_a1 .int (wx_ai w_L 0 (wx_fr w_L 2 3 (wx_r 1)) (wx_i 2)))))))))
  ws_retv)
def f_E_copyFrom : List Value → wm_S → Option (Option Value × wm_S) := wm_fn (wm_isc w_L 2) 0 3 t_E_copyFrom
def rm_E_copyFrom : Room := { frames := 2, locals := 45 }
abbrev cV_E_copyFrom : List (Nat × wm_M) := [(31, 6, f_E_put)]
abbrev cS_E_copyFrom : List (Nat × wm_M) := []
set_option maxRecDepth 20000 in
theorem bd_E_copyFrom (w : wm_K) (ret : Option Value → wm_S → Prop) (hc : wm_cl w_L fl_E cs_E none cV_E_copyFrom cS_E_copyFrom ret tb_E_copyFrom w) : wm_T w tb_E_copyFrom ret 0 9999 t_E_copyFrom :=
  (wm_t_seq (wm_t_callV hc (wm_a_c (wm_x_rn hc rfl rfl) (wm_a_c (wm_x_in hc rfl rfl) (wm_a_c (wm_x_ai hc (wm_x_fr hc (wm_x_rn hc rfl rfl) rfl rfl) (wm_x_in hc rfl rfl) rfl) (wm_a_c (wm_x_ai hc (wm_x_fr hc (wm_x_rn hc rfl rfl) rfl rfl) (wm_x_in hc rfl rfl) rfl) (wm_a_c (wm_x_ai hc (wm_x_fr hc (wm_x_rn hc rfl rfl) rfl rfl) (wm_x_in hc rfl rfl) rfl) (wm_a_1 (wm_x_ai hc (wm_x_fr hc (wm_x_rn hc rfl rfl) rfl rfl) (wm_x_in hc rfl rfl) rfl))))))) rfl rfl)
  (wm_t_retv hc rfl))
theorem c_E_copyFrom {l : Launch} {D : va_G} {A : Nat → Prop} {ad : Nat → Nat} {cA : Nat → ClassId} (hY : wm_Y cl0 (tys0 cA) A ad cA w_L) : wm_con l y_E_copyFrom (cd_E_copyFrom :: gw) rm_E_copyFrom D cl0 (tys0 cA) A ad cA w_L f_E_copyFrom :=
  wm_meth (cV := cV_E_copyFrom) (cS := cS_E_copyFrom) (by decide) rfl hY (fun r h => wm_fok_mono (fun _ h => List.mem_cons_of_mem _ h) (fk_E r h)) (fun r h => wm_cok_mono (fun _ h => List.mem_cons_of_mem _ h) (ck_E r h)) tk_E_copyFrom
    (List.forall_mem_cons.mpr ⟨⟨y_E_put, b_E_put, 6, wm_rtT 0, cd_E_put :: gw, gw, rm_E_put, 5, 2, 5, T_E, c_E_put hY, rfl, gw_V (gw_at 583 (by decide +kernel) rfl) gi_E_put gs_E_put gn_E cw_E_put, rfl, rfl, ⟨by decide, by decide, by decide +kernel⟩, rfl, ⟨by decide, by decide⟩, rfl, fun vs S r h => (wm_fn_some (v := r.1) (S' := r.2) h).1⟩, fun _ h => nomatch h⟩)
    (fun _ h => nomatch h)
    bd_E_copyFrom
/-! CodePruner$Machine.takeInput -/
def y_M_takeInput : MethodName := ⟨"CodePruner$Machine", "takeInput", "()I"⟩
abbrev b_M_takeInput : ByteArray := prog_4_method_7_code
def tb_M_takeInput : List wm_R := [(0, .iconst 4, 1, 0), (1, .aload_n 0, 2, 0), (2, .getfield 31, 5, 0), (5, .bipush 8, 7, 0), (7, .irem, 8, 0), (8, .imul, 9, 0), (9, .istore_n 1, 10, 0), (10, .aload_n 0, 11, 0), (11, .dup, 12, 0), (12, .getfield 31, 15, 0), (15, .iconst 1, 16, 0), (16, .iadd, 17, 0), (17, .putfield 31, 20, 0), (20, .aload_n 0, 21, 0), (21, .getfield 28, 24, 0), (24, .iload_n 1, 25, 0), (25, .iushr, 26, 0), (26, .bipush 15, 28, 0), (28, .iand, 29, 0), (29, .iconst 4, 30, 0), (30, .isub, 31, 0), (31, .ireturn, 32, 0)]
theorem tk_M_takeInput : tb_M_takeInput.all (wm_rokb b_M_takeInput) = true := by decide +kernel
abbrev cd_M_takeInput : Cond := Cond.code y_M_takeInput b_M_takeInput 2 (wm_rtT 1)
theorem cw_M_takeInput : cd_M_takeInput ∈ gw := gw_at 641 (by decide +kernel) rfl
theorem gi_M_takeInput : Cond.instanceMethod y_M_takeInput ∈ gw := gw_at 640 (by decide +kernel) rfl
theorem gs_M_takeInput : Cond.selects "CodePruner$Machine" y_M_takeInput y_M_takeInput ∈ gw := gw_of (List.mem_append_left _ (List.mem_of_getElem? (i := 17) (by decide +kernel))) rfl
def t_M_takeInput : wm_St := (ws_seq (ws_i 1 (wx_bin wo_imul (wx_c (4 : Int32)) (wx_rem (wx_fi w_L 7 6 (wx_r 0)) (wx_c (8 : Int32)))))
  (ws_seq (ws_ofi w_L 7 6 wo_iadd (wx_r 0) (wx_c (1 : Int32)))
  (ws_ret .int (wx_bin wo_isub (wx_bin wo_iand (wx_bin wo_iushr (wx_fi w_L 7 5 (wx_r 0)) (wx_i 1)) (wx_c (15 : Int32))) (wx_c (4 : Int32))))))
def f_M_takeInput : List Value → wm_S → Option (Option Value × wm_S) := wm_fn (wm_isc w_L 7) 1 2 t_M_takeInput
def rm_M_takeInput : Room := { frames := 0, locals := 0 }
abbrev cV_M_takeInput : List (Nat × wm_M) := []
abbrev cS_M_takeInput : List (Nat × wm_M) := []
set_option maxRecDepth 20000 in
theorem bd_M_takeInput (w : wm_K) (ret : Option Value → wm_S → Prop) (hc : wm_cl w_L fl_M cs_M none cV_M_takeInput cS_M_takeInput ret tb_M_takeInput w) : wm_T w tb_M_takeInput ret 0 9999 t_M_takeInput :=
  (wm_t_seq (wm_t_in hc (wm_x_bin hc (wm_x_iconst hc rfl (by decide)) (wm_x_rem hc (wm_x_fi hc (wm_x_rn hc rfl rfl) rfl rfl) (wm_x_bipush hc rfl (by decide)) rfl) rfl rfl (fun _ _ _ _ _ _ q => q)) rfl rfl)
  (wm_t_seq (wm_t_ofi hc (wm_x_rn hc rfl rfl) rfl rfl (wm_x_iconst hc rfl (by decide)) rfl rfl (fun _ _ _ _ _ _ q => q) rfl rfl)
  (wm_t_ret hc (wm_x_bin hc (wm_x_bin hc (wm_x_bin hc (wm_x_fi hc (wm_x_rn hc rfl rfl) rfl rfl) (wm_x_in hc rfl rfl) rfl rfl (fun _ _ _ _ _ _ q => q)) (wm_x_bipush hc rfl (by decide)) rfl rfl (fun _ _ _ _ _ _ q => q)) (wm_x_iconst hc rfl (by decide)) rfl rfl (fun _ _ _ _ _ _ q => q)) rfl rfl (fun _ _ _ _ q => q))))
theorem c_M_takeInput {l : Launch} {D : va_G} {A : Nat → Prop} {ad : Nat → Nat} {cA : Nat → ClassId} (hY : wm_Y cl0 (tys0 cA) A ad cA w_L) : wm_con l y_M_takeInput (cd_M_takeInput :: gw) rm_M_takeInput D cl0 (tys0 cA) A ad cA w_L f_M_takeInput :=
  wm_meth (cV := cV_M_takeInput) (cS := cS_M_takeInput) (by decide) rfl hY (fun r h => wm_fok_mono (fun _ h => List.mem_cons_of_mem _ h) (fk_M r h)) (fun r h => wm_cok_mono (fun _ h => List.mem_cons_of_mem _ h) (ck_M r h)) tk_M_takeInput
    (fun _ h => nomatch h)
    (fun _ h => nomatch h)
    bd_M_takeInput
/-! CodePruner$Machine.put -/
def y_M_put : MethodName := ⟨"CodePruner$Machine", "put", "(I)V"⟩
abbrev b_M_put : ByteArray := prog_4_method_8_code
def tb_M_put : List wm_R := [(0, .aload_n 0, 1, 0), (1, .getfield 22, 4, 0), (4, .bipush 50, 6, 0), (6, .if_icmp .ge 13, 9, 19), (9, .aload_n 0, 10, 0), (10, .getfield 15, 13, 0), (13, .aload_n 0, 14, 0), (14, .getfield 22, 17, 0), (17, .iload_n 1, 18, 0), (18, .iastore, 19, 0), (19, .aload_n 0, 20, 0), (20, .dup, 21, 0), (21, .getfield 22, 24, 0), (24, .iconst 1, 25, 0), (25, .iadd, 26, 0), (26, .putfield 22, 29, 0), (29, .return_, 30, 0)]
theorem tk_M_put : tb_M_put.all (wm_rokb b_M_put) = true := by decide +kernel
abbrev cd_M_put : Cond := Cond.code y_M_put b_M_put 2 (wm_rtT 0)
theorem cw_M_put : cd_M_put ∈ gw := gw_at 645 (by decide +kernel) rfl
theorem gi_M_put : Cond.instanceMethod y_M_put ∈ gw := gw_at 644 (by decide +kernel) rfl
theorem gs_M_put : Cond.selects "CodePruner$Machine" y_M_put y_M_put ∈ gw := gw_of (List.mem_append_left _ (List.mem_of_getElem? (i := 18) (by decide +kernel))) rfl
def t_M_put : wm_St := (ws_seq (ws_if (wx_bin wr_lt (wx_fi w_L 7 3 (wx_r 0)) (wx_c (50 : Int32)))
  (ws_ai w_L (wx_fr w_L 7 1 (wx_r 0)) (wx_fi w_L 7 3 (wx_r 0)) (wx_i 1)))
  (ws_seq (ws_ofi w_L 7 3 wo_iadd (wx_r 0) (wx_c (1 : Int32)))
  ws_retv))
def f_M_put : List Value → wm_S → Option (Option Value × wm_S) := wm_fn (wm_isc w_L 7) 0 2 t_M_put
def rm_M_put : Room := { frames := 0, locals := 0 }
abbrev cV_M_put : List (Nat × wm_M) := []
abbrev cS_M_put : List (Nat × wm_M) := []
set_option maxRecDepth 20000 in
theorem bd_M_put (w : wm_K) (ret : Option Value → wm_S → Prop) (hc : wm_cl w_L fl_M cs_M none cV_M_put cS_M_put ret tb_M_put w) : wm_T w tb_M_put ret 0 9999 t_M_put :=
  (wm_t_seq (wm_t_if (wm_b_cmp hc (wm_x_fi hc (wm_x_rn hc rfl rfl) rfl rfl) (wm_x_bipush hc rfl (by decide)) rfl rfl wm_j_ltF)
  (wm_t_ai hc (wm_x_fr hc (wm_x_rn hc rfl rfl) rfl rfl) (wm_x_fi hc (wm_x_rn hc rfl rfl) rfl rfl) (wm_x_in hc rfl rfl) rfl) rfl)
  (wm_t_seq (wm_t_ofi hc (wm_x_rn hc rfl rfl) rfl rfl (wm_x_iconst hc rfl (by decide)) rfl rfl (fun _ _ _ _ _ _ q => q) rfl rfl)
  (wm_t_retv hc rfl)))
theorem c_M_put {l : Launch} {D : va_G} {A : Nat → Prop} {ad : Nat → Nat} {cA : Nat → ClassId} (hY : wm_Y cl0 (tys0 cA) A ad cA w_L) : wm_con l y_M_put (cd_M_put :: gw) rm_M_put D cl0 (tys0 cA) A ad cA w_L f_M_put :=
  wm_meth (cV := cV_M_put) (cS := cS_M_put) (by decide) rfl hY (fun r h => wm_fok_mono (fun _ h => List.mem_cons_of_mem _ h) (fk_M r h)) (fun r h => wm_cok_mono (fun _ h => List.mem_cons_of_mem _ h) (ck_M r h)) tk_M_put
    (fun _ h => nomatch h)
    (fun _ h => nomatch h)
    bd_M_put
/-! CodePruner$Machine.compute -/
def y_M_compute : MethodName := ⟨"CodePruner$Machine", "compute", "(III)I"⟩
abbrev b_M_compute : ByteArray := prog_4_method_6_code
def tb_M_compute : List wm_R := [(0, .iload_n 0, 1, 0), (1, .tableswitch 39 2 4 #[27, 31, 35], 28, 0), (28, .iload_n 1, 29, 0), (29, .iload_n 2, 30, 0), (30, .iadd, 31, 0), (31, .ireturn, 32, 0), (32, .iload_n 1, 33, 0), (33, .iload_n 2, 34, 0), (34, .isub, 35, 0), (35, .ireturn, 36, 0), (36, .iload_n 1, 37, 0), (37, .iload_n 2, 38, 0), (38, .imul, 39, 0), (39, .ireturn, 40, 0), (40, .iload_n 2, 41, 0), (41, .ifCond .ne 7, 44, 48), (44, .iconst 0, 45, 0), (45, .goto 6, 48, 51), (48, .iload_n 1, 49, 0), (49, .iload_n 2, 50, 0), (50, .idiv, 51, 0), (51, .ireturn, 52, 0)]
theorem tk_M_compute : tb_M_compute.all (wm_rokb b_M_compute) = true := by decide +kernel
abbrev cd_M_compute : Cond := Cond.code y_M_compute b_M_compute 3 (wm_rtT 1)
theorem cw_M_compute : cd_M_compute ∈ gw := gw_at 648 (by decide +kernel) rfl
theorem gi_M_compute : Cond.static y_M_compute ∈ gw := gw_at 647 (by decide +kernel) rfl
def t_M_compute : wm_St := (ws_sw (wx_i 0) 2 [(ws_ret .int (wx_bin wo_iadd (wx_i 1) (wx_i 2))),
  (ws_ret .int (wx_bin wo_isub (wx_i 1) (wx_i 2))),
  (ws_ret .int (wx_bin wo_imul (wx_i 1) (wx_i 2)))]
  (ws_ret .int (wx_cond (wx_un (fun v => wr_eq v 0) (wx_i 2)) (wx_c (0 : Int32)) (wx_div (wx_i 1) (wx_i 2)))))
def f_M_compute : List Value → wm_S → Option (Option Value × wm_S) := wm_fn wm_any 1 3 t_M_compute
def rm_M_compute : Room := { frames := 0, locals := 0 }
abbrev cV_M_compute : List (Nat × wm_M) := []
abbrev cS_M_compute : List (Nat × wm_M) := []
set_option maxRecDepth 20000 in
theorem bd_M_compute (w : wm_K) (ret : Option Value → wm_S → Prop) (hc : wm_cl w_L fl_M cs_M none cV_M_compute cS_M_compute ret tb_M_compute w) : wm_T w tb_M_compute ret 0 9999 t_M_compute :=
  (wm_t_sw hc (wm_x_in hc rfl rfl) rfl rfl
  ⟨⟨28, _, rfl, (wm_t_ret hc (wm_x_bin hc (wm_x_in hc rfl rfl) (wm_x_in hc rfl rfl) rfl rfl (fun _ _ _ _ _ _ q => q)) rfl rfl (fun _ _ _ _ q => q)), rfl⟩, ⟨⟨32, _, rfl, (wm_t_ret hc (wm_x_bin hc (wm_x_in hc rfl rfl) (wm_x_in hc rfl rfl) rfl rfl (fun _ _ _ _ _ _ q => q)) rfl rfl (fun _ _ _ _ q => q)), rfl⟩, ⟨⟨36, _, rfl, (wm_t_ret hc (wm_x_bin hc (wm_x_in hc rfl rfl) (wm_x_in hc rfl rfl) rfl rfl (fun _ _ _ _ _ _ q => q)) rfl rfl (fun _ _ _ _ q => q)), rfl⟩, trivial⟩⟩⟩
  ⟨40, _, rfl, (wm_t_ret hc (wm_x_cond (wm_b_un hc (wm_x_in hc rfl rfl) rfl rfl wm_z_eqF) (wm_x_iconst hc rfl (by decide)) (wm_x_div hc (wm_x_in hc rfl rfl) (wm_x_in hc rfl rfl) rfl) rfl) rfl rfl (fun _ _ _ _ q => q)), rfl⟩)
theorem c_M_compute {l : Launch} {D : va_G} {A : Nat → Prop} {ad : Nat → Nat} {cA : Nat → ClassId} (hY : wm_Y cl0 (tys0 cA) A ad cA w_L) : wm_con l y_M_compute (cd_M_compute :: gw) rm_M_compute D cl0 (tys0 cA) A ad cA w_L f_M_compute :=
  wm_meth (cV := cV_M_compute) (cS := cS_M_compute) (by decide) rfl hY (fun r h => wm_fok_mono (fun _ h => List.mem_cons_of_mem _ h) (fk_M r h)) (fun r h => wm_cok_mono (fun _ h => List.mem_cons_of_mem _ h) (ck_M r h)) tk_M_compute
    (fun _ h => nomatch h)
    (fun _ h => nomatch h)
    bd_M_compute
/-! CodePruner$Machine.doInstruction -/
def y_M_doInstruction : MethodName := ⟨"CodePruner$Machine", "doInstruction", "(LCodePruner$Program;I)V"⟩
abbrev b_M_doInstruction : ByteArray := prog_4_method_5_code
def tb_M_doInstruction : List wm_R := [(0, .aload_n 1, 1, 0), (1, .getfield 64, 4, 0), (4, .iload_n 2, 5, 0), (5, .iaload, 6, 0), (6, .tableswitch 127 0 7 #[46, 66, 127, 127, 127, 127, 91, 109], 52, 0), (52, .aload_n 0, 53, 0), (53, .getfield 9, 56, 0), (56, .aload_n 1, 57, 0), (57, .getfield 74, 60, 0), (60, .iload_n 2, 61, 0), (61, .iaload, 62, 0), (62, .aload_n 1, 63, 0), (63, .getfield 77, 66, 0), (66, .iload_n 2, 67, 0), (67, .iaload, 68, 0), (68, .iastore, 69, 0), (69, .goto 106, 72, 175), (72, .aload_n 0, 73, 0), (73, .getfield 9, 76, 0), (76, .aload_n 1, 77, 0), (77, .getfield 74, 80, 0), (80, .iload_n 2, 81, 0), (81, .iaload, 82, 0), (82, .aload_n 0, 83, 0), (83, .getfield 9, 86, 0), (86, .aload_n 1, 87, 0), (87, .getfield 77, 90, 0), (90, .iload_n 2, 91, 0), (91, .iaload, 92, 0), (92, .iaload, 93, 0), (93, .iastore, 94, 0), (94, .goto 81, 97, 175), (97, .aload_n 0, 98, 0), (98, .getfield 9, 101, 0), (101, .aload_n 1, 102, 0), (102, .getfield 74, 105, 0), (105, .iload_n 2, 106, 0), (106, .iaload, 107, 0), (107, .aload_n 0, 108, 0), (108, .invokevirtual 80, 111, 0), (111, .iastore, 112, 0), (112, .goto 63, 115, 175), (115, .aload_n 0, 116, 0), (116, .aload_n 0, 117, 0), (117, .getfield 9, 120, 0), (120, .aload_n 1, 121, 0), (121, .getfield 74, 124, 0), (124, .iload_n 2, 125, 0), (125, .iaload, 126, 0), (126, .iaload, 127, 0), (127, .invokevirtual 84, 130, 0), (130, .goto 45, 133, 175), (133, .aload_n 0, 134, 0), (134, .getfield 9, 137, 0), (137, .aload_n 1, 138, 0), (138, .getfield 74, 141, 0), (141, .iload_n 2, 142, 0), (142, .iaload, 143, 0), (143, .aload_n 1, 144, 0), (144, .getfield 64, 147, 0), (147, .iload_n 2, 148, 0), (148, .iaload, 149, 0), (149, .aload_n 0, 150, 0), (150, .getfield 9, 153, 0), (153, .aload_n 1, 154, 0), (154, .getfield 77, 157, 0), (157, .iload_n 2, 158, 0), (158, .iaload, 159, 0), (159, .iaload, 160, 0), (160, .aload_n 0, 161, 0), (161, .getfield 9, 164, 0), (164, .aload_n 1, 165, 0), (165, .getfield 67, 168, 0), (168, .iload_n 2, 169, 0), (169, .iaload, 170, 0), (170, .iaload, 171, 0), (171, .invokestatic 88, 174, 0), (174, .iastore, 175, 0), (175, .return_, 176, 0)]
theorem tk_M_doInstruction : tb_M_doInstruction.all (wm_rokb b_M_doInstruction) = true := by decide +kernel
abbrev cd_M_doInstruction : Cond := Cond.code y_M_doInstruction b_M_doInstruction 3 (wm_rtT 0)
theorem cw_M_doInstruction : cd_M_doInstruction ∈ gw := gw_at 637 (by decide +kernel) rfl
theorem gi_M_doInstruction : Cond.instanceMethod y_M_doInstruction ∈ gw := gw_at 636 (by decide +kernel) rfl
theorem gs_M_doInstruction : Cond.selects "CodePruner$Machine" y_M_doInstruction y_M_doInstruction ∈ gw := gw_of (List.mem_append_left _ (List.mem_of_getElem? (i := 16) (by decide +kernel))) rfl
def t_M_doInstruction : wm_St := (ws_seq (ws_sw (wx_ai w_L 0 (wx_fr w_L 1 2 (wx_r 1)) (wx_i 2)) 0 [(ws_ai w_L (wx_fr w_L 7 0 (wx_r 0)) (wx_ai w_L 0 (wx_fr w_L 1 3 (wx_r 1)) (wx_i 2)) (wx_ai w_L 0 (wx_fr w_L 1 4 (wx_r 1)) (wx_i 2))),
  (ws_ai w_L (wx_fr w_L 7 0 (wx_r 0)) (wx_ai w_L 0 (wx_fr w_L 1 3 (wx_r 1)) (wx_i 2)) (wx_ai w_L 0 (wx_fr w_L 7 0 (wx_r 0)) (wx_ai w_L 0 (wx_fr w_L 1 4 (wx_r 1)) (wx_i 2)))),
  (ws_ai w_L (wx_fr w_L 7 0 (wx_r 0)) (wx_ai w_L 0 (wx_fr w_L 1 3 (wx_r 1)) (wx_i 2)) (wx_call wm_pi f_M_compute (wx_ac .int (wx_ai w_L 0 (wx_fr w_L 1 2 (wx_r 1)) (wx_i 2)) (wx_ac .int (wx_ai w_L 0 (wx_fr w_L 7 0 (wx_r 0)) (wx_ai w_L 0 (wx_fr w_L 1 4 (wx_r 1)) (wx_i 2))) (wx_a1 .int (wx_ai w_L 0 (wx_fr w_L 7 0 (wx_r 0)) (wx_ai w_L 0 (wx_fr w_L 1 5 (wx_r 1)) (wx_i 2)))))))),
  (ws_ai w_L (wx_fr w_L 7 0 (wx_r 0)) (wx_ai w_L 0 (wx_fr w_L 1 3 (wx_r 1)) (wx_i 2)) (wx_call wm_pi f_M_compute (wx_ac .int (wx_ai w_L 0 (wx_fr w_L 1 2 (wx_r 1)) (wx_i 2)) (wx_ac .int (wx_ai w_L 0 (wx_fr w_L 7 0 (wx_r 0)) (wx_ai w_L 0 (wx_fr w_L 1 4 (wx_r 1)) (wx_i 2))) (wx_a1 .int (wx_ai w_L 0 (wx_fr w_L 7 0 (wx_r 0)) (wx_ai w_L 0 (wx_fr w_L 1 5 (wx_r 1)) (wx_i 2)))))))),
  (ws_ai w_L (wx_fr w_L 7 0 (wx_r 0)) (wx_ai w_L 0 (wx_fr w_L 1 3 (wx_r 1)) (wx_i 2)) (wx_call wm_pi f_M_compute (wx_ac .int (wx_ai w_L 0 (wx_fr w_L 1 2 (wx_r 1)) (wx_i 2)) (wx_ac .int (wx_ai w_L 0 (wx_fr w_L 7 0 (wx_r 0)) (wx_ai w_L 0 (wx_fr w_L 1 4 (wx_r 1)) (wx_i 2))) (wx_a1 .int (wx_ai w_L 0 (wx_fr w_L 7 0 (wx_r 0)) (wx_ai w_L 0 (wx_fr w_L 1 5 (wx_r 1)) (wx_i 2)))))))),
  (ws_ai w_L (wx_fr w_L 7 0 (wx_r 0)) (wx_ai w_L 0 (wx_fr w_L 1 3 (wx_r 1)) (wx_i 2)) (wx_call wm_pi f_M_compute (wx_ac .int (wx_ai w_L 0 (wx_fr w_L 1 2 (wx_r 1)) (wx_i 2)) (wx_ac .int (wx_ai w_L 0 (wx_fr w_L 7 0 (wx_r 0)) (wx_ai w_L 0 (wx_fr w_L 1 4 (wx_r 1)) (wx_i 2))) (wx_a1 .int (wx_ai w_L 0 (wx_fr w_L 7 0 (wx_r 0)) (wx_ai w_L 0 (wx_fr w_L 1 5 (wx_r 1)) (wx_i 2)))))))),
  (ws_ai w_L (wx_fr w_L 7 0 (wx_r 0)) (wx_ai w_L 0 (wx_fr w_L 1 3 (wx_r 1)) (wx_i 2)) (wx_call wm_pi f_M_takeInput (wx_a1 .ref (wx_r 0)))),
  (ws_call f_M_put (wx_ac .ref (wx_r 0) (wx_a1 .int (wx_ai w_L 0 (wx_fr w_L 7 0 (wx_r 0)) (wx_ai w_L 0 (wx_fr w_L 1 3 (wx_r 1)) (wx_i 2))))))]
  (ws_ai w_L (wx_fr w_L 7 0 (wx_r 0)) (wx_ai w_L 0 (wx_fr w_L 1 3 (wx_r 1)) (wx_i 2)) (wx_call wm_pi f_M_compute (wx_ac .int (wx_ai w_L 0 (wx_fr w_L 1 2 (wx_r 1)) (wx_i 2)) (wx_ac .int (wx_ai w_L 0 (wx_fr w_L 7 0 (wx_r 0)) (wx_ai w_L 0 (wx_fr w_L 1 4 (wx_r 1)) (wx_i 2))) (wx_a1 .int (wx_ai w_L 0 (wx_fr w_L 7 0 (wx_r 0)) (wx_ai w_L 0 (wx_fr w_L 1 5 (wx_r 1)) (wx_i 2)))))))))
  ws_retv)
def f_M_doInstruction : List Value → wm_S → Option (Option Value × wm_S) := wm_fn (wm_isc w_L 7) 0 3 t_M_doInstruction
def rm_M_doInstruction : Room := { frames := 1, locals := 22 }
abbrev cV_M_doInstruction : List (Nat × wm_M) := [(80, 1, f_M_takeInput), (84, 2, f_M_put)]
abbrev cS_M_doInstruction : List (Nat × wm_M) := [(88, 3, f_M_compute)]
set_option maxRecDepth 20000 in
theorem bd_M_doInstruction (w : wm_K) (ret : Option Value → wm_S → Prop) (hc : wm_cl w_L fl_M cs_M none cV_M_doInstruction cS_M_doInstruction ret tb_M_doInstruction w) : wm_T w tb_M_doInstruction ret 0 9999 t_M_doInstruction :=
  (wm_t_seq (wm_t_sw (pE := 175) hc (wm_x_ai hc (wm_x_fr hc (wm_x_rn hc rfl rfl) rfl rfl) (wm_x_in hc rfl rfl) rfl) rfl rfl
  ⟨⟨52, _, rfl, (wm_t_ai hc (wm_x_fr hc (wm_x_rn hc rfl rfl) rfl rfl) (wm_x_ai hc (wm_x_fr hc (wm_x_rn hc rfl rfl) rfl rfl) (wm_x_in hc rfl rfl) rfl) (wm_x_ai hc (wm_x_fr hc (wm_x_rn hc rfl rfl) rfl rfl) (wm_x_in hc rfl rfl) rfl) rfl), rfl⟩, ⟨⟨72, _, rfl, (wm_t_ai hc (wm_x_fr hc (wm_x_rn hc rfl rfl) rfl rfl) (wm_x_ai hc (wm_x_fr hc (wm_x_rn hc rfl rfl) rfl rfl) (wm_x_in hc rfl rfl) rfl) (wm_x_ai hc (wm_x_fr hc (wm_x_rn hc rfl rfl) rfl rfl) (wm_x_ai hc (wm_x_fr hc (wm_x_rn hc rfl rfl) rfl rfl) (wm_x_in hc rfl rfl) rfl) rfl) rfl), rfl⟩, ⟨⟨133, _, rfl, (wm_t_ai hc (wm_x_fr hc (wm_x_rn hc rfl rfl) rfl rfl) (wm_x_ai hc (wm_x_fr hc (wm_x_rn hc rfl rfl) rfl rfl) (wm_x_in hc rfl rfl) rfl) (wm_x_callS hc wm_pi_ok (wm_a_c (wm_x_ai hc (wm_x_fr hc (wm_x_rn hc rfl rfl) rfl rfl) (wm_x_in hc rfl rfl) rfl) (wm_a_c (wm_x_ai hc (wm_x_fr hc (wm_x_rn hc rfl rfl) rfl rfl) (wm_x_ai hc (wm_x_fr hc (wm_x_rn hc rfl rfl) rfl rfl) (wm_x_in hc rfl rfl) rfl) rfl) (wm_a_1 (wm_x_ai hc (wm_x_fr hc (wm_x_rn hc rfl rfl) rfl rfl) (wm_x_ai hc (wm_x_fr hc (wm_x_rn hc rfl rfl) rfl rfl) (wm_x_in hc rfl rfl) rfl) rfl)))) rfl rfl (by decide)) rfl), rfl⟩, ⟨⟨133, _, rfl, (wm_t_ai hc (wm_x_fr hc (wm_x_rn hc rfl rfl) rfl rfl) (wm_x_ai hc (wm_x_fr hc (wm_x_rn hc rfl rfl) rfl rfl) (wm_x_in hc rfl rfl) rfl) (wm_x_callS hc wm_pi_ok (wm_a_c (wm_x_ai hc (wm_x_fr hc (wm_x_rn hc rfl rfl) rfl rfl) (wm_x_in hc rfl rfl) rfl) (wm_a_c (wm_x_ai hc (wm_x_fr hc (wm_x_rn hc rfl rfl) rfl rfl) (wm_x_ai hc (wm_x_fr hc (wm_x_rn hc rfl rfl) rfl rfl) (wm_x_in hc rfl rfl) rfl) rfl) (wm_a_1 (wm_x_ai hc (wm_x_fr hc (wm_x_rn hc rfl rfl) rfl rfl) (wm_x_ai hc (wm_x_fr hc (wm_x_rn hc rfl rfl) rfl rfl) (wm_x_in hc rfl rfl) rfl) rfl)))) rfl rfl (by decide)) rfl), rfl⟩, ⟨⟨133, _, rfl, (wm_t_ai hc (wm_x_fr hc (wm_x_rn hc rfl rfl) rfl rfl) (wm_x_ai hc (wm_x_fr hc (wm_x_rn hc rfl rfl) rfl rfl) (wm_x_in hc rfl rfl) rfl) (wm_x_callS hc wm_pi_ok (wm_a_c (wm_x_ai hc (wm_x_fr hc (wm_x_rn hc rfl rfl) rfl rfl) (wm_x_in hc rfl rfl) rfl) (wm_a_c (wm_x_ai hc (wm_x_fr hc (wm_x_rn hc rfl rfl) rfl rfl) (wm_x_ai hc (wm_x_fr hc (wm_x_rn hc rfl rfl) rfl rfl) (wm_x_in hc rfl rfl) rfl) rfl) (wm_a_1 (wm_x_ai hc (wm_x_fr hc (wm_x_rn hc rfl rfl) rfl rfl) (wm_x_ai hc (wm_x_fr hc (wm_x_rn hc rfl rfl) rfl rfl) (wm_x_in hc rfl rfl) rfl) rfl)))) rfl rfl (by decide)) rfl), rfl⟩, ⟨⟨133, _, rfl, (wm_t_ai hc (wm_x_fr hc (wm_x_rn hc rfl rfl) rfl rfl) (wm_x_ai hc (wm_x_fr hc (wm_x_rn hc rfl rfl) rfl rfl) (wm_x_in hc rfl rfl) rfl) (wm_x_callS hc wm_pi_ok (wm_a_c (wm_x_ai hc (wm_x_fr hc (wm_x_rn hc rfl rfl) rfl rfl) (wm_x_in hc rfl rfl) rfl) (wm_a_c (wm_x_ai hc (wm_x_fr hc (wm_x_rn hc rfl rfl) rfl rfl) (wm_x_ai hc (wm_x_fr hc (wm_x_rn hc rfl rfl) rfl rfl) (wm_x_in hc rfl rfl) rfl) rfl) (wm_a_1 (wm_x_ai hc (wm_x_fr hc (wm_x_rn hc rfl rfl) rfl rfl) (wm_x_ai hc (wm_x_fr hc (wm_x_rn hc rfl rfl) rfl rfl) (wm_x_in hc rfl rfl) rfl) rfl)))) rfl rfl (by decide)) rfl), rfl⟩, ⟨⟨97, _, rfl, (wm_t_ai hc (wm_x_fr hc (wm_x_rn hc rfl rfl) rfl rfl) (wm_x_ai hc (wm_x_fr hc (wm_x_rn hc rfl rfl) rfl rfl) (wm_x_in hc rfl rfl) rfl) (wm_x_callV hc wm_pi_ok (wm_a_1 (wm_x_rn hc rfl rfl)) rfl rfl (by decide)) rfl), rfl⟩, ⟨⟨115, _, rfl, (wm_t_callV hc (wm_a_c (wm_x_rn hc rfl rfl) (wm_a_1 (wm_x_ai hc (wm_x_fr hc (wm_x_rn hc rfl rfl) rfl rfl) (wm_x_ai hc (wm_x_fr hc (wm_x_rn hc rfl rfl) rfl rfl) (wm_x_in hc rfl rfl) rfl) rfl))) rfl rfl), rfl⟩, trivial⟩⟩⟩⟩⟩⟩⟩⟩
  ⟨133, _, rfl, (wm_t_ai hc (wm_x_fr hc (wm_x_rn hc rfl rfl) rfl rfl) (wm_x_ai hc (wm_x_fr hc (wm_x_rn hc rfl rfl) rfl rfl) (wm_x_in hc rfl rfl) rfl) (wm_x_callS hc wm_pi_ok (wm_a_c (wm_x_ai hc (wm_x_fr hc (wm_x_rn hc rfl rfl) rfl rfl) (wm_x_in hc rfl rfl) rfl) (wm_a_c (wm_x_ai hc (wm_x_fr hc (wm_x_rn hc rfl rfl) rfl rfl) (wm_x_ai hc (wm_x_fr hc (wm_x_rn hc rfl rfl) rfl rfl) (wm_x_in hc rfl rfl) rfl) rfl) (wm_a_1 (wm_x_ai hc (wm_x_fr hc (wm_x_rn hc rfl rfl) rfl rfl) (wm_x_ai hc (wm_x_fr hc (wm_x_rn hc rfl rfl) rfl rfl) (wm_x_in hc rfl rfl) rfl) rfl)))) rfl rfl (by decide)) rfl), rfl⟩)
  (wm_t_retv hc rfl))
theorem c_M_doInstruction {l : Launch} {D : va_G} {A : Nat → Prop} {ad : Nat → Nat} {cA : Nat → ClassId} (hY : wm_Y cl0 (tys0 cA) A ad cA w_L) : wm_con l y_M_doInstruction (cd_M_doInstruction :: gw) rm_M_doInstruction D cl0 (tys0 cA) A ad cA w_L f_M_doInstruction :=
  wm_meth (cV := cV_M_doInstruction) (cS := cS_M_doInstruction) (by decide) rfl hY (fun r h => wm_fok_mono (fun _ h => List.mem_cons_of_mem _ h) (fk_M r h)) (fun r h => wm_cok_mono (fun _ h => List.mem_cons_of_mem _ h) (ck_M r h)) tk_M_doInstruction
    (List.forall_mem_cons.mpr ⟨⟨y_M_takeInput, b_M_takeInput, 2, wm_rtT 1, cd_M_takeInput :: gw, gw, rm_M_takeInput, 0, 7, 8, T_M, c_M_takeInput hY, rfl, gw_V (gw_at 638 (by decide +kernel) rfl) gi_M_takeInput gs_M_takeInput gn_M cw_M_takeInput, rfl, rfl, ⟨by decide, by decide, by decide +kernel⟩, rfl, ⟨by decide, by decide⟩, rfl, fun vs S r h => (wm_fn_some (v := r.1) (S' := r.2) h).1⟩, List.forall_mem_cons.mpr ⟨⟨y_M_put, b_M_put, 2, wm_rtT 0, cd_M_put :: gw, gw, rm_M_put, 1, 7, 8, T_M, c_M_put hY, rfl, gw_V (gw_at 642 (by decide +kernel) rfl) gi_M_put gs_M_put gn_M cw_M_put, rfl, rfl, ⟨by decide, by decide, by decide +kernel⟩, rfl, ⟨by decide, by decide⟩, rfl, fun vs S r h => (wm_fn_some (v := r.1) (S' := r.2) h).1⟩, fun _ h => nomatch h⟩⟩)
    (List.forall_mem_cons.mpr ⟨⟨y_M_compute, b_M_compute, 3, wm_rtT 1, cd_M_compute :: gw, gw, rm_M_compute, c_M_compute hY, rfl, gw_S (gw_at 646 (by decide +kernel) rfl) gi_M_compute gn_M cw_M_compute, rfl, rfl, ⟨by decide, by decide, by decide +kernel⟩, ⟨by decide, by decide⟩⟩, fun _ h => nomatch h⟩)
    bd_M_doInstruction
/-! CodePruner$Machine.doInstructions -/
def y_M_doInstructions : MethodName := ⟨"CodePruner$Machine", "doInstructions", "(LCodePruner$Program;IJ)I"⟩
abbrev b_M_doInstructions : ByteArray := prog_4_method_4_code
def tb_M_doInstructions : List wm_R := [(0, .iconst 0, 1, 0), (1, .istore 5, 3, 0), (3, .iload 5, 5, 0), (5, .aload_n 1, 6, 0), (6, .getfield 55, 9, 0), (9, .iload_n 2, 10, 0), (10, .iaload, 11, 0), (11, .if_icmp .ge 89, 14, 100), (14, .aload_n 1, 15, 0), (15, .getfield 60, 18, 0), (18, .iload_n 2, 19, 0), (19, .aaload, 20, 0), (20, .iload 5, 22, 0), (22, .iaload, 23, 0), (23, .istore 6, 25, 0), (25, .lload_n 3, 26, 0), (26, .lconst 1, 27, 0), (27, .iload 6, 29, 0), (29, .lshl, 30, 0), (30, .land, 31, 0), (31, .lconst 0, 32, 0), (32, .lcmp, 33, 0), (33, .ifCond .eq 61, 36, 94), (36, .aload_n 0, 37, 0), (37, .getfield 18, 40, 0), (40, .aload_n 0, 41, 0), (41, .getfield 34, 44, 0), (44, .if_icmp .lt 5, 47, 49), (47, .iconst 2, 48, 0), (48, .ireturn, 49, 0), (49, .aload_n 0, 50, 0), (50, .dup, 51, 0), (51, .getfield 18, 54, 0), (54, .iconst 1, 55, 0), (55, .iadd, 56, 0), (56, .putfield 18, 59, 0), (59, .aload_n 1, 60, 0), (60, .getfield 64, 63, 0), (63, .iload 6, 65, 0), (65, .iaload, 66, 0), (66, .iconst 5, 67, 0), (67, .if_icmp .ne 20, 70, 87), (70, .aload_n 0, 71, 0), (71, .getfield 9, 74, 0), (74, .aload_n 1, 75, 0), (75, .getfield 67, 78, 0), (78, .iload 6, 80, 0), (80, .iaload, 81, 0), (81, .iaload, 82, 0), (82, .ifCond .ne 5, 85, 87), (85, .iconst 1, 86, 0), (86, .ireturn, 87, 0), (87, .aload_n 0, 88, 0), (88, .aload_n 1, 89, 0), (89, .iload 6, 91, 0), (91, .invokevirtual 70, 94, 0), (94, .iinc 5 1, 97, 0), (97, .goto (-94), 100, 3), (100, .iconst 3, 101, 0), (101, .ireturn, 102, 0)]
theorem tk_M_doInstructions : tb_M_doInstructions.all (wm_rokb b_M_doInstructions) = true := by decide +kernel
abbrev cd_M_doInstructions : Cond := Cond.code y_M_doInstructions b_M_doInstructions 7 (wm_rtT 1)
theorem cw_M_doInstructions : cd_M_doInstructions ∈ gw := gw_at 633 (by decide +kernel) rfl
theorem gi_M_doInstructions : Cond.instanceMethod y_M_doInstructions ∈ gw := gw_at 632 (by decide +kernel) rfl
theorem gs_M_doInstructions : Cond.selects "CodePruner$Machine" y_M_doInstructions y_M_doInstructions ∈ gw := gw_of (List.mem_append_left _ (List.mem_of_getElem? (i := 15) (by decide +kernel))) rfl
def t_M_doInstructions : wm_St := (ws_seq (ws_seq (ws_i 5 (wx_c (0 : Int32)))
  (ws_loop (wx_bin wr_lt (wx_i 5) (wx_ai w_L 0 (wx_fr w_L 1 7 (wx_r 1)) (wx_i 2)))
  (ws_seq (ws_seq (ws_i 6 (wx_ai w_L 0 (wx_ar w_L (wx_fr w_L 1 8 (wx_r 1)) (wx_i 2)) (wx_i 5)))
  (ws_if (wx_un (fun v => wr_ne v 0) (wx_bin lg_cmp (wx_bin wo_land (wx_l 3) (wx_bin wo_lshl (wx_c (1 : Int64)) (wx_i 6))) (wx_c (0 : Int64))))
  (ws_seq (ws_if (wx_bin wr_ge (wx_fi w_L 7 2 (wx_r 0)) (wx_fi w_L 7 7 (wx_r 0)))
  (ws_ret .int (wx_c (2 : Int32))))
  (ws_seq (ws_ofi w_L 7 2 wo_iadd (wx_r 0) (wx_c (1 : Int32)))
  (ws_seq (ws_if (wb_and (wx_bin wr_eq (wx_ai w_L 0 (wx_fr w_L 1 2 (wx_r 1)) (wx_i 6)) (wx_c (5 : Int32))) (wx_un (fun v => wr_eq v 0) (wx_ai w_L 0 (wx_fr w_L 7 0 (wx_r 0)) (wx_ai w_L 0 (wx_fr w_L 1 5 (wx_r 1)) (wx_i 6)))))
  (ws_ret .int (wx_c (1 : Int32))))
  (ws_call f_M_doInstruction (wx_ac .ref (wx_r 0) (wx_ac .ref (wx_r 1) (wx_a1 .int (wx_i 6))))))))))
  (ws_inc 5 (1 : Int32))) w_N))
  (ws_ret .int (wx_c (3 : Int32))))
def f_M_doInstructions : List Value → wm_S → Option (Option Value × wm_S) := wm_fn (wm_isc w_L 7) 1 7 t_M_doInstructions
def rm_M_doInstructions : Room := { frames := 2, locals := 44 }
abbrev cV_M_doInstructions : List (Nat × wm_M) := [(70, 3, f_M_doInstruction)]
abbrev cS_M_doInstructions : List (Nat × wm_M) := []
set_option maxRecDepth 20000 in
theorem bd_M_doInstructions (w : wm_K) (ret : Option Value → wm_S → Prop) (hc : wm_cl w_L fl_M cs_M none cV_M_doInstructions cS_M_doInstructions ret tb_M_doInstructions w) : wm_T w tb_M_doInstructions ret 0 9999 t_M_doInstructions :=
  (wm_t_seq (wm_t_seq (wm_t_i hc (wm_x_iconst hc rfl (by decide)) rfl)
  (wm_t_loop (wm_b_cmp hc (wm_x_i hc rfl) (wm_x_ai hc (wm_x_fr hc (wm_x_rn hc rfl rfl) rfl rfl) (wm_x_in hc rfl rfl) rfl) rfl rfl wm_j_ltF)
  (wm_t_seq (wm_t_seq (wm_t_i hc (wm_x_ai hc (wm_x_ar hc (wm_x_fr hc (wm_x_rn hc rfl rfl) rfl rfl) (wm_x_in hc rfl rfl) rfl) (wm_x_i hc rfl) rfl) rfl)
  (wm_t_if (wm_b_un hc (wm_x_bin hc (wm_x_bin hc (wm_x_ln hc rfl rfl) (wm_x_bin hc (wm_x_lconst hc rfl (by decide)) (wm_x_i hc rfl) rfl rfl (fun _ _ _ _ _ _ q => q)) rfl rfl (fun _ _ _ _ _ _ q => q)) (wm_x_lconst hc rfl (by decide)) rfl rfl (fun _ _ _ _ _ _ q => q)) rfl rfl wm_z_neF)
  (wm_t_seq (wm_t_if (wm_b_cmp hc (wm_x_fi hc (wm_x_rn hc rfl rfl) rfl rfl) (wm_x_fi hc (wm_x_rn hc rfl rfl) rfl rfl) rfl rfl wm_j_geF)
  (wm_t_ret hc (wm_x_iconst hc rfl (by decide)) rfl rfl (fun _ _ _ _ q => q)) rfl)
  (wm_t_seq (wm_t_ofi hc (wm_x_rn hc rfl rfl) rfl rfl (wm_x_iconst hc rfl (by decide)) rfl rfl (fun _ _ _ _ _ _ q => q) rfl rfl)
  (wm_t_seq (wm_t_if (wm_b_and (wm_b_cmp hc (wm_x_ai hc (wm_x_fr hc (wm_x_rn hc rfl rfl) rfl rfl) (wm_x_i hc rfl) rfl) (wm_x_iconst hc rfl (by decide)) rfl rfl wm_j_eqF) (wm_b_un hc (wm_x_ai hc (wm_x_fr hc (wm_x_rn hc rfl rfl) rfl rfl) (wm_x_ai hc (wm_x_fr hc (wm_x_rn hc rfl rfl) rfl rfl) (wm_x_i hc rfl) rfl) rfl) rfl rfl wm_z_eqF))
  (wm_t_ret hc (wm_x_iconst hc rfl (by decide)) rfl rfl (fun _ _ _ _ q => q)) rfl)
  (wm_t_callV hc (wm_a_c (wm_x_rn hc rfl rfl) (wm_a_c (wm_x_rn hc rfl rfl) (wm_a_1 (wm_x_i hc rfl)))) rfl rfl)))) rfl))
  (wm_t_inc hc rfl (by decide))) rfl))
  (wm_t_ret hc (wm_x_iconst hc rfl (by decide)) rfl rfl (fun _ _ _ _ q => q)))
theorem c_M_doInstructions {l : Launch} {D : va_G} {A : Nat → Prop} {ad : Nat → Nat} {cA : Nat → ClassId} (hY : wm_Y cl0 (tys0 cA) A ad cA w_L) : wm_con l y_M_doInstructions (cd_M_doInstructions :: gw) rm_M_doInstructions D cl0 (tys0 cA) A ad cA w_L f_M_doInstructions :=
  wm_meth (cV := cV_M_doInstructions) (cS := cS_M_doInstructions) (by decide) rfl hY (fun r h => wm_fok_mono (fun _ h => List.mem_cons_of_mem _ h) (fk_M r h)) (fun r h => wm_cok_mono (fun _ h => List.mem_cons_of_mem _ h) (ck_M r h)) tk_M_doInstructions
    (List.forall_mem_cons.mpr ⟨⟨y_M_doInstruction, b_M_doInstruction, 3, wm_rtT 0, cd_M_doInstruction :: gw, gw, rm_M_doInstruction, 2, 7, 8, T_M, c_M_doInstruction hY, rfl, gw_V (gw_at 634 (by decide +kernel) rfl) gi_M_doInstruction gs_M_doInstruction gn_M cw_M_doInstruction, rfl, rfl, ⟨by decide, by decide, by decide +kernel⟩, rfl, ⟨by decide, by decide⟩, rfl, fun vs S r h => (wm_fn_some (v := r.1) (S' := r.2) h).1⟩, fun _ h => nomatch h⟩)
    (fun _ h => nomatch h)
    bd_M_doInstructions
/-! CodePruner$Machine.execute -/
def y_M_execute : MethodName := ⟨"CodePruner$Machine", "execute", "(LCodePruner$Program;LCodePruner$Ends;J)I"⟩
abbrev b_M_execute : ByteArray := prog_4_method_3_code
def tb_M_execute : List wm_R := [(0, .iconst 0, 1, 0), (1, .istore 5, 3, 0), (3, .iconst 0, 4, 0), (4, .istore 6, 6, 0), (6, .iload 6, 8, 0), (8, .aload_n 0, 9, 0), (9, .getfield 34, 12, 0), (12, .if_icmp .ge 118, 15, 130), (15, .aload_n 0, 16, 0), (16, .aload_n 1, 17, 0), (17, .iload 5, 19, 0), (19, .lload_n 3, 20, 0), (20, .invokevirtual 37, 23, 0), (23, .istore 7, 25, 0), (25, .iload 7, 27, 0), (27, .iconst 3, 28, 0), (28, .if_icmp .eq 6, 31, 34), (31, .iload 7, 33, 0), (33, .ireturn, 34, 0), (34, .aload_n 0, 35, 0), (35, .getfield 18, 38, 0), (38, .aload_n 0, 39, 0), (39, .getfield 34, 42, 0), (42, .if_icmp .lt 5, 45, 47), (45, .iconst 2, 46, 0), (46, .ireturn, 47, 0), (47, .aload_n 0, 48, 0), (48, .dup, 49, 0), (49, .getfield 18, 52, 0), (52, .iconst 1, 53, 0), (53, .iadd, 54, 0), (54, .putfield 18, 57, 0), (57, .aload_n 0, 58, 0), (58, .getfield 9, 61, 0), (61, .aload_n 2, 62, 0), (62, .getfield 41, 65, 0), (65, .iload 5, 67, 0), (67, .iaload, 68, 0), (68, .iaload, 69, 0), (69, .istore 8, 71, 0), (71, .aload_n 2, 72, 0), (72, .getfield 46, 75, 0), (75, .iload 5, 77, 0), (77, .iaload, 78, 0), (78, .ifCond .ne 11, 81, 89), (81, .aload_n 0, 82, 0), (82, .iload 8, 84, 0), (84, .putfield 25, 87, 0), (87, .iconst 0, 88, 0), (88, .ireturn, 89, 0), (89, .aload_n 2, 90, 0), (90, .getfield 46, 93, 0), (93, .iload 5, 95, 0), (95, .iaload, 96, 0), (96, .iconst 1, 97, 0), (97, .if_icmp .eq 8, 100, 105), (100, .iload 8, 102, 0), (102, .ifCond .eq 13, 105, 115), (105, .aload_n 2, 106, 0), (106, .getfield 49, 109, 0), (109, .iload 5, 111, 0), (111, .iaload, 112, 0), (112, .goto 10, 115, 122), (115, .aload_n 2, 116, 0), (116, .getfield 52, 119, 0), (119, .iload 5, 121, 0), (121, .iaload, 122, 0), (122, .istore 5, 124, 0), (124, .iinc 6 1, 127, 0), (127, .goto (-121), 130, 6), (130, .iconst 2, 131, 0), (131, .ireturn, 132, 0)]
theorem tk_M_execute : tb_M_execute.all (wm_rokb b_M_execute) = true := by decide +kernel
abbrev cd_M_execute : Cond := Cond.code y_M_execute b_M_execute 9 (wm_rtT 1)
theorem cw_M_execute : cd_M_execute ∈ gw := gw_at 629 (by decide +kernel) rfl
theorem gi_M_execute : Cond.instanceMethod y_M_execute ∈ gw := gw_at 627 (by decide +kernel) rfl
theorem gs_M_execute : Cond.selects "CodePruner$Machine" y_M_execute y_M_execute ∈ gw := gw_at 628 (by decide +kernel) rfl
def t_M_execute : wm_St := (ws_seq (ws_i 5 (wx_c (0 : Int32)))
  (ws_seq (ws_seq (ws_i 6 (wx_c (0 : Int32)))
  (ws_loop (wx_bin wr_lt (wx_i 6) (wx_fi w_L 7 7 (wx_r 0)))
  (ws_seq (ws_seq (ws_i 7 (wx_call wm_pi f_M_doInstructions (wx_ac .ref (wx_r 0) (wx_ac .ref (wx_r 1) (wx_ac .int (wx_i 5) (wx_a1 .long (wx_l 3)))))))
  (ws_seq (ws_if (wx_bin wr_ne (wx_i 7) (wx_c (3 : Int32)))
  (ws_ret .int (wx_i 7)))
  (ws_seq (ws_if (wx_bin wr_ge (wx_fi w_L 7 2 (wx_r 0)) (wx_fi w_L 7 7 (wx_r 0)))
  (ws_ret .int (wx_c (2 : Int32))))
  (ws_seq (ws_ofi w_L 7 2 wo_iadd (wx_r 0) (wx_c (1 : Int32)))
  (ws_seq (ws_i 8 (wx_ai w_L 0 (wx_fr w_L 7 0 (wx_r 0)) (wx_ai w_L 0 (wx_fr w_L 2 1 (wx_r 2)) (wx_i 5))))
  (ws_seq (ws_if (wx_un (fun v => wr_eq v 0) (wx_ai w_L 0 (wx_fr w_L 2 0 (wx_r 2)) (wx_i 5)))
  (ws_seq (ws_fi w_L 7 4 (wx_r 0) (wx_i 8))
  (ws_ret .int (wx_c (0 : Int32)))))
  (ws_i 5 (wx_cond (wb_or (wx_bin wr_eq (wx_ai w_L 0 (wx_fr w_L 2 0 (wx_r 2)) (wx_i 5)) (wx_c (1 : Int32))) (wx_un (fun v => wr_ne v 0) (wx_i 8))) (wx_ai w_L 0 (wx_fr w_L 2 2 (wx_r 2)) (wx_i 5)) (wx_ai w_L 0 (wx_fr w_L 2 3 (wx_r 2)) (wx_i 5))))))))))
  (ws_inc 6 (1 : Int32))) w_N))
  (ws_ret .int (wx_c (2 : Int32)))))
def f_M_execute : List Value → wm_S → Option (Option Value × wm_S) := wm_fn (wm_isc w_L 7) 1 9 t_M_execute
def rm_M_execute : Room := { frames := 3, locals := 70 }
abbrev cV_M_execute : List (Nat × wm_M) := [(37, 4, f_M_doInstructions)]
abbrev cS_M_execute : List (Nat × wm_M) := []
set_option maxRecDepth 20000 in
theorem bd_M_execute (w : wm_K) (ret : Option Value → wm_S → Prop) (hc : wm_cl w_L fl_M cs_M none cV_M_execute cS_M_execute ret tb_M_execute w) : wm_T w tb_M_execute ret 0 9999 t_M_execute :=
  (wm_t_seq (wm_t_i hc (wm_x_iconst hc rfl (by decide)) rfl)
  (wm_t_seq (wm_t_seq (wm_t_i hc (wm_x_iconst hc rfl (by decide)) rfl)
  (wm_t_loop (wm_b_cmp hc (wm_x_i hc rfl) (wm_x_fi hc (wm_x_rn hc rfl rfl) rfl rfl) rfl rfl wm_j_ltF)
  (wm_t_seq (wm_t_seq (wm_t_i hc (wm_x_callV hc wm_pi_ok (wm_a_c (wm_x_rn hc rfl rfl) (wm_a_c (wm_x_rn hc rfl rfl) (wm_a_c (wm_x_i hc rfl) (wm_a_1 (wm_x_ln hc rfl rfl))))) rfl rfl (by decide)) rfl)
  (wm_t_seq (wm_t_if (wm_b_cmp hc (wm_x_i hc rfl) (wm_x_iconst hc rfl (by decide)) rfl rfl wm_j_neF)
  (wm_t_ret hc (wm_x_i hc rfl) rfl rfl (fun _ _ _ _ q => q)) rfl)
  (wm_t_seq (wm_t_if (wm_b_cmp hc (wm_x_fi hc (wm_x_rn hc rfl rfl) rfl rfl) (wm_x_fi hc (wm_x_rn hc rfl rfl) rfl rfl) rfl rfl wm_j_geF)
  (wm_t_ret hc (wm_x_iconst hc rfl (by decide)) rfl rfl (fun _ _ _ _ q => q)) rfl)
  (wm_t_seq (wm_t_ofi hc (wm_x_rn hc rfl rfl) rfl rfl (wm_x_iconst hc rfl (by decide)) rfl rfl (fun _ _ _ _ _ _ q => q) rfl rfl)
  (wm_t_seq (wm_t_i hc (wm_x_ai hc (wm_x_fr hc (wm_x_rn hc rfl rfl) rfl rfl) (wm_x_ai hc (wm_x_fr hc (wm_x_rn hc rfl rfl) rfl rfl) (wm_x_i hc rfl) rfl) rfl) rfl)
  (wm_t_seq (wm_t_if (wm_b_un hc (wm_x_ai hc (wm_x_fr hc (wm_x_rn hc rfl rfl) rfl rfl) (wm_x_i hc rfl) rfl) rfl rfl wm_z_eqF)
  (wm_t_seq (wm_t_fi hc (wm_x_rn hc rfl rfl) (wm_x_i hc rfl) rfl rfl)
  (wm_t_ret hc (wm_x_iconst hc rfl (by decide)) rfl rfl (fun _ _ _ _ q => q))) rfl)
  (wm_t_i hc (wm_x_cond (wm_b_or (wm_b_cmp hc (wm_x_ai hc (wm_x_fr hc (wm_x_rn hc rfl rfl) rfl rfl) (wm_x_i hc rfl) rfl) (wm_x_iconst hc rfl (by decide)) rfl rfl wm_j_eqT) (wm_b_un hc (wm_x_i hc rfl) rfl rfl wm_z_neF)) (wm_x_ai hc (wm_x_fr hc (wm_x_rn hc rfl rfl) rfl rfl) (wm_x_i hc rfl) rfl) (wm_x_ai hc (wm_x_fr hc (wm_x_rn hc rfl rfl) rfl rfl) (wm_x_i hc rfl) rfl) rfl) rfl)))))))
  (wm_t_inc hc rfl (by decide))) rfl))
  (wm_t_ret hc (wm_x_iconst hc rfl (by decide)) rfl rfl (fun _ _ _ _ q => q))))
theorem c_M_execute {l : Launch} {D : va_G} {A : Nat → Prop} {ad : Nat → Nat} {cA : Nat → ClassId} (hY : wm_Y cl0 (tys0 cA) A ad cA w_L) : wm_con l y_M_execute (cd_M_execute :: gw) rm_M_execute D cl0 (tys0 cA) A ad cA w_L f_M_execute :=
  wm_meth (cV := cV_M_execute) (cS := cS_M_execute) (by decide) rfl hY (fun r h => wm_fok_mono (fun _ h => List.mem_cons_of_mem _ h) (fk_M r h)) (fun r h => wm_cok_mono (fun _ h => List.mem_cons_of_mem _ h) (ck_M r h)) tk_M_execute
    (List.forall_mem_cons.mpr ⟨⟨y_M_doInstructions, b_M_doInstructions, 7, wm_rtT 1, cd_M_doInstructions :: gw, gw, rm_M_doInstructions, 3, 7, 8, T_M, c_M_doInstructions hY, rfl, gw_V (gw_at 630 (by decide +kernel) rfl) gi_M_doInstructions gs_M_doInstructions gn_M cw_M_doInstructions, rfl, rfl, ⟨by decide, by decide, by decide +kernel⟩, rfl, ⟨by decide, by decide⟩, rfl, fun vs S r h => (wm_fn_some (v := r.1) (S' := r.2) h).1⟩, fun _ h => nomatch h⟩)
    (fun _ h => nomatch h)
    bd_M_execute
end WME_JAEM

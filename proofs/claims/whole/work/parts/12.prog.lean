section WME_G
/-! CodePruner$Program.openBlock -/
def y_G_openBlock : MethodName := ⟨"CodePruner$Program", "openBlock", "()I"⟩
abbrev b_G_openBlock : ByteArray := prog_6_method_3_code
def tb_G_openBlock : List wm_R := [(0, .aload_n 0, 1, 0), (1, .getfield 9, 4, 0), (4, .istore_n 1, 5, 0), (5, .aload_n 0, 6, 0), (6, .getfield 34, 9, 0), (9, .iload_n 1, 10, 0), (10, .iconst 0, 11, 0), (11, .iastore, 12, 0), (12, .aload_n 0, 13, 0), (13, .getfield 45, 16, 0), (16, .iload_n 1, 17, 0), (17, .iconst 0, 18, 0), (18, .iconst 0, 19, 0), (19, .iconst (-1), 20, 0), (20, .iconst (-1), 21, 0), (21, .invokevirtual 49, 24, 0), (24, .aload_n 0, 25, 0), (25, .dup, 26, 0), (26, .getfield 9, 29, 0), (29, .iconst 1, 30, 0), (30, .iadd, 31, 0), (31, .putfield 9, 34, 0), (34, .iload_n 1, 35, 0), (35, .ireturn, 36, 0)]
theorem tk_G_openBlock : tb_G_openBlock.all (wm_rokb b_G_openBlock) = true := by decide +kernel
abbrev cd_G_openBlock : Cond := Cond.code y_G_openBlock b_G_openBlock 2 (wm_rtT 1)
theorem cw_G_openBlock : cd_G_openBlock ∈ gw := gw_at 365 (by decide +kernel) rfl
theorem gi_G_openBlock : Cond.instanceMethod y_G_openBlock ∈ gw := gw_at 363 (by decide +kernel) rfl
theorem gs_G_openBlock : Cond.selects "CodePruner$Program" y_G_openBlock y_G_openBlock ∈ gw := gw_at 364 (by decide +kernel) rfl
def t_G_openBlock : wm_St := (ws_seq (ws_i 1 (wx_fi w_L 1 0 (wx_r 0)))
  (ws_seq (ws_ai w_L (wx_fr w_L 1 7 (wx_r 0)) (wx_i 1) (wx_c (0 : Int32)))
  (ws_seq (ws_call f_E_put (wx_ac .ref (wx_fr w_L 1 9 (wx_r 0)) (wx_ac .int (wx_i 1) (wx_ac .int (wx_c (0 : Int32)) (wx_ac .int (wx_c (0 : Int32)) (wx_ac .int (wx_c (-1 : Int32)) (wx_a1 .int (wx_c (-1 : Int32)))))))))
  (ws_seq (ws_ofi w_L 1 0 wo_iadd (wx_r 0) (wx_c (1 : Int32)))
  (ws_ret .int (wx_i 1))))))
def f_G_openBlock : List Value → wm_S → Option (Option Value × wm_S) := wm_fn (wm_isc w_L 1) 1 2 t_G_openBlock
def rm_G_openBlock : Room := { frames := 2, locals := 45 }
abbrev cV_G_openBlock : List (Nat × wm_M) := [(49, 6, f_E_put)]
abbrev cS_G_openBlock : List (Nat × wm_M) := []
set_option maxRecDepth 20000 in
theorem bd_G_openBlock (w : wm_K) (ret : Option Value → wm_S → Prop) (hc : wm_cl w_L fl_G cs_G none cV_G_openBlock cS_G_openBlock ret tb_G_openBlock w) : wm_T w tb_G_openBlock ret 0 9999 t_G_openBlock :=
  (wm_t_seq (wm_t_in hc (wm_x_fi hc (wm_x_rn hc rfl rfl) rfl rfl) rfl rfl)
  (wm_t_seq (wm_t_ai hc (wm_x_fr hc (wm_x_rn hc rfl rfl) rfl rfl) (wm_x_in hc rfl rfl) (wm_x_iconst hc rfl (by decide)) rfl)
  (wm_t_seq (wm_t_callV hc (wm_a_c (wm_x_fr hc (wm_x_rn hc rfl rfl) rfl rfl) (wm_a_c (wm_x_in hc rfl rfl) (wm_a_c (wm_x_iconst hc rfl (by decide)) (wm_a_c (wm_x_iconst hc rfl (by decide)) (wm_a_c (wm_x_iconst hc rfl (by decide)) (wm_a_1 (wm_x_iconst hc rfl (by decide)))))))) rfl rfl)
  (wm_t_seq (wm_t_ofi hc (wm_x_rn hc rfl rfl) rfl rfl (wm_x_iconst hc rfl (by decide)) rfl rfl (fun _ _ _ _ _ _ q => q) rfl rfl)
  (wm_t_ret hc (wm_x_in hc rfl rfl) rfl rfl (fun _ _ _ _ q => q))))))
theorem c_G_openBlock {l : Launch} {D : va_G} {A : Nat → Prop} {ad : Nat → Nat} {cA : Nat → ClassId} (hY : wm_Y cl0 (tys0 cA) A ad cA w_L) : wm_con l y_G_openBlock (cd_G_openBlock :: gw) rm_G_openBlock D cl0 (tys0 cA) A ad cA w_L f_G_openBlock :=
  wm_meth (cV := cV_G_openBlock) (cS := cS_G_openBlock) (by decide) rfl hY (fun r h => wm_fok_mono (fun _ h => List.mem_cons_of_mem _ h) (fk_G r h)) (fun r h => wm_cok_mono (fun _ h => List.mem_cons_of_mem _ h) (ck_G r h)) tk_G_openBlock
    (List.forall_mem_cons.mpr ⟨⟨y_E_put, b_E_put, 6, wm_rtT 0, cd_E_put :: gw, gw, rm_E_put, 5, 2, 5, T_E, c_E_put hY, rfl, gw_V (gw_at 366 (by decide +kernel) rfl) gi_E_put gs_E_put gn_E cw_E_put, rfl, rfl, ⟨by decide, by decide, by decide +kernel⟩, rfl, ⟨by decide, by decide⟩, rfl, fun vs S r h => (wm_fn_some (v := r.1) (S' := r.2) h).1⟩, fun _ h => nomatch h⟩)
    (fun _ h => nomatch h)
    bd_G_openBlock
/-! CodePruner$Program.hasBlock -/
def y_G_hasBlock : MethodName := ⟨"CodePruner$Program", "hasBlock", "(I)Z"⟩
abbrev b_G_hasBlock : ByteArray := prog_6_method_5_code
def tb_G_hasBlock : List wm_R := [(0, .iload_n 1, 1, 0), (1, .ifCond .lt 15, 4, 16), (4, .iload_n 1, 5, 0), (5, .aload_n 0, 6, 0), (6, .getfield 9, 9, 0), (9, .if_icmp .ge 7, 12, 16), (12, .iconst 1, 13, 0), (13, .goto 4, 16, 17), (16, .iconst 0, 17, 0), (17, .ireturn, 18, 0)]
theorem tk_G_hasBlock : tb_G_hasBlock.all (wm_rokb b_G_hasBlock) = true := by decide +kernel
abbrev cd_G_hasBlock : Cond := Cond.code y_G_hasBlock b_G_hasBlock 2 (wm_rtT 3)
theorem cw_G_hasBlock : cd_G_hasBlock ∈ gw := gw_at 385 (by decide +kernel) rfl
theorem gi_G_hasBlock : Cond.instanceMethod y_G_hasBlock ∈ gw := gw_at 383 (by decide +kernel) rfl
theorem gs_G_hasBlock : Cond.selects "CodePruner$Program" y_G_hasBlock y_G_hasBlock ∈ gw := gw_at 384 (by decide +kernel) rfl
def t_G_hasBlock : wm_St := (ws_ret .int (wx_cond (wb_and (wx_un (fun v => wr_ge v 0) (wx_i 1)) (wx_bin wr_lt (wx_i 1) (wx_fi w_L 1 0 (wx_r 0)))) (wx_c (1 : Int32)) (wx_c (0 : Int32))))
def f_G_hasBlock : List Value → wm_S → Option (Option Value × wm_S) := wm_fn (wm_isc w_L 1) 3 2 t_G_hasBlock
def rm_G_hasBlock : Room := { frames := 0, locals := 0 }
abbrev cV_G_hasBlock : List (Nat × wm_M) := []
abbrev cS_G_hasBlock : List (Nat × wm_M) := []
set_option maxRecDepth 20000 in
theorem bd_G_hasBlock (w : wm_K) (ret : Option Value → wm_S → Prop) (hc : wm_cl w_L fl_G cs_G none cV_G_hasBlock cS_G_hasBlock ret tb_G_hasBlock w) : wm_T w tb_G_hasBlock ret 0 9999 t_G_hasBlock :=
  (wm_t_ret hc (wm_x_cond (wm_b_and (wm_b_un hc (wm_x_in hc rfl rfl) rfl rfl wm_z_geF) (wm_b_cmp hc (wm_x_in hc rfl rfl) (wm_x_fi hc (wm_x_rn hc rfl rfl) rfl rfl) rfl rfl wm_j_ltF)) (wm_x_iconst hc rfl (by decide)) (wm_x_iconst hc rfl (by decide)) rfl) rfl rfl (fun _ _ _ _ q => q))
theorem c_G_hasBlock {l : Launch} {D : va_G} {A : Nat → Prop} {ad : Nat → Nat} {cA : Nat → ClassId} (hY : wm_Y cl0 (tys0 cA) A ad cA w_L) : wm_con l y_G_hasBlock (cd_G_hasBlock :: gw) rm_G_hasBlock D cl0 (tys0 cA) A ad cA w_L f_G_hasBlock :=
  wm_meth (cV := cV_G_hasBlock) (cS := cS_G_hasBlock) (by decide) rfl hY (fun r h => wm_fok_mono (fun _ h => List.mem_cons_of_mem _ h) (fk_G r h)) (fun r h => wm_cok_mono (fun _ h => List.mem_cons_of_mem _ h) (ck_G r h)) tk_G_hasBlock
    (fun _ h => nomatch h)
    (fun _ h => nomatch h)
    bd_G_hasBlock
/-! CodePruner$Program.append -/
def y_G_append : MethodName := ⟨"CodePruner$Program", "append", "(IIIII)I"⟩
abbrev b_G_append : ByteArray := prog_6_method_4_code
def tb_G_append : List wm_R := [(0, .aload_n 0, 1, 0), (1, .getfield 15, 4, 0), (4, .istore 6, 6, 0), (6, .aload_n 0, 7, 0), (7, .getfield 18, 10, 0), (10, .iload 6, 12, 0), (12, .iload_n 2, 13, 0), (13, .iastore, 14, 0), (14, .aload_n 0, 15, 0), (15, .getfield 22, 18, 0), (18, .iload 6, 20, 0), (20, .iload_n 3, 21, 0), (21, .iastore, 22, 0), (22, .aload_n 0, 23, 0), (23, .getfield 25, 26, 0), (26, .iload 6, 28, 0), (28, .iload 4, 30, 0), (30, .iastore, 31, 0), (31, .aload_n 0, 32, 0), (32, .getfield 28, 35, 0), (35, .iload 6, 37, 0), (37, .iload 5, 39, 0), (39, .iastore, 40, 0), (40, .aload_n 0, 41, 0), (41, .getfield 31, 44, 0), (44, .iload 6, 46, 0), (46, .iload_n 1, 47, 0), (47, .iastore, 48, 0), (48, .aload_n 0, 49, 0), (49, .getfield 39, 52, 0), (52, .iload_n 1, 53, 0), (53, .aaload, 54, 0), (54, .aload_n 0, 55, 0), (55, .getfield 34, 58, 0), (58, .iload_n 1, 59, 0), (59, .iaload, 60, 0), (60, .iload 6, 62, 0), (62, .iastore, 63, 0), (63, .aload_n 0, 64, 0), (64, .getfield 34, 67, 0), (67, .iload_n 1, 68, 0), (68, .dup2, 69, 0), (69, .iaload, 70, 0), (70, .iconst 1, 71, 0), (71, .iadd, 72, 0), (72, .iastore, 73, 0), (73, .aload_n 0, 74, 0), (74, .dup, 75, 0), (75, .getfield 15, 78, 0), (78, .iconst 1, 79, 0), (79, .iadd, 80, 0), (80, .putfield 15, 83, 0), (83, .iload 6, 85, 0), (85, .ireturn, 86, 0)]
theorem tk_G_append : tb_G_append.all (wm_rokb b_G_append) = true := by decide +kernel
abbrev cd_G_append : Cond := Cond.code y_G_append b_G_append 7 (wm_rtT 1)
theorem cw_G_append : cd_G_append ∈ gw := gw_at 425 (by decide +kernel) rfl
theorem gi_G_append : Cond.instanceMethod y_G_append ∈ gw := gw_at 423 (by decide +kernel) rfl
theorem gs_G_append : Cond.selects "CodePruner$Program" y_G_append y_G_append ∈ gw := gw_at 424 (by decide +kernel) rfl
def t_G_append : wm_St := (ws_seq (ws_i 6 (wx_fi w_L 1 1 (wx_r 0)))
  (ws_seq (ws_ai w_L (wx_fr w_L 1 2 (wx_r 0)) (wx_i 6) (wx_i 2))
  (ws_seq (ws_ai w_L (wx_fr w_L 1 3 (wx_r 0)) (wx_i 6) (wx_i 3))
  (ws_seq (ws_ai w_L (wx_fr w_L 1 4 (wx_r 0)) (wx_i 6) (wx_i 4))
  (ws_seq (ws_ai w_L (wx_fr w_L 1 5 (wx_r 0)) (wx_i 6) (wx_i 5))
  (ws_seq (ws_ai w_L (wx_fr w_L 1 6 (wx_r 0)) (wx_i 6) (wx_i 1))
  (ws_seq (ws_ai w_L (wx_ar w_L (wx_fr w_L 1 8 (wx_r 0)) (wx_i 1)) (wx_ai w_L 0 (wx_fr w_L 1 7 (wx_r 0)) (wx_i 1)) (wx_i 6))
  (ws_seq (ws_oai w_L wo_iadd (wx_fr w_L 1 7 (wx_r 0)) (wx_i 1) (wx_c (1 : Int32)))
  (ws_seq (ws_ofi w_L 1 1 wo_iadd (wx_r 0) (wx_c (1 : Int32)))
  (ws_ret .int (wx_i 6)))))))))))
def f_G_append : List Value → wm_S → Option (Option Value × wm_S) := wm_fn (wm_isc w_L 1) 1 7 t_G_append
def rm_G_append : Room := { frames := 0, locals := 0 }
abbrev cV_G_append : List (Nat × wm_M) := []
abbrev cS_G_append : List (Nat × wm_M) := []
set_option maxRecDepth 20000 in
theorem bd_G_append (w : wm_K) (ret : Option Value → wm_S → Prop) (hc : wm_cl w_L fl_G cs_G none cV_G_append cS_G_append ret tb_G_append w) : wm_T w tb_G_append ret 0 9999 t_G_append :=
  (wm_t_seq (wm_t_i hc (wm_x_fi hc (wm_x_rn hc rfl rfl) rfl rfl) rfl)
  (wm_t_seq (wm_t_ai hc (wm_x_fr hc (wm_x_rn hc rfl rfl) rfl rfl) (wm_x_i hc rfl) (wm_x_in hc rfl rfl) rfl)
  (wm_t_seq (wm_t_ai hc (wm_x_fr hc (wm_x_rn hc rfl rfl) rfl rfl) (wm_x_i hc rfl) (wm_x_in hc rfl rfl) rfl)
  (wm_t_seq (wm_t_ai hc (wm_x_fr hc (wm_x_rn hc rfl rfl) rfl rfl) (wm_x_i hc rfl) (wm_x_i hc rfl) rfl)
  (wm_t_seq (wm_t_ai hc (wm_x_fr hc (wm_x_rn hc rfl rfl) rfl rfl) (wm_x_i hc rfl) (wm_x_i hc rfl) rfl)
  (wm_t_seq (wm_t_ai hc (wm_x_fr hc (wm_x_rn hc rfl rfl) rfl rfl) (wm_x_i hc rfl) (wm_x_in hc rfl rfl) rfl)
  (wm_t_seq (wm_t_ai hc (wm_x_ar hc (wm_x_fr hc (wm_x_rn hc rfl rfl) rfl rfl) (wm_x_in hc rfl rfl) rfl) (wm_x_ai hc (wm_x_fr hc (wm_x_rn hc rfl rfl) rfl rfl) (wm_x_in hc rfl rfl) rfl) (wm_x_i hc rfl) rfl)
  (wm_t_seq (wm_t_oai hc (wm_x_fr hc (wm_x_rn hc rfl rfl) rfl rfl) (wm_x_in hc rfl rfl) rfl rfl (wm_x_iconst hc rfl (by decide)) rfl rfl (fun _ _ _ _ _ _ q => q) rfl)
  (wm_t_seq (wm_t_ofi hc (wm_x_rn hc rfl rfl) rfl rfl (wm_x_iconst hc rfl (by decide)) rfl rfl (fun _ _ _ _ _ _ q => q) rfl rfl)
  (wm_t_ret hc (wm_x_i hc rfl) rfl rfl (fun _ _ _ _ q => q)))))))))))
theorem c_G_append {l : Launch} {D : va_G} {A : Nat → Prop} {ad : Nat → Nat} {cA : Nat → ClassId} (hY : wm_Y cl0 (tys0 cA) A ad cA w_L) : wm_con l y_G_append (cd_G_append :: gw) rm_G_append D cl0 (tys0 cA) A ad cA w_L f_G_append :=
  wm_meth (cV := cV_G_append) (cS := cS_G_append) (by decide) rfl hY (fun r h => wm_fok_mono (fun _ h => List.mem_cons_of_mem _ h) (fk_G r h)) (fun r h => wm_cok_mono (fun _ h => List.mem_cons_of_mem _ h) (ck_G r h)) tk_G_append
    (fun _ h => nomatch h)
    (fun _ h => nomatch h)
    bd_G_append
/-! CodePruner$Program.empty -/
def y_G_empty : MethodName := ⟨"CodePruner$Program", "empty", "()V"⟩
abbrev b_G_empty : ByteArray := prog_6_method_2_code
def tb_G_empty : List wm_R := [(0, .aload_n 0, 1, 0), (1, .iconst 0, 2, 0), (2, .putfield 9, 5, 0), (5, .aload_n 0, 6, 0), (6, .iconst 0, 7, 0), (7, .putfield 15, 10, 0), (10, .return_, 11, 0)]
theorem tk_G_empty : tb_G_empty.all (wm_rokb b_G_empty) = true := by decide +kernel
abbrev cd_G_empty : Cond := Cond.code y_G_empty b_G_empty 1 (wm_rtT 0)
theorem cw_G_empty : cd_G_empty ∈ gw := gw_at 281 (by decide +kernel) rfl
theorem gi_G_empty : Cond.instanceMethod y_G_empty ∈ gw := gw_at 279 (by decide +kernel) rfl
theorem gs_G_empty : Cond.selects "CodePruner$Program" y_G_empty y_G_empty ∈ gw := gw_at 280 (by decide +kernel) rfl
def t_G_empty : wm_St := (ws_seq (ws_fi w_L 1 0 (wx_r 0) (wx_c (0 : Int32)))
  (ws_seq (ws_fi w_L 1 1 (wx_r 0) (wx_c (0 : Int32)))
  ws_retv))
def f_G_empty : List Value → wm_S → Option (Option Value × wm_S) := wm_fn (wm_isc w_L 1) 0 1 t_G_empty
def rm_G_empty : Room := { frames := 0, locals := 0 }
abbrev cV_G_empty : List (Nat × wm_M) := []
abbrev cS_G_empty : List (Nat × wm_M) := []
set_option maxRecDepth 20000 in
theorem bd_G_empty (w : wm_K) (ret : Option Value → wm_S → Prop) (hc : wm_cl w_L fl_G cs_G none cV_G_empty cS_G_empty ret tb_G_empty w) : wm_T w tb_G_empty ret 0 9999 t_G_empty :=
  (wm_t_seq (wm_t_fi hc (wm_x_rn hc rfl rfl) (wm_x_iconst hc rfl (by decide)) rfl rfl)
  (wm_t_seq (wm_t_fi hc (wm_x_rn hc rfl rfl) (wm_x_iconst hc rfl (by decide)) rfl rfl)
  (wm_t_retv hc rfl)))
theorem c_G_empty {l : Launch} {D : va_G} {A : Nat → Prop} {ad : Nat → Nat} {cA : Nat → ClassId} (hY : wm_Y cl0 (tys0 cA) A ad cA w_L) : wm_con l y_G_empty (cd_G_empty :: gw) rm_G_empty D cl0 (tys0 cA) A ad cA w_L f_G_empty :=
  wm_meth (cV := cV_G_empty) (cS := cS_G_empty) (by decide) rfl hY (fun r h => wm_fok_mono (fun _ h => List.mem_cons_of_mem _ h) (fk_G r h)) (fun r h => wm_cok_mono (fun _ h => List.mem_cons_of_mem _ h) (ck_G r h)) tk_G_empty
    (fun _ h => nomatch h)
    (fun _ h => nomatch h)
    bd_G_empty
/-! CodePruner$Program.allBlocks -/
def y_G_allBlocks : MethodName := ⟨"CodePruner$Program", "allBlocks", "()I"⟩
abbrev b_G_allBlocks : ByteArray := prog_6_method_6_code
def tb_G_allBlocks : List wm_R := [(0, .iconst 1, 1, 0), (1, .aload_n 0, 2, 0), (2, .getfield 9, 5, 0), (5, .ishl, 6, 0), (6, .iconst 1, 7, 0), (7, .isub, 8, 0), (8, .ireturn, 9, 0)]
theorem tk_G_allBlocks : tb_G_allBlocks.all (wm_rokb b_G_allBlocks) = true := by decide +kernel
abbrev cd_G_allBlocks : Cond := Cond.code y_G_allBlocks b_G_allBlocks 1 (wm_rtT 1)
theorem cw_G_allBlocks : cd_G_allBlocks ∈ gw := gw_at 459 (by decide +kernel) rfl
theorem gi_G_allBlocks : Cond.instanceMethod y_G_allBlocks ∈ gw := gw_at 457 (by decide +kernel) rfl
theorem gs_G_allBlocks : Cond.selects "CodePruner$Program" y_G_allBlocks y_G_allBlocks ∈ gw := gw_at 458 (by decide +kernel) rfl
def t_G_allBlocks : wm_St := (ws_ret .int (wx_bin wo_isub (wx_bin wo_ishl (wx_c (1 : Int32)) (wx_fi w_L 1 0 (wx_r 0))) (wx_c (1 : Int32))))
def f_G_allBlocks : List Value → wm_S → Option (Option Value × wm_S) := wm_fn (wm_isc w_L 1) 1 1 t_G_allBlocks
def rm_G_allBlocks : Room := { frames := 0, locals := 0 }
abbrev cV_G_allBlocks : List (Nat × wm_M) := []
abbrev cS_G_allBlocks : List (Nat × wm_M) := []
set_option maxRecDepth 20000 in
theorem bd_G_allBlocks (w : wm_K) (ret : Option Value → wm_S → Prop) (hc : wm_cl w_L fl_G cs_G none cV_G_allBlocks cS_G_allBlocks ret tb_G_allBlocks w) : wm_T w tb_G_allBlocks ret 0 9999 t_G_allBlocks :=
  (wm_t_ret hc (wm_x_bin hc (wm_x_bin hc (wm_x_iconst hc rfl (by decide)) (wm_x_fi hc (wm_x_rn hc rfl rfl) rfl rfl) rfl rfl (fun _ _ _ _ _ _ q => q)) (wm_x_iconst hc rfl (by decide)) rfl rfl (fun _ _ _ _ _ _ q => q)) rfl rfl (fun _ _ _ _ q => q))
theorem c_G_allBlocks {l : Launch} {D : va_G} {A : Nat → Prop} {ad : Nat → Nat} {cA : Nat → ClassId} (hY : wm_Y cl0 (tys0 cA) A ad cA w_L) : wm_con l y_G_allBlocks (cd_G_allBlocks :: gw) rm_G_allBlocks D cl0 (tys0 cA) A ad cA w_L f_G_allBlocks :=
  wm_meth (cV := cV_G_allBlocks) (cS := cS_G_allBlocks) (by decide) rfl hY (fun r h => wm_fok_mono (fun _ h => List.mem_cons_of_mem _ h) (fk_G r h)) (fun r h => wm_cok_mono (fun _ h => List.mem_cons_of_mem _ h) (ck_G r h)) tk_G_allBlocks
    (fun _ h => nomatch h)
    (fun _ h => nomatch h)
    bd_G_allBlocks
/-! CodePruner$Program.leadsOnlyToBlocks -/
def y_G_leadsOnlyToBlocks : MethodName := ⟨"CodePruner$Program", "leadsOnlyToBlocks", "()Z"⟩
abbrev b_G_leadsOnlyToBlocks : ByteArray := prog_6_method_7_code
def tb_G_leadsOnlyToBlocks : List wm_R := [(0, .iconst 0, 1, 0), (1, .istore_n 1, 2, 0), (2, .iconst 0, 3, 0), (3, .istore_n 2, 4, 0), (4, .iload_n 2, 5, 0), (5, .aload_n 0, 6, 0), (6, .getfield 9, 9, 0), (9, .if_icmp .ge 21, 12, 30), (12, .iload_n 1, 13, 0), (13, .aload_n 0, 14, 0), (14, .getfield 45, 17, 0), (17, .getfield 53, 20, 0), (20, .iload_n 2, 21, 0), (21, .iaload, 22, 0), (22, .ior, 23, 0), (23, .istore_n 1, 24, 0), (24, .iinc 2 1, 27, 0), (27, .goto (-23), 30, 4), (30, .iload_n 1, 31, 0), (31, .aload_n 0, 32, 0), (32, .invokevirtual 56, 35, 0), (35, .iconst (-1), 36, 0), (36, .ixor, 37, 0), (37, .iand, 38, 0), (38, .ifCond .ne 7, 41, 45), (41, .iconst 1, 42, 0), (42, .goto 4, 45, 46), (45, .iconst 0, 46, 0), (46, .ireturn, 47, 0)]
theorem tk_G_leadsOnlyToBlocks : tb_G_leadsOnlyToBlocks.all (wm_rokb b_G_leadsOnlyToBlocks) = true := by decide +kernel
abbrev cd_G_leadsOnlyToBlocks : Cond := Cond.code y_G_leadsOnlyToBlocks b_G_leadsOnlyToBlocks 3 (wm_rtT 3)
theorem cw_G_leadsOnlyToBlocks : cd_G_leadsOnlyToBlocks ∈ gw := gw_at 455 (by decide +kernel) rfl
theorem gi_G_leadsOnlyToBlocks : Cond.instanceMethod y_G_leadsOnlyToBlocks ∈ gw := gw_at 453 (by decide +kernel) rfl
theorem gs_G_leadsOnlyToBlocks : Cond.selects "CodePruner$Program" y_G_leadsOnlyToBlocks y_G_leadsOnlyToBlocks ∈ gw := gw_at 454 (by decide +kernel) rfl
def t_G_leadsOnlyToBlocks : wm_St := (ws_seq (ws_i 1 (wx_c (0 : Int32)))
  (ws_seq (ws_seq (ws_i 2 (wx_c (0 : Int32)))
  (ws_loop (wx_bin wr_lt (wx_i 2) (wx_fi w_L 1 0 (wx_r 0)))
  (ws_seq (ws_i 1 (wx_bin wo_ior (wx_i 1) (wx_ai w_L 0 (wx_fr w_L 2 4 (wx_fr w_L 1 9 (wx_r 0))) (wx_i 2))))
  (ws_inc 2 (1 : Int32))) w_N))
  (ws_ret .int (wx_cond (wx_un (fun v => wr_eq v 0) (wx_bin wo_iand (wx_i 1) (wx_bin wo_ixor (wx_call wm_pi f_G_allBlocks (wx_a1 .ref (wx_r 0))) (wx_c (-1 : Int32))))) (wx_c (1 : Int32)) (wx_c (0 : Int32))))))
def f_G_leadsOnlyToBlocks : List Value → wm_S → Option (Option Value × wm_S) := wm_fn (wm_isc w_L 1) 3 3 t_G_leadsOnlyToBlocks
def rm_G_leadsOnlyToBlocks : Room := { frames := 1, locals := 20 }
abbrev cV_G_leadsOnlyToBlocks : List (Nat × wm_M) := [(56, 1, f_G_allBlocks)]
abbrev cS_G_leadsOnlyToBlocks : List (Nat × wm_M) := []
set_option maxRecDepth 20000 in
theorem bd_G_leadsOnlyToBlocks (w : wm_K) (ret : Option Value → wm_S → Prop) (hc : wm_cl w_L fl_G cs_G none cV_G_leadsOnlyToBlocks cS_G_leadsOnlyToBlocks ret tb_G_leadsOnlyToBlocks w) : wm_T w tb_G_leadsOnlyToBlocks ret 0 9999 t_G_leadsOnlyToBlocks :=
  (wm_t_seq (wm_t_in hc (wm_x_iconst hc rfl (by decide)) rfl rfl)
  (wm_t_seq (wm_t_seq (wm_t_in hc (wm_x_iconst hc rfl (by decide)) rfl rfl)
  (wm_t_loop (wm_b_cmp hc (wm_x_in hc rfl rfl) (wm_x_fi hc (wm_x_rn hc rfl rfl) rfl rfl) rfl rfl wm_j_ltF)
  (wm_t_seq (wm_t_in hc (wm_x_bin hc (wm_x_in hc rfl rfl) (wm_x_ai hc (wm_x_fr hc (wm_x_fr hc (wm_x_rn hc rfl rfl) rfl rfl) rfl rfl) (wm_x_in hc rfl rfl) rfl) rfl rfl (fun _ _ _ _ _ _ q => q)) rfl rfl)
  (wm_t_inc hc rfl (by decide))) rfl))
  (wm_t_ret hc (wm_x_cond (wm_b_un hc (wm_x_bin hc (wm_x_in hc rfl rfl) (wm_x_bin hc (wm_x_callV hc wm_pi_ok (wm_a_1 (wm_x_rn hc rfl rfl)) rfl rfl (by decide)) (wm_x_iconst hc rfl (by decide)) rfl rfl (fun _ _ _ _ _ _ q => q)) rfl rfl (fun _ _ _ _ _ _ q => q)) rfl rfl wm_z_eqF) (wm_x_iconst hc rfl (by decide)) (wm_x_iconst hc rfl (by decide)) rfl) rfl rfl (fun _ _ _ _ q => q))))
theorem c_G_leadsOnlyToBlocks {l : Launch} {D : va_G} {A : Nat → Prop} {ad : Nat → Nat} {cA : Nat → ClassId} (hY : wm_Y cl0 (tys0 cA) A ad cA w_L) : wm_con l y_G_leadsOnlyToBlocks (cd_G_leadsOnlyToBlocks :: gw) rm_G_leadsOnlyToBlocks D cl0 (tys0 cA) A ad cA w_L f_G_leadsOnlyToBlocks :=
  wm_meth (cV := cV_G_leadsOnlyToBlocks) (cS := cS_G_leadsOnlyToBlocks) (by decide) rfl hY (fun r h => wm_fok_mono (fun _ h => List.mem_cons_of_mem _ h) (fk_G r h)) (fun r h => wm_cok_mono (fun _ h => List.mem_cons_of_mem _ h) (ck_G r h)) tk_G_leadsOnlyToBlocks
    (List.forall_mem_cons.mpr ⟨⟨y_G_allBlocks, b_G_allBlocks, 1, wm_rtT 1, cd_G_allBlocks :: gw, gw, rm_G_allBlocks, 0, 1, 10, T_G, c_G_allBlocks hY, rfl, gw_V (gw_at 456 (by decide +kernel) rfl) gi_G_allBlocks gs_G_allBlocks gn_G cw_G_allBlocks, rfl, rfl, ⟨by decide, by decide, by decide +kernel⟩, rfl, ⟨by decide, by decide⟩, rfl, fun vs S r h => (wm_fn_some (v := r.1) (S' := r.2) h).1⟩, fun _ h => nomatch h⟩)
    (fun _ h => nomatch h)
    bd_G_leadsOnlyToBlocks
/-! CodePruner$Program.setRegister -/
def y_G_setRegister : MethodName := ⟨"CodePruner$Program", "setRegister", "(I)I"⟩
abbrev b_G_setRegister : ByteArray := prog_6_method_8_code
def tb_G_setRegister : List wm_R := [(0, .aload_n 0, 1, 0), (1, .getfield 18, 4, 0), (4, .iload_n 1, 5, 0), (5, .iaload, 6, 0), (6, .bipush 7, 8, 0), (8, .if_icmp .ne 7, 11, 15), (11, .iconst (-1), 12, 0), (12, .goto 9, 15, 21), (15, .aload_n 0, 16, 0), (16, .getfield 22, 19, 0), (19, .iload_n 1, 20, 0), (20, .iaload, 21, 0), (21, .ireturn, 22, 0)]
theorem tk_G_setRegister : tb_G_setRegister.all (wm_rokb b_G_setRegister) = true := by decide +kernel
abbrev cd_G_setRegister : Cond := Cond.code y_G_setRegister b_G_setRegister 2 (wm_rtT 1)
theorem cw_G_setRegister : cd_G_setRegister ∈ gw := gw_at 516 (by decide +kernel) rfl
theorem gi_G_setRegister : Cond.instanceMethod y_G_setRegister ∈ gw := gw_at 514 (by decide +kernel) rfl
theorem gs_G_setRegister : Cond.selects "CodePruner$Program" y_G_setRegister y_G_setRegister ∈ gw := gw_at 515 (by decide +kernel) rfl
def t_G_setRegister : wm_St := (ws_ret .int (wx_cond (wx_bin wr_eq (wx_ai w_L 0 (wx_fr w_L 1 2 (wx_r 0)) (wx_i 1)) (wx_c (7 : Int32))) (wx_c (-1 : Int32)) (wx_ai w_L 0 (wx_fr w_L 1 3 (wx_r 0)) (wx_i 1))))
def f_G_setRegister : List Value → wm_S → Option (Option Value × wm_S) := wm_fn (wm_isc w_L 1) 1 2 t_G_setRegister
def rm_G_setRegister : Room := { frames := 0, locals := 0 }
abbrev cV_G_setRegister : List (Nat × wm_M) := []
abbrev cS_G_setRegister : List (Nat × wm_M) := []
set_option maxRecDepth 20000 in
theorem bd_G_setRegister (w : wm_K) (ret : Option Value → wm_S → Prop) (hc : wm_cl w_L fl_G cs_G none cV_G_setRegister cS_G_setRegister ret tb_G_setRegister w) : wm_T w tb_G_setRegister ret 0 9999 t_G_setRegister :=
  (wm_t_ret hc (wm_x_cond (wm_b_cmp hc (wm_x_ai hc (wm_x_fr hc (wm_x_rn hc rfl rfl) rfl rfl) (wm_x_in hc rfl rfl) rfl) (wm_x_bipush hc rfl (by decide)) rfl rfl wm_j_eqF) (wm_x_iconst hc rfl (by decide)) (wm_x_ai hc (wm_x_fr hc (wm_x_rn hc rfl rfl) rfl rfl) (wm_x_in hc rfl rfl) rfl) rfl) rfl rfl (fun _ _ _ _ q => q))
theorem c_G_setRegister {l : Launch} {D : va_G} {A : Nat → Prop} {ad : Nat → Nat} {cA : Nat → ClassId} (hY : wm_Y cl0 (tys0 cA) A ad cA w_L) : wm_con l y_G_setRegister (cd_G_setRegister :: gw) rm_G_setRegister D cl0 (tys0 cA) A ad cA w_L f_G_setRegister :=
  wm_meth (cV := cV_G_setRegister) (cS := cS_G_setRegister) (by decide) rfl hY (fun r h => wm_fok_mono (fun _ h => List.mem_cons_of_mem _ h) (fk_G r h)) (fun r h => wm_cok_mono (fun _ h => List.mem_cons_of_mem _ h) (ck_G r h)) tk_G_setRegister
    (fun _ h => nomatch h)
    (fun _ h => nomatch h)
    bd_G_setRegister
/-! CodePruner$Program.usedRegisters -/
def y_G_usedRegisters : MethodName := ⟨"CodePruner$Program", "usedRegisters", "(I)I"⟩
abbrev b_G_usedRegisters : ByteArray := prog_6_method_9_code
def tb_G_usedRegisters : List wm_R := [(0, .aload_n 0, 1, 0), (1, .getfield 18, 4, 0), (4, .iload_n 1, 5, 0), (5, .iaload, 6, 0), (6, .tableswitch 66 0 7 #[46, 48, 66, 66, 66, 66, 46, 57], 52, 0), (52, .iconst 0, 53, 0), (53, .ireturn, 54, 0), (54, .iconst 1, 55, 0), (55, .aload_n 0, 56, 0), (56, .getfield 25, 59, 0), (59, .iload_n 1, 60, 0), (60, .iaload, 61, 0), (61, .ishl, 62, 0), (62, .ireturn, 63, 0), (63, .iconst 1, 64, 0), (64, .aload_n 0, 65, 0), (65, .getfield 22, 68, 0), (68, .iload_n 1, 69, 0), (69, .iaload, 70, 0), (70, .ishl, 71, 0), (71, .ireturn, 72, 0), (72, .iconst 1, 73, 0), (73, .aload_n 0, 74, 0), (74, .getfield 25, 77, 0), (77, .iload_n 1, 78, 0), (78, .iaload, 79, 0), (79, .ishl, 80, 0), (80, .iconst 1, 81, 0), (81, .aload_n 0, 82, 0), (82, .getfield 28, 85, 0), (85, .iload_n 1, 86, 0), (86, .iaload, 87, 0), (87, .ishl, 88, 0), (88, .ior, 89, 0), (89, .ireturn, 90, 0)]
theorem tk_G_usedRegisters : tb_G_usedRegisters.all (wm_rokb b_G_usedRegisters) = true := by decide +kernel
abbrev cd_G_usedRegisters : Cond := Cond.code y_G_usedRegisters b_G_usedRegisters 2 (wm_rtT 1)
theorem cw_G_usedRegisters : cd_G_usedRegisters ∈ gw := gw_at 528 (by decide +kernel) rfl
theorem gi_G_usedRegisters : Cond.instanceMethod y_G_usedRegisters ∈ gw := gw_at 526 (by decide +kernel) rfl
theorem gs_G_usedRegisters : Cond.selects "CodePruner$Program" y_G_usedRegisters y_G_usedRegisters ∈ gw := gw_at 527 (by decide +kernel) rfl
def t_G_usedRegisters : wm_St := (ws_sw (wx_ai w_L 0 (wx_fr w_L 1 2 (wx_r 0)) (wx_i 1)) 0 [(ws_ret .int (wx_c (0 : Int32))),
  (ws_ret .int (wx_bin wo_ishl (wx_c (1 : Int32)) (wx_ai w_L 0 (wx_fr w_L 1 4 (wx_r 0)) (wx_i 1)))),
  (ws_ret .int (wx_bin wo_ior (wx_bin wo_ishl (wx_c (1 : Int32)) (wx_ai w_L 0 (wx_fr w_L 1 4 (wx_r 0)) (wx_i 1))) (wx_bin wo_ishl (wx_c (1 : Int32)) (wx_ai w_L 0 (wx_fr w_L 1 5 (wx_r 0)) (wx_i 1))))),
  (ws_ret .int (wx_bin wo_ior (wx_bin wo_ishl (wx_c (1 : Int32)) (wx_ai w_L 0 (wx_fr w_L 1 4 (wx_r 0)) (wx_i 1))) (wx_bin wo_ishl (wx_c (1 : Int32)) (wx_ai w_L 0 (wx_fr w_L 1 5 (wx_r 0)) (wx_i 1))))),
  (ws_ret .int (wx_bin wo_ior (wx_bin wo_ishl (wx_c (1 : Int32)) (wx_ai w_L 0 (wx_fr w_L 1 4 (wx_r 0)) (wx_i 1))) (wx_bin wo_ishl (wx_c (1 : Int32)) (wx_ai w_L 0 (wx_fr w_L 1 5 (wx_r 0)) (wx_i 1))))),
  (ws_ret .int (wx_bin wo_ior (wx_bin wo_ishl (wx_c (1 : Int32)) (wx_ai w_L 0 (wx_fr w_L 1 4 (wx_r 0)) (wx_i 1))) (wx_bin wo_ishl (wx_c (1 : Int32)) (wx_ai w_L 0 (wx_fr w_L 1 5 (wx_r 0)) (wx_i 1))))),
  (ws_ret .int (wx_c (0 : Int32))),
  (ws_ret .int (wx_bin wo_ishl (wx_c (1 : Int32)) (wx_ai w_L 0 (wx_fr w_L 1 3 (wx_r 0)) (wx_i 1))))]
  (ws_ret .int (wx_bin wo_ior (wx_bin wo_ishl (wx_c (1 : Int32)) (wx_ai w_L 0 (wx_fr w_L 1 4 (wx_r 0)) (wx_i 1))) (wx_bin wo_ishl (wx_c (1 : Int32)) (wx_ai w_L 0 (wx_fr w_L 1 5 (wx_r 0)) (wx_i 1))))))
def f_G_usedRegisters : List Value → wm_S → Option (Option Value × wm_S) := wm_fn (wm_isc w_L 1) 1 2 t_G_usedRegisters
def rm_G_usedRegisters : Room := { frames := 0, locals := 0 }
abbrev cV_G_usedRegisters : List (Nat × wm_M) := []
abbrev cS_G_usedRegisters : List (Nat × wm_M) := []
set_option maxRecDepth 20000 in
theorem bd_G_usedRegisters (w : wm_K) (ret : Option Value → wm_S → Prop) (hc : wm_cl w_L fl_G cs_G none cV_G_usedRegisters cS_G_usedRegisters ret tb_G_usedRegisters w) : wm_T w tb_G_usedRegisters ret 0 9999 t_G_usedRegisters :=
  (wm_t_sw hc (wm_x_ai hc (wm_x_fr hc (wm_x_rn hc rfl rfl) rfl rfl) (wm_x_in hc rfl rfl) rfl) rfl rfl
  ⟨⟨52, _, rfl, (wm_t_ret hc (wm_x_iconst hc rfl (by decide)) rfl rfl (fun _ _ _ _ q => q)), rfl⟩, ⟨⟨54, _, rfl, (wm_t_ret hc (wm_x_bin hc (wm_x_iconst hc rfl (by decide)) (wm_x_ai hc (wm_x_fr hc (wm_x_rn hc rfl rfl) rfl rfl) (wm_x_in hc rfl rfl) rfl) rfl rfl (fun _ _ _ _ _ _ q => q)) rfl rfl (fun _ _ _ _ q => q)), rfl⟩, ⟨⟨72, _, rfl, (wm_t_ret hc (wm_x_bin hc (wm_x_bin hc (wm_x_iconst hc rfl (by decide)) (wm_x_ai hc (wm_x_fr hc (wm_x_rn hc rfl rfl) rfl rfl) (wm_x_in hc rfl rfl) rfl) rfl rfl (fun _ _ _ _ _ _ q => q)) (wm_x_bin hc (wm_x_iconst hc rfl (by decide)) (wm_x_ai hc (wm_x_fr hc (wm_x_rn hc rfl rfl) rfl rfl) (wm_x_in hc rfl rfl) rfl) rfl rfl (fun _ _ _ _ _ _ q => q)) rfl rfl (fun _ _ _ _ _ _ q => q)) rfl rfl (fun _ _ _ _ q => q)), rfl⟩, ⟨⟨72, _, rfl, (wm_t_ret hc (wm_x_bin hc (wm_x_bin hc (wm_x_iconst hc rfl (by decide)) (wm_x_ai hc (wm_x_fr hc (wm_x_rn hc rfl rfl) rfl rfl) (wm_x_in hc rfl rfl) rfl) rfl rfl (fun _ _ _ _ _ _ q => q)) (wm_x_bin hc (wm_x_iconst hc rfl (by decide)) (wm_x_ai hc (wm_x_fr hc (wm_x_rn hc rfl rfl) rfl rfl) (wm_x_in hc rfl rfl) rfl) rfl rfl (fun _ _ _ _ _ _ q => q)) rfl rfl (fun _ _ _ _ _ _ q => q)) rfl rfl (fun _ _ _ _ q => q)), rfl⟩, ⟨⟨72, _, rfl, (wm_t_ret hc (wm_x_bin hc (wm_x_bin hc (wm_x_iconst hc rfl (by decide)) (wm_x_ai hc (wm_x_fr hc (wm_x_rn hc rfl rfl) rfl rfl) (wm_x_in hc rfl rfl) rfl) rfl rfl (fun _ _ _ _ _ _ q => q)) (wm_x_bin hc (wm_x_iconst hc rfl (by decide)) (wm_x_ai hc (wm_x_fr hc (wm_x_rn hc rfl rfl) rfl rfl) (wm_x_in hc rfl rfl) rfl) rfl rfl (fun _ _ _ _ _ _ q => q)) rfl rfl (fun _ _ _ _ _ _ q => q)) rfl rfl (fun _ _ _ _ q => q)), rfl⟩, ⟨⟨72, _, rfl, (wm_t_ret hc (wm_x_bin hc (wm_x_bin hc (wm_x_iconst hc rfl (by decide)) (wm_x_ai hc (wm_x_fr hc (wm_x_rn hc rfl rfl) rfl rfl) (wm_x_in hc rfl rfl) rfl) rfl rfl (fun _ _ _ _ _ _ q => q)) (wm_x_bin hc (wm_x_iconst hc rfl (by decide)) (wm_x_ai hc (wm_x_fr hc (wm_x_rn hc rfl rfl) rfl rfl) (wm_x_in hc rfl rfl) rfl) rfl rfl (fun _ _ _ _ _ _ q => q)) rfl rfl (fun _ _ _ _ _ _ q => q)) rfl rfl (fun _ _ _ _ q => q)), rfl⟩, ⟨⟨52, _, rfl, (wm_t_ret hc (wm_x_iconst hc rfl (by decide)) rfl rfl (fun _ _ _ _ q => q)), rfl⟩, ⟨⟨63, _, rfl, (wm_t_ret hc (wm_x_bin hc (wm_x_iconst hc rfl (by decide)) (wm_x_ai hc (wm_x_fr hc (wm_x_rn hc rfl rfl) rfl rfl) (wm_x_in hc rfl rfl) rfl) rfl rfl (fun _ _ _ _ _ _ q => q)) rfl rfl (fun _ _ _ _ q => q)), rfl⟩, trivial⟩⟩⟩⟩⟩⟩⟩⟩
  ⟨72, _, rfl, (wm_t_ret hc (wm_x_bin hc (wm_x_bin hc (wm_x_iconst hc rfl (by decide)) (wm_x_ai hc (wm_x_fr hc (wm_x_rn hc rfl rfl) rfl rfl) (wm_x_in hc rfl rfl) rfl) rfl rfl (fun _ _ _ _ _ _ q => q)) (wm_x_bin hc (wm_x_iconst hc rfl (by decide)) (wm_x_ai hc (wm_x_fr hc (wm_x_rn hc rfl rfl) rfl rfl) (wm_x_in hc rfl rfl) rfl) rfl rfl (fun _ _ _ _ _ _ q => q)) rfl rfl (fun _ _ _ _ _ _ q => q)) rfl rfl (fun _ _ _ _ q => q)), rfl⟩)
theorem c_G_usedRegisters {l : Launch} {D : va_G} {A : Nat → Prop} {ad : Nat → Nat} {cA : Nat → ClassId} (hY : wm_Y cl0 (tys0 cA) A ad cA w_L) : wm_con l y_G_usedRegisters (cd_G_usedRegisters :: gw) rm_G_usedRegisters D cl0 (tys0 cA) A ad cA w_L f_G_usedRegisters :=
  wm_meth (cV := cV_G_usedRegisters) (cS := cS_G_usedRegisters) (by decide) rfl hY (fun r h => wm_fok_mono (fun _ h => List.mem_cons_of_mem _ h) (fk_G r h)) (fun r h => wm_cok_mono (fun _ h => List.mem_cons_of_mem _ h) (ck_G r h)) tk_G_usedRegisters
    (fun _ h => nomatch h)
    (fun _ h => nomatch h)
    bd_G_usedRegisters
end WME_G

section WME_Z
/-! CodePrunerModel.thrown -/
def y_Z_thrown : MethodName := ⟨"CodePrunerModel", "thrown", "()I"⟩
abbrev b_Z_thrown : ByteArray := prog_10_method_2_code
def tb_Z_thrown : List wm_R := [(0, .aload_n 0, 1, 0), (1, .getfield 71, 4, 0), (4, .ireturn, 5, 0)]
theorem tk_Z_thrown : tb_Z_thrown.all (wm_rokb b_Z_thrown) = true := by decide +kernel
abbrev cd_Z_thrown : Cond := Cond.code y_Z_thrown b_Z_thrown 1 (wm_rtT 1)
theorem cw_Z_thrown : cd_Z_thrown ∈ gw := gw_at 755 (by decide +kernel) rfl
theorem gi_Z_thrown : Cond.instanceMethod y_Z_thrown ∈ gw := gw_at 753 (by decide +kernel) rfl
theorem gs_Z_thrown : Cond.selects "CodePrunerModel" y_Z_thrown y_Z_thrown ∈ gw := gw_at 754 (by decide +kernel) rfl
def t_Z_thrown : wm_St := (ws_ret .int (wx_fi w_L 8 0 (wx_r 0)))
def f_Z_thrown : List Value → wm_S → Option (Option Value × wm_S) := wm_fn (wm_isc w_L 8) 1 1 t_Z_thrown
def rm_Z_thrown : Room := { frames := 0, locals := 0 }
abbrev cV_Z_thrown : List (Nat × wm_M) := []
abbrev cS_Z_thrown : List (Nat × wm_M) := []
set_option maxRecDepth 20000 in
theorem bd_Z_thrown (w : wm_K) (ret : Option Value → wm_S → Prop) (hc : wm_cl w_L fl_Z cs_Z none cV_Z_thrown cS_Z_thrown ret tb_Z_thrown w) : wm_T w tb_Z_thrown ret 0 9999 t_Z_thrown :=
  (wm_t_ret hc (wm_x_fi hc (wm_x_rn hc rfl rfl) rfl rfl) rfl rfl (fun _ _ _ _ q => q))
theorem c_Z_thrown {l : Launch} {D : va_G} {A : Nat → Prop} {ad : Nat → Nat} {cA : Nat → ClassId} (hY : wm_Y cl0 (tys0 cA) A ad cA w_L) : wm_con l y_Z_thrown (cd_Z_thrown :: gw) rm_Z_thrown D cl0 (tys0 cA) A ad cA w_L f_Z_thrown :=
  wm_meth (cV := cV_Z_thrown) (cS := cS_Z_thrown) (by decide) rfl hY (fun r h => wm_fok_mono (fun _ h => List.mem_cons_of_mem _ h) (fk_Z r h)) (fun r h => wm_cok_mono (fun _ h => List.mem_cons_of_mem _ h) (ck_Z r h)) tk_Z_thrown
    (fun _ h => nomatch h)
    (fun _ h => nomatch h)
    bd_Z_thrown
/-! CodePrunerModel.refuse -/
def y_Z_refuse : MethodName := ⟨"CodePrunerModel", "refuse", "(I)I"⟩
abbrev b_Z_refuse : ByteArray := prog_10_method_3_code
def tb_Z_refuse : List wm_R := [(0, .aload_n 0, 1, 0), (1, .iload_n 1, 2, 0), (2, .putfield 71, 5, 0), (5, .iconst 0, 6, 0), (6, .ireturn, 7, 0)]
theorem tk_Z_refuse : tb_Z_refuse.all (wm_rokb b_Z_refuse) = true := by decide +kernel
abbrev cd_Z_refuse : Cond := Cond.code y_Z_refuse b_Z_refuse 2 (wm_rtT 1)
theorem cw_Z_refuse : cd_Z_refuse ∈ gw := gw_at 883 (by decide +kernel) rfl
theorem gi_Z_refuse : Cond.instanceMethod y_Z_refuse ∈ gw := gw_at 882 (by decide +kernel) rfl
theorem gs_Z_refuse : Cond.selects "CodePrunerModel" y_Z_refuse y_Z_refuse ∈ gw := gw_of (List.mem_append_left _ (List.mem_of_getElem? (i := 40) (by decide +kernel))) rfl
def t_Z_refuse : wm_St := (ws_seq (ws_fi w_L 8 0 (wx_r 0) (wx_i 1))
  (ws_ret .int (wx_c (0 : Int32))))
def f_Z_refuse : List Value → wm_S → Option (Option Value × wm_S) := wm_fn (wm_isc w_L 8) 1 2 t_Z_refuse
def rm_Z_refuse : Room := { frames := 0, locals := 0 }
abbrev cV_Z_refuse : List (Nat × wm_M) := []
abbrev cS_Z_refuse : List (Nat × wm_M) := []
set_option maxRecDepth 20000 in
theorem bd_Z_refuse (w : wm_K) (ret : Option Value → wm_S → Prop) (hc : wm_cl w_L fl_Z cs_Z none cV_Z_refuse cS_Z_refuse ret tb_Z_refuse w) : wm_T w tb_Z_refuse ret 0 9999 t_Z_refuse :=
  (wm_t_seq (wm_t_fi hc (wm_x_rn hc rfl rfl) (wm_x_in hc rfl rfl) rfl rfl)
  (wm_t_ret hc (wm_x_iconst hc rfl (by decide)) rfl rfl (fun _ _ _ _ q => q)))
theorem c_Z_refuse {l : Launch} {D : va_G} {A : Nat → Prop} {ad : Nat → Nat} {cA : Nat → ClassId} (hY : wm_Y cl0 (tys0 cA) A ad cA w_L) : wm_con l y_Z_refuse (cd_Z_refuse :: gw) rm_Z_refuse D cl0 (tys0 cA) A ad cA w_L f_Z_refuse :=
  wm_meth (cV := cV_Z_refuse) (cS := cS_Z_refuse) (by decide) rfl hY (fun r h => wm_fok_mono (fun _ h => List.mem_cons_of_mem _ h) (fk_Z r h)) (fun r h => wm_cok_mono (fun _ h => List.mem_cons_of_mem _ h) (ck_Z r h)) tk_Z_refuse
    (fun _ h => nomatch h)
    (fun _ h => nomatch h)
    bd_Z_refuse
/-! CodePrunerModel.outside -/
def y_Z_outside : MethodName := ⟨"CodePrunerModel", "outside", "(III)Z"⟩
abbrev b_Z_outside : ByteArray := prog_10_method_4_code
def tb_Z_outside : List wm_R := [(0, .iload_n 0, 1, 0), (1, .iload_n 1, 2, 0), (2, .if_icmp .lt 8, 5, 10), (5, .iload_n 0, 6, 0), (6, .iload_n 2, 7, 0), (7, .if_icmp .le 7, 10, 14), (10, .iconst 1, 11, 0), (11, .goto 4, 14, 15), (14, .iconst 0, 15, 0), (15, .ireturn, 16, 0)]
theorem tk_Z_outside : tb_Z_outside.all (wm_rokb b_Z_outside) = true := by decide +kernel
abbrev cd_Z_outside : Cond := Cond.code y_Z_outside b_Z_outside 3 (wm_rtT 3)
theorem cw_Z_outside : cd_Z_outside ∈ gw := gw_at 774 (by decide +kernel) rfl
theorem gi_Z_outside : Cond.static y_Z_outside ∈ gw := gw_at 773 (by decide +kernel) rfl
def t_Z_outside : wm_St := (ws_ret .int (wx_cond (wb_or (wx_bin wr_lt (wx_i 0) (wx_i 1)) (wx_bin wr_gt (wx_i 0) (wx_i 2))) (wx_c (1 : Int32)) (wx_c (0 : Int32))))
def f_Z_outside : List Value → wm_S → Option (Option Value × wm_S) := wm_fn wm_any 3 3 t_Z_outside
def rm_Z_outside : Room := { frames := 0, locals := 0 }
abbrev cV_Z_outside : List (Nat × wm_M) := []
abbrev cS_Z_outside : List (Nat × wm_M) := []
set_option maxRecDepth 20000 in
theorem bd_Z_outside (w : wm_K) (ret : Option Value → wm_S → Prop) (hc : wm_cl w_L fl_Z cs_Z none cV_Z_outside cS_Z_outside ret tb_Z_outside w) : wm_T w tb_Z_outside ret 0 9999 t_Z_outside :=
  (wm_t_ret hc (wm_x_cond (wm_b_or (wm_b_cmp hc (wm_x_in hc rfl rfl) (wm_x_in hc rfl rfl) rfl rfl wm_j_ltT) (wm_b_cmp hc (wm_x_in hc rfl rfl) (wm_x_in hc rfl rfl) rfl rfl wm_j_gtF)) (wm_x_iconst hc rfl (by decide)) (wm_x_iconst hc rfl (by decide)) rfl) rfl rfl (fun _ _ _ _ q => q))
theorem c_Z_outside {l : Launch} {D : va_G} {A : Nat → Prop} {ad : Nat → Nat} {cA : Nat → ClassId} (hY : wm_Y cl0 (tys0 cA) A ad cA w_L) : wm_con l y_Z_outside (cd_Z_outside :: gw) rm_Z_outside D cl0 (tys0 cA) A ad cA w_L f_Z_outside :=
  wm_meth (cV := cV_Z_outside) (cS := cS_Z_outside) (by decide) rfl hY (fun r h => wm_fok_mono (fun _ h => List.mem_cons_of_mem _ h) (fk_Z r h)) (fun r h => wm_cok_mono (fun _ h => List.mem_cons_of_mem _ h) (ck_Z r h)) tk_Z_outside
    (fun _ h => nomatch h)
    (fun _ h => nomatch h)
    bd_Z_outside
/-! CodePrunerModel.begin -/
def y_Z_begin : MethodName := ⟨"CodePrunerModel", "begin", "(I)V"⟩
abbrev b_Z_begin : ByteArray := prog_10_method_6_code
def tb_Z_begin : List wm_R := [(0, .aload_n 0, 1, 0), (1, .iconst 0, 2, 0), (2, .putfield 83, 5, 0), (5, .aload_n 0, 6, 0), (6, .iconst 0, 7, 0), (7, .putfield 86, 10, 0), (10, .aload_n 0, 11, 0), (11, .iconst 0, 12, 0), (12, .putfield 89, 15, 0), (15, .aload_n 0, 16, 0), (16, .iconst 0, 17, 0), (17, .putfield 92, 20, 0), (20, .aload_n 0, 21, 0), (21, .iload_n 1, 22, 0), (22, .putfield 95, 25, 0), (25, .iconst 0, 26, 0), (26, .istore_n 2, 27, 0), (27, .iload_n 2, 28, 0), (28, .bipush 8, 30, 0), (30, .if_icmp .ge 16, 33, 46), (33, .aload_n 0, 34, 0), (34, .getfield 65, 37, 0), (37, .iload_n 2, 38, 0), (38, .iconst 0, 39, 0), (39, .iastore, 40, 0), (40, .iinc 2 1, 43, 0), (43, .goto (-16), 46, 27), (46, .return_, 47, 0)]
theorem tk_Z_begin : tb_Z_begin.all (wm_rokb b_Z_begin) = true := by decide +kernel
abbrev cd_Z_begin : Cond := Cond.code y_Z_begin b_Z_begin 3 (wm_rtT 0)
theorem cw_Z_begin : cd_Z_begin ∈ gw := gw_at 767 (by decide +kernel) rfl
theorem gi_Z_begin : Cond.instanceMethod y_Z_begin ∈ gw := gw_at 766 (by decide +kernel) rfl
theorem gs_Z_begin : Cond.selects "CodePrunerModel" y_Z_begin y_Z_begin ∈ gw := gw_of (List.mem_append_left _ (List.mem_of_getElem? (i := 20) (by decide +kernel))) rfl
def t_Z_begin : wm_St := (ws_seq (ws_fi w_L 8 23 (wx_r 0) (wx_c (0 : Int32)))
  (ws_seq (ws_fi w_L 8 24 (wx_r 0) (wx_c (0 : Int32)))
  (ws_seq (ws_fi w_L 8 25 (wx_r 0) (wx_c (0 : Int32)))
  (ws_seq (ws_fi w_L 8 27 (wx_r 0) (wx_c (0 : Int32)))
  (ws_seq (ws_fi w_L 8 26 (wx_r 0) (wx_i 1))
  (ws_seq (ws_seq (ws_i 2 (wx_c (0 : Int32)))
  (ws_loop (wx_bin wr_lt (wx_i 2) (wx_c (8 : Int32)))
  (ws_seq (ws_ai w_L (wx_fr w_L 8 22 (wx_r 0)) (wx_i 2) (wx_c (0 : Int32)))
  (ws_inc 2 (1 : Int32))) w_N))
  ws_retv))))))
def f_Z_begin : List Value → wm_S → Option (Option Value × wm_S) := wm_fn (wm_isc w_L 8) 0 3 t_Z_begin
def rm_Z_begin : Room := { frames := 0, locals := 0 }
abbrev cV_Z_begin : List (Nat × wm_M) := []
abbrev cS_Z_begin : List (Nat × wm_M) := []
set_option maxRecDepth 20000 in
theorem bd_Z_begin (w : wm_K) (ret : Option Value → wm_S → Prop) (hc : wm_cl w_L fl_Z cs_Z none cV_Z_begin cS_Z_begin ret tb_Z_begin w) : wm_T w tb_Z_begin ret 0 9999 t_Z_begin :=
  (wm_t_seq (wm_t_fi hc (wm_x_rn hc rfl rfl) (wm_x_iconst hc rfl (by decide)) rfl rfl)
  (wm_t_seq (wm_t_fi hc (wm_x_rn hc rfl rfl) (wm_x_iconst hc rfl (by decide)) rfl rfl)
  (wm_t_seq (wm_t_fi hc (wm_x_rn hc rfl rfl) (wm_x_iconst hc rfl (by decide)) rfl rfl)
  (wm_t_seq (wm_t_fi hc (wm_x_rn hc rfl rfl) (wm_x_iconst hc rfl (by decide)) rfl rfl)
  (wm_t_seq (wm_t_fi hc (wm_x_rn hc rfl rfl) (wm_x_in hc rfl rfl) rfl rfl)
  (wm_t_seq (wm_t_seq (wm_t_in hc (wm_x_iconst hc rfl (by decide)) rfl rfl)
  (wm_t_loop (wm_b_cmp hc (wm_x_in hc rfl rfl) (wm_x_bipush hc rfl (by decide)) rfl rfl wm_j_ltF)
  (wm_t_seq (wm_t_ai hc (wm_x_fr hc (wm_x_rn hc rfl rfl) rfl rfl) (wm_x_in hc rfl rfl) (wm_x_iconst hc rfl (by decide)) rfl)
  (wm_t_inc hc rfl (by decide))) rfl))
  (wm_t_retv hc rfl)))))))
theorem c_Z_begin {l : Launch} {D : va_G} {A : Nat → Prop} {ad : Nat → Nat} {cA : Nat → ClassId} (hY : wm_Y cl0 (tys0 cA) A ad cA w_L) : wm_con l y_Z_begin (cd_Z_begin :: gw) rm_Z_begin D cl0 (tys0 cA) A ad cA w_L f_Z_begin :=
  wm_meth (cV := cV_Z_begin) (cS := cS_Z_begin) (by decide) rfl hY (fun r h => wm_fok_mono (fun _ h => List.mem_cons_of_mem _ h) (fk_Z r h)) (fun r h => wm_cok_mono (fun _ h => List.mem_cons_of_mem _ h) (ck_Z r h)) tk_Z_begin
    (fun _ h => nomatch h)
    (fun _ h => nomatch h)
    bd_Z_begin
/-! CodePrunerModel.changed -/
def y_Z_changed : MethodName := ⟨"CodePrunerModel", "changed", "()V"⟩
abbrev b_Z_changed : ByteArray := prog_10_method_5_code
def tb_Z_changed : List wm_R := [(0, .aload_n 0, 1, 0), (1, .iconst 0, 2, 0), (2, .putfield 75, 5, 0), (5, .aload_n 0, 6, 0), (6, .iconst 0, 7, 0), (7, .invokevirtual 79, 10, 0), (10, .return_, 11, 0)]
theorem tk_Z_changed : tb_Z_changed.all (wm_rokb b_Z_changed) = true := by decide +kernel
abbrev cd_Z_changed : Cond := Cond.code y_Z_changed b_Z_changed 1 (wm_rtT 0)
theorem cw_Z_changed : cd_Z_changed ∈ gw := gw_at 763 (by decide +kernel) rfl
theorem gi_Z_changed : Cond.instanceMethod y_Z_changed ∈ gw := gw_at 762 (by decide +kernel) rfl
theorem gs_Z_changed : Cond.selects "CodePrunerModel" y_Z_changed y_Z_changed ∈ gw := gw_of (List.mem_append_left _ (List.mem_of_getElem? (i := 19) (by decide +kernel))) rfl
def t_Z_changed : wm_St := (ws_seq (ws_fi w_L 8 12 (wx_r 0) (wx_c (0 : Int32)))
  (ws_seq (ws_call f_Z_begin (wx_ac .ref (wx_r 0) (wx_a1 .int (wx_c (0 : Int32)))))
  ws_retv))
def f_Z_changed : List Value → wm_S → Option (Option Value × wm_S) := wm_fn (wm_isc w_L 8) 0 1 t_Z_changed
def rm_Z_changed : Room := { frames := 1, locals := 22 }
abbrev cV_Z_changed : List (Nat × wm_M) := [(79, 2, f_Z_begin)]
abbrev cS_Z_changed : List (Nat × wm_M) := []
set_option maxRecDepth 20000 in
theorem bd_Z_changed (w : wm_K) (ret : Option Value → wm_S → Prop) (hc : wm_cl w_L fl_Z cs_Z none cV_Z_changed cS_Z_changed ret tb_Z_changed w) : wm_T w tb_Z_changed ret 0 9999 t_Z_changed :=
  (wm_t_seq (wm_t_fi hc (wm_x_rn hc rfl rfl) (wm_x_iconst hc rfl (by decide)) rfl rfl)
  (wm_t_seq (wm_t_callV hc (wm_a_c (wm_x_rn hc rfl rfl) (wm_a_1 (wm_x_iconst hc rfl (by decide)))) rfl rfl)
  (wm_t_retv hc rfl)))
theorem c_Z_changed {l : Launch} {D : va_G} {A : Nat → Prop} {ad : Nat → Nat} {cA : Nat → ClassId} (hY : wm_Y cl0 (tys0 cA) A ad cA w_L) : wm_con l y_Z_changed (cd_Z_changed :: gw) rm_Z_changed D cl0 (tys0 cA) A ad cA w_L f_Z_changed :=
  wm_meth (cV := cV_Z_changed) (cS := cS_Z_changed) (by decide) rfl hY (fun r h => wm_fok_mono (fun _ h => List.mem_cons_of_mem _ h) (fk_Z r h)) (fun r h => wm_cok_mono (fun _ h => List.mem_cons_of_mem _ h) (ck_Z r h)) tk_Z_changed
    (List.forall_mem_cons.mpr ⟨⟨y_Z_begin, b_Z_begin, 3, wm_rtT 0, cd_Z_begin :: gw, gw, rm_Z_begin, 1, 8, 29, T_Z, c_Z_begin hY, rfl, gw_V (gw_at 764 (by decide +kernel) rfl) gi_Z_begin gs_Z_begin gn_Z cw_Z_begin, rfl, rfl, ⟨by decide, by decide, by decide +kernel⟩, rfl, ⟨by decide, by decide⟩, rfl, fun vs S r h => (wm_fn_some (v := r.1) (S' := r.2) h).1⟩, fun _ h => nomatch h⟩)
    (fun _ h => nomatch h)
    bd_Z_changed
/-! CodePrunerModel.block -/
def y_Z_block : MethodName := ⟨"CodePrunerModel", "block", "()I"⟩
abbrev b_Z_block : ByteArray := prog_10_method_7_code
def tb_Z_block : List wm_R := [(0, .aload_n 0, 1, 0), (1, .aload_n 0, 2, 0), (2, .getfield 98, 5, 0), (5, .bipush 12, 7, 0), (7, .if_icmp .ne 7, 10, 14), (10, .iconst 1, 11, 0), (11, .goto 4, 14, 15), (14, .iconst 0, 15, 0), (15, .putfield 71, 18, 0), (18, .aload_n 0, 19, 0), (19, .getfield 71, 22, 0), (22, .ifCond .le 5, 25, 27), (25, .iconst 0, 26, 0), (26, .ireturn, 27, 0), (27, .aload_n 0, 28, 0), (28, .getfield 7, 31, 0), (31, .aload_n 0, 32, 0), (32, .getfield 98, 35, 0), (35, .iconst 0, 36, 0), (36, .iastore, 37, 0), (37, .aload_n 0, 38, 0), (38, .getfield 13, 41, 0), (41, .aload_n 0, 42, 0), (42, .getfield 98, 45, 0), (45, .iconst 0, 46, 0), (46, .iastore, 47, 0), (47, .aload_n 0, 48, 0), (48, .getfield 16, 51, 0), (51, .aload_n 0, 52, 0), (52, .getfield 98, 55, 0), (55, .iconst (-1), 56, 0), (56, .iastore, 57, 0), (57, .aload_n 0, 58, 0), (58, .getfield 19, 61, 0), (61, .aload_n 0, 62, 0), (62, .getfield 98, 65, 0), (65, .iconst (-1), 66, 0), (66, .iastore, 67, 0), (67, .aload_n 0, 68, 0), (68, .dup, 69, 0), (69, .getfield 98, 72, 0), (72, .iconst 1, 73, 0), (73, .iadd, 74, 0), (74, .putfield 98, 77, 0), (77, .aload_n 0, 78, 0), (78, .invokevirtual 101, 81, 0), (81, .aload_n 0, 82, 0), (82, .getfield 98, 85, 0), (85, .iconst 1, 86, 0), (86, .isub, 87, 0), (87, .ireturn, 88, 0)]
theorem tk_Z_block : tb_Z_block.all (wm_rokb b_Z_block) = true := by decide +kernel
abbrev cd_Z_block : Cond := Cond.code y_Z_block b_Z_block 1 (wm_rtT 1)
theorem cw_Z_block : cd_Z_block ∈ gw := gw_at 759 (by decide +kernel) rfl
theorem gi_Z_block : Cond.instanceMethod y_Z_block ∈ gw := gw_at 757 (by decide +kernel) rfl
theorem gs_Z_block : Cond.selects "CodePrunerModel" y_Z_block y_Z_block ∈ gw := gw_at 758 (by decide +kernel) rfl
def t_Z_block : wm_St := (ws_seq (ws_fi w_L 8 0 (wx_r 0) (wx_cond (wx_bin wr_eq (wx_fi w_L 8 1 (wx_r 0)) (wx_c (12 : Int32))) (wx_c (1 : Int32)) (wx_c (0 : Int32))))
  (ws_seq (ws_if (wx_un (fun v => wr_gt v 0) (wx_fi w_L 8 0 (wx_r 0)))
  (ws_ret .int (wx_c (0 : Int32))))
  (ws_seq (ws_ai w_L (wx_fr w_L 8 2 (wx_r 0)) (wx_fi w_L 8 1 (wx_r 0)) (wx_c (0 : Int32)))
  (ws_seq (ws_ai w_L (wx_fr w_L 8 3 (wx_r 0)) (wx_fi w_L 8 1 (wx_r 0)) (wx_c (0 : Int32)))
  (ws_seq (ws_ai w_L (wx_fr w_L 8 4 (wx_r 0)) (wx_fi w_L 8 1 (wx_r 0)) (wx_c (-1 : Int32)))
  (ws_seq (ws_ai w_L (wx_fr w_L 8 5 (wx_r 0)) (wx_fi w_L 8 1 (wx_r 0)) (wx_c (-1 : Int32)))
  (ws_seq (ws_ofi w_L 8 1 wo_iadd (wx_r 0) (wx_c (1 : Int32)))
  (ws_seq (ws_call f_Z_changed (wx_a1 .ref (wx_r 0)))
  (ws_ret .int (wx_bin wo_isub (wx_fi w_L 8 1 (wx_r 0)) (wx_c (1 : Int32))))))))))))
def f_Z_block : List Value → wm_S → Option (Option Value × wm_S) := wm_fn (wm_isc w_L 8) 1 1 t_Z_block
def rm_Z_block : Room := { frames := 2, locals := 42 }
abbrev cV_Z_block : List (Nat × wm_M) := [(101, 1, f_Z_changed)]
abbrev cS_Z_block : List (Nat × wm_M) := []
set_option maxRecDepth 20000 in
theorem bd_Z_block (w : wm_K) (ret : Option Value → wm_S → Prop) (hc : wm_cl w_L fl_Z cs_Z none cV_Z_block cS_Z_block ret tb_Z_block w) : wm_T w tb_Z_block ret 0 9999 t_Z_block :=
  (wm_t_seq (wm_t_fi hc (wm_x_rn hc rfl rfl) (wm_x_cond (wm_b_cmp hc (wm_x_fi hc (wm_x_rn hc rfl rfl) rfl rfl) (wm_x_bipush hc rfl (by decide)) rfl rfl wm_j_eqF) (wm_x_iconst hc rfl (by decide)) (wm_x_iconst hc rfl (by decide)) rfl) rfl rfl)
  (wm_t_seq (wm_t_if (wm_b_un hc (wm_x_fi hc (wm_x_rn hc rfl rfl) rfl rfl) rfl rfl wm_z_gtF)
  (wm_t_ret hc (wm_x_iconst hc rfl (by decide)) rfl rfl (fun _ _ _ _ q => q)) rfl)
  (wm_t_seq (wm_t_ai hc (wm_x_fr hc (wm_x_rn hc rfl rfl) rfl rfl) (wm_x_fi hc (wm_x_rn hc rfl rfl) rfl rfl) (wm_x_iconst hc rfl (by decide)) rfl)
  (wm_t_seq (wm_t_ai hc (wm_x_fr hc (wm_x_rn hc rfl rfl) rfl rfl) (wm_x_fi hc (wm_x_rn hc rfl rfl) rfl rfl) (wm_x_iconst hc rfl (by decide)) rfl)
  (wm_t_seq (wm_t_ai hc (wm_x_fr hc (wm_x_rn hc rfl rfl) rfl rfl) (wm_x_fi hc (wm_x_rn hc rfl rfl) rfl rfl) (wm_x_iconst hc rfl (by decide)) rfl)
  (wm_t_seq (wm_t_ai hc (wm_x_fr hc (wm_x_rn hc rfl rfl) rfl rfl) (wm_x_fi hc (wm_x_rn hc rfl rfl) rfl rfl) (wm_x_iconst hc rfl (by decide)) rfl)
  (wm_t_seq (wm_t_ofi hc (wm_x_rn hc rfl rfl) rfl rfl (wm_x_iconst hc rfl (by decide)) rfl rfl (fun _ _ _ _ _ _ q => q) rfl rfl)
  (wm_t_seq (wm_t_callV hc (wm_a_1 (wm_x_rn hc rfl rfl)) rfl rfl)
  (wm_t_ret hc (wm_x_bin hc (wm_x_fi hc (wm_x_rn hc rfl rfl) rfl rfl) (wm_x_iconst hc rfl (by decide)) rfl rfl (fun _ _ _ _ _ _ q => q)) rfl rfl (fun _ _ _ _ q => q))))))))))
theorem c_Z_block {l : Launch} {D : va_G} {A : Nat → Prop} {ad : Nat → Nat} {cA : Nat → ClassId} (hY : wm_Y cl0 (tys0 cA) A ad cA w_L) : wm_con l y_Z_block (cd_Z_block :: gw) rm_Z_block D cl0 (tys0 cA) A ad cA w_L f_Z_block :=
  wm_meth (cV := cV_Z_block) (cS := cS_Z_block) (by decide) rfl hY (fun r h => wm_fok_mono (fun _ h => List.mem_cons_of_mem _ h) (fk_Z r h)) (fun r h => wm_cok_mono (fun _ h => List.mem_cons_of_mem _ h) (ck_Z r h)) tk_Z_block
    (List.forall_mem_cons.mpr ⟨⟨y_Z_changed, b_Z_changed, 1, wm_rtT 0, cd_Z_changed :: gw, gw, rm_Z_changed, 0, 8, 29, T_Z, c_Z_changed hY, rfl, gw_V (gw_at 760 (by decide +kernel) rfl) gi_Z_changed gs_Z_changed gn_Z cw_Z_changed, rfl, rfl, ⟨by decide, by decide, by decide +kernel⟩, rfl, ⟨by decide, by decide⟩, rfl, fun vs S r h => (wm_fn_some (v := r.1) (S' := r.2) h).1⟩, fun _ h => nomatch h⟩)
    (fun _ h => nomatch h)
    bd_Z_block
/-! CodePrunerModel.isBlock -/
def y_Z_isBlock : MethodName := ⟨"CodePrunerModel", "isBlock", "(I)Z"⟩
abbrev b_Z_isBlock : ByteArray := prog_10_method_8_code
def tb_Z_isBlock : List wm_R := [(0, .iload_n 1, 1, 0), (1, .iconst 0, 2, 0), (2, .aload_n 0, 3, 0), (3, .getfield 98, 6, 0), (6, .iconst 1, 7, 0), (7, .isub, 8, 0), (8, .invokestatic 104, 11, 0), (11, .ifCond .ne 7, 14, 18), (14, .iconst 1, 15, 0), (15, .goto 4, 18, 19), (18, .iconst 0, 19, 0), (19, .ireturn, 20, 0)]
theorem tk_Z_isBlock : tb_Z_isBlock.all (wm_rokb b_Z_isBlock) = true := by decide +kernel
abbrev cd_Z_isBlock : Cond := Cond.code y_Z_isBlock b_Z_isBlock 2 (wm_rtT 3)
theorem cw_Z_isBlock : cd_Z_isBlock ∈ gw := gw_at 787 (by decide +kernel) rfl
theorem gi_Z_isBlock : Cond.instanceMethod y_Z_isBlock ∈ gw := gw_at 786 (by decide +kernel) rfl
theorem gs_Z_isBlock : Cond.selects "CodePrunerModel" y_Z_isBlock y_Z_isBlock ∈ gw := gw_of (List.mem_append_left _ (List.mem_of_getElem? (i := 21) (by decide +kernel))) rfl
def t_Z_isBlock : wm_St := (ws_ret .int (wx_cond (wb_not (wx_un (fun v => wr_ne v 0) (wx_call wm_pi f_Z_outside (wx_ac .int (wx_i 1) (wx_ac .int (wx_c (0 : Int32)) (wx_a1 .int (wx_bin wo_isub (wx_fi w_L 8 1 (wx_r 0)) (wx_c (1 : Int32))))))))) (wx_c (1 : Int32)) (wx_c (0 : Int32))))
def f_Z_isBlock : List Value → wm_S → Option (Option Value × wm_S) := wm_fn (wm_isc w_L 8) 3 2 t_Z_isBlock
def rm_Z_isBlock : Room := { frames := 1, locals := 22 }
abbrev cV_Z_isBlock : List (Nat × wm_M) := []
abbrev cS_Z_isBlock : List (Nat × wm_M) := [(104, 3, f_Z_outside)]
set_option maxRecDepth 20000 in
theorem bd_Z_isBlock (w : wm_K) (ret : Option Value → wm_S → Prop) (hc : wm_cl w_L fl_Z cs_Z none cV_Z_isBlock cS_Z_isBlock ret tb_Z_isBlock w) : wm_T w tb_Z_isBlock ret 0 9999 t_Z_isBlock :=
  (wm_t_ret hc (wm_x_cond (wm_b_not (wm_b_un hc (wm_x_callS hc wm_pi_ok (wm_a_c (wm_x_in hc rfl rfl) (wm_a_c (wm_x_iconst hc rfl (by decide)) (wm_a_1 (wm_x_bin hc (wm_x_fi hc (wm_x_rn hc rfl rfl) rfl rfl) (wm_x_iconst hc rfl (by decide)) rfl rfl (fun _ _ _ _ _ _ q => q))))) rfl rfl (by decide)) rfl rfl wm_z_neT)) (wm_x_iconst hc rfl (by decide)) (wm_x_iconst hc rfl (by decide)) rfl) rfl rfl (fun _ _ _ _ q => q))
theorem c_Z_isBlock {l : Launch} {D : va_G} {A : Nat → Prop} {ad : Nat → Nat} {cA : Nat → ClassId} (hY : wm_Y cl0 (tys0 cA) A ad cA w_L) : wm_con l y_Z_isBlock (cd_Z_isBlock :: gw) rm_Z_isBlock D cl0 (tys0 cA) A ad cA w_L f_Z_isBlock :=
  wm_meth (cV := cV_Z_isBlock) (cS := cS_Z_isBlock) (by decide) rfl hY (fun r h => wm_fok_mono (fun _ h => List.mem_cons_of_mem _ h) (fk_Z r h)) (fun r h => wm_cok_mono (fun _ h => List.mem_cons_of_mem _ h) (ck_Z r h)) tk_Z_isBlock
    (fun _ h => nomatch h)
    (List.forall_mem_cons.mpr ⟨⟨y_Z_outside, b_Z_outside, 3, wm_rtT 3, cd_Z_outside :: gw, gw, rm_Z_outside, c_Z_outside hY, rfl, gw_S (gw_at 772 (by decide +kernel) rfl) gi_Z_outside gn_Z cw_Z_outside, rfl, rfl, ⟨by decide, by decide, by decide +kernel⟩, ⟨by decide, by decide⟩⟩, fun _ h => nomatch h⟩)
    bd_Z_isBlock
/-! CodePrunerModel.isRegister -/
def y_Z_isRegister : MethodName := ⟨"CodePrunerModel", "isRegister", "(I)Z"⟩
abbrev b_Z_isRegister : ByteArray := prog_10_method_9_code
def tb_Z_isRegister : List wm_R := [(0, .iload_n 0, 1, 0), (1, .iconst 0, 2, 0), (2, .bipush 7, 4, 0), (4, .invokestatic 104, 7, 0), (7, .ifCond .ne 7, 10, 14), (10, .iconst 1, 11, 0), (11, .goto 4, 14, 15), (14, .iconst 0, 15, 0), (15, .ireturn, 16, 0)]
theorem tk_Z_isRegister : tb_Z_isRegister.all (wm_rokb b_Z_isRegister) = true := by decide +kernel
abbrev cd_Z_isRegister : Cond := Cond.code y_Z_isRegister b_Z_isRegister 1 (wm_rtT 3)
theorem cw_Z_isRegister : cd_Z_isRegister ∈ gw := gw_at 777 (by decide +kernel) rfl
theorem gi_Z_isRegister : Cond.static y_Z_isRegister ∈ gw := gw_at 776 (by decide +kernel) rfl
def t_Z_isRegister : wm_St := (ws_ret .int (wx_cond (wb_not (wx_un (fun v => wr_ne v 0) (wx_call wm_pi f_Z_outside (wx_ac .int (wx_i 0) (wx_ac .int (wx_c (0 : Int32)) (wx_a1 .int (wx_c (7 : Int32)))))))) (wx_c (1 : Int32)) (wx_c (0 : Int32))))
def f_Z_isRegister : List Value → wm_S → Option (Option Value × wm_S) := wm_fn wm_any 3 1 t_Z_isRegister
def rm_Z_isRegister : Room := { frames := 1, locals := 22 }
abbrev cV_Z_isRegister : List (Nat × wm_M) := []
abbrev cS_Z_isRegister : List (Nat × wm_M) := [(104, 3, f_Z_outside)]
set_option maxRecDepth 20000 in
theorem bd_Z_isRegister (w : wm_K) (ret : Option Value → wm_S → Prop) (hc : wm_cl w_L fl_Z cs_Z none cV_Z_isRegister cS_Z_isRegister ret tb_Z_isRegister w) : wm_T w tb_Z_isRegister ret 0 9999 t_Z_isRegister :=
  (wm_t_ret hc (wm_x_cond (wm_b_not (wm_b_un hc (wm_x_callS hc wm_pi_ok (wm_a_c (wm_x_in hc rfl rfl) (wm_a_c (wm_x_iconst hc rfl (by decide)) (wm_a_1 (wm_x_bipush hc rfl (by decide))))) rfl rfl (by decide)) rfl rfl wm_z_neT)) (wm_x_iconst hc rfl (by decide)) (wm_x_iconst hc rfl (by decide)) rfl) rfl rfl (fun _ _ _ _ q => q))
theorem c_Z_isRegister {l : Launch} {D : va_G} {A : Nat → Prop} {ad : Nat → Nat} {cA : Nat → ClassId} (hY : wm_Y cl0 (tys0 cA) A ad cA w_L) : wm_con l y_Z_isRegister (cd_Z_isRegister :: gw) rm_Z_isRegister D cl0 (tys0 cA) A ad cA w_L f_Z_isRegister :=
  wm_meth (cV := cV_Z_isRegister) (cS := cS_Z_isRegister) (by decide) rfl hY (fun r h => wm_fok_mono (fun _ h => List.mem_cons_of_mem _ h) (fk_Z r h)) (fun r h => wm_cok_mono (fun _ h => List.mem_cons_of_mem _ h) (ck_Z r h)) tk_Z_isRegister
    (fun _ h => nomatch h)
    (List.forall_mem_cons.mpr ⟨⟨y_Z_outside, b_Z_outside, 3, wm_rtT 3, cd_Z_outside :: gw, gw, rm_Z_outside, c_Z_outside hY, rfl, gw_S (gw_at 772 (by decide +kernel) rfl) gi_Z_outside gn_Z cw_Z_outside, rfl, rfl, ⟨by decide, by decide, by decide +kernel⟩, ⟨by decide, by decide⟩⟩, fun _ h => nomatch h⟩)
    bd_Z_isRegister
/-! CodePrunerModel.hasFirst -/
def y_Z_hasFirst : MethodName := ⟨"CodePrunerModel", "hasFirst", "(I)Z"⟩
abbrev b_Z_hasFirst : ByteArray := prog_10_method_10_code
def tb_Z_hasFirst : List wm_R := [(0, .iload_n 0, 1, 0), (1, .ifCond .le 13, 4, 14), (4, .iload_n 0, 5, 0), (5, .bipush 6, 7, 0), (7, .if_icmp .ge 7, 10, 14), (10, .iconst 1, 11, 0), (11, .goto 4, 14, 15), (14, .iconst 0, 15, 0), (15, .ireturn, 16, 0)]
theorem tk_Z_hasFirst : tb_Z_hasFirst.all (wm_rokb b_Z_hasFirst) = true := by decide +kernel
abbrev cd_Z_hasFirst : Cond := Cond.code y_Z_hasFirst b_Z_hasFirst 1 (wm_rtT 3)
theorem cw_Z_hasFirst : cd_Z_hasFirst ∈ gw := gw_at 780 (by decide +kernel) rfl
theorem gi_Z_hasFirst : Cond.static y_Z_hasFirst ∈ gw := gw_at 779 (by decide +kernel) rfl
def t_Z_hasFirst : wm_St := (ws_ret .int (wx_cond (wb_and (wx_un (fun v => wr_gt v 0) (wx_i 0)) (wx_bin wr_lt (wx_i 0) (wx_c (6 : Int32)))) (wx_c (1 : Int32)) (wx_c (0 : Int32))))
def f_Z_hasFirst : List Value → wm_S → Option (Option Value × wm_S) := wm_fn wm_any 3 1 t_Z_hasFirst
def rm_Z_hasFirst : Room := { frames := 0, locals := 0 }
abbrev cV_Z_hasFirst : List (Nat × wm_M) := []
abbrev cS_Z_hasFirst : List (Nat × wm_M) := []
set_option maxRecDepth 20000 in
theorem bd_Z_hasFirst (w : wm_K) (ret : Option Value → wm_S → Prop) (hc : wm_cl w_L fl_Z cs_Z none cV_Z_hasFirst cS_Z_hasFirst ret tb_Z_hasFirst w) : wm_T w tb_Z_hasFirst ret 0 9999 t_Z_hasFirst :=
  (wm_t_ret hc (wm_x_cond (wm_b_and (wm_b_un hc (wm_x_in hc rfl rfl) rfl rfl wm_z_gtF) (wm_b_cmp hc (wm_x_in hc rfl rfl) (wm_x_bipush hc rfl (by decide)) rfl rfl wm_j_ltF)) (wm_x_iconst hc rfl (by decide)) (wm_x_iconst hc rfl (by decide)) rfl) rfl rfl (fun _ _ _ _ q => q))
theorem c_Z_hasFirst {l : Launch} {D : va_G} {A : Nat → Prop} {ad : Nat → Nat} {cA : Nat → ClassId} (hY : wm_Y cl0 (tys0 cA) A ad cA w_L) : wm_con l y_Z_hasFirst (cd_Z_hasFirst :: gw) rm_Z_hasFirst D cl0 (tys0 cA) A ad cA w_L f_Z_hasFirst :=
  wm_meth (cV := cV_Z_hasFirst) (cS := cS_Z_hasFirst) (by decide) rfl hY (fun r h => wm_fok_mono (fun _ h => List.mem_cons_of_mem _ h) (fk_Z r h)) (fun r h => wm_cok_mono (fun _ h => List.mem_cons_of_mem _ h) (ck_Z r h)) tk_Z_hasFirst
    (fun _ h => nomatch h)
    (fun _ h => nomatch h)
    bd_Z_hasFirst
/-! CodePrunerModel.hasSecond -/
def y_Z_hasSecond : MethodName := ⟨"CodePrunerModel", "hasSecond", "(I)Z"⟩
abbrev b_Z_hasSecond : ByteArray := prog_10_method_11_code
def tb_Z_hasSecond : List wm_R := [(0, .iload_n 0, 1, 0), (1, .iconst 1, 2, 0), (2, .if_icmp .le 13, 5, 15), (5, .iload_n 0, 6, 0), (6, .bipush 6, 8, 0), (8, .if_icmp .ge 7, 11, 15), (11, .iconst 1, 12, 0), (12, .goto 4, 15, 16), (15, .iconst 0, 16, 0), (16, .ireturn, 17, 0)]
theorem tk_Z_hasSecond : tb_Z_hasSecond.all (wm_rokb b_Z_hasSecond) = true := by decide +kernel
abbrev cd_Z_hasSecond : Cond := Cond.code y_Z_hasSecond b_Z_hasSecond 1 (wm_rtT 3)
theorem cw_Z_hasSecond : cd_Z_hasSecond ∈ gw := gw_at 783 (by decide +kernel) rfl
theorem gi_Z_hasSecond : Cond.static y_Z_hasSecond ∈ gw := gw_at 782 (by decide +kernel) rfl
def t_Z_hasSecond : wm_St := (ws_ret .int (wx_cond (wb_and (wx_bin wr_gt (wx_i 0) (wx_c (1 : Int32))) (wx_bin wr_lt (wx_i 0) (wx_c (6 : Int32)))) (wx_c (1 : Int32)) (wx_c (0 : Int32))))
def f_Z_hasSecond : List Value → wm_S → Option (Option Value × wm_S) := wm_fn wm_any 3 1 t_Z_hasSecond
def rm_Z_hasSecond : Room := { frames := 0, locals := 0 }
abbrev cV_Z_hasSecond : List (Nat × wm_M) := []
abbrev cS_Z_hasSecond : List (Nat × wm_M) := []
set_option maxRecDepth 20000 in
theorem bd_Z_hasSecond (w : wm_K) (ret : Option Value → wm_S → Prop) (hc : wm_cl w_L fl_Z cs_Z none cV_Z_hasSecond cS_Z_hasSecond ret tb_Z_hasSecond w) : wm_T w tb_Z_hasSecond ret 0 9999 t_Z_hasSecond :=
  (wm_t_ret hc (wm_x_cond (wm_b_and (wm_b_cmp hc (wm_x_in hc rfl rfl) (wm_x_iconst hc rfl (by decide)) rfl rfl wm_j_gtF) (wm_b_cmp hc (wm_x_in hc rfl rfl) (wm_x_bipush hc rfl (by decide)) rfl rfl wm_j_ltF)) (wm_x_iconst hc rfl (by decide)) (wm_x_iconst hc rfl (by decide)) rfl) rfl rfl (fun _ _ _ _ q => q))
theorem c_Z_hasSecond {l : Launch} {D : va_G} {A : Nat → Prop} {ad : Nat → Nat} {cA : Nat → ClassId} (hY : wm_Y cl0 (tys0 cA) A ad cA w_L) : wm_con l y_Z_hasSecond (cd_Z_hasSecond :: gw) rm_Z_hasSecond D cl0 (tys0 cA) A ad cA w_L f_Z_hasSecond :=
  wm_meth (cV := cV_Z_hasSecond) (cS := cS_Z_hasSecond) (by decide) rfl hY (fun r h => wm_fok_mono (fun _ h => List.mem_cons_of_mem _ h) (fk_Z r h)) (fun r h => wm_cok_mono (fun _ h => List.mem_cons_of_mem _ h) (ck_Z r h)) tk_Z_hasSecond
    (fun _ h => nomatch h)
    (fun _ h => nomatch h)
    bd_Z_hasSecond
/-! CodePrunerModel.add -/
def y_Z_add : MethodName := ⟨"CodePrunerModel", "add", "(IIIII)I"⟩
abbrev b_Z_add : ByteArray := prog_10_method_12_code
def tb_Z_add : List wm_R := [(0, .iload_n 2, 1, 0), (1, .iconst 0, 2, 0), (2, .bipush 7, 4, 0), (4, .invokestatic 104, 7, 0), (7, .ifCond .ne 44, 10, 51), (10, .iload_n 3, 11, 0), (11, .invokestatic 108, 14, 0), (14, .ifCond .eq 37, 17, 51), (17, .iload_n 2, 18, 0), (18, .invokestatic 112, 21, 0), (21, .ifCond .eq 11, 24, 32), (24, .iload 4, 26, 0), (26, .invokestatic 108, 29, 0), (29, .ifCond .eq 22, 32, 51), (32, .iload_n 2, 33, 0), (33, .invokestatic 115, 36, 0), (36, .ifCond .eq 11, 39, 47), (39, .iload 5, 41, 0), (41, .invokestatic 108, 44, 0), (44, .ifCond .eq 7, 47, 51), (47, .iconst 1, 48, 0), (48, .goto 4, 51, 52), (51, .iconst 0, 52, 0), (52, .istore 6, 54, 0), (54, .aload_n 0, 55, 0), (55, .aload_n 0, 56, 0), (56, .iload_n 1, 57, 0), (57, .invokevirtual 118, 60, 0), (60, .ifCond .ne 7, 63, 67), (63, .iconst 1, 64, 0), (64, .goto 26, 67, 90), (67, .iload 6, 69, 0), (69, .ifCond .ne 7, 72, 76), (72, .iconst 2, 73, 0), (73, .goto 17, 76, 90), (76, .aload_n 0, 77, 0), (77, .getfield 121, 80, 0), (80, .bipush 60, 82, 0), (82, .if_icmp .ne 7, 85, 89), (85, .iconst 3, 86, 0), (86, .goto 4, 89, 90), (89, .iconst 0, 90, 0), (90, .putfield 71, 93, 0), (93, .aload_n 0, 94, 0), (94, .getfield 71, 97, 0), (97, .ifCond .le 5, 100, 102), (100, .iconst 0, 101, 0), (101, .ireturn, 102, 0), (102, .aload_n 0, 103, 0), (103, .getfield 22, 106, 0), (106, .aload_n 0, 107, 0), (107, .getfield 121, 110, 0), (110, .iload_n 1, 111, 0), (111, .iastore, 112, 0), (112, .aload_n 0, 113, 0), (113, .getfield 25, 116, 0), (116, .aload_n 0, 117, 0), (117, .getfield 121, 120, 0), (120, .iload_n 2, 121, 0), (121, .iastore, 122, 0), (122, .aload_n 0, 123, 0), (123, .getfield 28, 126, 0), (126, .aload_n 0, 127, 0), (127, .getfield 121, 130, 0), (130, .iload_n 3, 131, 0), (131, .iastore, 132, 0), (132, .aload_n 0, 133, 0), (133, .getfield 31, 136, 0), (136, .aload_n 0, 137, 0), (137, .getfield 121, 140, 0), (140, .iload 4, 142, 0), (142, .iastore, 143, 0), (143, .aload_n 0, 144, 0), (144, .getfield 34, 147, 0), (147, .aload_n 0, 148, 0), (148, .getfield 121, 151, 0), (151, .iload 5, 153, 0), (153, .iastore, 154, 0), (154, .aload_n 0, 155, 0), (155, .dup, 156, 0), (156, .getfield 121, 159, 0), (159, .iconst 1, 160, 0), (160, .iadd, 161, 0), (161, .putfield 121, 164, 0), (164, .aload_n 0, 165, 0), (165, .invokevirtual 101, 168, 0), (168, .aload_n 0, 169, 0), (169, .getfield 121, 172, 0), (172, .iconst 1, 173, 0), (173, .isub, 174, 0), (174, .ireturn, 175, 0)]
theorem tk_Z_add : tb_Z_add.all (wm_rokb b_Z_add) = true := by decide +kernel
abbrev cd_Z_add : Cond := Cond.code y_Z_add b_Z_add 7 (wm_rtT 1)
theorem cw_Z_add : cd_Z_add ∈ gw := gw_at 771 (by decide +kernel) rfl
theorem gi_Z_add : Cond.instanceMethod y_Z_add ∈ gw := gw_at 769 (by decide +kernel) rfl
theorem gs_Z_add : Cond.selects "CodePrunerModel" y_Z_add y_Z_add ∈ gw := gw_at 770 (by decide +kernel) rfl
def t_Z_add : wm_St := (ws_seq (ws_i 6 (wx_cond (wb_and (wb_and (wb_and (wb_not (wx_un (fun v => wr_ne v 0) (wx_call wm_pi f_Z_outside (wx_ac .int (wx_i 2) (wx_ac .int (wx_c (0 : Int32)) (wx_a1 .int (wx_c (7 : Int32)))))))) (wx_un (fun v => wr_ne v 0) (wx_call wm_pi f_Z_isRegister (wx_a1 .int (wx_i 3))))) (wb_or (wb_not (wx_un (fun v => wr_ne v 0) (wx_call wm_pi f_Z_hasFirst (wx_a1 .int (wx_i 2))))) (wx_un (fun v => wr_ne v 0) (wx_call wm_pi f_Z_isRegister (wx_a1 .int (wx_i 4)))))) (wb_or (wb_not (wx_un (fun v => wr_ne v 0) (wx_call wm_pi f_Z_hasSecond (wx_a1 .int (wx_i 2))))) (wx_un (fun v => wr_ne v 0) (wx_call wm_pi f_Z_isRegister (wx_a1 .int (wx_i 5)))))) (wx_c (1 : Int32)) (wx_c (0 : Int32))))
  (ws_seq (ws_fi w_L 8 0 (wx_r 0) (wx_cond (wb_not (wx_un (fun v => wr_ne v 0) (wx_call wm_pi f_Z_isBlock (wx_ac .ref (wx_r 0) (wx_a1 .int (wx_i 1)))))) (wx_c (1 : Int32)) (wx_cond (wb_not (wx_un (fun v => wr_ne v 0) (wx_i 6))) (wx_c (2 : Int32)) (wx_cond (wx_bin wr_eq (wx_fi w_L 8 6 (wx_r 0)) (wx_c (60 : Int32))) (wx_c (3 : Int32)) (wx_c (0 : Int32))))))
  (ws_seq (ws_if (wx_un (fun v => wr_gt v 0) (wx_fi w_L 8 0 (wx_r 0)))
  (ws_ret .int (wx_c (0 : Int32))))
  (ws_seq (ws_ai w_L (wx_fr w_L 8 7 (wx_r 0)) (wx_fi w_L 8 6 (wx_r 0)) (wx_i 1))
  (ws_seq (ws_ai w_L (wx_fr w_L 8 8 (wx_r 0)) (wx_fi w_L 8 6 (wx_r 0)) (wx_i 2))
  (ws_seq (ws_ai w_L (wx_fr w_L 8 9 (wx_r 0)) (wx_fi w_L 8 6 (wx_r 0)) (wx_i 3))
  (ws_seq (ws_ai w_L (wx_fr w_L 8 10 (wx_r 0)) (wx_fi w_L 8 6 (wx_r 0)) (wx_i 4))
  (ws_seq (ws_ai w_L (wx_fr w_L 8 11 (wx_r 0)) (wx_fi w_L 8 6 (wx_r 0)) (wx_i 5))
  (ws_seq (ws_ofi w_L 8 6 wo_iadd (wx_r 0) (wx_c (1 : Int32)))
  (ws_seq (ws_call f_Z_changed (wx_a1 .ref (wx_r 0)))
  (ws_ret .int (wx_bin wo_isub (wx_fi w_L 8 6 (wx_r 0)) (wx_c (1 : Int32))))))))))))))
def f_Z_add : List Value → wm_S → Option (Option Value × wm_S) := wm_fn (wm_isc w_L 8) 1 7 t_Z_add
def rm_Z_add : Room := { frames := 2, locals := 43 }
abbrev cV_Z_add : List (Nat × wm_M) := [(101, 1, f_Z_changed), (118, 2, f_Z_isBlock)]
abbrev cS_Z_add : List (Nat × wm_M) := [(104, 3, f_Z_outside), (108, 1, f_Z_isRegister), (112, 1, f_Z_hasFirst), (115, 1, f_Z_hasSecond)]
set_option maxRecDepth 20000 in
theorem bd_Z_add (w : wm_K) (ret : Option Value → wm_S → Prop) (hc : wm_cl w_L fl_Z cs_Z none cV_Z_add cS_Z_add ret tb_Z_add w) : wm_T w tb_Z_add ret 0 9999 t_Z_add :=
  (wm_t_seq (wm_t_i hc (wm_x_cond (wm_b_and (wm_b_and (wm_b_and (wm_b_not (wm_b_un hc (wm_x_callS hc wm_pi_ok (wm_a_c (wm_x_in hc rfl rfl) (wm_a_c (wm_x_iconst hc rfl (by decide)) (wm_a_1 (wm_x_bipush hc rfl (by decide))))) rfl rfl (by decide)) rfl rfl wm_z_neT)) (wm_b_un hc (wm_x_callS hc wm_pi_ok (wm_a_1 (wm_x_in hc rfl rfl)) rfl rfl (by decide)) rfl rfl wm_z_neF)) (wm_b_or (wm_b_not (wm_b_un hc (wm_x_callS hc wm_pi_ok (wm_a_1 (wm_x_in hc rfl rfl)) rfl rfl (by decide)) rfl rfl wm_z_neF)) (wm_b_un hc (wm_x_callS hc wm_pi_ok (wm_a_1 (wm_x_i hc rfl)) rfl rfl (by decide)) rfl rfl wm_z_neF))) (wm_b_or (wm_b_not (wm_b_un hc (wm_x_callS hc wm_pi_ok (wm_a_1 (wm_x_in hc rfl rfl)) rfl rfl (by decide)) rfl rfl wm_z_neF)) (wm_b_un hc (wm_x_callS hc wm_pi_ok (wm_a_1 (wm_x_i hc rfl)) rfl rfl (by decide)) rfl rfl wm_z_neF))) (wm_x_iconst hc rfl (by decide)) (wm_x_iconst hc rfl (by decide)) rfl) rfl)
  (wm_t_seq (wm_t_fi hc (wm_x_rn hc rfl rfl) (wm_x_cond (wm_b_not (wm_b_un hc (wm_x_callV hc wm_pi_ok (wm_a_c (wm_x_rn hc rfl rfl) (wm_a_1 (wm_x_in hc rfl rfl))) rfl rfl (by decide)) rfl rfl wm_z_neT)) (wm_x_iconst hc rfl (by decide)) (wm_x_cond (wm_b_not (wm_b_un hc (wm_x_i hc rfl) rfl rfl wm_z_neT)) (wm_x_iconst hc rfl (by decide)) (wm_x_cond (wm_b_cmp hc (wm_x_fi hc (wm_x_rn hc rfl rfl) rfl rfl) (wm_x_bipush hc rfl (by decide)) rfl rfl wm_j_eqF) (wm_x_iconst hc rfl (by decide)) (wm_x_iconst hc rfl (by decide)) rfl) rfl) rfl) rfl rfl)
  (wm_t_seq (wm_t_if (wm_b_un hc (wm_x_fi hc (wm_x_rn hc rfl rfl) rfl rfl) rfl rfl wm_z_gtF)
  (wm_t_ret hc (wm_x_iconst hc rfl (by decide)) rfl rfl (fun _ _ _ _ q => q)) rfl)
  (wm_t_seq (wm_t_ai hc (wm_x_fr hc (wm_x_rn hc rfl rfl) rfl rfl) (wm_x_fi hc (wm_x_rn hc rfl rfl) rfl rfl) (wm_x_in hc rfl rfl) rfl)
  (wm_t_seq (wm_t_ai hc (wm_x_fr hc (wm_x_rn hc rfl rfl) rfl rfl) (wm_x_fi hc (wm_x_rn hc rfl rfl) rfl rfl) (wm_x_in hc rfl rfl) rfl)
  (wm_t_seq (wm_t_ai hc (wm_x_fr hc (wm_x_rn hc rfl rfl) rfl rfl) (wm_x_fi hc (wm_x_rn hc rfl rfl) rfl rfl) (wm_x_in hc rfl rfl) rfl)
  (wm_t_seq (wm_t_ai hc (wm_x_fr hc (wm_x_rn hc rfl rfl) rfl rfl) (wm_x_fi hc (wm_x_rn hc rfl rfl) rfl rfl) (wm_x_i hc rfl) rfl)
  (wm_t_seq (wm_t_ai hc (wm_x_fr hc (wm_x_rn hc rfl rfl) rfl rfl) (wm_x_fi hc (wm_x_rn hc rfl rfl) rfl rfl) (wm_x_i hc rfl) rfl)
  (wm_t_seq (wm_t_ofi hc (wm_x_rn hc rfl rfl) rfl rfl (wm_x_iconst hc rfl (by decide)) rfl rfl (fun _ _ _ _ _ _ q => q) rfl rfl)
  (wm_t_seq (wm_t_callV hc (wm_a_1 (wm_x_rn hc rfl rfl)) rfl rfl)
  (wm_t_ret hc (wm_x_bin hc (wm_x_fi hc (wm_x_rn hc rfl rfl) rfl rfl) (wm_x_iconst hc rfl (by decide)) rfl rfl (fun _ _ _ _ _ _ q => q)) rfl rfl (fun _ _ _ _ q => q))))))))))))
theorem c_Z_add {l : Launch} {D : va_G} {A : Nat → Prop} {ad : Nat → Nat} {cA : Nat → ClassId} (hY : wm_Y cl0 (tys0 cA) A ad cA w_L) : wm_con l y_Z_add (cd_Z_add :: gw) rm_Z_add D cl0 (tys0 cA) A ad cA w_L f_Z_add :=
  wm_meth (cV := cV_Z_add) (cS := cS_Z_add) (by decide) rfl hY (fun r h => wm_fok_mono (fun _ h => List.mem_cons_of_mem _ h) (fk_Z r h)) (fun r h => wm_cok_mono (fun _ h => List.mem_cons_of_mem _ h) (ck_Z r h)) tk_Z_add
    (List.forall_mem_cons.mpr ⟨⟨y_Z_changed, b_Z_changed, 1, wm_rtT 0, cd_Z_changed :: gw, gw, rm_Z_changed, 0, 8, 29, T_Z, c_Z_changed hY, rfl, gw_V (gw_at 760 (by decide +kernel) rfl) gi_Z_changed gs_Z_changed gn_Z cw_Z_changed, rfl, rfl, ⟨by decide, by decide, by decide +kernel⟩, rfl, ⟨by decide, by decide⟩, rfl, fun vs S r h => (wm_fn_some (v := r.1) (S' := r.2) h).1⟩, List.forall_mem_cons.mpr ⟨⟨y_Z_isBlock, b_Z_isBlock, 2, wm_rtT 3, cd_Z_isBlock :: gw, gw, rm_Z_isBlock, 1, 8, 29, T_Z, c_Z_isBlock hY, rfl, gw_V (gw_at 784 (by decide +kernel) rfl) gi_Z_isBlock gs_Z_isBlock gn_Z cw_Z_isBlock, rfl, rfl, ⟨by decide, by decide, by decide +kernel⟩, rfl, ⟨by decide, by decide⟩, rfl, fun vs S r h => (wm_fn_some (v := r.1) (S' := r.2) h).1⟩, fun _ h => nomatch h⟩⟩)
    (List.forall_mem_cons.mpr ⟨⟨y_Z_outside, b_Z_outside, 3, wm_rtT 3, cd_Z_outside :: gw, gw, rm_Z_outside, c_Z_outside hY, rfl, gw_S (gw_at 772 (by decide +kernel) rfl) gi_Z_outside gn_Z cw_Z_outside, rfl, rfl, ⟨by decide, by decide, by decide +kernel⟩, ⟨by decide, by decide⟩⟩, List.forall_mem_cons.mpr ⟨⟨y_Z_isRegister, b_Z_isRegister, 1, wm_rtT 3, cd_Z_isRegister :: gw, gw, rm_Z_isRegister, c_Z_isRegister hY, rfl, gw_S (gw_at 775 (by decide +kernel) rfl) gi_Z_isRegister gn_Z cw_Z_isRegister, rfl, rfl, ⟨by decide, by decide, by decide +kernel⟩, ⟨by decide, by decide⟩⟩, List.forall_mem_cons.mpr ⟨⟨y_Z_hasFirst, b_Z_hasFirst, 1, wm_rtT 3, cd_Z_hasFirst :: gw, gw, rm_Z_hasFirst, c_Z_hasFirst hY, rfl, gw_S (gw_at 778 (by decide +kernel) rfl) gi_Z_hasFirst gn_Z cw_Z_hasFirst, rfl, rfl, ⟨by decide, by decide, by decide +kernel⟩, ⟨by decide, by decide⟩⟩, List.forall_mem_cons.mpr ⟨⟨y_Z_hasSecond, b_Z_hasSecond, 1, wm_rtT 3, cd_Z_hasSecond :: gw, gw, rm_Z_hasSecond, c_Z_hasSecond hY, rfl, gw_S (gw_at 781 (by decide +kernel) rfl) gi_Z_hasSecond gn_Z cw_Z_hasSecond, rfl, rfl, ⟨by decide, by decide, by decide +kernel⟩, ⟨by decide, by decide⟩⟩, fun _ h => nomatch h⟩⟩⟩⟩)
    bd_Z_add
/-! CodePrunerModel.end -/
def y_Z_end : MethodName := ⟨"CodePrunerModel", "end", "(IIIII)V"⟩
abbrev b_Z_end : ByteArray := prog_10_method_13_code
def tb_Z_end : List wm_R := [(0, .iload_n 2, 1, 0), (1, .iconst 0, 2, 0), (2, .iconst 2, 3, 0), (3, .invokestatic 104, 6, 0), (6, .ifCond .ne 50, 9, 56), (9, .iload_n 2, 10, 0), (10, .iconst 1, 11, 0), (11, .if_icmp .eq 10, 14, 21), (14, .iload_n 3, 15, 0), (15, .invokestatic 108, 18, 0), (18, .ifCond .eq 38, 21, 56), (21, .iload_n 2, 22, 0), (22, .ifCond .eq 14, 25, 36), (25, .iload 4, 27, 0), (27, .iconst 0, 28, 0), (28, .bipush 11, 30, 0), (30, .invokestatic 104, 33, 0), (33, .ifCond .ne 23, 36, 56), (36, .iload_n 2, 37, 0), (37, .iconst 2, 38, 0), (38, .if_icmp .ne 14, 41, 52), (41, .iload 5, 43, 0), (43, .iconst 0, 44, 0), (44, .bipush 11, 46, 0), (46, .invokestatic 104, 49, 0), (49, .ifCond .ne 7, 52, 56), (52, .iconst 1, 53, 0), (53, .goto 4, 56, 57), (56, .iconst 0, 57, 0), (57, .istore 6, 59, 0), (59, .aload_n 0, 60, 0), (60, .aload_n 0, 61, 0), (61, .iload_n 1, 62, 0), (62, .invokevirtual 118, 65, 0), (65, .ifCond .ne 7, 68, 72), (68, .iconst 1, 69, 0), (69, .goto 13, 72, 82), (72, .iload 6, 74, 0), (74, .ifCond .eq 7, 77, 81), (77, .iconst 0, 78, 0), (78, .goto 4, 81, 82), (81, .iconst 2, 82, 0), (82, .putfield 71, 85, 0), (85, .aload_n 0, 86, 0), (86, .getfield 71, 89, 0), (89, .ifCond .le 4, 92, 93), (92, .return_, 93, 0), (93, .aload_n 0, 94, 0), (94, .getfield 7, 97, 0), (97, .iload_n 1, 98, 0), (98, .iload_n 2, 99, 0), (99, .iastore, 100, 0), (100, .aload_n 0, 101, 0), (101, .getfield 13, 104, 0), (104, .iload_n 1, 105, 0), (105, .iload_n 2, 106, 0), (106, .iconst 1, 107, 0), (107, .if_icmp .ne 7, 110, 114), (110, .iconst 0, 111, 0), (111, .goto 4, 114, 115), (114, .iload_n 3, 115, 0), (115, .iastore, 116, 0), (116, .aload_n 0, 117, 0), (117, .getfield 16, 120, 0), (120, .iload_n 1, 121, 0), (121, .iload_n 2, 122, 0), (122, .ifCond .ne 7, 125, 129), (125, .iconst (-1), 126, 0), (126, .goto 5, 129, 131), (129, .iload 4, 131, 0), (131, .iastore, 132, 0), (132, .aload_n 0, 133, 0), (133, .getfield 19, 136, 0), (136, .iload_n 1, 137, 0), (137, .iload_n 2, 138, 0), (138, .iconst 2, 139, 0), (139, .if_icmp .ne 8, 142, 147), (142, .iload 5, 144, 0), (144, .goto 4, 147, 148), (147, .iconst (-1), 148, 0), (148, .iastore, 149, 0), (149, .aload_n 0, 150, 0), (150, .invokevirtual 101, 153, 0), (153, .return_, 154, 0)]
theorem tk_Z_end : tb_Z_end.all (wm_rokb b_Z_end) = true := by decide +kernel
abbrev cd_Z_end : Cond := Cond.code y_Z_end b_Z_end 7 (wm_rtT 0)
theorem cw_Z_end : cd_Z_end ∈ gw := gw_at 791 (by decide +kernel) rfl
theorem gi_Z_end : Cond.instanceMethod y_Z_end ∈ gw := gw_at 789 (by decide +kernel) rfl
theorem gs_Z_end : Cond.selects "CodePrunerModel" y_Z_end y_Z_end ∈ gw := gw_at 790 (by decide +kernel) rfl
def t_Z_end : wm_St := (ws_seq (ws_i 6 (wx_cond (wb_and (wb_and (wb_and (wb_not (wx_un (fun v => wr_ne v 0) (wx_call wm_pi f_Z_outside (wx_ac .int (wx_i 2) (wx_ac .int (wx_c (0 : Int32)) (wx_a1 .int (wx_c (2 : Int32)))))))) (wb_or (wx_bin wr_eq (wx_i 2) (wx_c (1 : Int32))) (wx_un (fun v => wr_ne v 0) (wx_call wm_pi f_Z_isRegister (wx_a1 .int (wx_i 3)))))) (wb_or (wx_un (fun v => wr_eq v 0) (wx_i 2)) (wb_not (wx_un (fun v => wr_ne v 0) (wx_call wm_pi f_Z_outside (wx_ac .int (wx_i 4) (wx_ac .int (wx_c (0 : Int32)) (wx_a1 .int (wx_c (11 : Int32)))))))))) (wb_or (wx_bin wr_ne (wx_i 2) (wx_c (2 : Int32))) (wb_not (wx_un (fun v => wr_ne v 0) (wx_call wm_pi f_Z_outside (wx_ac .int (wx_i 5) (wx_ac .int (wx_c (0 : Int32)) (wx_a1 .int (wx_c (11 : Int32)))))))))) (wx_c (1 : Int32)) (wx_c (0 : Int32))))
  (ws_seq (ws_fi w_L 8 0 (wx_r 0) (wx_cond (wb_not (wx_un (fun v => wr_ne v 0) (wx_call wm_pi f_Z_isBlock (wx_ac .ref (wx_r 0) (wx_a1 .int (wx_i 1)))))) (wx_c (1 : Int32)) (wx_cond (wx_un (fun v => wr_ne v 0) (wx_i 6)) (wx_c (0 : Int32)) (wx_c (2 : Int32)))))
  (ws_seq (ws_if (wx_un (fun v => wr_gt v 0) (wx_fi w_L 8 0 (wx_r 0)))
  ws_retv)
  (ws_seq (ws_ai w_L (wx_fr w_L 8 2 (wx_r 0)) (wx_i 1) (wx_i 2))
  (ws_seq (ws_ai w_L (wx_fr w_L 8 3 (wx_r 0)) (wx_i 1) (wx_cond (wx_bin wr_eq (wx_i 2) (wx_c (1 : Int32))) (wx_c (0 : Int32)) (wx_i 3)))
  (ws_seq (ws_ai w_L (wx_fr w_L 8 4 (wx_r 0)) (wx_i 1) (wx_cond (wx_un (fun v => wr_eq v 0) (wx_i 2)) (wx_c (-1 : Int32)) (wx_i 4)))
  (ws_seq (ws_ai w_L (wx_fr w_L 8 5 (wx_r 0)) (wx_i 1) (wx_cond (wx_bin wr_eq (wx_i 2) (wx_c (2 : Int32))) (wx_i 5) (wx_c (-1 : Int32))))
  (ws_seq (ws_call f_Z_changed (wx_a1 .ref (wx_r 0)))
  ws_retv))))))))
def f_Z_end : List Value → wm_S → Option (Option Value × wm_S) := wm_fn (wm_isc w_L 8) 0 7 t_Z_end
def rm_Z_end : Room := { frames := 2, locals := 43 }
abbrev cV_Z_end : List (Nat × wm_M) := [(101, 1, f_Z_changed), (118, 2, f_Z_isBlock)]
abbrev cS_Z_end : List (Nat × wm_M) := [(104, 3, f_Z_outside), (108, 1, f_Z_isRegister)]
set_option maxRecDepth 20000 in
theorem bd_Z_end (w : wm_K) (ret : Option Value → wm_S → Prop) (hc : wm_cl w_L fl_Z cs_Z none cV_Z_end cS_Z_end ret tb_Z_end w) : wm_T w tb_Z_end ret 0 9999 t_Z_end :=
  (wm_t_seq (wm_t_i hc (wm_x_cond (wm_b_and (wm_b_and (wm_b_and (wm_b_not (wm_b_un hc (wm_x_callS hc wm_pi_ok (wm_a_c (wm_x_in hc rfl rfl) (wm_a_c (wm_x_iconst hc rfl (by decide)) (wm_a_1 (wm_x_iconst hc rfl (by decide))))) rfl rfl (by decide)) rfl rfl wm_z_neT)) (wm_b_or (wm_b_cmp hc (wm_x_in hc rfl rfl) (wm_x_iconst hc rfl (by decide)) rfl rfl wm_j_eqT) (wm_b_un hc (wm_x_callS hc wm_pi_ok (wm_a_1 (wm_x_in hc rfl rfl)) rfl rfl (by decide)) rfl rfl wm_z_neF))) (wm_b_or (wm_b_un hc (wm_x_in hc rfl rfl) rfl rfl wm_z_eqT) (wm_b_not (wm_b_un hc (wm_x_callS hc wm_pi_ok (wm_a_c (wm_x_i hc rfl) (wm_a_c (wm_x_iconst hc rfl (by decide)) (wm_a_1 (wm_x_bipush hc rfl (by decide))))) rfl rfl (by decide)) rfl rfl wm_z_neT)))) (wm_b_or (wm_b_cmp hc (wm_x_in hc rfl rfl) (wm_x_iconst hc rfl (by decide)) rfl rfl wm_j_neT) (wm_b_not (wm_b_un hc (wm_x_callS hc wm_pi_ok (wm_a_c (wm_x_i hc rfl) (wm_a_c (wm_x_iconst hc rfl (by decide)) (wm_a_1 (wm_x_bipush hc rfl (by decide))))) rfl rfl (by decide)) rfl rfl wm_z_neT)))) (wm_x_iconst hc rfl (by decide)) (wm_x_iconst hc rfl (by decide)) rfl) rfl)
  (wm_t_seq (wm_t_fi hc (wm_x_rn hc rfl rfl) (wm_x_cond (wm_b_not (wm_b_un hc (wm_x_callV hc wm_pi_ok (wm_a_c (wm_x_rn hc rfl rfl) (wm_a_1 (wm_x_in hc rfl rfl))) rfl rfl (by decide)) rfl rfl wm_z_neT)) (wm_x_iconst hc rfl (by decide)) (wm_x_cond (wm_b_un hc (wm_x_i hc rfl) rfl rfl wm_z_neF) (wm_x_iconst hc rfl (by decide)) (wm_x_iconst hc rfl (by decide)) rfl) rfl) rfl rfl)
  (wm_t_seq (wm_t_if (wm_b_un hc (wm_x_fi hc (wm_x_rn hc rfl rfl) rfl rfl) rfl rfl wm_z_gtF)
  (wm_t_retv hc rfl) rfl)
  (wm_t_seq (wm_t_ai hc (wm_x_fr hc (wm_x_rn hc rfl rfl) rfl rfl) (wm_x_in hc rfl rfl) (wm_x_in hc rfl rfl) rfl)
  (wm_t_seq (wm_t_ai hc (wm_x_fr hc (wm_x_rn hc rfl rfl) rfl rfl) (wm_x_in hc rfl rfl) (wm_x_cond (wm_b_cmp hc (wm_x_in hc rfl rfl) (wm_x_iconst hc rfl (by decide)) rfl rfl wm_j_eqF) (wm_x_iconst hc rfl (by decide)) (wm_x_in hc rfl rfl) rfl) rfl)
  (wm_t_seq (wm_t_ai hc (wm_x_fr hc (wm_x_rn hc rfl rfl) rfl rfl) (wm_x_in hc rfl rfl) (wm_x_cond (wm_b_un hc (wm_x_in hc rfl rfl) rfl rfl wm_z_eqF) (wm_x_iconst hc rfl (by decide)) (wm_x_i hc rfl) rfl) rfl)
  (wm_t_seq (wm_t_ai hc (wm_x_fr hc (wm_x_rn hc rfl rfl) rfl rfl) (wm_x_in hc rfl rfl) (wm_x_cond (wm_b_cmp hc (wm_x_in hc rfl rfl) (wm_x_iconst hc rfl (by decide)) rfl rfl wm_j_eqF) (wm_x_i hc rfl) (wm_x_iconst hc rfl (by decide)) rfl) rfl)
  (wm_t_seq (wm_t_callV hc (wm_a_1 (wm_x_rn hc rfl rfl)) rfl rfl)
  (wm_t_retv hc rfl)))))))))
theorem c_Z_end {l : Launch} {D : va_G} {A : Nat → Prop} {ad : Nat → Nat} {cA : Nat → ClassId} (hY : wm_Y cl0 (tys0 cA) A ad cA w_L) : wm_con l y_Z_end (cd_Z_end :: gw) rm_Z_end D cl0 (tys0 cA) A ad cA w_L f_Z_end :=
  wm_meth (cV := cV_Z_end) (cS := cS_Z_end) (by decide) rfl hY (fun r h => wm_fok_mono (fun _ h => List.mem_cons_of_mem _ h) (fk_Z r h)) (fun r h => wm_cok_mono (fun _ h => List.mem_cons_of_mem _ h) (ck_Z r h)) tk_Z_end
    (List.forall_mem_cons.mpr ⟨⟨y_Z_changed, b_Z_changed, 1, wm_rtT 0, cd_Z_changed :: gw, gw, rm_Z_changed, 0, 8, 29, T_Z, c_Z_changed hY, rfl, gw_V (gw_at 760 (by decide +kernel) rfl) gi_Z_changed gs_Z_changed gn_Z cw_Z_changed, rfl, rfl, ⟨by decide, by decide, by decide +kernel⟩, rfl, ⟨by decide, by decide⟩, rfl, fun vs S r h => (wm_fn_some (v := r.1) (S' := r.2) h).1⟩, List.forall_mem_cons.mpr ⟨⟨y_Z_isBlock, b_Z_isBlock, 2, wm_rtT 3, cd_Z_isBlock :: gw, gw, rm_Z_isBlock, 1, 8, 29, T_Z, c_Z_isBlock hY, rfl, gw_V (gw_at 784 (by decide +kernel) rfl) gi_Z_isBlock gs_Z_isBlock gn_Z cw_Z_isBlock, rfl, rfl, ⟨by decide, by decide, by decide +kernel⟩, rfl, ⟨by decide, by decide⟩, rfl, fun vs S r h => (wm_fn_some (v := r.1) (S' := r.2) h).1⟩, fun _ h => nomatch h⟩⟩)
    (List.forall_mem_cons.mpr ⟨⟨y_Z_outside, b_Z_outside, 3, wm_rtT 3, cd_Z_outside :: gw, gw, rm_Z_outside, c_Z_outside hY, rfl, gw_S (gw_at 772 (by decide +kernel) rfl) gi_Z_outside gn_Z cw_Z_outside, rfl, rfl, ⟨by decide, by decide, by decide +kernel⟩, ⟨by decide, by decide⟩⟩, List.forall_mem_cons.mpr ⟨⟨y_Z_isRegister, b_Z_isRegister, 1, wm_rtT 3, cd_Z_isRegister :: gw, gw, rm_Z_isRegister, c_Z_isRegister hY, rfl, gw_S (gw_at 775 (by decide +kernel) rfl) gi_Z_isRegister gn_Z cw_Z_isRegister, rfl, rfl, ⟨by decide, by decide, by decide +kernel⟩, ⟨by decide, by decide⟩⟩, fun _ h => nomatch h⟩⟩)
    bd_Z_end
/-! CodePrunerModel.clear -/
def y_Z_clear : MethodName := ⟨"CodePrunerModel", "clear", "()V"⟩
abbrev b_Z_clear : ByteArray := prog_10_method_14_code
def tb_Z_clear : List wm_R := [(0, .aload_n 0, 1, 0), (1, .iconst 0, 2, 0), (2, .putfield 71, 5, 0), (5, .aload_n 0, 6, 0), (6, .iconst 0, 7, 0), (7, .putfield 98, 10, 0), (10, .aload_n 0, 11, 0), (11, .iconst 0, 12, 0), (12, .putfield 121, 15, 0), (15, .aload_n 0, 16, 0), (16, .invokevirtual 101, 19, 0), (19, .return_, 20, 0)]
theorem tk_Z_clear : tb_Z_clear.all (wm_rokb b_Z_clear) = true := by decide +kernel
abbrev cd_Z_clear : Cond := Cond.code y_Z_clear b_Z_clear 1 (wm_rtT 0)
theorem cw_Z_clear : cd_Z_clear ∈ gw := gw_at 795 (by decide +kernel) rfl
theorem gi_Z_clear : Cond.instanceMethod y_Z_clear ∈ gw := gw_at 793 (by decide +kernel) rfl
theorem gs_Z_clear : Cond.selects "CodePrunerModel" y_Z_clear y_Z_clear ∈ gw := gw_at 794 (by decide +kernel) rfl
def t_Z_clear : wm_St := (ws_seq (ws_fi w_L 8 0 (wx_r 0) (wx_c (0 : Int32)))
  (ws_seq (ws_fi w_L 8 1 (wx_r 0) (wx_c (0 : Int32)))
  (ws_seq (ws_fi w_L 8 6 (wx_r 0) (wx_c (0 : Int32)))
  (ws_seq (ws_call f_Z_changed (wx_a1 .ref (wx_r 0)))
  ws_retv))))
def f_Z_clear : List Value → wm_S → Option (Option Value × wm_S) := wm_fn (wm_isc w_L 8) 0 1 t_Z_clear
def rm_Z_clear : Room := { frames := 2, locals := 42 }
abbrev cV_Z_clear : List (Nat × wm_M) := [(101, 1, f_Z_changed)]
abbrev cS_Z_clear : List (Nat × wm_M) := []
set_option maxRecDepth 20000 in
theorem bd_Z_clear (w : wm_K) (ret : Option Value → wm_S → Prop) (hc : wm_cl w_L fl_Z cs_Z none cV_Z_clear cS_Z_clear ret tb_Z_clear w) : wm_T w tb_Z_clear ret 0 9999 t_Z_clear :=
  (wm_t_seq (wm_t_fi hc (wm_x_rn hc rfl rfl) (wm_x_iconst hc rfl (by decide)) rfl rfl)
  (wm_t_seq (wm_t_fi hc (wm_x_rn hc rfl rfl) (wm_x_iconst hc rfl (by decide)) rfl rfl)
  (wm_t_seq (wm_t_fi hc (wm_x_rn hc rfl rfl) (wm_x_iconst hc rfl (by decide)) rfl rfl)
  (wm_t_seq (wm_t_callV hc (wm_a_1 (wm_x_rn hc rfl rfl)) rfl rfl)
  (wm_t_retv hc rfl)))))
theorem c_Z_clear {l : Launch} {D : va_G} {A : Nat → Prop} {ad : Nat → Nat} {cA : Nat → ClassId} (hY : wm_Y cl0 (tys0 cA) A ad cA w_L) : wm_con l y_Z_clear (cd_Z_clear :: gw) rm_Z_clear D cl0 (tys0 cA) A ad cA w_L f_Z_clear :=
  wm_meth (cV := cV_Z_clear) (cS := cS_Z_clear) (by decide) rfl hY (fun r h => wm_fok_mono (fun _ h => List.mem_cons_of_mem _ h) (fk_Z r h)) (fun r h => wm_cok_mono (fun _ h => List.mem_cons_of_mem _ h) (ck_Z r h)) tk_Z_clear
    (List.forall_mem_cons.mpr ⟨⟨y_Z_changed, b_Z_changed, 1, wm_rtT 0, cd_Z_changed :: gw, gw, rm_Z_changed, 0, 8, 29, T_Z, c_Z_changed hY, rfl, gw_V (gw_at 760 (by decide +kernel) rfl) gi_Z_changed gs_Z_changed gn_Z cw_Z_changed, rfl, rfl, ⟨by decide, by decide, by decide +kernel⟩, rfl, ⟨by decide, by decide⟩, rfl, fun vs S r h => (wm_fn_some (v := r.1) (S' := r.2) h).1⟩, fun _ h => nomatch h⟩)
    (fun _ h => nomatch h)
    bd_Z_clear
/-! CodePrunerModel.setBy -/
def y_Z_setBy : MethodName := ⟨"CodePrunerModel", "setBy", "(I)I"⟩
abbrev b_Z_setBy : ByteArray := prog_10_method_15_code
def tb_Z_setBy : List wm_R := [(0, .aload_n 0, 1, 0), (1, .getfield 25, 4, 0), (4, .iload_n 1, 5, 0), (5, .iaload, 6, 0), (6, .bipush 7, 8, 0), (8, .if_icmp .ne 7, 11, 15), (11, .iconst (-1), 12, 0), (12, .goto 9, 15, 21), (15, .aload_n 0, 16, 0), (16, .getfield 28, 19, 0), (19, .iload_n 1, 20, 0), (20, .iaload, 21, 0), (21, .ireturn, 22, 0)]
theorem tk_Z_setBy : tb_Z_setBy.all (wm_rokb b_Z_setBy) = true := by decide +kernel
abbrev cd_Z_setBy : Cond := Cond.code y_Z_setBy b_Z_setBy 2 (wm_rtT 1)
theorem cw_Z_setBy : cd_Z_setBy ∈ gw := gw_at 835 (by decide +kernel) rfl
theorem gi_Z_setBy : Cond.instanceMethod y_Z_setBy ∈ gw := gw_at 834 (by decide +kernel) rfl
theorem gs_Z_setBy : Cond.selects "CodePrunerModel" y_Z_setBy y_Z_setBy ∈ gw := gw_of (List.mem_append_left _ (List.mem_of_getElem? (i := 30) (by decide +kernel))) rfl
def t_Z_setBy : wm_St := (ws_ret .int (wx_cond (wx_bin wr_eq (wx_ai w_L 0 (wx_fr w_L 8 8 (wx_r 0)) (wx_i 1)) (wx_c (7 : Int32))) (wx_c (-1 : Int32)) (wx_ai w_L 0 (wx_fr w_L 8 9 (wx_r 0)) (wx_i 1))))
def f_Z_setBy : List Value → wm_S → Option (Option Value × wm_S) := wm_fn (wm_isc w_L 8) 1 2 t_Z_setBy
def rm_Z_setBy : Room := { frames := 0, locals := 0 }
abbrev cV_Z_setBy : List (Nat × wm_M) := []
abbrev cS_Z_setBy : List (Nat × wm_M) := []
set_option maxRecDepth 20000 in
theorem bd_Z_setBy (w : wm_K) (ret : Option Value → wm_S → Prop) (hc : wm_cl w_L fl_Z cs_Z none cV_Z_setBy cS_Z_setBy ret tb_Z_setBy w) : wm_T w tb_Z_setBy ret 0 9999 t_Z_setBy :=
  (wm_t_ret hc (wm_x_cond (wm_b_cmp hc (wm_x_ai hc (wm_x_fr hc (wm_x_rn hc rfl rfl) rfl rfl) (wm_x_in hc rfl rfl) rfl) (wm_x_bipush hc rfl (by decide)) rfl rfl wm_j_eqF) (wm_x_iconst hc rfl (by decide)) (wm_x_ai hc (wm_x_fr hc (wm_x_rn hc rfl rfl) rfl rfl) (wm_x_in hc rfl rfl) rfl) rfl) rfl rfl (fun _ _ _ _ q => q))
theorem c_Z_setBy {l : Launch} {D : va_G} {A : Nat → Prop} {ad : Nat → Nat} {cA : Nat → ClassId} (hY : wm_Y cl0 (tys0 cA) A ad cA w_L) : wm_con l y_Z_setBy (cd_Z_setBy :: gw) rm_Z_setBy D cl0 (tys0 cA) A ad cA w_L f_Z_setBy :=
  wm_meth (cV := cV_Z_setBy) (cS := cS_Z_setBy) (by decide) rfl hY (fun r h => wm_fok_mono (fun _ h => List.mem_cons_of_mem _ h) (fk_Z r h)) (fun r h => wm_cok_mono (fun _ h => List.mem_cons_of_mem _ h) (ck_Z r h)) tk_Z_setBy
    (fun _ h => nomatch h)
    (fun _ h => nomatch h)
    bd_Z_setBy
/-! CodePrunerModel.uses -/
def y_Z_uses : MethodName := ⟨"CodePrunerModel", "uses", "(II)Z"⟩
abbrev b_Z_uses : ByteArray := prog_10_method_16_code
def tb_Z_uses : List wm_R := [(0, .aload_n 0, 1, 0), (1, .getfield 25, 4, 0), (4, .iload_n 1, 5, 0), (5, .iaload, 6, 0), (6, .bipush 7, 8, 0), (8, .if_icmp .ne 21, 11, 29), (11, .aload_n 0, 12, 0), (12, .getfield 28, 15, 0), (15, .iload_n 1, 16, 0), (16, .iaload, 17, 0), (17, .iload_n 2, 18, 0), (18, .if_icmp .ne 7, 21, 25), (21, .iconst 1, 22, 0), (22, .goto 56, 25, 78), (25, .iconst 0, 26, 0), (26, .goto 52, 29, 78), (29, .aload_n 0, 30, 0), (30, .getfield 25, 33, 0), (33, .iload_n 1, 34, 0), (34, .iaload, 35, 0), (35, .invokestatic 112, 38, 0), (38, .ifCond .eq 13, 41, 51), (41, .aload_n 0, 42, 0), (42, .getfield 31, 45, 0), (45, .iload_n 1, 46, 0), (46, .iaload, 47, 0), (47, .iload_n 2, 48, 0), (48, .if_icmp .eq 25, 51, 73), (51, .aload_n 0, 52, 0), (52, .getfield 25, 55, 0), (55, .iload_n 1, 56, 0), (56, .iaload, 57, 0), (57, .invokestatic 115, 60, 0), (60, .ifCond .eq 17, 63, 77), (63, .aload_n 0, 64, 0), (64, .getfield 34, 67, 0), (67, .iload_n 1, 68, 0), (68, .iaload, 69, 0), (69, .iload_n 2, 70, 0), (70, .if_icmp .ne 7, 73, 77), (73, .iconst 1, 74, 0), (74, .goto 4, 77, 78), (77, .iconst 0, 78, 0), (78, .ireturn, 79, 0)]
theorem tk_Z_uses : tb_Z_uses.all (wm_rokb b_Z_uses) = true := by decide +kernel
abbrev cd_Z_uses : Cond := Cond.code y_Z_uses b_Z_uses 3 (wm_rtT 3)
theorem cw_Z_uses : cd_Z_uses ∈ gw := gw_at 851 (by decide +kernel) rfl
theorem gi_Z_uses : Cond.instanceMethod y_Z_uses ∈ gw := gw_at 850 (by decide +kernel) rfl
theorem gs_Z_uses : Cond.selects "CodePrunerModel" y_Z_uses y_Z_uses ∈ gw := gw_of (List.mem_append_left _ (List.mem_of_getElem? (i := 34) (by decide +kernel))) rfl
def t_Z_uses : wm_St := (ws_ret .int (wx_cond (wx_bin wr_eq (wx_ai w_L 0 (wx_fr w_L 8 8 (wx_r 0)) (wx_i 1)) (wx_c (7 : Int32))) (wx_cond (wx_bin wr_eq (wx_ai w_L 0 (wx_fr w_L 8 9 (wx_r 0)) (wx_i 1)) (wx_i 2)) (wx_c (1 : Int32)) (wx_c (0 : Int32))) (wx_cond (wb_or (wb_and (wx_un (fun v => wr_ne v 0) (wx_call wm_pi f_Z_hasFirst (wx_a1 .int (wx_ai w_L 0 (wx_fr w_L 8 8 (wx_r 0)) (wx_i 1))))) (wx_bin wr_eq (wx_ai w_L 0 (wx_fr w_L 8 10 (wx_r 0)) (wx_i 1)) (wx_i 2))) (wb_and (wx_un (fun v => wr_ne v 0) (wx_call wm_pi f_Z_hasSecond (wx_a1 .int (wx_ai w_L 0 (wx_fr w_L 8 8 (wx_r 0)) (wx_i 1))))) (wx_bin wr_eq (wx_ai w_L 0 (wx_fr w_L 8 11 (wx_r 0)) (wx_i 1)) (wx_i 2)))) (wx_c (1 : Int32)) (wx_c (0 : Int32)))))
def f_Z_uses : List Value → wm_S → Option (Option Value × wm_S) := wm_fn (wm_isc w_L 8) 3 3 t_Z_uses
def rm_Z_uses : Room := { frames := 1, locals := 20 }
abbrev cV_Z_uses : List (Nat × wm_M) := []
abbrev cS_Z_uses : List (Nat × wm_M) := [(112, 1, f_Z_hasFirst), (115, 1, f_Z_hasSecond)]
set_option maxRecDepth 20000 in
theorem bd_Z_uses (w : wm_K) (ret : Option Value → wm_S → Prop) (hc : wm_cl w_L fl_Z cs_Z none cV_Z_uses cS_Z_uses ret tb_Z_uses w) : wm_T w tb_Z_uses ret 0 9999 t_Z_uses :=
  (wm_t_ret hc (wm_x_cond (wm_b_cmp hc (wm_x_ai hc (wm_x_fr hc (wm_x_rn hc rfl rfl) rfl rfl) (wm_x_in hc rfl rfl) rfl) (wm_x_bipush hc rfl (by decide)) rfl rfl wm_j_eqF) (wm_x_cond (wm_b_cmp hc (wm_x_ai hc (wm_x_fr hc (wm_x_rn hc rfl rfl) rfl rfl) (wm_x_in hc rfl rfl) rfl) (wm_x_in hc rfl rfl) rfl rfl wm_j_eqF) (wm_x_iconst hc rfl (by decide)) (wm_x_iconst hc rfl (by decide)) rfl) (wm_x_cond (wm_b_or (wm_b_and (wm_b_un hc (wm_x_callS hc wm_pi_ok (wm_a_1 (wm_x_ai hc (wm_x_fr hc (wm_x_rn hc rfl rfl) rfl rfl) (wm_x_in hc rfl rfl) rfl)) rfl rfl (by decide)) rfl rfl wm_z_neF) (wm_b_cmp hc (wm_x_ai hc (wm_x_fr hc (wm_x_rn hc rfl rfl) rfl rfl) (wm_x_in hc rfl rfl) rfl) (wm_x_in hc rfl rfl) rfl rfl wm_j_eqT)) (wm_b_and (wm_b_un hc (wm_x_callS hc wm_pi_ok (wm_a_1 (wm_x_ai hc (wm_x_fr hc (wm_x_rn hc rfl rfl) rfl rfl) (wm_x_in hc rfl rfl) rfl)) rfl rfl (by decide)) rfl rfl wm_z_neF) (wm_b_cmp hc (wm_x_ai hc (wm_x_fr hc (wm_x_rn hc rfl rfl) rfl rfl) (wm_x_in hc rfl rfl) rfl) (wm_x_in hc rfl rfl) rfl rfl wm_j_eqF))) (wm_x_iconst hc rfl (by decide)) (wm_x_iconst hc rfl (by decide)) rfl) rfl) rfl rfl (fun _ _ _ _ q => q))
theorem c_Z_uses {l : Launch} {D : va_G} {A : Nat → Prop} {ad : Nat → Nat} {cA : Nat → ClassId} (hY : wm_Y cl0 (tys0 cA) A ad cA w_L) : wm_con l y_Z_uses (cd_Z_uses :: gw) rm_Z_uses D cl0 (tys0 cA) A ad cA w_L f_Z_uses :=
  wm_meth (cV := cV_Z_uses) (cS := cS_Z_uses) (by decide) rfl hY (fun r h => wm_fok_mono (fun _ h => List.mem_cons_of_mem _ h) (fk_Z r h)) (fun r h => wm_cok_mono (fun _ h => List.mem_cons_of_mem _ h) (ck_Z r h)) tk_Z_uses
    (fun _ h => nomatch h)
    (List.forall_mem_cons.mpr ⟨⟨y_Z_hasFirst, b_Z_hasFirst, 1, wm_rtT 3, cd_Z_hasFirst :: gw, gw, rm_Z_hasFirst, c_Z_hasFirst hY, rfl, gw_S (gw_at 778 (by decide +kernel) rfl) gi_Z_hasFirst gn_Z cw_Z_hasFirst, rfl, rfl, ⟨by decide, by decide, by decide +kernel⟩, ⟨by decide, by decide⟩⟩, List.forall_mem_cons.mpr ⟨⟨y_Z_hasSecond, b_Z_hasSecond, 1, wm_rtT 3, cd_Z_hasSecond :: gw, gw, rm_Z_hasSecond, c_Z_hasSecond hY, rfl, gw_S (gw_at 781 (by decide +kernel) rfl) gi_Z_hasSecond gn_Z cw_Z_hasSecond, rfl, rfl, ⟨by decide, by decide, by decide +kernel⟩, ⟨by decide, by decide⟩⟩, fun _ h => nomatch h⟩⟩)
    bd_Z_uses
/-! CodePrunerModel.usesEnd -/
def y_Z_usesEnd : MethodName := ⟨"CodePrunerModel", "usesEnd", "(II)Z"⟩
abbrev b_Z_usesEnd : ByteArray := prog_10_method_17_code
def tb_Z_usesEnd : List wm_R := [(0, .aload_n 0, 1, 0), (1, .getfield 7, 4, 0), (4, .iload_n 1, 5, 0), (5, .iaload, 6, 0), (6, .iconst 1, 7, 0), (7, .if_icmp .eq 17, 10, 24), (10, .aload_n 0, 11, 0), (11, .getfield 13, 14, 0), (14, .iload_n 1, 15, 0), (15, .iaload, 16, 0), (16, .iload_n 2, 17, 0), (17, .if_icmp .ne 7, 20, 24), (20, .iconst 1, 21, 0), (21, .goto 4, 24, 25), (24, .iconst 0, 25, 0), (25, .ireturn, 26, 0)]
theorem tk_Z_usesEnd : tb_Z_usesEnd.all (wm_rokb b_Z_usesEnd) = true := by decide +kernel
abbrev cd_Z_usesEnd : Cond := Cond.code y_Z_usesEnd b_Z_usesEnd 3 (wm_rtT 3)
theorem cw_Z_usesEnd : cd_Z_usesEnd ∈ gw := gw_at 855 (by decide +kernel) rfl
theorem gi_Z_usesEnd : Cond.instanceMethod y_Z_usesEnd ∈ gw := gw_at 854 (by decide +kernel) rfl
theorem gs_Z_usesEnd : Cond.selects "CodePrunerModel" y_Z_usesEnd y_Z_usesEnd ∈ gw := gw_of (List.mem_append_left _ (List.mem_of_getElem? (i := 35) (by decide +kernel))) rfl
def t_Z_usesEnd : wm_St := (ws_ret .int (wx_cond (wb_and (wx_bin wr_ne (wx_ai w_L 0 (wx_fr w_L 8 2 (wx_r 0)) (wx_i 1)) (wx_c (1 : Int32))) (wx_bin wr_eq (wx_ai w_L 0 (wx_fr w_L 8 3 (wx_r 0)) (wx_i 1)) (wx_i 2))) (wx_c (1 : Int32)) (wx_c (0 : Int32))))
def f_Z_usesEnd : List Value → wm_S → Option (Option Value × wm_S) := wm_fn (wm_isc w_L 8) 3 3 t_Z_usesEnd
def rm_Z_usesEnd : Room := { frames := 0, locals := 0 }
abbrev cV_Z_usesEnd : List (Nat × wm_M) := []
abbrev cS_Z_usesEnd : List (Nat × wm_M) := []
set_option maxRecDepth 20000 in
theorem bd_Z_usesEnd (w : wm_K) (ret : Option Value → wm_S → Prop) (hc : wm_cl w_L fl_Z cs_Z none cV_Z_usesEnd cS_Z_usesEnd ret tb_Z_usesEnd w) : wm_T w tb_Z_usesEnd ret 0 9999 t_Z_usesEnd :=
  (wm_t_ret hc (wm_x_cond (wm_b_and (wm_b_cmp hc (wm_x_ai hc (wm_x_fr hc (wm_x_rn hc rfl rfl) rfl rfl) (wm_x_in hc rfl rfl) rfl) (wm_x_iconst hc rfl (by decide)) rfl rfl wm_j_neF) (wm_b_cmp hc (wm_x_ai hc (wm_x_fr hc (wm_x_rn hc rfl rfl) rfl rfl) (wm_x_in hc rfl rfl) rfl) (wm_x_in hc rfl rfl) rfl rfl wm_j_eqF)) (wm_x_iconst hc rfl (by decide)) (wm_x_iconst hc rfl (by decide)) rfl) rfl rfl (fun _ _ _ _ q => q))
theorem c_Z_usesEnd {l : Launch} {D : va_G} {A : Nat → Prop} {ad : Nat → Nat} {cA : Nat → ClassId} (hY : wm_Y cl0 (tys0 cA) A ad cA w_L) : wm_con l y_Z_usesEnd (cd_Z_usesEnd :: gw) rm_Z_usesEnd D cl0 (tys0 cA) A ad cA w_L f_Z_usesEnd :=
  wm_meth (cV := cV_Z_usesEnd) (cS := cS_Z_usesEnd) (by decide) rfl hY (fun r h => wm_fok_mono (fun _ h => List.mem_cons_of_mem _ h) (fk_Z r h)) (fun r h => wm_cok_mono (fun _ h => List.mem_cons_of_mem _ h) (ck_Z r h)) tk_Z_usesEnd
    (fun _ h => nomatch h)
    (fun _ h => nomatch h)
    bd_Z_usesEnd
/-! CodePrunerModel.closed -/
def y_Z_closed : MethodName := ⟨"CodePrunerModel", "closed", "()Z"⟩
abbrev b_Z_closed : ByteArray := prog_10_method_18_code
def tb_Z_closed : List wm_R := [(0, .iconst 1, 1, 0), (1, .istore_n 1, 2, 0), (2, .iconst 0, 3, 0), (3, .istore_n 2, 4, 0), (4, .iload_n 2, 5, 0), (5, .aload_n 0, 6, 0), (6, .getfield 98, 9, 0), (9, .if_icmp .ge 45, 12, 54), (12, .iload_n 1, 13, 0), (13, .ifCond .eq 33, 16, 46), (16, .aload_n 0, 17, 0), (17, .getfield 16, 20, 0), (20, .iload_n 2, 21, 0), (21, .iaload, 22, 0), (22, .aload_n 0, 23, 0), (23, .getfield 98, 26, 0), (26, .if_icmp .ge 20, 29, 46), (29, .aload_n 0, 30, 0), (30, .getfield 19, 33, 0), (33, .iload_n 2, 34, 0), (34, .iaload, 35, 0), (35, .aload_n 0, 36, 0), (36, .getfield 98, 39, 0), (39, .if_icmp .ge 7, 42, 46), (42, .iconst 1, 43, 0), (43, .goto 4, 46, 47), (46, .iconst 0, 47, 0), (47, .istore_n 1, 48, 0), (48, .iinc 2 1, 51, 0), (51, .goto (-47), 54, 4), (54, .iload_n 1, 55, 0), (55, .ireturn, 56, 0)]
theorem tk_Z_closed : tb_Z_closed.all (wm_rokb b_Z_closed) = true := by decide +kernel
abbrev cd_Z_closed : Cond := Cond.code y_Z_closed b_Z_closed 3 (wm_rtT 3)
theorem cw_Z_closed : cd_Z_closed ∈ gw := gw_at 807 (by decide +kernel) rfl
theorem gi_Z_closed : Cond.instanceMethod y_Z_closed ∈ gw := gw_at 806 (by decide +kernel) rfl
theorem gs_Z_closed : Cond.selects "CodePrunerModel" y_Z_closed y_Z_closed ∈ gw := gw_of (List.mem_append_left _ (List.mem_of_getElem? (i := 23) (by decide +kernel))) rfl
def t_Z_closed : wm_St := (ws_seq (ws_i 1 (wx_c (1 : Int32)))
  (ws_seq (ws_seq (ws_i 2 (wx_c (0 : Int32)))
  (ws_loop (wx_bin wr_lt (wx_i 2) (wx_fi w_L 8 1 (wx_r 0)))
  (ws_seq (ws_i 1 (wx_cond (wb_and (wb_and (wx_un (fun v => wr_ne v 0) (wx_i 1)) (wx_bin wr_lt (wx_ai w_L 0 (wx_fr w_L 8 4 (wx_r 0)) (wx_i 2)) (wx_fi w_L 8 1 (wx_r 0)))) (wx_bin wr_lt (wx_ai w_L 0 (wx_fr w_L 8 5 (wx_r 0)) (wx_i 2)) (wx_fi w_L 8 1 (wx_r 0)))) (wx_c (1 : Int32)) (wx_c (0 : Int32))))
  (ws_inc 2 (1 : Int32))) w_N))
  (ws_ret .int (wx_i 1))))
def f_Z_closed : List Value → wm_S → Option (Option Value × wm_S) := wm_fn (wm_isc w_L 8) 3 3 t_Z_closed
def rm_Z_closed : Room := { frames := 0, locals := 0 }
abbrev cV_Z_closed : List (Nat × wm_M) := []
abbrev cS_Z_closed : List (Nat × wm_M) := []
set_option maxRecDepth 20000 in
theorem bd_Z_closed (w : wm_K) (ret : Option Value → wm_S → Prop) (hc : wm_cl w_L fl_Z cs_Z none cV_Z_closed cS_Z_closed ret tb_Z_closed w) : wm_T w tb_Z_closed ret 0 9999 t_Z_closed :=
  (wm_t_seq (wm_t_in hc (wm_x_iconst hc rfl (by decide)) rfl rfl)
  (wm_t_seq (wm_t_seq (wm_t_in hc (wm_x_iconst hc rfl (by decide)) rfl rfl)
  (wm_t_loop (wm_b_cmp hc (wm_x_in hc rfl rfl) (wm_x_fi hc (wm_x_rn hc rfl rfl) rfl rfl) rfl rfl wm_j_ltF)
  (wm_t_seq (wm_t_in hc (wm_x_cond (wm_b_and (wm_b_and (wm_b_un hc (wm_x_in hc rfl rfl) rfl rfl wm_z_neF) (wm_b_cmp hc (wm_x_ai hc (wm_x_fr hc (wm_x_rn hc rfl rfl) rfl rfl) (wm_x_in hc rfl rfl) rfl) (wm_x_fi hc (wm_x_rn hc rfl rfl) rfl rfl) rfl rfl wm_j_ltF)) (wm_b_cmp hc (wm_x_ai hc (wm_x_fr hc (wm_x_rn hc rfl rfl) rfl rfl) (wm_x_in hc rfl rfl) rfl) (wm_x_fi hc (wm_x_rn hc rfl rfl) rfl rfl) rfl rfl wm_j_ltF)) (wm_x_iconst hc rfl (by decide)) (wm_x_iconst hc rfl (by decide)) rfl) rfl rfl)
  (wm_t_inc hc rfl (by decide))) rfl))
  (wm_t_ret hc (wm_x_in hc rfl rfl) rfl rfl (fun _ _ _ _ q => q))))
theorem c_Z_closed {l : Launch} {D : va_G} {A : Nat → Prop} {ad : Nat → Nat} {cA : Nat → ClassId} (hY : wm_Y cl0 (tys0 cA) A ad cA w_L) : wm_con l y_Z_closed (cd_Z_closed :: gw) rm_Z_closed D cl0 (tys0 cA) A ad cA w_L f_Z_closed :=
  wm_meth (cV := cV_Z_closed) (cS := cS_Z_closed) (by decide) rfl hY (fun r h => wm_fok_mono (fun _ h => List.mem_cons_of_mem _ h) (fk_Z r h)) (fun r h => wm_cok_mono (fun _ h => List.mem_cons_of_mem _ h) (ck_Z r h)) tk_Z_closed
    (fun _ h => nomatch h)
    (fun _ h => nomatch h)
    bd_Z_closed
/-! CodePrunerModel.leads -/
def y_Z_leads : MethodName := ⟨"CodePrunerModel", "leads", "(II)Z"⟩
abbrev b_Z_leads : ByteArray := prog_10_method_19_code
def tb_Z_leads : List wm_R := [(0, .aload_n 0, 1, 0), (1, .getfield 16, 4, 0), (4, .iload_n 1, 5, 0), (5, .iaload, 6, 0), (6, .iload_n 2, 7, 0), (7, .if_icmp .eq 13, 10, 20), (10, .aload_n 0, 11, 0), (11, .getfield 19, 14, 0), (14, .iload_n 1, 15, 0), (15, .iaload, 16, 0), (16, .iload_n 2, 17, 0), (17, .if_icmp .ne 7, 20, 24), (20, .iconst 1, 21, 0), (21, .goto 4, 24, 25), (24, .iconst 0, 25, 0), (25, .ireturn, 26, 0)]
theorem tk_Z_leads : tb_Z_leads.all (wm_rokb b_Z_leads) = true := by decide +kernel
abbrev cd_Z_leads : Cond := Cond.code y_Z_leads b_Z_leads 3 (wm_rtT 3)
theorem cw_Z_leads : cd_Z_leads ∈ gw := gw_at 815 (by decide +kernel) rfl
theorem gi_Z_leads : Cond.instanceMethod y_Z_leads ∈ gw := gw_at 814 (by decide +kernel) rfl
theorem gs_Z_leads : Cond.selects "CodePrunerModel" y_Z_leads y_Z_leads ∈ gw := gw_of (List.mem_append_left _ (List.mem_of_getElem? (i := 25) (by decide +kernel))) rfl
def t_Z_leads : wm_St := (ws_ret .int (wx_cond (wb_or (wx_bin wr_eq (wx_ai w_L 0 (wx_fr w_L 8 4 (wx_r 0)) (wx_i 1)) (wx_i 2)) (wx_bin wr_eq (wx_ai w_L 0 (wx_fr w_L 8 5 (wx_r 0)) (wx_i 1)) (wx_i 2))) (wx_c (1 : Int32)) (wx_c (0 : Int32))))
def f_Z_leads : List Value → wm_S → Option (Option Value × wm_S) := wm_fn (wm_isc w_L 8) 3 3 t_Z_leads
def rm_Z_leads : Room := { frames := 0, locals := 0 }
abbrev cV_Z_leads : List (Nat × wm_M) := []
abbrev cS_Z_leads : List (Nat × wm_M) := []
set_option maxRecDepth 20000 in
theorem bd_Z_leads (w : wm_K) (ret : Option Value → wm_S → Prop) (hc : wm_cl w_L fl_Z cs_Z none cV_Z_leads cS_Z_leads ret tb_Z_leads w) : wm_T w tb_Z_leads ret 0 9999 t_Z_leads :=
  (wm_t_ret hc (wm_x_cond (wm_b_or (wm_b_cmp hc (wm_x_ai hc (wm_x_fr hc (wm_x_rn hc rfl rfl) rfl rfl) (wm_x_in hc rfl rfl) rfl) (wm_x_in hc rfl rfl) rfl rfl wm_j_eqT) (wm_b_cmp hc (wm_x_ai hc (wm_x_fr hc (wm_x_rn hc rfl rfl) rfl rfl) (wm_x_in hc rfl rfl) rfl) (wm_x_in hc rfl rfl) rfl rfl wm_j_eqF)) (wm_x_iconst hc rfl (by decide)) (wm_x_iconst hc rfl (by decide)) rfl) rfl rfl (fun _ _ _ _ q => q))
theorem c_Z_leads {l : Launch} {D : va_G} {A : Nat → Prop} {ad : Nat → Nat} {cA : Nat → ClassId} (hY : wm_Y cl0 (tys0 cA) A ad cA w_L) : wm_con l y_Z_leads (cd_Z_leads :: gw) rm_Z_leads D cl0 (tys0 cA) A ad cA w_L f_Z_leads :=
  wm_meth (cV := cV_Z_leads) (cS := cS_Z_leads) (by decide) rfl hY (fun r h => wm_fok_mono (fun _ h => List.mem_cons_of_mem _ h) (fk_Z r h)) (fun r h => wm_cok_mono (fun _ h => List.mem_cons_of_mem _ h) (ck_Z r h)) tk_Z_leads
    (fun _ h => nomatch h)
    (fun _ h => nomatch h)
    bd_Z_leads
/-! CodePrunerModel.comes -/
def y_Z_comes : MethodName := ⟨"CodePrunerModel", "comes", "(II)Z"⟩
abbrev b_Z_comes : ByteArray := prog_10_method_20_code
def tb_Z_comes : List wm_R := [(0, .iconst 1, 1, 0), (1, .iload_n 1, 2, 0), (2, .ishl, 3, 0), (3, .istore_n 3, 4, 0), (4, .iconst 0, 5, 0), (5, .istore 4, 7, 0), (7, .aload_n 0, 8, 0), (8, .getfield 7, 11, 0), (11, .iload_n 1, 12, 0), (12, .iaload, 13, 0), (13, .ifCond .ne 7, 16, 20), (16, .iconst 1, 17, 0), (17, .goto 4, 20, 21), (20, .iconst 0, 21, 0), (21, .istore 5, 23, 0), (23, .iload_n 3, 24, 0), (24, .iload 4, 26, 0), (26, .if_icmp .eq 139, 29, 165), (29, .iload 5, 31, 0), (31, .ifCond .ne 134, 34, 165), (34, .iload_n 3, 35, 0), (35, .istore 4, 37, 0), (37, .iconst 0, 38, 0), (38, .istore 6, 40, 0), (40, .iload 6, 42, 0), (42, .aload_n 0, 43, 0), (43, .getfield 98, 46, 0), (46, .if_icmp .ge 66, 49, 112), (49, .iconst 0, 50, 0), (50, .istore 7, 52, 0), (52, .iload 7, 54, 0), (54, .aload_n 0, 55, 0), (55, .getfield 98, 58, 0), (58, .if_icmp .ge 48, 61, 106), (61, .iload 4, 63, 0), (63, .iload 6, 65, 0), (65, .ishr, 66, 0), (66, .iconst 1, 67, 0), (67, .iand, 68, 0), (68, .iconst 1, 69, 0), (69, .if_icmp .ne 37, 72, 106), (72, .aload_n 0, 73, 0), (73, .iload 6, 75, 0), (75, .iload 7, 77, 0), (77, .invokevirtual 124, 80, 0), (80, .ifCond .eq 18, 83, 98), (83, .iload 7, 85, 0), (85, .iload_n 2, 86, 0), (86, .if_icmp .eq 12, 89, 98), (89, .iload_n 3, 90, 0), (90, .iconst 1, 91, 0), (91, .iload 7, 93, 0), (93, .ishl, 94, 0), (94, .ior, 95, 0), (95, .goto 4, 98, 99), (98, .iload_n 3, 99, 0), (99, .istore_n 3, 100, 0), (100, .iinc 7 1, 103, 0), (103, .goto (-51), 106, 52), (106, .iinc 6 1, 109, 0), (109, .goto (-69), 112, 40), (112, .iconst 0, 113, 0), (113, .istore 6, 115, 0), (115, .iload 6, 117, 0), (117, .aload_n 0, 118, 0), (118, .getfield 98, 121, 0), (121, .if_icmp .ge 41, 124, 162), (124, .iload 5, 126, 0), (126, .ifCond .ne 23, 129, 149), (129, .iload_n 3, 130, 0), (130, .iload 6, 132, 0), (132, .ishr, 133, 0), (133, .iconst 1, 134, 0), (134, .iand, 135, 0), (135, .iconst 1, 136, 0), (136, .if_icmp .ne 17, 139, 153), (139, .aload_n 0, 140, 0), (140, .getfield 7, 143, 0), (143, .iload 6, 145, 0), (145, .iaload, 146, 0), (146, .ifCond .ne 7, 149, 153), (149, .iconst 1, 150, 0), (150, .goto 4, 153, 154), (153, .iconst 0, 154, 0), (154, .istore 5, 156, 0), (156, .iinc 6 1, 159, 0), (159, .goto (-44), 162, 115), (162, .goto (-139), 165, 23), (165, .iload 5, 167, 0), (167, .ireturn, 168, 0)]
theorem tk_Z_comes : tb_Z_comes.all (wm_rokb b_Z_comes) = true := by decide +kernel
abbrev cd_Z_comes : Cond := Cond.code y_Z_comes b_Z_comes 8 (wm_rtT 3)
theorem cw_Z_comes : cd_Z_comes ∈ gw := gw_at 811 (by decide +kernel) rfl
theorem gi_Z_comes : Cond.instanceMethod y_Z_comes ∈ gw := gw_at 810 (by decide +kernel) rfl
theorem gs_Z_comes : Cond.selects "CodePrunerModel" y_Z_comes y_Z_comes ∈ gw := gw_of (List.mem_append_left _ (List.mem_of_getElem? (i := 24) (by decide +kernel))) rfl
def t_Z_comes : wm_St := (ws_seq (ws_i 3 (wx_bin wo_ishl (wx_c (1 : Int32)) (wx_i 1)))
  (ws_seq (ws_i 4 (wx_c (0 : Int32)))
  (ws_seq (ws_i 5 (wx_cond (wx_un (fun v => wr_eq v 0) (wx_ai w_L 0 (wx_fr w_L 8 2 (wx_r 0)) (wx_i 1))) (wx_c (1 : Int32)) (wx_c (0 : Int32))))
  (ws_seq (ws_loop (wb_and (wx_bin wr_ne (wx_i 3) (wx_i 4)) (wb_not (wx_un (fun v => wr_ne v 0) (wx_i 5))))
  (ws_seq (ws_i 4 (wx_i 3))
  (ws_seq (ws_seq (ws_i 6 (wx_c (0 : Int32)))
  (ws_loop (wx_bin wr_lt (wx_i 6) (wx_fi w_L 8 1 (wx_r 0)))
  (ws_seq (ws_seq (ws_i 7 (wx_c (0 : Int32)))
  (ws_loop (wb_and (wx_bin wr_lt (wx_i 7) (wx_fi w_L 8 1 (wx_r 0))) (wx_bin wr_eq (wx_bin wo_iand (wx_bin wo_ishr (wx_i 4) (wx_i 6)) (wx_c (1 : Int32))) (wx_c (1 : Int32))))
  (ws_seq (ws_i 3 (wx_cond (wb_and (wx_un (fun v => wr_ne v 0) (wx_call wm_pi f_Z_leads (wx_ac .ref (wx_r 0) (wx_ac .int (wx_i 6) (wx_a1 .int (wx_i 7)))))) (wx_bin wr_ne (wx_i 7) (wx_i 2))) (wx_bin wo_ior (wx_i 3) (wx_bin wo_ishl (wx_c (1 : Int32)) (wx_i 7))) (wx_i 3)))
  (ws_inc 7 (1 : Int32))) w_N))
  (ws_inc 6 (1 : Int32))) w_N))
  (ws_seq (ws_i 6 (wx_c (0 : Int32)))
  (ws_loop (wx_bin wr_lt (wx_i 6) (wx_fi w_L 8 1 (wx_r 0)))
  (ws_seq (ws_i 5 (wx_cond (wb_or (wx_un (fun v => wr_ne v 0) (wx_i 5)) (wb_and (wx_bin wr_eq (wx_bin wo_iand (wx_bin wo_ishr (wx_i 3) (wx_i 6)) (wx_c (1 : Int32))) (wx_c (1 : Int32))) (wx_un (fun v => wr_eq v 0) (wx_ai w_L 0 (wx_fr w_L 8 2 (wx_r 0)) (wx_i 6))))) (wx_c (1 : Int32)) (wx_c (0 : Int32))))
  (ws_inc 6 (1 : Int32))) w_N)))) w_N)
  (ws_ret .int (wx_i 5))))))
def f_Z_comes : List Value → wm_S → Option (Option Value × wm_S) := wm_fn (wm_isc w_L 8) 3 8 t_Z_comes
def rm_Z_comes : Room := { frames := 1, locals := 22 }
abbrev cV_Z_comes : List (Nat × wm_M) := [(124, 3, f_Z_leads)]
abbrev cS_Z_comes : List (Nat × wm_M) := []
set_option maxRecDepth 20000 in
theorem bd_Z_comes (w : wm_K) (ret : Option Value → wm_S → Prop) (hc : wm_cl w_L fl_Z cs_Z none cV_Z_comes cS_Z_comes ret tb_Z_comes w) : wm_T w tb_Z_comes ret 0 9999 t_Z_comes :=
  (wm_t_seq (wm_t_in hc (wm_x_bin hc (wm_x_iconst hc rfl (by decide)) (wm_x_in hc rfl rfl) rfl rfl (fun _ _ _ _ _ _ q => q)) rfl rfl)
  (wm_t_seq (wm_t_i hc (wm_x_iconst hc rfl (by decide)) rfl)
  (wm_t_seq (wm_t_i hc (wm_x_cond (wm_b_un hc (wm_x_ai hc (wm_x_fr hc (wm_x_rn hc rfl rfl) rfl rfl) (wm_x_in hc rfl rfl) rfl) rfl rfl wm_z_eqF) (wm_x_iconst hc rfl (by decide)) (wm_x_iconst hc rfl (by decide)) rfl) rfl)
  (wm_t_seq (wm_t_loop (wm_b_and (wm_b_cmp hc (wm_x_in hc rfl rfl) (wm_x_i hc rfl) rfl rfl wm_j_neF) (wm_b_not (wm_b_un hc (wm_x_i hc rfl) rfl rfl wm_z_neT)))
  (wm_t_seq (wm_t_i hc (wm_x_in hc rfl rfl) rfl)
  (wm_t_seq (wm_t_seq (wm_t_i hc (wm_x_iconst hc rfl (by decide)) rfl)
  (wm_t_loop (wm_b_cmp hc (wm_x_i hc rfl) (wm_x_fi hc (wm_x_rn hc rfl rfl) rfl rfl) rfl rfl wm_j_ltF)
  (wm_t_seq (wm_t_seq (wm_t_i hc (wm_x_iconst hc rfl (by decide)) rfl)
  (wm_t_loop (wm_b_and (wm_b_cmp hc (wm_x_i hc rfl) (wm_x_fi hc (wm_x_rn hc rfl rfl) rfl rfl) rfl rfl wm_j_ltF) (wm_b_cmp hc (wm_x_bin hc (wm_x_bin hc (wm_x_i hc rfl) (wm_x_i hc rfl) rfl rfl (fun _ _ _ _ _ _ q => q)) (wm_x_iconst hc rfl (by decide)) rfl rfl (fun _ _ _ _ _ _ q => q)) (wm_x_iconst hc rfl (by decide)) rfl rfl wm_j_eqF))
  (wm_t_seq (wm_t_in hc (wm_x_cond (wm_b_and (wm_b_un hc (wm_x_callV hc wm_pi_ok (wm_a_c (wm_x_rn hc rfl rfl) (wm_a_c (wm_x_i hc rfl) (wm_a_1 (wm_x_i hc rfl)))) rfl rfl (by decide)) rfl rfl wm_z_neF) (wm_b_cmp hc (wm_x_i hc rfl) (wm_x_in hc rfl rfl) rfl rfl wm_j_neF)) (wm_x_bin hc (wm_x_in hc rfl rfl) (wm_x_bin hc (wm_x_iconst hc rfl (by decide)) (wm_x_i hc rfl) rfl rfl (fun _ _ _ _ _ _ q => q)) rfl rfl (fun _ _ _ _ _ _ q => q)) (wm_x_in hc rfl rfl) rfl) rfl rfl)
  (wm_t_inc hc rfl (by decide))) rfl))
  (wm_t_inc hc rfl (by decide))) rfl))
  (wm_t_seq (wm_t_i hc (wm_x_iconst hc rfl (by decide)) rfl)
  (wm_t_loop (wm_b_cmp hc (wm_x_i hc rfl) (wm_x_fi hc (wm_x_rn hc rfl rfl) rfl rfl) rfl rfl wm_j_ltF)
  (wm_t_seq (wm_t_i hc (wm_x_cond (wm_b_or (wm_b_un hc (wm_x_i hc rfl) rfl rfl wm_z_neT) (wm_b_and (wm_b_cmp hc (wm_x_bin hc (wm_x_bin hc (wm_x_in hc rfl rfl) (wm_x_i hc rfl) rfl rfl (fun _ _ _ _ _ _ q => q)) (wm_x_iconst hc rfl (by decide)) rfl rfl (fun _ _ _ _ _ _ q => q)) (wm_x_iconst hc rfl (by decide)) rfl rfl wm_j_eqF) (wm_b_un hc (wm_x_ai hc (wm_x_fr hc (wm_x_rn hc rfl rfl) rfl rfl) (wm_x_i hc rfl) rfl) rfl rfl wm_z_eqF))) (wm_x_iconst hc rfl (by decide)) (wm_x_iconst hc rfl (by decide)) rfl) rfl)
  (wm_t_inc hc rfl (by decide))) rfl)))) rfl)
  (wm_t_ret hc (wm_x_i hc rfl) rfl rfl (fun _ _ _ _ q => q))))))
theorem c_Z_comes {l : Launch} {D : va_G} {A : Nat → Prop} {ad : Nat → Nat} {cA : Nat → ClassId} (hY : wm_Y cl0 (tys0 cA) A ad cA w_L) : wm_con l y_Z_comes (cd_Z_comes :: gw) rm_Z_comes D cl0 (tys0 cA) A ad cA w_L f_Z_comes :=
  wm_meth (cV := cV_Z_comes) (cS := cS_Z_comes) (by decide) rfl hY (fun r h => wm_fok_mono (fun _ h => List.mem_cons_of_mem _ h) (fk_Z r h)) (fun r h => wm_cok_mono (fun _ h => List.mem_cons_of_mem _ h) (ck_Z r h)) tk_Z_comes
    (List.forall_mem_cons.mpr ⟨⟨y_Z_leads, b_Z_leads, 3, wm_rtT 3, cd_Z_leads :: gw, gw, rm_Z_leads, 2, 8, 29, T_Z, c_Z_leads hY, rfl, gw_V (gw_at 812 (by decide +kernel) rfl) gi_Z_leads gs_Z_leads gn_Z cw_Z_leads, rfl, rfl, ⟨by decide, by decide, by decide +kernel⟩, rfl, ⟨by decide, by decide⟩, rfl, fun vs S r h => (wm_fn_some (v := r.1) (S' := r.2) h).1⟩, fun _ h => nomatch h⟩)
    (fun _ h => nomatch h)
    bd_Z_comes
/-! CodePrunerModel.sound -/
def y_Z_sound : MethodName := ⟨"CodePrunerModel", "sound", "()Z"⟩
abbrev b_Z_sound : ByteArray := prog_10_method_21_code
def tb_Z_sound : List wm_R := [(0, .aload_n 0, 1, 0), (1, .invokevirtual 128, 4, 0), (4, .istore_n 1, 5, 0), (5, .iconst 0, 6, 0), (6, .istore_n 2, 7, 0), (7, .iload_n 2, 8, 0), (8, .aload_n 0, 9, 0), (9, .getfield 98, 12, 0), (12, .if_icmp .ge 20, 15, 32), (15, .iload_n 1, 16, 0), (16, .ifCond .eq 16, 19, 32), (19, .aload_n 0, 20, 0), (20, .iload_n 2, 21, 0), (21, .iconst (-1), 22, 0), (22, .invokevirtual 132, 25, 0), (25, .istore_n 1, 26, 0), (26, .iinc 2 1, 29, 0), (29, .goto (-22), 32, 7), (32, .iload_n 1, 33, 0), (33, .ireturn, 34, 0)]
theorem tk_Z_sound : tb_Z_sound.all (wm_rokb b_Z_sound) = true := by decide +kernel
abbrev cd_Z_sound : Cond := Cond.code y_Z_sound b_Z_sound 3 (wm_rtT 3)
theorem cw_Z_sound : cd_Z_sound ∈ gw := gw_at 803 (by decide +kernel) rfl
theorem gi_Z_sound : Cond.instanceMethod y_Z_sound ∈ gw := gw_at 802 (by decide +kernel) rfl
theorem gs_Z_sound : Cond.selects "CodePrunerModel" y_Z_sound y_Z_sound ∈ gw := gw_of (List.mem_append_left _ (List.mem_of_getElem? (i := 22) (by decide +kernel))) rfl
def t_Z_sound : wm_St := (ws_seq (ws_i 1 (wx_call wm_pi f_Z_closed (wx_a1 .ref (wx_r 0))))
  (ws_seq (ws_seq (ws_i 2 (wx_c (0 : Int32)))
  (ws_loop (wb_and (wx_bin wr_lt (wx_i 2) (wx_fi w_L 8 1 (wx_r 0))) (wx_un (fun v => wr_ne v 0) (wx_i 1)))
  (ws_seq (ws_i 1 (wx_call wm_pi f_Z_comes (wx_ac .ref (wx_r 0) (wx_ac .int (wx_i 2) (wx_a1 .int (wx_c (-1 : Int32)))))))
  (ws_inc 2 (1 : Int32))) w_N))
  (ws_ret .int (wx_i 1))))
def f_Z_sound : List Value → wm_S → Option (Option Value × wm_S) := wm_fn (wm_isc w_L 8) 3 3 t_Z_sound
def rm_Z_sound : Room := { frames := 2, locals := 49 }
abbrev cV_Z_sound : List (Nat × wm_M) := [(128, 1, f_Z_closed), (132, 3, f_Z_comes)]
abbrev cS_Z_sound : List (Nat × wm_M) := []
set_option maxRecDepth 20000 in
theorem bd_Z_sound (w : wm_K) (ret : Option Value → wm_S → Prop) (hc : wm_cl w_L fl_Z cs_Z none cV_Z_sound cS_Z_sound ret tb_Z_sound w) : wm_T w tb_Z_sound ret 0 9999 t_Z_sound :=
  (wm_t_seq (wm_t_in hc (wm_x_callV hc wm_pi_ok (wm_a_1 (wm_x_rn hc rfl rfl)) rfl rfl (by decide)) rfl rfl)
  (wm_t_seq (wm_t_seq (wm_t_in hc (wm_x_iconst hc rfl (by decide)) rfl rfl)
  (wm_t_loop (wm_b_and (wm_b_cmp hc (wm_x_in hc rfl rfl) (wm_x_fi hc (wm_x_rn hc rfl rfl) rfl rfl) rfl rfl wm_j_ltF) (wm_b_un hc (wm_x_in hc rfl rfl) rfl rfl wm_z_neF))
  (wm_t_seq (wm_t_in hc (wm_x_callV hc wm_pi_ok (wm_a_c (wm_x_rn hc rfl rfl) (wm_a_c (wm_x_in hc rfl rfl) (wm_a_1 (wm_x_iconst hc rfl (by decide))))) rfl rfl (by decide)) rfl rfl)
  (wm_t_inc hc rfl (by decide))) rfl))
  (wm_t_ret hc (wm_x_in hc rfl rfl) rfl rfl (fun _ _ _ _ q => q))))
theorem c_Z_sound {l : Launch} {D : va_G} {A : Nat → Prop} {ad : Nat → Nat} {cA : Nat → ClassId} (hY : wm_Y cl0 (tys0 cA) A ad cA w_L) : wm_con l y_Z_sound (cd_Z_sound :: gw) rm_Z_sound D cl0 (tys0 cA) A ad cA w_L f_Z_sound :=
  wm_meth (cV := cV_Z_sound) (cS := cS_Z_sound) (by decide) rfl hY (fun r h => wm_fok_mono (fun _ h => List.mem_cons_of_mem _ h) (fk_Z r h)) (fun r h => wm_cok_mono (fun _ h => List.mem_cons_of_mem _ h) (ck_Z r h)) tk_Z_sound
    (List.forall_mem_cons.mpr ⟨⟨y_Z_closed, b_Z_closed, 3, wm_rtT 3, cd_Z_closed :: gw, gw, rm_Z_closed, 0, 8, 29, T_Z, c_Z_closed hY, rfl, gw_V (gw_at 804 (by decide +kernel) rfl) gi_Z_closed gs_Z_closed gn_Z cw_Z_closed, rfl, rfl, ⟨by decide, by decide, by decide +kernel⟩, rfl, ⟨by decide, by decide⟩, rfl, fun vs S r h => (wm_fn_some (v := r.1) (S' := r.2) h).1⟩, List.forall_mem_cons.mpr ⟨⟨y_Z_comes, b_Z_comes, 8, wm_rtT 3, cd_Z_comes :: gw, gw, rm_Z_comes, 2, 8, 29, T_Z, c_Z_comes hY, rfl, gw_V (gw_at 808 (by decide +kernel) rfl) gi_Z_comes gs_Z_comes gn_Z cw_Z_comes, rfl, rfl, ⟨by decide, by decide, by decide +kernel⟩, rfl, ⟨by decide, by decide⟩, rfl, fun vs S r h => (wm_fn_some (v := r.1) (S' := r.2) h).1⟩, fun _ h => nomatch h⟩⟩)
    (fun _ h => nomatch h)
    bd_Z_sound
end WME_Z

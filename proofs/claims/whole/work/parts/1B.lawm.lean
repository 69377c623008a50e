section WMLW
theorem lk_0 : Cond.classLink "CodePrunerLaw" 13 (wt_ex 0) ∈ gw := gw_at 293 (by decide +kernel) rfl
theorem lk_1 : Cond.classLink "CodePrunerLaw" 19 (wt_ex 1) ∈ gw := gw_at 376 (by decide +kernel) rfl
theorem lk_2 : Cond.classLink "CodePrunerLaw" 21 (wt_ex 2) ∈ gw := gw_at 377 (by decide +kernel) rfl
theorem lk_3 : Cond.classLink "CodePrunerLaw" 30 (wt_ex 3) ∈ gw := gw_at 443 (by decide +kernel) rfl
/-! law: block -/
def y_L_block : MethodName := ⟨"CodePrunerLaw", "block", "(LCodePruner;[J)I"⟩
abbrev b_L_block : ByteArray := method_3_code
def tb_L_block : List wm_R := [(0, .aload_n 1, 1, 0), (1, .iconst 0, 2, 0), (2, .aload_n 0, 3, 0), (3, .invokevirtual 7, 6, 0), (6, .i2l, 7, 0), (7, .lastore, 8, 0), (8, .goto 6, 11, 14), (11, .astore_n 2, 12, 0), (12, .iconst 1, 13, 0), (13, .ireturn, 14, 0), (14, .iconst 0, 15, 0), (15, .ireturn, 16, 0)]
theorem tk_L_block : tb_L_block.all (wm_rokb b_L_block) = true := by decide +kernel
abbrev hh_L_block : List (Nat × Nat × Nat × Nat) := [(0, 8, 11, 13)]
abbrev cd_L_block : Cond := Cond.codeWith y_L_block b_L_block 3 (some .int) hh_L_block
theorem cw_L_block : cd_L_block ∈ gw := gw_at 292 (by decide +kernel) rfl
theorem gi_L_block : Cond.static y_L_block ∈ gw := gw_at 291 (by decide +kernel) rfl
abbrev hs_L_block : List (Nat × Int32) := [(0, 1)]
def t_L_block : wm_St := ws_seq (ws_tl w_L wo_i2l hs_L_block f_P_block (wx_r 1) (wx_a1 .ref (wx_r 0))) (ws_ret .int (wx_c 0))
def f_L_block : List Value → wm_S → Option (Option Value × wm_S) := wm_fn wm_any 1 3 t_L_block
def rm_L_block : Room := { frames := 7, locals := 101, cells := 1, slots := 6 }
theorem bd_L_block (w0 w1 : wm_K) (ret : Option Value → wm_S → Prop) (hc : wm_cl w_L [] [] none [] [] ret tb_L_block w0) (hc1 : wm_cl w_L [] [] none [] [] ret tb_L_block w1) (hN : wm_hN w0 w1 3 1 f_P_block) (hX : wm_hX w0 ret 3 1 f_P_block hs_L_block) : wm_TT w0 w1 tb_L_block ret 0 9999 t_L_block :=
  wm_tt_seq (p2 := 14) (wm_try_l hc (wm_x_rn hc rfl rfl) rfl (wm_a_1 (wm_x_rn hc rfl rfl)) rfl rfl rfl hN hX (wm_pst_i hc1 rfl rfl)) (wm_t_ret hc1 (wm_x_iconst hc1 rfl (by decide)) rfl rfl (fun _ _ _ _ q => q)) rfl
theorem c_L_block {l : Launch} {D : va_G} {A : Nat → Prop} {ad : Nat → Nat} {cA : Nat → ClassId} (hl : l.stackTraces = false) (hY : wm_Y cl0 (tys0 cA) A ad cA w_L) {av : List Value} {v : Option Value} {S S' : wm_S} (hf : f_L_block av S = some (v, S')) : Met l y_L_block (cd_L_block :: gw) rm_L_block (va_Pc (av.map (wm_cv ad)) (fun U => wm_I D cl0 (tys0 cA) ad cA w_L S U ∧ wt_Z A U U.heap)) (wm_Q D cl0 (tys0 cA) A ad cA w_L v S') 1 6 A :=
  wt_law (hs := hs_L_block) (f := f_P_block) (n := 1) (ix := 7) (pX := 3) (by decide) rfl hY tk_L_block
    ⟨y_P_block, b_P_block, 1, wm_rtT 1, cd_P_block :: gw, gw, rm_P_block, 0, 0, 4, T_P, x_P_block hl hY, rfl, gw_V (gw_at 294 (by decide +kernel) rfl) gi_P_block gs_P_block gn_P cw_P_block, rfl, rfl, ⟨by decide, by decide, by decide +kernel⟩, rfl, ⟨by decide, by decide⟩, rfl, fun vs S r h => (wt_fn_some (v := r.1) (S' := r.2) h).1⟩
    (by decide +kernel)
    (List.forall_mem_cons.mpr ⟨⟨[], [], 0, 8, 11, 13, 2, 1, 1, by decide, rfl, by decide, by decide, by decide, List.mem_cons_of_mem _ lk_0, (fun _ h => nomatch h), by decide, Or.inl ⟨rfl, 2, rfl, by decide +kernel⟩, by decide +kernel, by decide +kernel, by decide⟩, (fun _ h => nomatch h)⟩)
    ⟨by decide, by decide⟩ bd_L_block hf
/-! law: add -/
def y_L_add : MethodName := ⟨"CodePrunerLaw", "add", "(LCodePruner;IIIII[J)I"⟩
abbrev b_L_add : ByteArray := method_4_code
def tb_L_add : List wm_R := [(0, .aload 6, 2, 0), (2, .iconst 0, 3, 0), (3, .aload_n 0, 4, 0), (4, .iload_n 1, 5, 0), (5, .iload_n 2, 6, 0), (6, .iload_n 3, 7, 0), (7, .iload 4, 9, 0), (9, .iload 5, 11, 0), (11, .invokevirtual 15, 14, 0), (14, .i2l, 15, 0), (15, .lastore, 16, 0), (16, .goto 15, 19, 31), (19, .astore 7, 21, 0), (21, .iconst 1, 22, 0), (22, .ireturn, 23, 0), (23, .astore 7, 25, 0), (25, .iconst 2, 26, 0), (26, .ireturn, 27, 0), (27, .astore 7, 29, 0), (29, .iconst 3, 30, 0), (30, .ireturn, 31, 0), (31, .iconst 0, 32, 0), (32, .ireturn, 33, 0)]
theorem tk_L_add : tb_L_add.all (wm_rokb b_L_add) = true := by decide +kernel
abbrev hh_L_add : List (Nat × Nat × Nat × Nat) := [(0, 16, 19, 19), (0, 16, 23, 21), (0, 16, 27, 13)]
abbrev cd_L_add : Cond := Cond.codeWith y_L_add b_L_add 8 (some .int) hh_L_add
theorem cw_L_add : cd_L_add ∈ gw := gw_at 375 (by decide +kernel) rfl
theorem gi_L_add : Cond.static y_L_add ∈ gw := gw_at 374 (by decide +kernel) rfl
abbrev hs_L_add : List (Nat × Int32) := [(1, 1), (2, 2), (0, 3)]
def t_L_add : wm_St := ws_seq (ws_tl w_L wo_i2l hs_L_add f_P_add (wx_r 6) (wx_ac .ref (wx_r 0) (wx_ac .int (wx_i 1) (wx_ac .int (wx_i 2) (wx_ac .int (wx_i 3) (wx_ac .int (wx_i 4) (wx_a1 .int (wx_i 5)))))))) (ws_ret .int (wx_c 0))
def f_L_add : List Value → wm_S → Option (Option Value × wm_S) := wm_fn wm_any 1 8 t_L_add
def rm_L_add : Room := { frames := 7, locals := 106, cells := 1, slots := 6 }
theorem bd_L_add (w0 w1 : wm_K) (ret : Option Value → wm_S → Prop) (hc : wm_cl w_L [] [] none [] [] ret tb_L_add w0) (hc1 : wm_cl w_L [] [] none [] [] ret tb_L_add w1) (hN : wm_hN w0 w1 11 6 f_P_add) (hX : wm_hX w0 ret 11 6 f_P_add hs_L_add) : wm_TT w0 w1 tb_L_add ret 0 9999 t_L_add :=
  wm_tt_seq (p2 := 31) (wm_try_l hc (wm_x_r hc rfl) rfl (wm_a_c (wm_x_rn hc rfl rfl) (wm_a_c (wm_x_in hc rfl rfl) (wm_a_c (wm_x_in hc rfl rfl) (wm_a_c (wm_x_in hc rfl rfl) (wm_a_c (wm_x_i hc rfl) (wm_a_1 (wm_x_i hc rfl))))))) rfl rfl rfl hN hX (wm_pst_i hc1 rfl rfl)) (wm_t_ret hc1 (wm_x_iconst hc1 rfl (by decide)) rfl rfl (fun _ _ _ _ q => q)) rfl
theorem c_L_add {l : Launch} {D : va_G} {A : Nat → Prop} {ad : Nat → Nat} {cA : Nat → ClassId} (hl : l.stackTraces = false) (hY : wm_Y cl0 (tys0 cA) A ad cA w_L) {av : List Value} {v : Option Value} {S S' : wm_S} (hf : f_L_add av S = some (v, S')) : Met l y_L_add (cd_L_add :: gw) rm_L_add (va_Pc (av.map (wm_cv ad)) (fun U => wm_I D cl0 (tys0 cA) ad cA w_L S U ∧ wt_Z A U U.heap)) (wm_Q D cl0 (tys0 cA) A ad cA w_L v S') 1 6 A :=
  wt_law (hs := hs_L_add) (f := f_P_add) (n := 6) (ix := 15) (pX := 11) (by decide) rfl hY tk_L_add
    ⟨y_P_add, b_P_add, 6, wm_rtT 1, cd_P_add :: gw, gw, rm_P_add, 5, 0, 4, T_P, x_P_add hl hY, rfl, gw_V (gw_at 378 (by decide +kernel) rfl) gi_P_add gs_P_add gn_P cw_P_add, rfl, rfl, ⟨by decide, by decide, by decide +kernel⟩, rfl, ⟨by decide, by decide⟩, rfl, fun vs S r h => (wt_fn_some (v := r.1) (S' := r.2) h).1⟩
    (by decide +kernel)
    (List.forall_mem_cons.mpr ⟨⟨[], [(0, 16, 23, 21), (0, 16, 27, 13)], 0, 16, 19, 19, 7, 1, 2, by decide, rfl, by decide, by decide, by decide, List.mem_cons_of_mem _ lk_1, (fun _ h => nomatch h), by decide, Or.inr ⟨rfl, by decide +kernel⟩, by decide +kernel, by decide +kernel, by decide⟩, List.forall_mem_cons.mpr ⟨⟨[(0, 16, 19, 19)], [(0, 16, 27, 13)], 0, 16, 23, 21, 7, 2, 2, by decide, rfl, by decide, by decide, by decide, List.mem_cons_of_mem _ lk_2, List.forall_mem_cons.mpr ⟨⟨by decide, 1, List.mem_cons_of_mem _ lk_1, by decide⟩, (fun _ h => nomatch h)⟩, by decide, Or.inr ⟨rfl, by decide +kernel⟩, by decide +kernel, by decide +kernel, by decide⟩, List.forall_mem_cons.mpr ⟨⟨[(0, 16, 19, 19), (0, 16, 23, 21)], [], 0, 16, 27, 13, 7, 3, 2, by decide, rfl, by decide, by decide, by decide, List.mem_cons_of_mem _ lk_0, List.forall_mem_cons.mpr ⟨⟨by decide, 1, List.mem_cons_of_mem _ lk_1, by decide⟩, List.forall_mem_cons.mpr ⟨⟨by decide, 2, List.mem_cons_of_mem _ lk_2, by decide⟩, (fun _ h => nomatch h)⟩⟩, by decide, Or.inr ⟨rfl, by decide +kernel⟩, by decide +kernel, by decide +kernel, by decide⟩, (fun _ h => nomatch h)⟩⟩⟩)
    ⟨by decide, by decide⟩ bd_L_add hf
/-! law: end -/
def y_L_end : MethodName := ⟨"CodePrunerLaw", "end", "(LCodePruner;IIIII)I"⟩
abbrev b_L_end : ByteArray := method_5_code
def tb_L_end : List wm_R := [(0, .aload_n 0, 1, 0), (1, .iload_n 1, 2, 0), (2, .iload_n 2, 3, 0), (3, .iload_n 3, 4, 0), (4, .iload 4, 6, 0), (6, .iload 5, 8, 0), (8, .invokevirtual 23, 11, 0), (11, .goto 11, 14, 22), (14, .astore 6, 16, 0), (16, .iconst 1, 17, 0), (17, .ireturn, 18, 0), (18, .astore 6, 20, 0), (20, .iconst 2, 21, 0), (21, .ireturn, 22, 0), (22, .iconst 0, 23, 0), (23, .ireturn, 24, 0)]
theorem tk_L_end : tb_L_end.all (wm_rokb b_L_end) = true := by decide +kernel
abbrev hh_L_end : List (Nat × Nat × Nat × Nat) := [(0, 11, 14, 19), (0, 11, 18, 21)]
abbrev cd_L_end : Cond := Cond.codeWith y_L_end b_L_end 7 (some .int) hh_L_end
theorem cw_L_end : cd_L_end ∈ gw := gw_at 428 (by decide +kernel) rfl
theorem gi_L_end : Cond.static y_L_end ∈ gw := gw_at 427 (by decide +kernel) rfl
abbrev hs_L_end : List (Nat × Int32) := [(1, 1), (2, 2)]
def t_L_end : wm_St := ws_seq (ws_tv hs_L_end f_P_end (wx_ac .ref (wx_r 0) (wx_ac .int (wx_i 1) (wx_ac .int (wx_i 2) (wx_ac .int (wx_i 3) (wx_ac .int (wx_i 4) (wx_a1 .int (wx_i 5)))))))) (ws_ret .int (wx_c 0))
def f_L_end : List Value → wm_S → Option (Option Value × wm_S) := wm_fn wm_any 1 7 t_L_end
def rm_L_end : Room := { frames := 7, locals := 106, cells := 1, slots := 6 }
theorem bd_L_end (w0 w1 : wm_K) (ret : Option Value → wm_S → Prop) (hc : wm_cl w_L [] [] none [] [] ret tb_L_end w0) (hc1 : wm_cl w_L [] [] none [] [] ret tb_L_end w1) (hN : wm_hN w0 w1 8 6 f_P_end) (hX : wm_hX w0 ret 8 6 f_P_end hs_L_end) : wm_TT w0 w1 tb_L_end ret 0 9999 t_L_end :=
  wm_tt_seq (p2 := 22) (wm_try_v hc1 (wm_a_c (wm_x_rn hc rfl rfl) (wm_a_c (wm_x_in hc rfl rfl) (wm_a_c (wm_x_in hc rfl rfl) (wm_a_c (wm_x_in hc rfl rfl) (wm_a_c (wm_x_i hc rfl) (wm_a_1 (wm_x_i hc rfl))))))) rfl rfl rfl hN hX) (wm_t_ret hc1 (wm_x_iconst hc1 rfl (by decide)) rfl rfl (fun _ _ _ _ q => q)) rfl
theorem c_L_end {l : Launch} {D : va_G} {A : Nat → Prop} {ad : Nat → Nat} {cA : Nat → ClassId} (hl : l.stackTraces = false) (hY : wm_Y cl0 (tys0 cA) A ad cA w_L) {av : List Value} {v : Option Value} {S S' : wm_S} (hf : f_L_end av S = some (v, S')) : Met l y_L_end (cd_L_end :: gw) rm_L_end (va_Pc (av.map (wm_cv ad)) (fun U => wm_I D cl0 (tys0 cA) ad cA w_L S U ∧ wt_Z A U U.heap)) (wm_Q D cl0 (tys0 cA) A ad cA w_L v S') 1 6 A :=
  wt_law (hs := hs_L_end) (f := f_P_end) (n := 6) (ix := 23) (pX := 8) (by decide) rfl hY tk_L_end
    ⟨y_P_end, b_P_end, 6, wm_rtT 0, cd_P_end :: gw, gw, rm_P_end, 5, 0, 4, T_P, x_P_end hl hY, rfl, gw_V (gw_at 429 (by decide +kernel) rfl) gi_P_end gs_P_end gn_P cw_P_end, rfl, rfl, ⟨by decide, by decide, by decide +kernel⟩, rfl, ⟨by decide, by decide⟩, rfl, fun vs S r h => (wt_fn_some (v := r.1) (S' := r.2) h).1⟩
    (by decide +kernel)
    (List.forall_mem_cons.mpr ⟨⟨[], [(0, 11, 18, 21)], 0, 11, 14, 19, 6, 1, 2, by decide, rfl, by decide, by decide, by decide, List.mem_cons_of_mem _ lk_1, (fun _ h => nomatch h), by decide, Or.inr ⟨rfl, by decide +kernel⟩, by decide +kernel, by decide +kernel, by decide⟩, List.forall_mem_cons.mpr ⟨⟨[(0, 11, 14, 19)], [], 0, 11, 18, 21, 6, 2, 2, by decide, rfl, by decide, by decide, by decide, List.mem_cons_of_mem _ lk_2, List.forall_mem_cons.mpr ⟨⟨by decide, 1, List.mem_cons_of_mem _ lk_1, by decide⟩, (fun _ h => nomatch h)⟩, by decide, Or.inr ⟨rfl, by decide +kernel⟩, by decide +kernel, by decide +kernel, by decide⟩, (fun _ h => nomatch h)⟩⟩)
    ⟨by decide, by decide⟩ bd_L_end hf
/-! law: prune -/
def y_L_prune : MethodName := ⟨"CodePrunerLaw", "prune", "(LCodePruner;[J)I"⟩
abbrev b_L_prune : ByteArray := method_6_code
def tb_L_prune : List wm_R := [(0, .aload_n 1, 1, 0), (1, .iconst 0, 2, 0), (2, .aload_n 0, 3, 0), (3, .invokevirtual 27, 6, 0), (6, .i2l, 7, 0), (7, .lastore, 8, 0), (8, .goto 9, 11, 17), (11, .astore_n 2, 12, 0), (12, .iconst 1, 13, 0), (13, .ireturn, 14, 0), (14, .astore_n 2, 15, 0), (15, .iconst 2, 16, 0), (16, .ireturn, 17, 0), (17, .iconst 0, 18, 0), (18, .ireturn, 19, 0)]
theorem tk_L_prune : tb_L_prune.all (wm_rokb b_L_prune) = true := by decide +kernel
abbrev hh_L_prune : List (Nat × Nat × Nat × Nat) := [(0, 8, 11, 13), (0, 8, 14, 30)]
abbrev cd_L_prune : Cond := Cond.codeWith y_L_prune b_L_prune 3 (some .int) hh_L_prune
theorem cw_L_prune : cd_L_prune ∈ gw := gw_at 442 (by decide +kernel) rfl
theorem gi_L_prune : Cond.static y_L_prune ∈ gw := gw_at 441 (by decide +kernel) rfl
abbrev hs_L_prune : List (Nat × Int32) := [(0, 1), (3, 2)]
def t_L_prune : wm_St := ws_seq (ws_tl w_L wo_i2l hs_L_prune f_P_prune (wx_r 1) (wx_a1 .ref (wx_r 0))) (ws_ret .int (wx_c 0))
def f_L_prune : List Value → wm_S → Option (Option Value × wm_S) := wm_fn wm_any 1 3 t_L_prune
def rm_L_prune : Room := { frames := 7, locals := 143, cells := 1, slots := 6 }
theorem bd_L_prune (w0 w1 : wm_K) (ret : Option Value → wm_S → Prop) (hc : wm_cl w_L [] [] none [] [] ret tb_L_prune w0) (hc1 : wm_cl w_L [] [] none [] [] ret tb_L_prune w1) (hN : wm_hN w0 w1 3 1 f_P_prune) (hX : wm_hX w0 ret 3 1 f_P_prune hs_L_prune) : wm_TT w0 w1 tb_L_prune ret 0 9999 t_L_prune :=
  wm_tt_seq (p2 := 17) (wm_try_l hc (wm_x_rn hc rfl rfl) rfl (wm_a_1 (wm_x_rn hc rfl rfl)) rfl rfl rfl hN hX (wm_pst_i hc1 rfl rfl)) (wm_t_ret hc1 (wm_x_iconst hc1 rfl (by decide)) rfl rfl (fun _ _ _ _ q => q)) rfl
theorem c_L_prune {l : Launch} {D : va_G} {A : Nat → Prop} {ad : Nat → Nat} {cA : Nat → ClassId} (hl : l.stackTraces = false) (hY : wm_Y cl0 (tys0 cA) A ad cA w_L) {av : List Value} {v : Option Value} {S S' : wm_S} (hf : f_L_prune av S = some (v, S')) : Met l y_L_prune (cd_L_prune :: gw) rm_L_prune (va_Pc (av.map (wm_cv ad)) (fun U => wm_I D cl0 (tys0 cA) ad cA w_L S U ∧ wt_Z A U U.heap)) (wm_Q D cl0 (tys0 cA) A ad cA w_L v S') 1 6 A :=
  wt_law (hs := hs_L_prune) (f := f_P_prune) (n := 1) (ix := 27) (pX := 3) (by decide) rfl hY tk_L_prune
    ⟨y_P_prune, b_P_prune, 1, wm_rtT 1, cd_P_prune :: gw, gw, rm_P_prune, 0, 0, 4, T_P, x_P_prune hl hY, rfl, gw_V (gw_at 444 (by decide +kernel) rfl) gi_P_prune gs_P_prune gn_P cw_P_prune, rfl, rfl, ⟨by decide, by decide, by decide +kernel⟩, rfl, ⟨by decide, by decide⟩, rfl, fun vs S r h => (wt_fn_some (v := r.1) (S' := r.2) h).1⟩
    (by decide +kernel)
    (List.forall_mem_cons.mpr ⟨⟨[], [(0, 8, 14, 30)], 0, 8, 11, 13, 2, 1, 1, by decide, rfl, by decide, by decide, by decide, List.mem_cons_of_mem _ lk_0, (fun _ h => nomatch h), by decide, Or.inl ⟨rfl, 2, rfl, by decide +kernel⟩, by decide +kernel, by decide +kernel, by decide⟩, List.forall_mem_cons.mpr ⟨⟨[(0, 8, 11, 13)], [], 0, 8, 14, 30, 2, 2, 1, by decide, rfl, by decide, by decide, by decide, List.mem_cons_of_mem _ lk_3, List.forall_mem_cons.mpr ⟨⟨by decide, 0, List.mem_cons_of_mem _ lk_0, by decide⟩, (fun _ h => nomatch h)⟩, by decide, Or.inl ⟨rfl, 2, rfl, by decide +kernel⟩, by decide +kernel, by decide +kernel, by decide⟩, (fun _ h => nomatch h)⟩⟩)
    ⟨by decide, by decide⟩ bd_L_prune hf
/-! law: next -/
def y_L_next : MethodName := ⟨"CodePrunerLaw", "next", "(LCodePruner;I[J)I"⟩
abbrev b_L_next : ByteArray := method_7_code
def tb_L_next : List wm_R := [(0, .aload_n 2, 1, 0), (1, .iconst 0, 2, 0), (2, .aload_n 0, 3, 0), (3, .iload_n 1, 4, 0), (4, .invokevirtual 32, 7, 0), (7, .i2l, 8, 0), (8, .lastore, 9, 0), (9, .goto 6, 12, 15), (12, .astore_n 3, 13, 0), (13, .iconst 1, 14, 0), (14, .ireturn, 15, 0), (15, .iconst 0, 16, 0), (16, .ireturn, 17, 0)]
theorem tk_L_next : tb_L_next.all (wm_rokb b_L_next) = true := by decide +kernel
abbrev hh_L_next : List (Nat × Nat × Nat × Nat) := [(0, 9, 12, 19)]
abbrev cd_L_next : Cond := Cond.codeWith y_L_next b_L_next 4 (some .int) hh_L_next
theorem cw_L_next : cd_L_next ∈ gw := gw_at 586 (by decide +kernel) rfl
theorem gi_L_next : Cond.static y_L_next ∈ gw := gw_at 585 (by decide +kernel) rfl
abbrev hs_L_next : List (Nat × Int32) := [(1, 1)]
def t_L_next : wm_St := ws_seq (ws_tl w_L wo_i2l hs_L_next f_P_next (wx_r 2) (wx_ac .ref (wx_r 0) (wx_a1 .int (wx_i 1)))) (ws_ret .int (wx_c 0))
def f_L_next : List Value → wm_S → Option (Option Value × wm_S) := wm_fn wm_any 1 4 t_L_next
def rm_L_next : Room := { frames := 7, locals := 102, cells := 1, slots := 6 }
theorem bd_L_next (w0 w1 : wm_K) (ret : Option Value → wm_S → Prop) (hc : wm_cl w_L [] [] none [] [] ret tb_L_next w0) (hc1 : wm_cl w_L [] [] none [] [] ret tb_L_next w1) (hN : wm_hN w0 w1 4 2 f_P_next) (hX : wm_hX w0 ret 4 2 f_P_next hs_L_next) : wm_TT w0 w1 tb_L_next ret 0 9999 t_L_next :=
  wm_tt_seq (p2 := 15) (wm_try_l hc (wm_x_rn hc rfl rfl) rfl (wm_a_c (wm_x_rn hc rfl rfl) (wm_a_1 (wm_x_in hc rfl rfl))) rfl rfl rfl hN hX (wm_pst_i hc1 rfl rfl)) (wm_t_ret hc1 (wm_x_iconst hc1 rfl (by decide)) rfl rfl (fun _ _ _ _ q => q)) rfl
theorem c_L_next {l : Launch} {D : va_G} {A : Nat → Prop} {ad : Nat → Nat} {cA : Nat → ClassId} (hl : l.stackTraces = false) (hY : wm_Y cl0 (tys0 cA) A ad cA w_L) {av : List Value} {v : Option Value} {S S' : wm_S} (hf : f_L_next av S = some (v, S')) : Met l y_L_next (cd_L_next :: gw) rm_L_next (va_Pc (av.map (wm_cv ad)) (fun U => wm_I D cl0 (tys0 cA) ad cA w_L S U ∧ wt_Z A U U.heap)) (wm_Q D cl0 (tys0 cA) A ad cA w_L v S') 1 6 A :=
  wt_law (hs := hs_L_next) (f := f_P_next) (n := 2) (ix := 32) (pX := 4) (by decide) rfl hY tk_L_next
    ⟨y_P_next, b_P_next, 2, wm_rtT 1, cd_P_next :: gw, gw, rm_P_next, 1, 0, 4, T_P, x_P_next hl hY, rfl, gw_V (gw_at 587 (by decide +kernel) rfl) gi_P_next gs_P_next gn_P cw_P_next, rfl, rfl, ⟨by decide, by decide, by decide +kernel⟩, rfl, ⟨by decide, by decide⟩, rfl, fun vs S r h => (wt_fn_some (v := r.1) (S' := r.2) h).1⟩
    (by decide +kernel)
    (List.forall_mem_cons.mpr ⟨⟨[], [], 0, 9, 12, 19, 3, 1, 1, by decide, rfl, by decide, by decide, by decide, List.mem_cons_of_mem _ lk_1, (fun _ h => nomatch h), by decide, Or.inl ⟨rfl, 3, rfl, by decide +kernel⟩, by decide +kernel, by decide +kernel, by decide⟩, (fun _ h => nomatch h)⟩)
    ⟨by decide, by decide⟩ bd_L_next hf
/-! law: depends -/
def y_L_depends : MethodName := ⟨"CodePrunerLaw", "depends", "(LCodePruner;II[J)I"⟩
abbrev b_L_depends : ByteArray := method_8_code
def tb_L_depends : List wm_R := [(0, .aload_n 3, 1, 0), (1, .iconst 0, 2, 0), (2, .aload_n 0, 3, 0), (3, .iload_n 1, 4, 0), (4, .iload_n 2, 5, 0), (5, .invokevirtual 36, 8, 0), (8, .ifCond .eq 7, 11, 15), (11, .lconst 1, 12, 0), (12, .goto 4, 15, 16), (15, .lconst 0, 16, 0), (16, .lastore, 17, 0), (17, .goto 7, 20, 24), (20, .astore 4, 22, 0), (22, .iconst 1, 23, 0), (23, .ireturn, 24, 0), (24, .iconst 0, 25, 0), (25, .ireturn, 26, 0)]
theorem tk_L_depends : tb_L_depends.all (wm_rokb b_L_depends) = true := by decide +kernel
abbrev hh_L_depends : List (Nat × Nat × Nat × Nat) := [(0, 17, 20, 19)]
abbrev cd_L_depends : Cond := Cond.codeWith y_L_depends b_L_depends 5 (some .int) hh_L_depends
theorem cw_L_depends : cd_L_depends ∈ gw := gw_at 593 (by decide +kernel) rfl
theorem gi_L_depends : Cond.static y_L_depends ∈ gw := gw_at 592 (by decide +kernel) rfl
abbrev hs_L_depends : List (Nat × Int32) := [(1, 1)]
def t_L_depends : wm_St := ws_seq (ws_tl w_L (fun x => bif wr_ne x 0 then 1 else 0) hs_L_depends f_P_depends (wx_r 3) (wx_ac .ref (wx_r 0) (wx_ac .int (wx_i 1) (wx_a1 .int (wx_i 2))))) (ws_ret .int (wx_c 0))
def f_L_depends : List Value → wm_S → Option (Option Value × wm_S) := wm_fn wm_any 1 5 t_L_depends
def rm_L_depends : Room := { frames := 7, locals := 103, cells := 1, slots := 6 }
theorem bd_L_depends (w0 w1 : wm_K) (ret : Option Value → wm_S → Prop) (hc : wm_cl w_L [] [] none [] [] ret tb_L_depends w0) (hc1 : wm_cl w_L [] [] none [] [] ret tb_L_depends w1) (hN : wm_hN w0 w1 5 3 f_P_depends) (hX : wm_hX w0 ret 5 3 f_P_depends hs_L_depends) : wm_TT w0 w1 tb_L_depends ret 0 9999 t_L_depends :=
  wm_tt_seq (p2 := 24) (wm_try_l hc (wm_x_rn hc rfl rfl) rfl (wm_a_c (wm_x_rn hc rfl rfl) (wm_a_c (wm_x_in hc rfl rfl) (wm_a_1 (wm_x_in hc rfl rfl)))) rfl rfl rfl hN hX (wm_pst_z (t5 := 0) hc1 rfl rfl rfl rfl rfl)) (wm_t_ret hc1 (wm_x_iconst hc1 rfl (by decide)) rfl rfl (fun _ _ _ _ q => q)) rfl
theorem c_L_depends {l : Launch} {D : va_G} {A : Nat → Prop} {ad : Nat → Nat} {cA : Nat → ClassId} (hl : l.stackTraces = false) (hY : wm_Y cl0 (tys0 cA) A ad cA w_L) {av : List Value} {v : Option Value} {S S' : wm_S} (hf : f_L_depends av S = some (v, S')) : Met l y_L_depends (cd_L_depends :: gw) rm_L_depends (va_Pc (av.map (wm_cv ad)) (fun U => wm_I D cl0 (tys0 cA) ad cA w_L S U ∧ wt_Z A U U.heap)) (wm_Q D cl0 (tys0 cA) A ad cA w_L v S') 1 6 A :=
  wt_law (hs := hs_L_depends) (f := f_P_depends) (n := 3) (ix := 36) (pX := 5) (by decide) rfl hY tk_L_depends
    ⟨y_P_depends, b_P_depends, 3, wm_rtT 3, cd_P_depends :: gw, gw, rm_P_depends, 2, 0, 4, T_P, x_P_depends hl hY, rfl, gw_V (gw_at 594 (by decide +kernel) rfl) gi_P_depends gs_P_depends gn_P cw_P_depends, rfl, rfl, ⟨by decide, by decide, by decide +kernel⟩, rfl, ⟨by decide, by decide⟩, rfl, fun vs S r h => (wt_fn_some (v := r.1) (S' := r.2) h).1⟩
    (by decide +kernel)
    (List.forall_mem_cons.mpr ⟨⟨[], [], 0, 17, 20, 19, 4, 1, 2, by decide, rfl, by decide, by decide, by decide, List.mem_cons_of_mem _ lk_1, (fun _ h => nomatch h), by decide, Or.inr ⟨rfl, by decide +kernel⟩, by decide +kernel, by decide +kernel, by decide⟩, (fun _ h => nomatch h)⟩)
    ⟨by decide, by decide⟩ bd_L_depends hf
/-! law: needed -/
def y_L_needed : MethodName := ⟨"CodePrunerLaw", "needed", "(LCodePruner;I[J)I"⟩
abbrev b_L_needed : ByteArray := method_9_code
def tb_L_needed : List wm_R := [(0, .aload_n 2, 1, 0), (1, .iconst 0, 2, 0), (2, .aload_n 0, 3, 0), (3, .iload_n 1, 4, 0), (4, .invokevirtual 40, 7, 0), (7, .ifCond .eq 7, 10, 14), (10, .lconst 1, 11, 0), (11, .goto 4, 14, 15), (14, .lconst 0, 15, 0), (15, .lastore, 16, 0), (16, .goto 6, 19, 22), (19, .astore_n 3, 20, 0), (20, .iconst 1, 21, 0), (21, .ireturn, 22, 0), (22, .iconst 0, 23, 0), (23, .ireturn, 24, 0)]
theorem tk_L_needed : tb_L_needed.all (wm_rokb b_L_needed) = true := by decide +kernel
abbrev hh_L_needed : List (Nat × Nat × Nat × Nat) := [(0, 16, 19, 19)]
abbrev cd_L_needed : Cond := Cond.codeWith y_L_needed b_L_needed 4 (some .int) hh_L_needed
theorem cw_L_needed : cd_L_needed ∈ gw := gw_at 600 (by decide +kernel) rfl
theorem gi_L_needed : Cond.static y_L_needed ∈ gw := gw_at 599 (by decide +kernel) rfl
abbrev hs_L_needed : List (Nat × Int32) := [(1, 1)]
def t_L_needed : wm_St := ws_seq (ws_tl w_L (fun x => bif wr_ne x 0 then 1 else 0) hs_L_needed f_P_needed (wx_r 2) (wx_ac .ref (wx_r 0) (wx_a1 .int (wx_i 1)))) (ws_ret .int (wx_c 0))
def f_L_needed : List Value → wm_S → Option (Option Value × wm_S) := wm_fn wm_any 1 4 t_L_needed
def rm_L_needed : Room := { frames := 7, locals := 102, cells := 1, slots := 6 }
theorem bd_L_needed (w0 w1 : wm_K) (ret : Option Value → wm_S → Prop) (hc : wm_cl w_L [] [] none [] [] ret tb_L_needed w0) (hc1 : wm_cl w_L [] [] none [] [] ret tb_L_needed w1) (hN : wm_hN w0 w1 4 2 f_P_needed) (hX : wm_hX w0 ret 4 2 f_P_needed hs_L_needed) : wm_TT w0 w1 tb_L_needed ret 0 9999 t_L_needed :=
  wm_tt_seq (p2 := 22) (wm_try_l hc (wm_x_rn hc rfl rfl) rfl (wm_a_c (wm_x_rn hc rfl rfl) (wm_a_1 (wm_x_in hc rfl rfl))) rfl rfl rfl hN hX (wm_pst_z (t5 := 0) hc1 rfl rfl rfl rfl rfl)) (wm_t_ret hc1 (wm_x_iconst hc1 rfl (by decide)) rfl rfl (fun _ _ _ _ q => q)) rfl
theorem c_L_needed {l : Launch} {D : va_G} {A : Nat → Prop} {ad : Nat → Nat} {cA : Nat → ClassId} (hl : l.stackTraces = false) (hY : wm_Y cl0 (tys0 cA) A ad cA w_L) {av : List Value} {v : Option Value} {S S' : wm_S} (hf : f_L_needed av S = some (v, S')) : Met l y_L_needed (cd_L_needed :: gw) rm_L_needed (va_Pc (av.map (wm_cv ad)) (fun U => wm_I D cl0 (tys0 cA) ad cA w_L S U ∧ wt_Z A U U.heap)) (wm_Q D cl0 (tys0 cA) A ad cA w_L v S') 1 6 A :=
  wt_law (hs := hs_L_needed) (f := f_P_needed) (n := 2) (ix := 40) (pX := 4) (by decide) rfl hY tk_L_needed
    ⟨y_P_needed, b_P_needed, 2, wm_rtT 3, cd_P_needed :: gw, gw, rm_P_needed, 1, 0, 4, T_P, x_P_needed hl hY, rfl, gw_V (gw_at 601 (by decide +kernel) rfl) gi_P_needed gs_P_needed gn_P cw_P_needed, rfl, rfl, ⟨by decide, by decide, by decide +kernel⟩, rfl, ⟨by decide, by decide⟩, rfl, fun vs S r h => (wt_fn_some (v := r.1) (S' := r.2) h).1⟩
    (by decide +kernel)
    (List.forall_mem_cons.mpr ⟨⟨[], [], 0, 16, 19, 19, 3, 1, 1, by decide, rfl, by decide, by decide, by decide, List.mem_cons_of_mem _ lk_1, (fun _ h => nomatch h), by decide, Or.inl ⟨rfl, 3, rfl, by decide +kernel⟩, by decide +kernel, by decide +kernel, by decide⟩, (fun _ h => nomatch h)⟩)
    ⟨by decide, by decide⟩ bd_L_needed hf
/-! law: ends -/
def y_L_ends : MethodName := ⟨"CodePrunerLaw", "ends", "(LCodePruner;II[J)I"⟩
abbrev b_L_ends : ByteArray := method_10_code
def tb_L_ends : List wm_R := [(0, .aload_n 3, 1, 0), (1, .iconst 0, 2, 0), (2, .aload_n 0, 3, 0), (3, .iload_n 1, 4, 0), (4, .iload_n 2, 5, 0), (5, .invokevirtual 44, 8, 0), (8, .i2l, 9, 0), (9, .lastore, 10, 0), (10, .goto 7, 13, 17), (13, .astore 4, 15, 0), (15, .iconst 1, 16, 0), (16, .ireturn, 17, 0), (17, .iconst 0, 18, 0), (18, .ireturn, 19, 0)]
theorem tk_L_ends : tb_L_ends.all (wm_rokb b_L_ends) = true := by decide +kernel
abbrev hh_L_ends : List (Nat × Nat × Nat × Nat) := [(0, 10, 13, 19)]
abbrev cd_L_ends : Cond := Cond.codeWith y_L_ends b_L_ends 5 (some .int) hh_L_ends
theorem cw_L_ends : cd_L_ends ∈ gw := gw_at 608 (by decide +kernel) rfl
theorem gi_L_ends : Cond.static y_L_ends ∈ gw := gw_at 607 (by decide +kernel) rfl
abbrev hs_L_ends : List (Nat × Int32) := [(1, 1)]
def t_L_ends : wm_St := ws_seq (ws_tl w_L wo_i2l hs_L_ends f_P_ends (wx_r 3) (wx_ac .ref (wx_r 0) (wx_ac .int (wx_i 1) (wx_a1 .int (wx_i 2))))) (ws_ret .int (wx_c 0))
def f_L_ends : List Value → wm_S → Option (Option Value × wm_S) := wm_fn wm_any 1 5 t_L_ends
def rm_L_ends : Room := { frames := 7, locals := 103, cells := 1, slots := 6 }
theorem bd_L_ends (w0 w1 : wm_K) (ret : Option Value → wm_S → Prop) (hc : wm_cl w_L [] [] none [] [] ret tb_L_ends w0) (hc1 : wm_cl w_L [] [] none [] [] ret tb_L_ends w1) (hN : wm_hN w0 w1 5 3 f_P_ends) (hX : wm_hX w0 ret 5 3 f_P_ends hs_L_ends) : wm_TT w0 w1 tb_L_ends ret 0 9999 t_L_ends :=
  wm_tt_seq (p2 := 17) (wm_try_l hc (wm_x_rn hc rfl rfl) rfl (wm_a_c (wm_x_rn hc rfl rfl) (wm_a_c (wm_x_in hc rfl rfl) (wm_a_1 (wm_x_in hc rfl rfl)))) rfl rfl rfl hN hX (wm_pst_i hc1 rfl rfl)) (wm_t_ret hc1 (wm_x_iconst hc1 rfl (by decide)) rfl rfl (fun _ _ _ _ q => q)) rfl
theorem c_L_ends {l : Launch} {D : va_G} {A : Nat → Prop} {ad : Nat → Nat} {cA : Nat → ClassId} (hl : l.stackTraces = false) (hY : wm_Y cl0 (tys0 cA) A ad cA w_L) {av : List Value} {v : Option Value} {S S' : wm_S} (hf : f_L_ends av S = some (v, S')) : Met l y_L_ends (cd_L_ends :: gw) rm_L_ends (va_Pc (av.map (wm_cv ad)) (fun U => wm_I D cl0 (tys0 cA) ad cA w_L S U ∧ wt_Z A U U.heap)) (wm_Q D cl0 (tys0 cA) A ad cA w_L v S') 1 6 A :=
  wt_law (hs := hs_L_ends) (f := f_P_ends) (n := 3) (ix := 44) (pX := 5) (by decide) rfl hY tk_L_ends
    ⟨y_P_ends, b_P_ends, 3, wm_rtT 1, cd_P_ends :: gw, gw, rm_P_ends, 2, 0, 4, T_P, x_P_ends hl hY, rfl, gw_V (gw_at 609 (by decide +kernel) rfl) gi_P_ends gs_P_ends gn_P cw_P_ends, rfl, rfl, ⟨by decide, by decide, by decide +kernel⟩, rfl, ⟨by decide, by decide⟩, rfl, fun vs S r h => (wt_fn_some (v := r.1) (S' := r.2) h).1⟩
    (by decide +kernel)
    (List.forall_mem_cons.mpr ⟨⟨[], [], 0, 10, 13, 19, 4, 1, 2, by decide, rfl, by decide, by decide, by decide, List.mem_cons_of_mem _ lk_1, (fun _ h => nomatch h), by decide, Or.inr ⟨rfl, by decide +kernel⟩, by decide +kernel, by decide +kernel, by decide⟩, (fun _ h => nomatch h)⟩)
    ⟨by decide, by decide⟩ bd_L_ends hf
/-! law: run -/
def y_L_run : MethodName := ⟨"CodePrunerLaw", "run", "(LCodePruner;ZII[J)I"⟩
abbrev b_L_run : ByteArray := method_11_code
def tb_L_run : List wm_R := [(0, .aload 4, 2, 0), (2, .iconst 0, 3, 0), (3, .aload_n 0, 4, 0), (4, .iload_n 1, 5, 0), (5, .iload_n 2, 6, 0), (6, .iload_n 3, 7, 0), (7, .invokevirtual 48, 10, 0), (10, .i2l, 11, 0), (11, .lastore, 12, 0), (12, .goto 11, 15, 23), (15, .astore 5, 17, 0), (17, .iconst 1, 18, 0), (18, .ireturn, 19, 0), (19, .astore 5, 21, 0), (21, .iconst 2, 22, 0), (22, .ireturn, 23, 0), (23, .iconst 0, 24, 0), (24, .ireturn, 25, 0)]
theorem tk_L_run : tb_L_run.all (wm_rokb b_L_run) = true := by decide +kernel
abbrev hh_L_run : List (Nat × Nat × Nat × Nat) := [(0, 12, 15, 13), (0, 12, 19, 30)]
abbrev cd_L_run : Cond := Cond.codeWith y_L_run b_L_run 6 (some .int) hh_L_run
theorem cw_L_run : cd_L_run ∈ gw := gw_at 615 (by decide +kernel) rfl
theorem gi_L_run : Cond.static y_L_run ∈ gw := gw_at 614 (by decide +kernel) rfl
abbrev hs_L_run : List (Nat × Int32) := [(0, 1), (3, 2)]
def t_L_run : wm_St := ws_seq (ws_tl w_L wo_i2l hs_L_run f_P_run (wx_r 4) (wx_ac .ref (wx_r 0) (wx_ac .int (wx_i 1) (wx_ac .int (wx_i 2) (wx_a1 .int (wx_i 3)))))) (ws_ret .int (wx_c 0))
def f_L_run : List Value → wm_S → Option (Option Value × wm_S) := wm_fn wm_any 1 6 t_L_run
def rm_L_run : Room := { frames := 7, locals := 122, cells := 1, slots := 6 }
theorem bd_L_run (w0 w1 : wm_K) (ret : Option Value → wm_S → Prop) (hc : wm_cl w_L [] [] none [] [] ret tb_L_run w0) (hc1 : wm_cl w_L [] [] none [] [] ret tb_L_run w1) (hN : wm_hN w0 w1 7 4 f_P_run) (hX : wm_hX w0 ret 7 4 f_P_run hs_L_run) : wm_TT w0 w1 tb_L_run ret 0 9999 t_L_run :=
  wm_tt_seq (p2 := 23) (wm_try_l hc (wm_x_r hc rfl) rfl (wm_a_c (wm_x_rn hc rfl rfl) (wm_a_c (wm_x_in hc rfl rfl) (wm_a_c (wm_x_in hc rfl rfl) (wm_a_1 (wm_x_in hc rfl rfl))))) rfl rfl rfl hN hX (wm_pst_i hc1 rfl rfl)) (wm_t_ret hc1 (wm_x_iconst hc1 rfl (by decide)) rfl rfl (fun _ _ _ _ q => q)) rfl
theorem c_L_run {l : Launch} {D : va_G} {A : Nat → Prop} {ad : Nat → Nat} {cA : Nat → ClassId} (hl : l.stackTraces = false) (hY : wm_Y cl0 (tys0 cA) A ad cA w_L) {av : List Value} {v : Option Value} {S S' : wm_S} (hf : f_L_run av S = some (v, S')) : Met l y_L_run (cd_L_run :: gw) rm_L_run (va_Pc (av.map (wm_cv ad)) (fun U => wm_I D cl0 (tys0 cA) ad cA w_L S U ∧ wt_Z A U U.heap)) (wm_Q D cl0 (tys0 cA) A ad cA w_L v S') 1 6 A :=
  wt_law (hs := hs_L_run) (f := f_P_run) (n := 4) (ix := 48) (pX := 7) (by decide) rfl hY tk_L_run
    ⟨y_P_run, b_P_run, 5, wm_rtT 1, cd_P_run :: gw, gw, rm_P_run, 3, 0, 4, T_P, x_P_run hl hY, rfl, gw_V (gw_at 616 (by decide +kernel) rfl) gi_P_run gs_P_run gn_P cw_P_run, rfl, rfl, ⟨by decide, by decide, by decide +kernel⟩, rfl, ⟨by decide, by decide⟩, rfl, fun vs S r h => (wt_fn_some (v := r.1) (S' := r.2) h).1⟩
    (by decide +kernel)
    (List.forall_mem_cons.mpr ⟨⟨[], [(0, 12, 19, 30)], 0, 12, 15, 13, 5, 1, 2, by decide, rfl, by decide, by decide, by decide, List.mem_cons_of_mem _ lk_0, (fun _ h => nomatch h), by decide, Or.inr ⟨rfl, by decide +kernel⟩, by decide +kernel, by decide +kernel, by decide⟩, List.forall_mem_cons.mpr ⟨⟨[(0, 12, 15, 13)], [], 0, 12, 19, 30, 5, 2, 2, by decide, rfl, by decide, by decide, by decide, List.mem_cons_of_mem _ lk_3, List.forall_mem_cons.mpr ⟨⟨by decide, 0, List.mem_cons_of_mem _ lk_0, by decide⟩, (fun _ h => nomatch h)⟩, by decide, Or.inr ⟨rfl, by decide +kernel⟩, by decide +kernel, by decide +kernel, by decide⟩, (fun _ h => nomatch h)⟩⟩)
    ⟨by decide, by decide⟩ bd_L_run hf
/-! law: out -/
def y_L_out : MethodName := ⟨"CodePrunerLaw", "out", "(LCodePruner;I[J)I"⟩
abbrev b_L_out : ByteArray := method_12_code
def tb_L_out : List wm_R := [(0, .aload_n 2, 1, 0), (1, .iconst 0, 2, 0), (2, .aload_n 0, 3, 0), (3, .iload_n 1, 4, 0), (4, .invokevirtual 52, 7, 0), (7, .i2l, 8, 0), (8, .lastore, 9, 0), (9, .goto 6, 12, 15), (12, .astore_n 3, 13, 0), (13, .iconst 1, 14, 0), (14, .ireturn, 15, 0), (15, .iconst 0, 16, 0), (16, .ireturn, 17, 0)]
theorem tk_L_out : tb_L_out.all (wm_rokb b_L_out) = true := by decide +kernel
abbrev hh_L_out : List (Nat × Nat × Nat × Nat) := [(0, 9, 12, 19)]
abbrev cd_L_out : Cond := Cond.codeWith y_L_out b_L_out 4 (some .int) hh_L_out
theorem cw_L_out : cd_L_out ∈ gw := gw_at 652 (by decide +kernel) rfl
theorem gi_L_out : Cond.static y_L_out ∈ gw := gw_at 651 (by decide +kernel) rfl
abbrev hs_L_out : List (Nat × Int32) := [(1, 1)]
def t_L_out : wm_St := ws_seq (ws_tl w_L wo_i2l hs_L_out f_P_out (wx_r 2) (wx_ac .ref (wx_r 0) (wx_a1 .int (wx_i 1)))) (ws_ret .int (wx_c 0))
def f_L_out : List Value → wm_S → Option (Option Value × wm_S) := wm_fn wm_any 1 4 t_L_out
def rm_L_out : Room := { frames := 7, locals := 102, cells := 1, slots := 6 }
theorem bd_L_out (w0 w1 : wm_K) (ret : Option Value → wm_S → Prop) (hc : wm_cl w_L [] [] none [] [] ret tb_L_out w0) (hc1 : wm_cl w_L [] [] none [] [] ret tb_L_out w1) (hN : wm_hN w0 w1 4 2 f_P_out) (hX : wm_hX w0 ret 4 2 f_P_out hs_L_out) : wm_TT w0 w1 tb_L_out ret 0 9999 t_L_out :=
  wm_tt_seq (p2 := 15) (wm_try_l hc (wm_x_rn hc rfl rfl) rfl (wm_a_c (wm_x_rn hc rfl rfl) (wm_a_1 (wm_x_in hc rfl rfl))) rfl rfl rfl hN hX (wm_pst_i hc1 rfl rfl)) (wm_t_ret hc1 (wm_x_iconst hc1 rfl (by decide)) rfl rfl (fun _ _ _ _ q => q)) rfl
theorem c_L_out {l : Launch} {D : va_G} {A : Nat → Prop} {ad : Nat → Nat} {cA : Nat → ClassId} (hl : l.stackTraces = false) (hY : wm_Y cl0 (tys0 cA) A ad cA w_L) {av : List Value} {v : Option Value} {S S' : wm_S} (hf : f_L_out av S = some (v, S')) : Met l y_L_out (cd_L_out :: gw) rm_L_out (va_Pc (av.map (wm_cv ad)) (fun U => wm_I D cl0 (tys0 cA) ad cA w_L S U ∧ wt_Z A U U.heap)) (wm_Q D cl0 (tys0 cA) A ad cA w_L v S') 1 6 A :=
  wt_law (hs := hs_L_out) (f := f_P_out) (n := 2) (ix := 52) (pX := 4) (by decide) rfl hY tk_L_out
    ⟨y_P_out, b_P_out, 2, wm_rtT 1, cd_P_out :: gw, gw, rm_P_out, 1, 0, 4, T_P, x_P_out hl hY, rfl, gw_V (gw_at 653 (by decide +kernel) rfl) gi_P_out gs_P_out gn_P cw_P_out, rfl, rfl, ⟨by decide, by decide, by decide +kernel⟩, rfl, ⟨by decide, by decide⟩, rfl, fun vs S r h => (wt_fn_some (v := r.1) (S' := r.2) h).1⟩
    (by decide +kernel)
    (List.forall_mem_cons.mpr ⟨⟨[], [], 0, 9, 12, 19, 3, 1, 1, by decide, rfl, by decide, by decide, by decide, List.mem_cons_of_mem _ lk_1, (fun _ h => nomatch h), by decide, Or.inl ⟨rfl, 3, rfl, by decide +kernel⟩, by decide +kernel, by decide +kernel, by decide⟩, (fun _ h => nomatch h)⟩)
    ⟨by decide, by decide⟩ bd_L_out hf
end WMLW

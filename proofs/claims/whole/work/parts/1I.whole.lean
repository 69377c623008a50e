/-! the law from its entry to its end, out of what its loop does as a function -/
section WNU
def w_lv0 : List Value := [.ref 69, .ref 0, .ref 47, .ref 68, .int 0, .retAddr 0, .retAddr 0]
/-- what is left: for every script the loop comes to its end, as a function -/
def w_pure : Prop := ∀ (L : Nat) (xs : Nat → Int32), L ≤ 3072 → ∃ lv' S', ws_loop (t_law_c (some (L, xs))) (t_law_b (some (L, xs))) 513 w_lv0 w_S0 = some (.inl (lv', S'))
def w_sl : Nat → Nat
  | 0 => 6417
  | k + 1 => w_sl k + 6
theorem w_sl_eq : ∀ k, w_sl k = 6417 + 6 * k
  | 0 => rfl
  | k + 1 => by rw [w_sl, w_sl_eq k]; omega
theorem wm_law_loopM {ret : Option Value → wm_S → Prop} {tb : List wm_R} {p0 p1 : Nat} {w : Nat → wm_K} {c : wm_Ex Bool} {b : wm_St} {M pT pG : Nat} (hm : ∀ k pc lv st S, w (k + 1) pc lv st S → w k pc lv st S) (hcd : ∀ k, k ≤ M → wm_B (w k) tb 0 p0 pT p1 c) (hb : ∀ k, k < M → wm_TT (w k) (w (k + 1)) tb ret pT pG b) (hT : wm_thr tb pT = pT) (hg : wm_thr tb pG = p0) : ∀ (n k : Nat), k + n ≤ M → ∀ lv S o, ws_loop c b n lv S = some o → (match o with
    | .inl (lv', S') => w M (wm_thr tb p1) lv' [] S'
    | .inr (v, S') => ret v S') → w k p0 lv [] S := by
  have hdown : ∀ d k pc lv st S, w (k + d) pc lv st S → w k pc lv st S := by
    intro d
    induction d with
    | zero => exact fun k pc lv st S h => h
    | succ d ih => exact fun k pc lv st S h => ih k pc lv st S (hm (k + d) pc lv st S h)
  intro n
  induction n with
  | zero => intro k _ lv S o hf; cases hf
  | succ n ih =>
    intro k hk lv S o hf ho
    unfold ws_loop at hf
    obtain ⟨t, S1, h1, hf⟩ := wx_bind_some hf
    refine (hcd k (by omega)).2 lv [] S t S1 wm_cs0 h1 ?_
    cases t with
    | true =>
      show w k (wm_thr tb pT) lv [] S1
      rw [hT]
      simp only [cond_true] at hf
      split at hf
      · rename_i lv2 S2 e
        refine hb k (by omega) lv S1 _ e ?_
        show w (k + 1) (wm_thr tb pG) lv2 [] S2
        rw [hg]
        exact ih (k + 1) (by omega) lv2 S2 o hf ho
      · rename_i hne
        refine hb k (by omega) lv S1 o hf ?_
        cases o with
        | inl q => exact absurd hf (hne q.1 q.2)
        | inr q => exact ho
    | false =>
      cases hf
      show w k (wm_thr tb p1) lv [] S1
      have e : M = k + (M - k) := by omega
      rw [e] at ho
      exact hdown (M - k) k _ _ _ _ ho
theorem w_noio : ∀ r ∈ tb_law_0, r.2.1 ≠ Instr.invokespecial 9999 := by
  have h : tb_law_0.all (fun r => match r.2.1 with
    | .invokespecial k => !(Nat.beq k 9999)
    | _ => true) = true := by decide +kernel
  intro r hr e
  have := List.all_eq_true.mp h r hr
  rw [e] at this
  cases this
theorem w_dec {pc nx tg k : Nat} {i : Instr} (h : wm_lp tb_law_0 pc = some (i, nx, tg)) (hk : wm_len i = k + 1) : decode code pc = .ok (i, k + 1) := (wn_row (wm_toks tk_law_0 _ (wm_lp_mem h)) hk).2
variable {p : Program} {e : Env} {s : State} {m : MethodId} {below : List Frame} {meth : Method} {c : Code} {l : Launch} {b L : Nat} {xs : Nat → Int32} {D : va_G} {cA : Nat → ClassId}
/-- a straight piece of the law's start -/
theorem w_seg {Q : State → Prop} {ls : Array Slot} (C0 : lw_At p s m meth c b L xs) (hK : va_K D cl0 (tys0 cA) s) (hls : ls.size = 7) {stop n pc : Nat} {st st' : List Value} {E E' : List wn_E} (hr : wn_run none 0 [] nw_law cf_law 9999 [] 601024 7293034 tb_law_0 stop n pc st E = some (st', E')) {H : Heap} {locs : List Loc} {cells slots : Nat} (hP : va_P D cl0 (wn_w s.heap.size cA E) H) (hS : va_S (wn_A s.heap.size) s.heap H locs) (hc : cells + 0 = E.length) (hz : slots + 0 = wn_sz E)
    (k : ∀ (H1 : Heap) (locs1 : List Loc) (cells1 slots1 : Nat), va_P D cl0 (wn_w s.heap.size cA E') H1 → va_S (wn_A s.heap.size) s.heap H1 locs1 → cells1 + 0 = E'.length → slots1 + 0 = wn_sz E' → W p l e room_1 s m #[Value.ref b] below meth c H1 locs1 cells1 slots1 Q (F0 m stop ls (st'.map (wn_cv s.heap.size)))) : W p l e room_1 s m #[Value.ref b] below meth c H locs cells slots Q (F0 m pc ls (st.map (wn_cv s.heap.size))) := by
  obtain ⟨hx, hb, -, hml, hown, hts, -⟩ := C0
  have hgw : ∀ w ∈ gw, w.before #[Value.ref b] s = true := fun w h => hts w (List.mem_filter.mp h).1
  have hT : ∀ w ∈ Tl, w.before #[Value.ref b] s = true := List.forall_mem_cons.mpr ⟨hgw _ gn_P, hgw⟩
  have hN := ls_N hts
  have hml2 : c.maxLocals = ls.size := by rw [hml, hls]
  exact wn_ok (o := none) (ci := 0) (pf := []) (nw := nw_law) (cf := cf_law) (io := 9999) (mi := []) (tb := tb_law_0) (E0 := 0) (Z0 := 0) (R := room_1) (Nc := 601024) (Ns := 7293034) (own := "CodePrunerLaw") (Ts := Tl) hx hb hml2 hown hT hK (Or.inr rfl) (fun a h => nomatch h) (wm_toks tk_law_0) rfl rfl rfl ⟨by decide, by decide⟩ (fun _ h => nomatch h)
    (List.forall_mem_cons.mpr ⟨⟨R_P, T_P, 4, ty_P, rfl, fun w h => List.mem_cons_of_mem _ (uw_P w h), tk_P, List.mem_cons_of_mem _ (gw_at 19 (by decide +kernel) rfl), List.mem_cons_of_mem _ (gw_at 20 (by decide +kernel) rfl), List.mem_cons_of_mem _ gn_P, rfl, by decide, fun g => rfl⟩, List.forall_mem_cons.mpr ⟨⟨R_Z, T_Z, 29, ty_Z, rfl, fun w h => List.mem_cons_of_mem _ (uw_Z w h), tk_Z, List.mem_cons_of_mem _ (gw_at 657 (by decide +kernel) rfl), List.mem_cons_of_mem _ (gw_at 658 (by decide +kernel) rfl), List.mem_cons_of_mem _ gn_Z, rfl, by decide, fun g => rfl⟩, fun _ h => nomatch h⟩⟩)
    (List.forall_mem_cons.mpr ⟨wn_callI (ns := w_ns) (y := y_P_init) (bytes := b_P_init) (maxL := 1) (wc := cd_P_init :: gw) (wc' := gw) (rc := rm_P_init) hx hb hml2 hown hT hK hN c_P_init (gw_in cw_P_init) rfl rfl rfl (List.mem_cons_of_mem _ (gw_at 21 (by decide +kernel) rfl)) (List.mem_cons_of_mem _ gn_P) (List.mem_cons_of_mem _ gi_P_init) ⟨by decide, by decide, by decide +kernel⟩ rfl ⟨by decide, by decide⟩, List.forall_mem_cons.mpr ⟨wn_callI (ns := w_ns) (y := y_Z_init) (bytes := b_Z_init) (maxL := 1) (wc := cd_Z_init :: gw) (wc' := gw) (rc := rm_Z_init) hx hb hml2 hown hT hK hN c_Z_init (gw_in cw_Z_init) rfl rfl rfl (List.mem_cons_of_mem _ (gw_at 659 (by decide +kernel) rfl)) (List.mem_cons_of_mem _ gn_Z) (List.mem_cons_of_mem _ gi_Z_init) ⟨by decide, by decide, by decide +kernel⟩ rfl ⟨by decide, by decide⟩, fun _ h => nomatch h⟩⟩)
    (Or.inr w_noio) ⟨List.mem_cons_of_mem _ wa_int, List.mem_cons_of_mem _ wa_long, List.mem_cons_of_mem _ wa_boolean⟩ (fun _ h => nomatch h) _ _ _ _ _ _ hr H locs cells slots hP hS hc hz k
/-- where place q lies -/
def w_ad (h0 b : Nat) : Nat → Nat := fun q => if q < 69 then h0 + w_pi.getD q 0 else b
theorem w_ad_lt {h0 b q : Nat} (h : q < 69) : w_ad h0 b q = h0 + w_pi.getD q 0 := by simp [w_ad, h]
theorem w_adY {h0 b : Nat} : wm_Y cl0 (tys0 cA) (wn_A h0) (w_ad h0 b) cA w_L := by
  refine w_Y (fun i j hi hj h => ?_) (fun i hi => ?_)
  · rw [w_ad_lt hi, w_ad_lt hj] at h
    exact w_inj i hi j hj (by omega)
  · rw [w_ad_lt hi]
    exact Nat.le_add_right _ _
set_option maxRecDepth 20000 in
/-- from the loop's head on -/
theorem w_loop (hpure : w_pure) (hl : l.stackTraces = false) (hL : L ≤ 3072) (C0 : lw_At p s m meth c b L xs) (hK : va_K D cl0 (tys0 cA) s) : wm_W p l e room_1 s m #[Value.ref b] below meth c (69 + 0) (w_sl 0) (lw_Z below #[Value.ref b] s) D cl0 (wn_A s.heap.size) (w_ad s.heap.size b) cA w_L 7 23 w_lv0 [] w_S0 := by
  obtain ⟨hx, hb, hr, hml, hown, hts, hX, hbl, hlocks, hgv⟩ := C0
  have hgw : ∀ w ∈ gw, w.before #[Value.ref b] s = true := fun w h => hts w (List.mem_filter.mp h).1
  have hT : ∀ w ∈ Tl, w.before #[Value.ref b] s = true := List.forall_mem_cons.mpr ⟨hgw _ gn_P, hgw⟩
  have hA : ∀ a : Nat, a < s.heap.size → ¬ wn_A s.heap.size a := fun a h q => by unfold wn_A at q; omega
  have hZ := ls_Z (A := wn_A s.heap.size) hts hgv hA
  have hY : wm_Y cl0 (tys0 cA) (wn_A s.heap.size) (w_ad s.heap.size b) cA w_L := w_adY
  have e69 : w_ad s.heap.size b w_L.length = b := rfl
  have X : wm_X p s m #[Value.ref b] c code "CodePrunerLaw" Tl D cl0 (tys0 cA) (wn_A s.heap.size) (w_ad s.heap.size b) cA w_L [] [] (some (L, xs)) := ⟨hx, hb, hown, hT, hK, hY.1, hY.2.1, hY.2.2, (fun _ h => nomatch h), (fun _ h => nomatch h), fun r h => by
    cases h
    rw [e69]
    exact ⟨hX, hbl, hA b hbl⟩⟩
  have hcl : ∀ k, k ≤ 513 → wm_cl w_L [] [] (some (L, xs)) cV_law [] (fun v _ => v = some (.int 1)) tb_law (wm_W p l e room_1 s m #[Value.ref b] below meth c (69 + k) (w_sl k) (lw_Z below #[Value.ref b] s) D cl0 (wn_A s.heap.size) (w_ad s.heap.size b) cA w_L 7) := by
    intro k hk pc i nx tg lv st S1 hlp hs
    have hsl := w_sl_eq k
    have hR : 69 + k ≤ room_1.cells ∧ w_sl k ≤ room_1.slots := ⟨by show 69 + k ≤ 601024; omega, by show w_sl k ≤ 7293034; omega⟩
    refine wm_step_ok (cV := cV_law) (cS := []) X (fun ix n f hm => wm_okV X hml hR (kV_law hY (ix, n, f) hm)) (fun _ _ _ h => nomatch h) ?_ ?_ ?_ (wm_toks tk_law _ (wm_lp_mem hlp)) (fun _ _ _ _ q => q) hs
    · intro x S2 hx1 pc lv hd H locs ls hP1 hS1 hl1
      cases hx1
      refine va_forget (fun q hq => hS1.2.2 q hq) ?_
      refine W.widen (k := 601024) (n := 7293034) (by omega) (by omega) ?_
      exact lw_ret hx hb hr hlocks hd
    · intro x S2 hx1
      cases hx1
    · intro S2 hx1
      cases hx1
  have hhL : ∀ k, k < 513 → wm_hL (wm_W p l e room_1 s m #[Value.ref b] below meth c (69 + k) (w_sl k) (lw_Z below #[Value.ref b] s) D cl0 (wn_A s.heap.size) (w_ad s.heap.size b) cA w_L 7) (wm_W p l e room_1 s m #[Value.ref b] below meth c (69 + (k + 1)) (w_sl (k + 1)) (lw_Z below #[Value.ref b] s) D cl0 (wn_A s.heap.size) (w_ad s.heap.size b) cA w_L 7) tb_law cL_law := by
    intro k hk ix n f hm pc tg hlp lv vs rest v S S' hn hcs hf hk1
    have hsl := w_sl_eq k
    have hR : 69 + k + 1 ≤ room_1.cells ∧ w_sl k + 6 ≤ room_1.slots := ⟨by show 69 + k + 1 ≤ 601024; omega, by show w_sl k + 6 ≤ 7293034; omega⟩
    exact wt_okL X hZ hml hR (kL_law hl hY (ix, n, f) hm) pc lv vs rest v S S' (wn_row (wm_toks tk_law _ (wm_lp_mem hlp)) rfl).2 hn hcs hf hk1
  have hm : ∀ k pc lv st S, wm_W p l e room_1 s m #[Value.ref b] below meth c (69 + (k + 1)) (w_sl (k + 1)) (lw_Z below #[Value.ref b] s) D cl0 (wn_A s.heap.size) (w_ad s.heap.size b) cA w_L 7 pc lv st S → wm_W p l e room_1 s m #[Value.ref b] below meth c (69 + k) (w_sl k) (lw_Z below #[Value.ref b] s) D cl0 (wn_A s.heap.size) (w_ad s.heap.size b) cA w_L 7 pc lv st S :=
    fun k pc lv st S h H locs ls hP hS hl => W.widen (by omega) (Nat.le_add_right _ _) (h H locs ls hP hS hl)
  obtain ⟨lv', S', hf⟩ := hpure L xs hL
  refine wm_law_loopM (w := fun k => wm_W p l e room_1 s m #[Value.ref b] below meth c (69 + k) (w_sl k) (lw_Z below #[Value.ref b] s) D cl0 (wn_A s.heap.size) (w_ad s.heap.size b) cA w_L 7) (tb := tb_law) (ret := fun v _ => v = some (.int 1)) (p1 := 865) (pT := 33) (pG := 862) (M := 513) hm (fun k hk => bd_law_c (hcl k hk)) (fun k hk => bd_law_b (hcl k (by omega)) (hcl (k + 1) (by omega)) (hhL k hk) (hm k)) (by decide +kernel) (by decide +kernel) 513 0 (by omega) w_lv0 w_S0 _ hf ?_
  have e1 : wm_thr tb_law 865 = 865 := by decide +kernel
  show wm_W p l e room_1 s m #[Value.ref b] below meth c (69 + 513) (w_sl 513) (lw_Z below #[Value.ref b] s) D cl0 (wn_A s.heap.size) (w_ad s.heap.size b) cA w_L 7 (wm_thr tb_law 865) lv' [] S'
  rw [e1]
  refine hcl 513 (Nat.le_refl _) 865 (.iconst 1) 866 0 lv' [] S' rfl ?_
  show wm_W p l e room_1 s m #[Value.ref b] below meth c (69 + 513) (w_sl 513) (lw_Z below #[Value.ref b] s) D cl0 (wn_A s.heap.size) (w_ad s.heap.size b) cA w_L 7 866 lv' [.int 1] S'
  refine hcl 513 (Nat.le_refl _) 866 .ireturn 867 0 lv' [.int 1] S' rfl ?_
  rfl
theorem w_sz4 : wn_sz w_E4 = 6417 := by decide +kernel
theorem w_whole (hpure : w_pure) {p : Program} {e : Env} {s : State} {m : MethodId} {below : List Frame} {meth : Method} {c : Code} (l : Launch) (hl : l.stackTraces = false) {b L : Nat} {xs : Nat → Int32} (hL : L ≤ 3072) (C0 : lw_At p s m meth c b L xs) : W p l e room_1 s m #[Value.ref b] below meth c s.heap [] 0 0 (lw_Z below #[Value.ref b] s) (entryFrame m ([Value.ref b] : List Value).toArray 7) := by
  obtain ⟨D, cA, hK⟩ := ls_K C0.2.2.2.2.2.1
  have hx := C0.1
  have hb := C0.2.1
  rw [lg_entry_eq]
  have hl0 := lv_entry ([.ref b]) (n := 7) (Nat.le_of_ble_eq_true rfl)
  generalize (lg_sl ([.ref b]) ++ List.replicate (7 - (lg_sl ([.ref b])).length) Slot.unset).toArray = ls at hl0 ⊢
  refine w_seg (st := []) (E := []) C0 hK hl0.1 w_r1 (fun k q h => by simp [wn_w] at h) va_S.rf rfl rfl (fun H1 locs1 c1 s1 hP1 hS1 hc1 hz1 => ?_)
  refine lv_astore_n (i := 1) hx hb (w_dec rfl rfl) rfl hl0 (by decide) rfl (fun ls1 hl1 => ?_)
  refine w_seg (st := []) C0 hK hl1.1 w_r2 hP1 hS1 hc1 hz1 (fun H2 locs2 c2 s2 hP2 hS2 hc2 hz2 => ?_)
  refine lv_astore_n (i := 2) hx hb (w_dec rfl rfl) rfl hl1 (by decide) rfl (fun ls2 hl2 => ?_)
  refine w_seg (st := []) C0 hK hl2.1 w_r3 hP2 hS2 hc2 hz2 (fun H3 locs3 c3 s3 hP3 hS3 hc3 hz3 => ?_)
  refine lv_astore_n (i := 3) hx hb (w_dec rfl rfl) rfl hl2 (by decide) rfl (fun ls3 hl3 => ?_)
  refine lv_iconst hx hb (w_dec rfl rfl) rfl ?_
  refine lv_istore hx hb (w_dec rfl rfl) hl3 (by decide) rfl (fun ls4 hl4 => ?_)
  have e1 : c3 = 69 := hc3
  have e2 : s3 = 6417 := hz3.trans w_sz4
  subst e1
  subst e2
  have hl5 : lv_has ls4 7 [(4, .int 0), (3, .ref (s.heap.size + 68)), (2, .ref (s.heap.size + 47)), (1, .ref (s.heap.size + 0)), (0, .ref b)] := hl4
  refine w_loop hpure hl hL C0 hK H3 locs3 ls4 (w_start (fun n hn => w_ad_lt hn) hP3) hS3 ⟨⟨hl4.1, hl4.2.1, fun _ h => nomatch h⟩, rfl, fun i v hv => ?_⟩
  match i with
  | 0 => cases hv; exact Or.inr (lv_at hl5 4 rfl)
  | 1 => cases hv; exact Or.inr (lv_at hl5 3 rfl)
  | 2 => cases hv; exact Or.inr (lv_at hl5 2 rfl)
  | 3 => cases hv; exact Or.inr (lv_at hl5 1 rfl)
  | 4 => cases hv; exact Or.inr (lv_at hl5 0 rfl)
  | 5 => cases hv; exact Or.inl ⟨_, rfl⟩
  | 6 => cases hv; exact Or.inl ⟨_, rfl⟩
  | n + 7 => cases hv
end WNU

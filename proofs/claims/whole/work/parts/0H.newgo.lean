section WNC
variable {p : Program} {l : Launch} {e : Env} {R : Room} {s : State} {m : MethodId} {args : Array Value} {below : List Frame} {meth : Method} {c : Code} {Q : State → Prop}
variable {cc : ByteArray} {own : String} {Ts : List Cond} {D : va_G} {cl : List vw_C} {cA : Nat → ClassId} {nL h0 ci io Nc Ns E0 Z0 : Nat} {o : Option Nat} {pf : List (Nat × Nat × FieldType)} {nw : List (Nat × Nat × List Value)} {cf : List (Nat × Nat × Nat × wn_F)} {mi : List Nat} {tb : List wm_R} {ls : Array Slot} {stop : Nat}
theorem wn_row {pc nx tg k : Nat} {i : Instr} (hr : wm_rok cc (pc, i, nx, tg)) (hk : wm_len i = k + 1) : nx = pc + (k + 1) ∧ decode cc pc = .ok (i, k + 1) := by
  obtain ⟨h1, h2, -⟩ := hr
  dsimp only at h1 h2
  have e1 : nx = pc + (k + 1) := by
    rcases h1 with h1 | h1
    · omega
    · rw [h1, hk]
  exact ⟨e1, by rw [h2, e1, Nat.add_sub_cancel_left]⟩
theorem wn_sz_cons (e : wn_E) (F : List wn_E) : wn_sz (e :: F) = wn_sz [e] + wn_sz F := by simp [wn_sz]
/-- a constructor's call, at an index -/
def wn_cok (p : Program) (l : Launch) (e : Env) (R : Room) (s : State) (m : MethodId) (args : Array Value) (below : List Frame) (meth : Method) (c : Code) (Q : State → Prop) (cc : ByteArray) (D : va_G) (cl : List vw_C) (cA : Nat → ClassId) (h0 : Nat) (ls : Array Slot) (q : Nat × Nat × Nat × wn_F) : Prop :=
  ∀ pc a r E E1 H locs cells slots, decode cc pc = .ok (.invokespecial q.1, 3) → wm_cs r ≤ 8 → q.2.2.2 a E = some E1 → cells + q.2.1 ≤ R.cells → slots + q.2.2.1 ≤ R.slots → H.size = h0 + E.length → va_P D cl (wn_w h0 cA E) H → va_S (wn_A h0) s.heap H locs →
    (∀ H1 locs1, va_P D cl (wn_w h0 cA E1) H1 → va_S (wn_A h0) s.heap H1 locs1 → W p l e R s m args below meth c H1 locs1 (cells + q.2.1) (slots + q.2.2.1) Q (F0 m (pc + 3) ls (r.map (wn_cv h0)))) → W p l e R s m args below meth c H locs cells slots Q (F0 m pc ls (.ref (h0 + a) :: r.map (wn_cv h0)))
set_option maxHeartbeats 2000000 in
theorem wn_ok (hx : p.tables.exec = Jvm.exec) (hb : c.code = cc) (hml : c.maxLocals = ls.size) (hown : s.vm.findClass own = some m.cls) (hts : ∀ w ∈ Ts, w.before args s = true) (hK : va_K D cl (wn_ty cA) s) (hin : meth.name = "<init>" ∨ pf = []) (hl0 : ∀ a, o = some a → ls[0]? = some (.val (.ref (h0 + a)))) (ht : ∀ r ∈ tb, wm_rok cc r)
    (hE : s.heap.size = h0 + E0) (hNc : E0 + R.cells = Nc) (hNs : Z0 + R.slots = Ns) (hR : 1 ≤ R.frames ∧ 20 ≤ R.locals) (hpf : ∀ r ∈ pf, wn_pok own Ts cl ci r) (hnw : ∀ r ∈ nw, wn_nok own Ts cl r) (hcf : ∀ q ∈ cf, wn_cok p l e R s m args below meth c Q cc D cl cA h0 ls q)
    (hio : Cond.methodLink own io Lib.objectInit ∈ Ts ∧ Cond.instanceMethod Lib.objectInit ∈ Ts ∧ Cond.code Lib.objectInit ⟨#[0xb1]⟩ 1 none ∈ Ts ∨ ∀ r ∈ tb, r.2.1 ≠ .invokespecial io) (har : Cond.arrayClass .int ∈ Ts ∧ Cond.arrayClass .long ∈ Ts ∧ Cond.arrayClass .boolean ∈ Ts)
    (hmi : ∀ ix ∈ mi, Cond.classLink own ix ("[" ++ (FieldType.array .int).toString) ∈ Ts ∧ (Cond.arrayOver (.array .int)).before args s = true) :
    ∀ (n pc : Nat) (st : List Value) (E : List wn_E) (st' : List Value) (E' : List wn_E), wn_run o ci pf nw cf io mi Nc Ns tb stop n pc st E = some (st', E') → ∀ (H : Heap) (locs : List Loc) (cells slots : Nat), va_P D cl (wn_w h0 cA E) H → va_S (wn_A h0) s.heap H locs → cells + E0 = E.length → slots + Z0 = wn_sz E →
      (∀ (H1 : Heap) (locs1 : List Loc) (cells1 slots1 : Nat), va_P D cl (wn_w h0 cA E') H1 → va_S (wn_A h0) s.heap H1 locs1 → cells1 + E0 = E'.length → slots1 + Z0 = wn_sz E' → W p l e R s m args below meth c H1 locs1 cells1 slots1 Q (F0 m stop ls (st'.map (wn_cv h0)))) → W p l e R s m args below meth c H locs cells slots Q (F0 m pc ls (st.map (wn_cv h0))) := by
  have hA : ∀ q, s.heap.size ≤ q → wn_A h0 q := fun q h => by unfold wn_A; omega
  intro n
  induction n with
  | zero => intro pc st E st' E' h; cases h
  | succ n ih =>
    intro pc st E st' E' h H locs cells slots hP hS hc hz K
    unfold wn_run at h
    cases hst : Nat.beq pc stop with
    | true =>
      rw [hst] at h
      cases h
      have e1 : pc = stop := Nat.eq_of_beq_eq_true hst
      subst e1
      exact K H locs cells slots hP hS hc hz
    | false =>
      rw [hst] at h
      simp only [cond_false] at h
      split at h
      · rename_i j nx tg hlp
        obtain ⟨rfl, hd⟩ := wn_row (k := 0) (ht _ (wm_lp_mem hlp)) rfl
        split at h
        · rename_i a
          cases hj : Nat.beq j.val 0 with
          | false => rw [hj] at h; cases h
          | true =>
            rw [hj] at h
            exact lv_aload_n hx hb hd (Nat.eq_of_beq_eq_true hj) (hl0 a rfl) (ih _ _ _ _ _ h H locs cells slots hP hS hc hz K)
        · cases h
      · rename_i nx tg hlp
        obtain ⟨rfl, hd⟩ := wn_row (k := 0) (ht _ (wm_lp_mem hlp)) rfl
        split at h
        · exact lv_dup hx hb hd rfl (ih _ _ _ _ _ h H locs cells slots hP hS hc hz K)
        · cases h
      · rename_i z nx tg hlp
        obtain ⟨rfl, hd⟩ := wn_row (k := 0) (ht _ (wm_lp_mem hlp)) rfl
        exact lv_iconst hx hb hd rfl (ih _ _ _ _ _ h H locs cells slots hP hS hc hz K)
      · rename_i z nx tg hlp
        obtain ⟨rfl, hd⟩ := wn_row (k := 1) (ht _ (wm_lp_mem hlp)) rfl
        exact lv_bipush hx hb hd rfl (ih _ _ _ _ _ h H locs cells slots hP hS hc hz K)
      · rename_i z nx tg hlp
        obtain ⟨rfl, hd⟩ := wn_row (k := 2) (ht _ (wm_lp_mem hlp)) rfl
        exact lv_sipush hx hb hd rfl (ih _ _ _ _ _ h H locs cells slots hP hS hc hz K)
      · rename_i z nx tg hlp
        obtain ⟨rfl, hd⟩ := wn_row (k := 0) (ht _ (wm_lp_mem hlp)) rfl
        exact lv_lconst hx hb hd rfl (ih _ _ _ _ _ h H locs cells slots hP hS hc hz K)
      · -- newarray
        rename_i t nx tg hlp
        obtain ⟨rfl, hd⟩ := wn_row (k := 1) (ht _ (wm_lp_mem hlp)) rfl
        split at h
        · rename_i k r kd hkd
          cases hq : (decide (k < 0) || !(Nat.ble (E.length + 1) Nc && (Nat.ble (wn_sz E + k.toNatClampNeg) Ns && Nat.ble (k.toNatClampNeg * 8) 536870912))) with
          | true => rw [hq] at h; cases h
          | false =>
            rw [hq] at h
            simp only [cond_false] at h
            simp only [Bool.or_eq_false_iff, decide_eq_false_iff_not, Bool.not_eq_false', Bool.and_eq_true] at hq
            obtain ⟨q1, q2, q3, q4⟩ := hq
            have q2 := Nat.le_of_ble_eq_true q2
            have q3 := Nat.le_of_ble_eq_true q3
            have q4 := Nat.le_of_ble_eq_true q4
            refine wn_sized (fun hsz => ?_)
            have hex := wn_exact hsz hE hc hP hS
            have hty : (kd = 0 ∧ newarray.typeOf t = .int) ∨ (kd = 1 ∧ newarray.typeOf t = .long) ∨ (kd = 3 ∧ newarray.typeOf t = .boolean) := by
              cases t <;> simp [wn_kd] at hkd <;> subst hkd <;> simp [newarray.typeOf]
            have hw : (Cond.arrayClass (newarray.typeOf t)).before args s = true := by
              rcases hty with ⟨-, e⟩ | ⟨-, e⟩ | ⟨-, e⟩ <;> rw [e]
              · exact hts _ har.1
              · exact hts _ har.2.1
              · exact hts _ har.2.2
            have hby : k.toNatClampNeg * componentBytes (newarray.typeOf t) ≤ 536870912 := by
              rcases hty with ⟨-, e⟩ | ⟨-, e⟩ | ⟨-, e⟩ <;> rw [e] <;> simp [componentBytes] <;> omega
            refine va_newaK hx hb hw rfl hd rfl q1 rfl hby (by omega) (by omega) hex (fun H1 cA' e1 z1 o1 hAr hNm => ?_)
            have hcl := wn_class hK hty hNm
            refine ih _ _ _ _ _ h H1 locs (cells + 1) (slots + k.toNatClampNeg) (wn_push hP (fun q hq => o1 q (by omega)) (wn_arrAt hty hcl e1)) ⟨by have := hS.1; omega, fun q g1 g2 => (o1 q (by have := hS.1; omega)).trans (hS.2.1 q g1 g2), hS.2.2⟩ (by simp; omega) (by rw [wn_sz_app, wn_sz_ar]; omega) K
        · cases h
      · -- new
        rename_i ix nx tg hlp
        obtain ⟨rfl, hd⟩ := wn_row (k := 2) (ht _ (wm_lp_mem hlp)) rfl
        split at h
        · rename_i cj fs hnx
          obtain ⟨C, T, N, ty, g1, g2, g3, g4, g5, g6, g7, g8, g9⟩ := hnw _ (wm_lp_mem hnx)
          dsimp only at g1 g4 g7 g8 g9
          cases hq : (Nat.ble (E.length + 1) Nc && Nat.ble (wn_sz E + fs.length) Ns) with
          | false => rw [hq] at h; cases h
          | true =>
            rw [hq] at h
            simp only [cond_true] at h
            simp only [Bool.and_eq_true] at hq
            have q2 := Nat.le_of_ble_eq_true hq.1
            have q3 := Nat.le_of_ble_eq_true hq.2
            refine wn_sized (fun hsz => ?_)
            have hex := wn_exact hsz hE hc hP hS
            have hKn := hK.1 cj _ g1
            refine W.newcK hx hb hown (hts _ g4) (hts _ g5) (hts _ g6) rfl hd (by omega) (by omega) hKn.2.1 hex (fun H1 kC hkC e1 z1 o1 => ?_)
            refine ih _ _ _ _ _ h H1 locs (cells + 1) (slots + N) (wn_push hP (fun q hq => o1 q (by omega)) (by rw [show wn_ce h0 cA (.inr (cj, fs)) = .inr (cj, fs) from by simp only [wn_ce, g9]]; exact ⟨_, g1, (u_born ty hts g2 hKn hkC e1 g3).to g8⟩)) ⟨by have := hS.1; omega, fun q u1 u2 => (o1 q (by have := hS.1; omega)).trans (hS.2.1 q u1 u2), hS.2.2⟩ (by simp; omega) (by rw [wn_sz_app]; simp [wn_sz] at hz ⊢; omega) K
        · cases h
      · -- putfield
        rename_i ix nx tg hlp
        obtain ⟨rfl, hd⟩ := wn_row (k := 2) (ht _ (wm_lp_mem hlp)) rfl
        split at h
        · rename_i v a r j ty hpx
          split at h
          · rename_i cj fs hEa
            cases hq : (Nat.beq cj ci && (Nat.blt j fs.length && wn_fit ty v)) with
            | false => rw [hq] at h; cases h
            | true =>
              rw [hq] at h
              simp only [cond_true] at h
              simp only [Bool.and_eq_true] at hq
              obtain ⟨q1, q3, q4⟩ := hq
              have q1 : cj = ci := Nat.eq_of_beq_eq_true q1
              subst q1
              have q3 : j < fs.length := Nat.le_of_ble_eq_true q3
              have q4 := wn_fit_ok (h0 := h0) q4
              obtain ⟨T, N, ty0, g1, g2, g3, g4, g5, g6, g7, g8⟩ := hpf _ (wm_lp_mem hpx)
              dsimp only at g5 g6 g7 g8
              have hinit : meth.name = "<init>" := hin.resolve_right (fun q => by rw [q] at hpx; cases hpx)
              have hkk : ∀ (H1 : Heap) (locs1 : List Loc), va_P D cl ((wn_w h0 cA E).set a (h0 + a, .inr (cj, (fs.map (wn_cv h0)).set j (wn_cv h0 v)))) H1 → va_D (wn_A h0) ((wn_w h0 cA E).set a (h0 + a, .inr (cj, (fs.map (wn_cv h0)).set j (wn_cv h0 v)))) → va_S (wn_A h0) s.heap H1 locs1 → W p l e R s m args below meth c H1 locs1 cells slots Q (F0 m (pc + 3) ls (r.map (wn_cv h0))) := by
                intro H1 locs1 hP1 _ hS1
                rw [show (Sum.inr (cj, (fs.map (wn_cv h0)).set j (wn_cv h0 v)) : va_E) = wn_ce h0 cA (Sum.inr (cj, fs.set j v)) from by simp only [wn_ce, List.map_set], wn_set] at hP1
                exact ih _ _ _ _ _ h H1 locs1 cells slots hP1 hS1 (by simp; omega) (by rw [wn_sz_set hEa (by simp)]; exact hz) K
              cases hf : (T j).2.2.2 with
              | false => exact va_put (ref := own) hx hb hts g2 ty0 g3 g4 hown hK hP (wn_D h0 cA E) hS a (wn_at hEa) g1 j g5 (hts _ g6) (fun x hx => by rw [g7] at hx; exact hx) hf (by rw [g3 j g5, g8]) q4.1 q4.2 (by simpa using q3) hd hkk
              | true => exact va_putF (ref := own) hx hb hts g2 ty0 g3 g4 hown hK hP (wn_D h0 cA E) hS a (wn_at hEa) g1 j g5 (hts _ g6) (fun x hx => by rw [g7] at hx; exact hx) hf hinit g7 (by rw [g3 j g5, g8]) q4.1 q4.2 (by simpa using q3) hd hkk
          · cases h
        · cases h
      · -- invokespecial
        rename_i ix nx tg hlp
        obtain ⟨rfl, hd⟩ := wn_row (k := 2) (ht _ (wm_lp_mem hlp)) rfl
        split at h
        · rename_i a r
          cases hq : Nat.beq ix io with
          | true =>
            rw [hq] at h
            simp only [cond_true] at h
            have e1 : ix = io := Nat.eq_of_beq_eq_true hq
            subst e1
            cases hr : Nat.ble (wm_cs r) 8 with
            | false => rw [hr] at h; cases h
            | true =>
              rw [hr] at h
              simp only [cond_true] at h
              have hr8 := Nat.le_of_ble_eq_true hr
              rcases hio with ⟨w1, w2, w3⟩ | hno
              · refine W.objInit hx hb hown (hts _ w1) (hts _ w2) (hts _ w3) (g := F0 m pc ls ((.ref a :: r).map (wn_cv h0))) rfl hml.symm rfl hd hR.1 (by show 2 * 0 + ((r.map (wn_cv h0)).map fun v => v.category).sum + 12 ≤ R.locals; have h9 : ((r.map (wn_cv h0)).map fun v => v.category).sum ≤ 8 := wm_rest (ad := fun k => h0 + k) hr8; omega) ?_
                exact ih _ _ _ _ _ h H locs cells slots hP hS hc hz K
              · exact absurd rfl (hno _ (wm_lp_mem hlp))
          | false =>
            rw [hq] at h
            simp only [cond_false] at h
            split at h
            · rename_i mc ms f hcx
              split at h
              · rename_i E1 hE1
                cases hr : (Nat.ble (wm_cs r) 8 && (Nat.beq E1.length (E.length + mc) && (Nat.beq (wn_sz E1) (wn_sz E + ms) && (Nat.ble E1.length Nc && Nat.ble (wn_sz E1) Ns)))) with
                | false => rw [hr] at h; cases h
                | true =>
                  rw [hr] at h
                  simp only [cond_true] at h
                  simp only [Bool.and_eq_true] at hr
                  obtain ⟨r1, r2, r3, r4, r5⟩ := hr
                  have r1 := Nat.le_of_ble_eq_true r1
                  have r2 := Nat.eq_of_beq_eq_true r2
                  have r3 := Nat.eq_of_beq_eq_true r3
                  have r4 := Nat.le_of_ble_eq_true r4
                  have r5 := Nat.le_of_ble_eq_true r5
                  refine wn_sized (fun hsz => ?_)
                  have hex := wn_exact hsz hE hc hP hS
                  exact hcf _ (wm_lp_mem hcx) pc a r E E1 H locs cells slots hd r1 hE1 (by show cells + mc ≤ _; omega) (by show slots + ms ≤ _; omega) hex hP hS (fun H1 locs1 hP1 hS1 => ih _ _ _ _ _ h H1 locs1 (cells + mc) (slots + ms) hP1 hS1 (by omega) (by omega) K)
              · cases h
            · cases h
        · cases h
      · -- multianewarray
        rename_i ix nx tg hlp
        obtain ⟨rfl, hd⟩ := wn_row (k := 3) (ht _ (wm_lp_mem hlp)) rfl
        split at h
        · rename_i k mm r
          cases hq : (mi.contains ix && (!decide (mm < 0) && (!decide (k < 0) && (Nat.ble (E.length + (1 + mm.toNatClampNeg)) Nc && (Nat.ble (wn_sz E + (mm.toNatClampNeg + mm.toNatClampNeg * k.toNatClampNeg)) Ns && (Nat.ble (mm.toNatClampNeg * 8) 536870912 && Nat.ble (k.toNatClampNeg * 8) 536870912)))))) with
          | false => rw [hq] at h; cases h
          | true =>
            rw [hq] at h
            simp only [cond_true] at h
            simp only [Bool.and_eq_true, Bool.not_eq_true', decide_eq_false_iff_not] at hq
            obtain ⟨q0, q1, q2, q3, q4, q5, q6⟩ := hq
            have q3 := Nat.le_of_ble_eq_true q3
            have q4 := Nat.le_of_ble_eq_true q4
            have q5 := Nat.le_of_ble_eq_true q5
            have q6 := Nat.le_of_ble_eq_true q6
            obtain ⟨w1, w2⟩ := hmi ix (List.contains_iff_mem.mp q0)
            refine wn_sized (fun hsz => ?_)
            have hex := wn_exact hsz hE hc hP hS
            intro T hT Xs
            obtain ⟨vm₁, cO, comp, -, fA, fC, hO, -, X', step⟩ := Xs.multianewarray2F hx hown (hts _ w1) w2 (hts _ har.1) (g := F0 m pc ls (.int k :: .int mm :: r.map (wn_cv h0))) rfl (by rw [hb]; exact hd) rfl q1 q2 (by omega) (by simp [componentBytes]; omega) (by omega) rfl rfl (by omega) (by omega)
            have ecO : cO = cA 2 := Option.some.inj (fA.symm.trans (hK.2 2 (cA 2, .array .int) rfl).2)
            have ecI : comp = cA 0 := Option.some.inj (fC.symm.trans (hK.2 0 (cA 0, .int) rfl).2)
            subst ecO
            subst ecI
            generalize hF : Jvm.Free.Multi.fill (T.setVm vm₁) (cA 2) (cA 0) mm.toNatClampNeg k.toNatClampNeg (defaultValue .int) mm.toNatClampNeg = F at X' step
            have hTh : (T.setVm vm₁).heap = H := hT
            obtain ⟨f1, f2, -, -⟩ := Jvm.Free.Multi.fill_facts (T.setVm vm₁) (cA 2) (cA 0) mm.toNatClampNeg k.toNatClampNeg (defaultValue .int) mm.toNatClampNeg
            rw [hF, hTh] at f1 f2
            have hold : ∀ x : Nat, x < H.size → F.heap[x]? = H[x]? := fun x hx => by
              have := Jvm.Free.Multi.fill_old (T.setVm vm₁) (cA 2) (cA 0) mm.toNatClampNeg k.toNatClampNeg (defaultValue .int) (a := x) (by rw [hTh]; exact hx) mm.toNatClampNeg
              rw [hF, hTh] at this
              exact this
            have hrow : ∀ j : Nat, j < mm.toNatClampNeg → va_at D cl (H.size + 1 + j, wn_ce h0 cA (wn_ar 0 k.toNatClampNeg)) F.heap := fun j hj => by
              have := Jvm.Free.Multi.fill_inner (T.setVm vm₁) (cA 2) (cA 0) mm.toNatClampNeg k.toNatClampNeg (defaultValue .int) mm.toNatClampNeg j hj
              rw [hF, hTh] at this
              refine wn_arrAt (Or.inl ⟨rfl, rfl⟩) rfl (this.trans ?_)
              show some ({ cls := cA 0, slots := Array.replicate k.toNatClampNeg (defaultValue .int), vm := .none } : Cell) = _
              rw [arrV_new]
            have hout : va_at D cl (H.size, wn_ce h0 cA (.inl (2, mm.toNatClampNeg, E.length + 1))) F.heap := by
              show F.heap[H.size]? = some (vp_cell (cA 2) (mm.toNatClampNeg, .inr (.inr (.inr (.inr (fun i => some (h0 + (E.length + 1 + i))))))))
              rw [f2, wn_outer, vp_cell_q]
              refine congrArg some (arrV_ext (fun j hj => ?_))
              simp only [hj, if_true, hex]
              exact congrArg (fun x => va_rf (some x)) (by omega)
            have hP1 : va_P D cl (wn_w h0 cA (E ++ .inl (2, mm.toNatClampNeg, E.length + 1) :: List.replicate mm.toNatClampNeg (wn_ar 0 k.toNatClampNeg))) F.heap := by
              intro j q hq
              obtain ⟨e1, g1, rfl⟩ := wn_of hq
              by_cases hl : j < E.length
              · rw [List.getElem?_append_left hl] at g1
                have := hP j _ (wn_at g1)
                exact this.kept (hold _ this.lt)
              · rw [List.getElem?_append_right (by omega)] at g1
                by_cases hl2 : j = E.length
                · subst hl2
                  simp at g1
                  subst g1
                  have h9 := hout
                  rw [hex] at h9
                  exact h9
                · obtain ⟨i, rfl⟩ : ∃ i, j = E.length + 1 + i := ⟨j - E.length - 1, by omega⟩
                  rw [show E.length + 1 + i - E.length = i + 1 by omega, List.getElem?_cons_succ, List.getElem?_replicate] at g1
                  split at g1
                  · rename_i hi
                    cases g1
                    have := hrow i hi
                    rw [hex] at this
                    rw [show h0 + (E.length + 1 + i) = h0 + E.length + 1 + i by omega]
                    exact this
                  · cases g1
            have hS1 : va_S (wn_A h0) s.heap F.heap locs := ⟨by rw [f1]; have := hS.1; omega, fun x h1 h2 => (hold x (Nat.lt_of_lt_of_le h1 hS.1)).trans (hS.2.1 x h1 h2), hS.2.2⟩
            have hgo := ih _ _ _ _ _ h F.heap locs (cells + 1 + mm.toNatClampNeg) (slots + mm.toNatClampNeg + mm.toNatClampNeg * k.toNatClampNeg) hP1 hS1 (by simp; omega) (by
              rw [wn_sz_app, wn_sz_cons, wn_sz_rep]
              simp only [wn_sz, List.map_cons, List.map_nil, List.sum_cons, List.sum_nil] at hz ⊢
              omega) K
            obtain ⟨t, a1, b1⟩ := hgo F rfl X'
            refine ⟨t, step t ?_, b1⟩
            have e : T.heap.size = h0 + E.length := by rw [hT]; exact hex
            rw [e]
            exact a1
        · cases h
      · cases h
end WNC

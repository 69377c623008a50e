/-! run in the law; the loop -/
section LWC
variable {S : wm_S} {P : PG} {M : MG} {pr : Bool} {n i : Nat} {xs : Nat → Int32} {v5 v6 : Value}
theorem xg_xb {inp : Int32} {F : Nat} {e : Nat → Nat → Int32} {sel : Nat → Bool} : ∀ (k b : Nat) {X : MX}, xg F X → xg F (xb P inp F e sel k b X).2.1
  | 0, _, _, h => h
  | k + 1, b, X, h => by
    have hl := xg_xl (P := P) (inp := inp) ((pg_row P b).filter sel) h
    unfold xb xc
    obtain ⟨Q, hQ⟩ : ∃ Q, Q = xl P inp F ((pg_row P b).filter sel) X := ⟨_, rfl⟩
    rw [← hQ] at hl ⊢
    cases decide (Q.1 = 3) with
    | false => exact hl
    | true =>
      rw [cond_true]
      by_cases q : F ≤ Q.2.2.1
      · have : decide (F ≤ Q.2.2.1) = true := by simpa using q
        rw [this]; exact hl
      · have : decide (F ≤ Q.2.2.1) = false := by simpa using q
        rw [this, cond_false]
        have hs := xg_st hl (by omega)
        cases wr_eq (e 0 b) 0 with
        | true => exact hs
        | false => exact xg_xb k _ hs
theorem lw_10 (hi : i + 6 ≤ n) (hn : n < 2147483648) (h : wI P M pr S) : wq (t_law_10 (some (n, xs)) (lwv i v5 v6) S) (lwK i) := by
  have h' := h
  obtain ⟨h1, h2, h3, h4, h5, h6, h7, h8, h9⟩ := h'
  have g1 := lw_g1 (xs := xs) hi hn
  have g2 := lw_g2 (xs := xs) hi hn
  have g3 := lw_g3 (xs := xs) hi hn
  obtain ⟨t, ht⟩ : ∃ t, t = wr_ne (xs (i + 1)) 0 := ⟨_, rfl⟩
  obtain ⟨inp, hinp⟩ : ∃ x, x = xs (i + 2) := ⟨_, rfl⟩
  obtain ⟨fuel, hfuel⟩ : ∃ x, x = xs (i + 3) := ⟨_, rfl⟩
  have gt : ∀ v5 v6 S, wx_cond (wx_un (fun v => wr_ne v 0) (wx_si w_L (some (n, xs)) (wx_r 0) (wx_bin wo_iadd (wx_i 4) (wx_c (1 : Int32))))) (wx_c (1 : Int32)) (wx_c (0 : Int32)) (lwv i v5 v6) S = some ((bif t then 1 else 0), S) := fun v5 v6 S => by
    simp only [wx_cond, wx_un, wx_bind, g1, wx_c, ← ht]
    exact ev_pair
  rw [← hinp] at g2
  rw [← hfuel] at g3
  have bL : ∀ v5 v6 S, (wx_ac .ref (wx_r 1) (wx_ac .int (wx_cond (wx_un (fun v => wr_ne v 0) (wx_si w_L (some (n, xs)) (wx_r 0) (wx_bin wo_iadd (wx_i 4) (wx_c (1 : Int32))))) (wx_c (1 : Int32)) (wx_c (0 : Int32))) (wx_ac .int (wx_si w_L (some (n, xs)) (wx_r 0) (wx_bin wo_iadd (wx_i 4) (wx_c (2 : Int32)))) (wx_ac .int (wx_si w_L (some (n, xs)) (wx_r 0) (wx_bin wo_iadd (wx_i 4) (wx_c (3 : Int32)))) (wx_a1 .ref (wx_r 3)))))) (lwv i v5 v6) S = some ([.ref 0, .int (bif t then 1 else 0), .int inp, .int fuel, .ref 68], S) := fun v5 v6 S => by
    simp only [wx_ac, wx_a1, wx_bind, gt, g2, g3]; rfl
  have bZ : ∀ v5 v6 S, (wx_ac .ref (wx_r 2) (wx_ac .int (wx_cond (wx_un (fun v => wr_ne v 0) (wx_si w_L (some (n, xs)) (wx_r 0) (wx_bin wo_iadd (wx_i 4) (wx_c (1 : Int32))))) (wx_c (1 : Int32)) (wx_c (0 : Int32))) (wx_ac .int (wx_si w_L (some (n, xs)) (wx_r 0) (wx_bin wo_iadd (wx_i 4) (wx_c (2 : Int32)))) (wx_a1 .int (wx_si w_L (some (n, xs)) (wx_r 0) (wx_bin wo_iadd (wx_i 4) (wx_c (3 : Int32)))))))) (lwv i v5 v6) S = some ([.ref 47, .int (bif t then 1 else 0), .int inp, .int fuel], S) := fun v5 v6 S => by
    simp only [wx_ac, wx_a1, wx_bind, gt, g2, g3]; rfl
  by_cases hq : P.1.1 = 0 ∨ (t = true ∧ pr = false)
  · exact ⟨_, lw_tail (c := 1) (bL _ _ _) (e_L_run_no (e_P_run_0 h1 h2 h7 hq) rfl) (bZ _ _ _) (e_Z_run_no h1 h3 h8 (Or.inl ⟨hq, rfl⟩)) lw_c0 (by omega) lw_i6 (fun q => by omega), _, _, _, P, M, pr, rfl, wI_same h lw_c⟩
  · have hn0 : 0 < P.1.1 := by
      refine Classical.byContradiction fun z => hq (Or.inl (by omega))
    have htp : t = true → pr = true := fun q => by
      cases ep : pr with
      | true => rfl
      | false => exact absurd (Or.inr ⟨q, ep⟩) hq
    by_cases hc : gc P
    · obtain ⟨e, w, hk, heC, hws, heR, hs1, hs0⟩ : ∃ (e : Nat → Nat → Int32) (w : Int64), xk P e ∧ (∀ b, b < P.1.1 → (bif t then S.1 27 b else S.1 10 b) = e 0 b ∧ (bif t then S.1 28 b else S.1 11 b) = e 1 b ∧ (bif t then S.1 29 b else S.1 12 b) = e 2 b ∧ (bif t then S.1 30 b else S.1 13 b) = e 3 b) ∧ (w = bif t then S.2 25 0 else -1) ∧ (∀ b, b < P.1.1 → (bif t then S.1 63 b else P.2 0 b) = e 0 b ∧ (bif t then S.1 64 b else P.2 2 b) = e 2 b ∧ (bif t then S.1 65 b else P.2 3 b) = e 3 b ∧ (e 0 b ≠ 1 → e 1 b = P.2 1 b)) ∧ (t = true → ∀ k, k < P.1.2 → S.1 61 k = bif bl w k then 1 else 0) ∧ (t = false → ∀ k, k < P.1.2 → bl w k = true) := by
        have hm := h1.2.1
        cases et : t with
        | false =>
          refine ⟨P.2, -1, xk_own h1 hc, fun b hb => ?_, rfl, fun b hb => ⟨rfl, rfl, rfl, fun _ => rfl⟩, fun q => (nomatch q), fun _ k hk => l_m1 k (by omega)⟩
          obtain ⟨a1, a2, a3, a4, -⟩ := h2.2.2.1 b hb
          exact ⟨a1, a2, a3, a4⟩
        | true =>
          obtain ⟨r1, r2⟩ := h9 (htp et)
          refine ⟨fun q b => S.1 (27 + q) b, S.2 25 0, xk_cut h1 hc (fun b hb => ⟨(r1.2.2.1 b hb).1, (r1.2.2.1 b hb).2.2⟩), fun b hb => ⟨rfl, rfl, rfl, rfl⟩, rfl, fun b hb => ?_, fun _ k hk => ?_, fun q => (nomatch q)⟩
          · obtain ⟨u1, u2, u3⟩ := ct_unique r1.2.2.2.2.2.2 (r1.2.2.1 b hb).1 (r2.2.2.2.1 b hb)
            exact ⟨u1.symm, u2.symm, u3.symm, (r1.2.2.1 b hb).2.1⟩
          · rw [r2.2.2.1.1 k (by omega), r1.2.1.1 k (by omega)]
      obtain ⟨⟨v, Sa⟩, e1, hv, k1, k2, k3⟩ := e_P_run (inp := inp) (fuel := fuel) h1 h2 h7 hn0 htp hc hk heC hws
      dsimp only at hv k1 k2 k3
      subst hv
      obtain ⟨R, hR⟩ : ∃ R, R = xb P inp (xF fuel) e (bl w) (xF fuel) 0 x0 := ⟨_, rfl⟩
      rw [← hR] at e1 k1 k2
      obtain ⟨S1, hS1⟩ : ∃ S1 : wm_S, S1 = (Sa.1, wm_up Sa.2 68 0 ((nI R.1).toInt64)) := ⟨_, rfl⟩
      have sm1 : ws_same (fun q k => prW q k ∨ q = 68) S S1 := ws_same_tr (ws_same_to k3 (fun q k hq => Or.inl hq)) (by rw [hS1]; exact ws_same_to lw_u8 (fun q k hq => Or.inr hq))
      have back : ∀ q k, 47 ≤ q → q < 68 → S1.1 q k = S.1 q k := fun q k q1 q2 => (sm1 q k (by unfold prW; omega)).1
      have hR1 : pg_R P S1 := pg_R_same h3 sm1 (fun q k hq => by unfold prW at hq; omega)
      obtain ⟨⟨v', S2⟩, e2, hv2, m1, m2, m3, m4⟩ := e_Z_run (S := S1) (inp := inp) (fuel := fuel) (sel := bl w) h1 hR1 (by rw [back 47 12 (by omega) (by omega)]; exact h8) hn0 htp hc hk (fun b hb => by rw [back 63 b (by omega) (by omega), back 64 b (by omega) (by omega), back 65 b (by omega) (by omega)]; exact heR b hb) (fun q k hk' => by rw [back 61 k (by omega) (by omega)]; exact hs1 q k hk') hs0
      dsimp only at hv2 m1 m2 m3 m4
      subst hv2
      rw [← hR] at e2 m1 m2
      have hg : xg (xF fuel) R.2.1 := by rw [hR]; exact xg_xb _ _ xg_0
      have sm2 : ws_same (fun q k => prW q k ∨ q = 68 ∨ zrW q k) S S2 := ws_same_tr (ws_same_to sm1 (fun q k hq => hq.elim Or.inl (fun q => Or.inr (Or.inl q)))) (ws_same_to m4 (fun q k hq => Or.inr (Or.inr hq)))
      have sm3 : ws_same (fun q k => q = 68 ∨ zrW q k) Sa S2 := ws_same_tr (S1 := S1) (by rw [hS1]; exact ws_same_to lw_u8 (fun q k hq => Or.inl hq)) (ws_same_to m4 (fun q k hq => Or.inr hq))
      have cb : ∀ q k, q < 47 → S2.1 q k = Sa.1 q k := fun q k hq => (sm3 q k (by unfold zrW; omega)).1
      refine ⟨_, lw_tail (c := 0) (S1 := S1) (bL _ _ _) (by rw [hS1]; exact e_L_run e1) (bZ _ _ _) e2 m3 (by omega) lw_i6 (fun _ => by rw [(m4 68 0 (by unfold zrW; omega)).2, hS1]; exact lw_u8v (Sa := Sa)), _, _, _, P, (nI R.2.1.2.1, R.2.1.2.2.1, R.2.2, R.2.1.2.2.2.1), pr, rfl, h1, pg_C_same h2 sm2 h1.1 (fun q k hq => by unfold prW zrW at hq; unfold pg_Cw; omega), pg_R_same h3 sm2 (fun q k hq => by unfold prW zrW at hq; omega), ⟨?_, ?_, ?_, fun k hk1 hk2 => ?_⟩, ⟨m1.2.1, m1.2.2.1, m2, m1.2.2.2.1⟩, ?_, ?_, ?_, fun q => ⟨rc_C_same (h9 q).1 sm2 (fun q k hq => by unfold prW zrW at hq; omega), rc_R_same (h9 q).2 sm2 (fun q k hq => by unfold prW zrW at hq; omega)⟩⟩
      · rw [cb 32 2 (by omega)]; exact k1.2.1
      · rw [cb 32 3 (by omega)]; exact k1.2.2.1
      · rw [cb 32 4 (by omega)]; exact k2
      · rw [cb 34 k (by omega)]; exact k1.2.2.2.1 k hk1 hk2
      · have q1 := hg.1
        have q2 := hg.2.1
        have q3 := xF_le (fuel := fuel)
        show R.2.1.2.2.1 < 2147483648
        omega
      · rw [(sm2 0 3 (by unfold prW zrW; omega)).1]; exact h7
      · rw [(sm2 47 12 (by unfold prW zrW; omega)).1]; exact h8
    · exact ⟨_, lw_tail (c := 2) (bL _ _ _) (e_L_run_no (e_P_run_1 h1 h2 h7 hn0 htp hc) rfl) (bZ _ _ _) (e_Z_run_no h1 h3 h8 (Or.inr ⟨hn0, htp, hc, rfl⟩)) lw_c0 (by omega) lw_i6 (fun q => by omega), _, _, _, P, M, pr, rfl, wI_same h lw_c⟩
theorem lw_body (hi : i + 6 ≤ n) (hn : n < 2147483648) (h : wI P M pr S) : wq (t_law_b (some (n, xs)) (lwv i v5 v6) S) (fun o => ∃ v5 v6 S' P M pr, o = .inl (lwv (i + 6) v5 v6, S') ∧ wI P M pr S') := by
  unfold t_law_b
  refine wq_seq.mpr ?_
  have key : wq (ws_sw (wx_bin wo_iand (wx_si w_L (some (n, xs)) (wx_r 0) (wx_i 4)) (wx_c (15 : Int32))) 0 [t_law_0 (some (n, xs)), t_law_1 (some (n, xs)), t_law_2 (some (n, xs)), t_law_3 (some (n, xs)), t_law_4 (some (n, xs)), t_law_5 (some (n, xs)), t_law_6 (some (n, xs)), t_law_7 (some (n, xs)), t_law_8 (some (n, xs)), t_law_9 (some (n, xs)), t_law_10 (some (n, xs)), t_law_11 (some (n, xs)), t_law_12 (some (n, xs))] ws_skip (lwv i v5 v6) S) (lwK i) := by
    have e0 : wx_si w_L (some (n, xs)) (wx_r 0) (wx_i 4) (lwv i v5 v6) S = some (xs i, S) := e_si rfl (by omega) hn
    obtain ⟨d, hd0, ed⟩ := pk_andE (xs i) (m := 15) 4 (by decide)
    have hd : d < 16 := hd0
    clear hd0
    have e1 : wx_bin wo_iand (wx_si w_L (some (n, xs)) (wx_r 0) (wx_i 4)) (wx_c (15 : Int32)) (lwv i v5 v6) S = some (nI d, S) := by
      simp only [wx_bin, wx_bind, e0, wx_c, wo_iand, ed]
    have e2 : ∀ (v : Int) (ss : List wm_St) (dd : wm_St), ws_sw (wx_bin wo_iand (wx_si w_L (some (n, xs)) (wx_r 0) (wx_i 4)) (wx_c (15 : Int32))) v ss dd (lwv i v5 v6) S = ws_pick dd (nI d).toInt v ss (lwv i v5 v6) S := fun v ss dd => by
      rw [ev_sw]
      unfold wx_bind
      rw [e1]
    rw [e2]
    have skip : wq (ws_skip (lwv i v5 v6) S) (lwK i) := ⟨_, rfl, v5, v6, S, P, M, pr, rfl, h⟩
    have hd16 : d = 0 ∨ d = 1 ∨ d = 2 ∨ d = 3 ∨ d = 4 ∨ d = 5 ∨ d = 6 ∨ d = 7 ∨ d = 8 ∨ d = 9 ∨ d = 10 ∨ d = 11 ∨ d = 12 ∨ d = 13 ∨ d = 14 ∨ d = 15 := by omega
    rcases hd16 with rfl | rfl | rfl | rfl | rfl | rfl | rfl | rfl | rfl | rfl | rfl | rfl | rfl | rfl | rfl | rfl
    · simp only [ws_pick, Int.reduceAdd, Int.reduceEq, ev_t0, ev_u0, ev_t1, ev_u1, ev_t2, ev_u2, ev_t3, ev_u3, ev_t4, ev_u4, ev_t5, ev_u5, ev_t6, ev_u6, ev_t7, ev_u7, ev_t8, ev_u8, ev_t9, ev_u9, ev_t10, ev_u10, ev_t11, ev_u11, ev_t12, ev_u12, ev_t13, ev_u13, ev_t14, ev_u14, ev_t15, ev_u15, reduceIte]
      exact lw_0 h
    · simp only [ws_pick, Int.reduceAdd, Int.reduceEq, ev_t0, ev_u0, ev_t1, ev_u1, ev_t2, ev_u2, ev_t3, ev_u3, ev_t4, ev_u4, ev_t5, ev_u5, ev_t6, ev_u6, ev_t7, ev_u7, ev_t8, ev_u8, ev_t9, ev_u9, ev_t10, ev_u10, ev_t11, ev_u11, ev_t12, ev_u12, ev_t13, ev_u13, ev_t14, ev_u14, ev_t15, ev_u15, reduceIte]
      exact lw_1 hi hn h
    · simp only [ws_pick, Int.reduceAdd, Int.reduceEq, ev_t0, ev_u0, ev_t1, ev_u1, ev_t2, ev_u2, ev_t3, ev_u3, ev_t4, ev_u4, ev_t5, ev_u5, ev_t6, ev_u6, ev_t7, ev_u7, ev_t8, ev_u8, ev_t9, ev_u9, ev_t10, ev_u10, ev_t11, ev_u11, ev_t12, ev_u12, ev_t13, ev_u13, ev_t14, ev_u14, ev_t15, ev_u15, reduceIte]
      exact lw_2 hi hn h
    · simp only [ws_pick, Int.reduceAdd, Int.reduceEq, ev_t0, ev_u0, ev_t1, ev_u1, ev_t2, ev_u2, ev_t3, ev_u3, ev_t4, ev_u4, ev_t5, ev_u5, ev_t6, ev_u6, ev_t7, ev_u7, ev_t8, ev_u8, ev_t9, ev_u9, ev_t10, ev_u10, ev_t11, ev_u11, ev_t12, ev_u12, ev_t13, ev_u13, ev_t14, ev_u14, ev_t15, ev_u15, reduceIte]
      exact lw_3 h
    · simp only [ws_pick, Int.reduceAdd, Int.reduceEq, ev_t0, ev_u0, ev_t1, ev_u1, ev_t2, ev_u2, ev_t3, ev_u3, ev_t4, ev_u4, ev_t5, ev_u5, ev_t6, ev_u6, ev_t7, ev_u7, ev_t8, ev_u8, ev_t9, ev_u9, ev_t10, ev_u10, ev_t11, ev_u11, ev_t12, ev_u12, ev_t13, ev_u13, ev_t14, ev_u14, ev_t15, ev_u15, reduceIte]
      exact lw_4 h
    · simp only [ws_pick, Int.reduceAdd, Int.reduceEq, ev_t0, ev_u0, ev_t1, ev_u1, ev_t2, ev_u2, ev_t3, ev_u3, ev_t4, ev_u4, ev_t5, ev_u5, ev_t6, ev_u6, ev_t7, ev_u7, ev_t8, ev_u8, ev_t9, ev_u9, ev_t10, ev_u10, ev_t11, ev_u11, ev_t12, ev_u12, ev_t13, ev_u13, ev_t14, ev_u14, ev_t15, ev_u15, reduceIte]
      exact lw_5 hi hn h
    · simp only [ws_pick, Int.reduceAdd, Int.reduceEq, ev_t0, ev_u0, ev_t1, ev_u1, ev_t2, ev_u2, ev_t3, ev_u3, ev_t4, ev_u4, ev_t5, ev_u5, ev_t6, ev_u6, ev_t7, ev_u7, ev_t8, ev_u8, ev_t9, ev_u9, ev_t10, ev_u10, ev_t11, ev_u11, ev_t12, ev_u12, ev_t13, ev_u13, ev_t14, ev_u14, ev_t15, ev_u15, reduceIte]
      exact lw_6 hi hn h
    · simp only [ws_pick, Int.reduceAdd, Int.reduceEq, ev_t0, ev_u0, ev_t1, ev_u1, ev_t2, ev_u2, ev_t3, ev_u3, ev_t4, ev_u4, ev_t5, ev_u5, ev_t6, ev_u6, ev_t7, ev_u7, ev_t8, ev_u8, ev_t9, ev_u9, ev_t10, ev_u10, ev_t11, ev_u11, ev_t12, ev_u12, ev_t13, ev_u13, ev_t14, ev_u14, ev_t15, ev_u15, reduceIte]
      exact lw_7 hi hn h
    · simp only [ws_pick, Int.reduceAdd, Int.reduceEq, ev_t0, ev_u0, ev_t1, ev_u1, ev_t2, ev_u2, ev_t3, ev_u3, ev_t4, ev_u4, ev_t5, ev_u5, ev_t6, ev_u6, ev_t7, ev_u7, ev_t8, ev_u8, ev_t9, ev_u9, ev_t10, ev_u10, ev_t11, ev_u11, ev_t12, ev_u12, ev_t13, ev_u13, ev_t14, ev_u14, ev_t15, ev_u15, reduceIte]
      exact lw_8 hi hn h
    · simp only [ws_pick, Int.reduceAdd, Int.reduceEq, ev_t0, ev_u0, ev_t1, ev_u1, ev_t2, ev_u2, ev_t3, ev_u3, ev_t4, ev_u4, ev_t5, ev_u5, ev_t6, ev_u6, ev_t7, ev_u7, ev_t8, ev_u8, ev_t9, ev_u9, ev_t10, ev_u10, ev_t11, ev_u11, ev_t12, ev_u12, ev_t13, ev_u13, ev_t14, ev_u14, ev_t15, ev_u15, reduceIte]
      exact lw_9 hi hn h
    · simp only [ws_pick, Int.reduceAdd, Int.reduceEq, ev_t0, ev_u0, ev_t1, ev_u1, ev_t2, ev_u2, ev_t3, ev_u3, ev_t4, ev_u4, ev_t5, ev_u5, ev_t6, ev_u6, ev_t7, ev_u7, ev_t8, ev_u8, ev_t9, ev_u9, ev_t10, ev_u10, ev_t11, ev_u11, ev_t12, ev_u12, ev_t13, ev_u13, ev_t14, ev_u14, ev_t15, ev_u15, reduceIte]
      exact lw_10 hi hn h
    · simp only [ws_pick, Int.reduceAdd, Int.reduceEq, ev_t0, ev_u0, ev_t1, ev_u1, ev_t2, ev_u2, ev_t3, ev_u3, ev_t4, ev_u4, ev_t5, ev_u5, ev_t6, ev_u6, ev_t7, ev_u7, ev_t8, ev_u8, ev_t9, ev_u9, ev_t10, ev_u10, ev_t11, ev_u11, ev_t12, ev_u12, ev_t13, ev_u13, ev_t14, ev_u14, ev_t15, ev_u15, reduceIte]
      exact lw_11 hi hn h
    · simp only [ws_pick, Int.reduceAdd, Int.reduceEq, ev_t0, ev_u0, ev_t1, ev_u1, ev_t2, ev_u2, ev_t3, ev_u3, ev_t4, ev_u4, ev_t5, ev_u5, ev_t6, ev_u6, ev_t7, ev_u7, ev_t8, ev_u8, ev_t9, ev_u9, ev_t10, ev_u10, ev_t11, ev_u11, ev_t12, ev_u12, ev_t13, ev_u13, ev_t14, ev_u14, ev_t15, ev_u15, reduceIte]
      exact lw_12 hi hn h
    · simp only [ws_pick, Int.reduceAdd, Int.reduceEq, ev_t0, ev_u0, ev_t1, ev_u1, ev_t2, ev_u2, ev_t3, ev_u3, ev_t4, ev_u4, ev_t5, ev_u5, ev_t6, ev_u6, ev_t7, ev_u7, ev_t8, ev_u8, ev_t9, ev_u9, ev_t10, ev_u10, ev_t11, ev_u11, ev_t12, ev_u12, ev_t13, ev_u13, ev_t14, ev_u14, ev_t15, ev_u15, reduceIte]
      exact skip
    · simp only [ws_pick, Int.reduceAdd, Int.reduceEq, ev_t0, ev_u0, ev_t1, ev_u1, ev_t2, ev_u2, ev_t3, ev_u3, ev_t4, ev_u4, ev_t5, ev_u5, ev_t6, ev_u6, ev_t7, ev_u7, ev_t8, ev_u8, ev_t9, ev_u9, ev_t10, ev_u10, ev_t11, ev_u11, ev_t12, ev_u12, ev_t13, ev_u13, ev_t14, ev_u14, ev_t15, ev_u15, reduceIte]
      exact skip
    · simp only [ws_pick, Int.reduceAdd, Int.reduceEq, ev_t0, ev_u0, ev_t1, ev_u1, ev_t2, ev_u2, ev_t3, ev_u3, ev_t4, ev_u4, ev_t5, ev_u5, ev_t6, ev_u6, ev_t7, ev_u7, ev_t8, ev_u8, ev_t9, ev_u9, ev_t10, ev_u10, ev_t11, ev_u11, ev_t12, ev_u12, ev_t13, ev_u13, ev_t14, ev_u14, ev_t15, ev_u15, reduceIte]
      exact skip
  refine wq_mono key ?_
  rintro o ⟨v5', v6', S', P', M', pr', rfl, hI⟩
  refine ⟨.inl (lwv (i + 6) v5' v6', S'), ?_, v5', v6', S', P', M', pr', rfl, hI⟩
  show some (Sum.inl ((lwv i v5' v6').set 4 (.int (nI i + 6)), S')) = _
  have : nI i + 6 = nI (i + 6) := nI_add i 6
  rw [this]
  rfl
theorem ev_bin {α β γ : Type} {op : α → β → γ} {a : wm_Ex α} {b : wm_Ex β} {lv : List Value} {x : α} {y : β} (ha : a lv S = some (x, S)) (hb : b lv S = some (y, S)) : wx_bin op a b lv S = some (op x y, S) := by
  unfold wx_bin wx_bind
  rw [ha]
  dsimp only
  rw [hb]
theorem wI_0 : wI ((0, 0), fun _ _ => 0) mg_0 false w_S0 := by
  refine ⟨⟨Nat.zero_le _, Nat.zero_le _, fun x q => absurd q (Nat.not_lt_zero _), fun x q => absurd q (Nat.not_lt_zero _), fun x q => absurd q (Nat.not_lt_zero _)⟩, ⟨rfl, rfl, fun x q => absurd q (Nat.not_lt_zero _), fun x q => absurd q (Nat.not_lt_zero _), fun x q => absurd q (Nat.not_lt_zero _)⟩, ⟨rfl, rfl, fun x q => absurd q (Nat.not_lt_zero _), fun x q => absurd q (Nat.not_lt_zero _)⟩, ⟨rfl, rfl, rfl, fun x q => absurd q (Nat.not_lt_zero _)⟩, ⟨rfl, rfl, rfl, fun x q => absurd q (Nat.not_lt_zero _)⟩, (by show 0 < 2147483648; omega), rfl, rfl, fun q => (nomatch q)⟩
theorem w_pure_ok : w_pure := by
  intro L xs hL
  suffices hq : wq (ws_loop (t_law_c (some (L, xs))) (t_law_b (some (L, xs))) 513 w_lv0 w_S0) (fun o => match o with
      | .inl _ => True
      | .inr _ => False) by
    obtain ⟨o, e, ho⟩ := hq
    cases o with
    | inl q => exact ⟨q.1, q.2, e⟩
    | inr q => exact ho.elim
  refine wq_wh (β := Nat × Value × Value × wm_S) (fun s => lwv (6 * s.1) s.2.1 s.2.2.1) (fun s => s.2.2.2) (fun s => 6 * s.1 ≤ L ∧ ∃ P M pr, wI P M pr s.2.2.2) (fun s => 512 - s.1) (fun s => decide (6 * s.1 + 6 ≤ L)) ?_ ?_ ?_ (0, .retAddr 0, .retAddr 0, w_S0) rfl rfl ⟨Nat.zero_le _, _, _, _, wI_0⟩ (by show 512 - 0 < 513; omega)
  · rintro ⟨k, v5, v6, S⟩ ⟨hk, -⟩
    dsimp only at hk ⊢
    have e1 : wx_sl w_L (some (L, xs)) (wx_r 0) (lwv (6 * k) v5 v6) S = some (nI L, S) := by
      unfold wx_sl
      show wx_bind (wx_r 0) _ (lwv (6 * k) v5 v6) S = _
      unfold wx_bind
      have h0 : wx_r 0 (lwv (6 * k) v5 v6) S = some (69, S) := rfl
      rw [h0]
      dsimp only
      rw [if_pos l69.symm]
      rfl
    have e2 : wx_i 4 (lwv (6 * k) v5 v6) S = some (nI (6 * k), S) := rfl
    have e3 : wr_le (nI (6 * k)) (nI L - 6) = decide (6 * k + 6 ≤ L) := by
      unfold wr_le
      rw [decide_eq_decide, Int32.le_iff_toInt_le, nI_toInt (by omega)]
      have : (nI L - 6).toInt = (L : Int) - 6 := pk_sub_toInt (a := L) (b := 6) (by omega) (by omega)
      rw [this]
      omega
    unfold t_law_c
    refine (ev_bin e2 (ev_bin e1 (y := 6) rfl)).trans ?_
    show some (wr_le (nI (6 * k)) (nI L - 6), S) = _
    rw [e3]
  · rintro ⟨k, v5, v6, S⟩ ⟨hk, P, M, pr, hI⟩ hc
    dsimp only at hk hI hc ⊢
    have hc : 6 * k + 6 ≤ L := by simpa using hc
    refine wq_mono (lw_body hc (by omega) hI) ?_
    rintro o ⟨v5', v6', S', P', M', pr', rfl, hI'⟩
    have e6 : 6 * k + 6 = 6 * (k + 1) := by omega
    refine ⟨(k + 1, v5', v6', S'), ?_, ⟨by dsimp only; omega, P', M', pr', hI'⟩, by dsimp only; omega⟩
    rw [e6]
  · rintro s _ _
    exact trivial
end LWC

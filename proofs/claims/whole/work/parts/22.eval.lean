/-! to work out trees: what simp needs -/
section WEV
theorem ev_in {k N : Nat} {α : Type} {x y : α} (h : k < N) (hN : N < 2147483648) : (if nI k < 0 ∨ N ≤ (nI k).toNatClampNeg then x else y) = y := if_neg (nI_in h (by omega))
theorem ev_in0 {N : Nat} {α : Type} {x y : α} (h : 0 < N) : (if (0 : Int32) < 0 ∨ N ≤ (0 : Int32).toNatClampNeg then x else y) = y := if_neg (fun q => by
  rcases q with q | q
  · exact absurd q (by decide)
  · have : (0 : Int32).toNatClampNeg = 0 := by decide
    omega)
theorem ev_31 : (2147483648 : Nat) = 2 ^ 31 := by decide
theorem ev_cl {n : Nat} (h : n < 2147483648) : (nI n).toNatClampNeg = n := nI_clamp (by rw [← ev_31]; exact h)
theorem ev_cl0 : (0 : Int32).toNatClampNeg = 0 := by decide
/-- an array's element, by its index -/
def wk {β : Type} (o : Option (Nat × (Nat → Nat))) (i : Int32) (r : Nat → (Nat → Nat) → Option β) : Option β := match o with
  | some (n, f) => if i < 0 ∨ n ≤ i.toNatClampNeg then none else r i.toNatClampNeg f
  | none => none
theorem wk_in {β : Type} {N k : Nat} {f : Nat → Nat} {r : Nat → (Nat → Nat) → Option β} (h : k < N) (hk : k < 2147483648) : wk (some (N, f)) (nI k) r = r k f := by
  unfold wk
  dsimp only
  have e := ev_cl hk
  rw [if_neg (fun q => q.elim (nI_pos hk) (fun q => by rw [e] at q; omega)), e]
theorem wk_in0 {β : Type} {N : Nat} {f : Nat → Nat} {r : Nat → (Nat → Nat) → Option β} (h : 0 < N) : wk (some (N, f)) 0 r = r 0 f := wk_in (k := 0) h (by omega)
theorem kx_ai {L : List wm_C} {kd : Nat} {a : wm_Ex Nat} {b : wm_Ex Int32} {lv : List Value} {S : wm_S} : wx_ai L kd a b lv S = wx_bind a (fun q S1 => wx_bind b (fun i S2 => wk (wm_ak L q kd) i (fun j _ => some (S2.1 q j, S2))) lv S1) lv S := (rfl)
theorem kx_al {L : List wm_C} {a : wm_Ex Nat} {b : wm_Ex Int32} {lv : List Value} {S : wm_S} : wx_al L a b lv S = wx_bind a (fun q S1 => wx_bind b (fun i S2 => wk (wm_ak L q 1) i (fun j _ => some (S2.2 q j, S2))) lv S1) lv S := (rfl)
theorem kx_ar {L : List wm_C} {a : wm_Ex Nat} {b : wm_Ex Int32} {lv : List Value} {S : wm_S} : wx_ar L a b lv S = wx_bind a (fun q S1 => wx_bind b (fun i S2 => wk (wm_ak L q 2) i (fun j f => some (f j, S2))) lv S1) lv S := (rfl)
theorem ks_ai {L : List wm_C} {a : wm_Ex Nat} {b c : wm_Ex Int32} {lv : List Value} {S : wm_S} : ws_ai L a b c lv S = wx_bind a (fun q S1 => wx_bind b (fun i S2 => wx_bind c (fun x S3 => wk (wm_ak L q 0) i (fun j _ => some (.inl (lv, (wm_up S3.1 q j x, S3.2))))) lv S2) lv S1) lv S := (rfl)
def wz (x : Int32) (o : Option wm_O) : Option wm_O := if x = 0 ∨ x = 1 then o else none
theorem wz_0 {o : Option wm_O} : wz 0 o = o := if_pos (Or.inl rfl)
theorem wz_1 {o : Option wm_O} : wz 1 o = o := if_pos (Or.inr rfl)
theorem wz_b {t : Bool} {o : Option wm_O} : wz (bif t then 1 else 0) o = o := by cases t; exact wz_0; exact wz_1
theorem ks_az {L : List wm_C} {a : wm_Ex Nat} {b c : wm_Ex Int32} {lv : List Value} {S : wm_S} : ws_az L a b c lv S = wx_bind a (fun q S1 => wx_bind b (fun i S2 => wx_bind c (fun x S3 => wk (wm_ak L q 3) i (fun j _ => wz x (some (.inl (lv, (wm_up S3.1 q j x, S3.2)))))) lv S2) lv S1) lv S := (rfl)
theorem ks_al {L : List wm_C} {a : wm_Ex Nat} {b : wm_Ex Int32} {c : wm_Ex Int64} {lv : List Value} {S : wm_S} : ws_al L a b c lv S = wx_bind a (fun q S1 => wx_bind b (fun i S2 => wx_bind c (fun x S3 => wk (wm_ak L q 1) i (fun j _ => some (.inl (lv, (S3.1, wm_up S3.2 q j x))))) lv S2) lv S1) lv S := (rfl)
theorem ks_oai {L : List wm_C} {op : Int32 → Int32 → Int32} {a : wm_Ex Nat} {b c : wm_Ex Int32} {lv : List Value} {S : wm_S} : ws_oai L op a b c lv S = wx_bind a (fun q S1 => wx_bind b (fun i S2 => wk (wm_ak L q 0) i (fun j _ => wx_bind c (fun y S3 => some (.inl (lv, (wm_up S3.1 q j (op (S2.1 q j) y), S3.2)))) lv S2)) lv S1) lv S := (rfl)
theorem ks_oal {L : List wm_C} {op : Int64 → Int64 → Int64} {a : wm_Ex Nat} {b : wm_Ex Int32} {c : wm_Ex Int64} {lv : List Value} {S : wm_S} : ws_oal L op a b c lv S = wx_bind a (fun q S1 => wx_bind b (fun i S2 => wk (wm_ak L q 1) i (fun j _ => wx_bind c (fun y S3 => some (.inl (lv, (S3.1, wm_up S3.2 q j (op (S2.2 q j) y))))) lv S2)) lv S1) lv S := (rfl)
/-- fields -/
def wf0 {β : Type} (o : Option Nat) (r : Option β) (z : Option β) : Option β := match o with
  | some 0 => r
  | some 2 => z
  | _ => none
theorem kx_fi {L : List wm_C} {ci j : Nat} {a : wm_Ex Nat} {lv : List Value} {S : wm_S} : wx_fi L ci j a lv S = wx_bind a (fun q S1 => wf0 (wm_fd L q ci j) (some (S1.1 q j, S1)) (some (S1.1 q j, S1))) lv S := (rfl)
theorem ks_fi {L : List wm_C} {ci j : Nat} {a : wm_Ex Nat} {b : wm_Ex Int32} {lv : List Value} {S : wm_S} : ws_fi L ci j a b lv S = wx_bind a (fun q S1 => wx_bind b (fun x S2 => wf0 (wm_fd L q ci j) (some (.inl (lv, (wm_up S2.1 q j x, S2.2)))) (wz x (some (.inl (lv, (wm_up S2.1 q j x, S2.2)))))) lv S1) lv S := (rfl)
theorem wf0_0 {β : Type} {r z : Option β} : wf0 (some 0) r z = r := (rfl)
theorem wf0_2 {β : Type} {r z : Option β} : wf0 (some 2) r z = z := (rfl)
def wf3 {β : Type} (o : Option Nat) (r : Nat → Option β) : Option β := match o with
  | some (n + 3) => r n
  | _ => none
theorem kx_fr {L : List wm_C} {ci j : Nat} {a : wm_Ex Nat} {lv : List Value} {S : wm_S} : wx_fr L ci j a lv S = wx_bind a (fun q S1 => wf3 (wm_fd L q ci j) (fun n => some (n, S1))) lv S := (rfl)
theorem wf3_4 {β : Type} {r : Nat → Option β} : wf3 (some 4) r = r 1 := (rfl)
theorem wf3_5 {β : Type} {r : Nat → Option β} : wf3 (some 5) r = r 2 := (rfl)
theorem wf3_6 {β : Type} {r : Nat → Option β} : wf3 (some 6) r = r 3 := (rfl)
theorem wf3_7 {β : Type} {r : Nat → Option β} : wf3 (some 7) r = r 4 := (rfl)
theorem wf3_8 {β : Type} {r : Nat → Option β} : wf3 (some 8) r = r 5 := (rfl)
theorem wf3_9 {β : Type} {r : Nat → Option β} : wf3 (some 9) r = r 6 := (rfl)
theorem wf3_10 {β : Type} {r : Nat → Option β} : wf3 (some 10) r = r 7 := (rfl)
theorem wf3_11 {β : Type} {r : Nat → Option β} : wf3 (some 11) r = r 8 := (rfl)
theorem wf3_12 {β : Type} {r : Nat → Option β} : wf3 (some 12) r = r 9 := (rfl)
theorem wf3_13 {β : Type} {r : Nat → Option β} : wf3 (some 13) r = r 10 := (rfl)
theorem wf3_14 {β : Type} {r : Nat → Option β} : wf3 (some 14) r = r 11 := (rfl)
theorem wf3_15 {β : Type} {r : Nat → Option β} : wf3 (some 15) r = r 12 := (rfl)
theorem wf3_16 {β : Type} {r : Nat → Option β} : wf3 (some 16) r = r 13 := (rfl)
theorem wf3_17 {β : Type} {r : Nat → Option β} : wf3 (some 17) r = r 14 := (rfl)
theorem wf3_18 {β : Type} {r : Nat → Option β} : wf3 (some 18) r = r 15 := (rfl)
theorem wf3_19 {β : Type} {r : Nat → Option β} : wf3 (some 19) r = r 16 := (rfl)
theorem wf3_20 {β : Type} {r : Nat → Option β} : wf3 (some 20) r = r 17 := (rfl)
theorem wf3_21 {β : Type} {r : Nat → Option β} : wf3 (some 21) r = r 18 := (rfl)
theorem wf3_22 {β : Type} {r : Nat → Option β} : wf3 (some 22) r = r 19 := (rfl)
theorem wf3_23 {β : Type} {r : Nat → Option β} : wf3 (some 23) r = r 20 := (rfl)
theorem wf3_24 {β : Type} {r : Nat → Option β} : wf3 (some 24) r = r 21 := (rfl)
theorem wf3_25 {β : Type} {r : Nat → Option β} : wf3 (some 25) r = r 22 := (rfl)
theorem wf3_26 {β : Type} {r : Nat → Option β} : wf3 (some 26) r = r 23 := (rfl)
theorem wf3_27 {β : Type} {r : Nat → Option β} : wf3 (some 27) r = r 24 := (rfl)
theorem wf3_28 {β : Type} {r : Nat → Option β} : wf3 (some 28) r = r 25 := (rfl)
theorem wf3_29 {β : Type} {r : Nat → Option β} : wf3 (some 29) r = r 26 := (rfl)
theorem wf3_30 {β : Type} {r : Nat → Option β} : wf3 (some 30) r = r 27 := (rfl)
theorem wf3_31 {β : Type} {r : Nat → Option β} : wf3 (some 31) r = r 28 := (rfl)
theorem wf3_32 {β : Type} {r : Nat → Option β} : wf3 (some 32) r = r 29 := (rfl)
theorem wf3_33 {β : Type} {r : Nat → Option β} : wf3 (some 33) r = r 30 := (rfl)
theorem wf3_34 {β : Type} {r : Nat → Option β} : wf3 (some 34) r = r 31 := (rfl)
theorem wf3_35 {β : Type} {r : Nat → Option β} : wf3 (some 35) r = r 32 := (rfl)
theorem wf3_36 {β : Type} {r : Nat → Option β} : wf3 (some 36) r = r 33 := (rfl)
theorem wf3_37 {β : Type} {r : Nat → Option β} : wf3 (some 37) r = r 34 := (rfl)
theorem wf3_38 {β : Type} {r : Nat → Option β} : wf3 (some 38) r = r 35 := (rfl)
theorem wf3_39 {β : Type} {r : Nat → Option β} : wf3 (some 39) r = r 36 := (rfl)
theorem wf3_40 {β : Type} {r : Nat → Option β} : wf3 (some 40) r = r 37 := (rfl)
theorem wf3_41 {β : Type} {r : Nat → Option β} : wf3 (some 41) r = r 38 := (rfl)
theorem wf3_42 {β : Type} {r : Nat → Option β} : wf3 (some 42) r = r 39 := (rfl)
theorem wf3_43 {β : Type} {r : Nat → Option β} : wf3 (some 43) r = r 40 := (rfl)
theorem wf3_44 {β : Type} {r : Nat → Option β} : wf3 (some 44) r = r 41 := (rfl)
theorem wf3_45 {β : Type} {r : Nat → Option β} : wf3 (some 45) r = r 42 := (rfl)
theorem wf3_46 {β : Type} {r : Nat → Option β} : wf3 (some 46) r = r 43 := (rfl)
theorem wf3_47 {β : Type} {r : Nat → Option β} : wf3 (some 47) r = r 44 := (rfl)
theorem wf3_48 {β : Type} {r : Nat → Option β} : wf3 (some 48) r = r 45 := (rfl)
theorem wf3_49 {β : Type} {r : Nat → Option β} : wf3 (some 49) r = r 46 := (rfl)
theorem wf3_50 {β : Type} {r : Nat → Option β} : wf3 (some 50) r = r 47 := (rfl)
theorem wf3_51 {β : Type} {r : Nat → Option β} : wf3 (some 51) r = r 48 := (rfl)
theorem wf3_52 {β : Type} {r : Nat → Option β} : wf3 (some 52) r = r 49 := (rfl)
theorem wf3_53 {β : Type} {r : Nat → Option β} : wf3 (some 53) r = r 50 := (rfl)
theorem wf3_54 {β : Type} {r : Nat → Option β} : wf3 (some 54) r = r 51 := (rfl)
theorem wf3_55 {β : Type} {r : Nat → Option β} : wf3 (some 55) r = r 52 := (rfl)
theorem wf3_56 {β : Type} {r : Nat → Option β} : wf3 (some 56) r = r 53 := (rfl)
theorem wf3_57 {β : Type} {r : Nat → Option β} : wf3 (some 57) r = r 54 := (rfl)
theorem wf3_58 {β : Type} {r : Nat → Option β} : wf3 (some 58) r = r 55 := (rfl)
theorem wf3_59 {β : Type} {r : Nat → Option β} : wf3 (some 59) r = r 56 := (rfl)
theorem wf3_60 {β : Type} {r : Nat → Option β} : wf3 (some 60) r = r 57 := (rfl)
theorem wf3_61 {β : Type} {r : Nat → Option β} : wf3 (some 61) r = r 58 := (rfl)
theorem wf3_62 {β : Type} {r : Nat → Option β} : wf3 (some 62) r = r 59 := (rfl)
theorem wf3_63 {β : Type} {r : Nat → Option β} : wf3 (some 63) r = r 60 := (rfl)
theorem wf3_64 {β : Type} {r : Nat → Option β} : wf3 (some 64) r = r 61 := (rfl)
theorem wf3_65 {β : Type} {r : Nat → Option β} : wf3 (some 65) r = r 62 := (rfl)
theorem wf3_66 {β : Type} {r : Nat → Option β} : wf3 (some 66) r = r 63 := (rfl)
theorem wf3_67 {β : Type} {r : Nat → Option β} : wf3 (some 67) r = r 64 := (rfl)
theorem wf3_68 {β : Type} {r : Nat → Option β} : wf3 (some 68) r = r 65 := (rfl)
theorem wf3_69 {β : Type} {r : Nat → Option β} : wf3 (some 69) r = r 66 := (rfl)
theorem wf3_70 {β : Type} {r : Nat → Option β} : wf3 (some 70) r = r 67 := (rfl)
theorem ev_lt {a b : Nat} (ha : a < 2147483648) (hb : b < 2147483648) : wr_lt (nI a) (nI b) = decide (a < b) := by unfold wr_lt; rw [decide_eq_decide]; exact nI_ltI ha hb
theorem ev_ge {a b : Nat} (ha : a < 2147483648) (hb : b < 2147483648) : wr_ge (nI a) (nI b) = decide (b ≤ a) := by unfold wr_ge; rw [decide_eq_decide]; exact nI_leI hb ha
theorem ev_gt {a b : Nat} (ha : a < 2147483648) (hb : b < 2147483648) : wr_gt (nI a) (nI b) = decide (b < a) := by unfold wr_gt; rw [decide_eq_decide]; exact nI_ltI hb ha
theorem ev_le {a b : Nat} (ha : a < 2147483648) (hb : b < 2147483648) : wr_le (nI a) (nI b) = decide (a ≤ b) := by unfold wr_le; rw [decide_eq_decide]; exact nI_leI ha hb
theorem ev_eqn {a b : Nat} (ha : a < 2147483648) (hb : b < 2147483648) : wr_eq (nI a) (nI b) = decide (a = b) := by unfold wr_eq; rw [decide_eq_decide]; exact nI_eq ha hb
theorem ev_nen {a b : Nat} (ha : a < 2147483648) (hb : b < 2147483648) : wr_ne (nI a) (nI b) = !decide (a = b) := by unfold wr_ne; congr 1; rw [decide_eq_decide]; exact nI_eq ha hb
theorem ev_in' {k N : Nat} {α : Type} {x y : α} (h : k < N) (hk : k < 2147483648) : (if nI k < 0 ∨ N ≤ k then x else y) = y := if_neg (fun q => q.elim (nI_pos hk) (by omega))
theorem ev_ltc {a b : Nat} (ha : a < 2147483648) (hb : b < 2147483648) : wr_lt (nI a) (no_index (OfNat.ofNat b)) = decide (a < b) := ev_lt ha hb
theorem ev_gec {a b : Nat} (ha : a < 2147483648) (hb : b < 2147483648) : wr_ge (nI a) (no_index (OfNat.ofNat b)) = decide (b ≤ a) := ev_ge ha hb
theorem ev_gtc {a b : Nat} (ha : a < 2147483648) (hb : b < 2147483648) : wr_gt (nI a) (no_index (OfNat.ofNat b)) = decide (b < a) := ev_gt ha hb
theorem ev_lec {a b : Nat} (ha : a < 2147483648) (hb : b < 2147483648) : wr_le (nI a) (no_index (OfNat.ofNat b)) = decide (a ≤ b) := ev_le ha hb
theorem ev_eqc {a b : Nat} (ha : a < 2147483648) (hb : b < 2147483648) : wr_eq (nI a) (no_index (OfNat.ofNat b)) = decide (a = b) := ev_eqn ha hb
theorem ev_nec {a b : Nat} (ha : a < 2147483648) (hb : b < 2147483648) : wr_ne (nI a) (no_index (OfNat.ofNat b)) = !decide (a = b) := ev_nen ha hb
theorem ev_pair {α : Type} {t : Bool} {x y : α} {S : wm_S} : (bif t then some (x, S) else some (y, S)) = some (bif t then x else y, S) := by cases t <;> rfl
theorem ev_pairL {t : Bool} {l l' : List Value} {S : wm_S} : (bif t then some (Sum.inl (l, S)) else some (Sum.inl (l', S)) : Option wm_O) = some (.inl (bif t then l else l', S)) := by cases t <;> rfl
theorem ev_t0 : (0 : Int32).toInt = 0 := by decide
theorem ev_u0 : (nI 0).toInt = 0 := by decide
theorem ev_t1 : (1 : Int32).toInt = 1 := by decide
theorem ev_u1 : (nI 1).toInt = 1 := by decide
theorem ev_t2 : (2 : Int32).toInt = 2 := by decide
theorem ev_u2 : (nI 2).toInt = 2 := by decide
theorem ev_t3 : (3 : Int32).toInt = 3 := by decide
theorem ev_u3 : (nI 3).toInt = 3 := by decide
theorem ev_t4 : (4 : Int32).toInt = 4 := by decide
theorem ev_u4 : (nI 4).toInt = 4 := by decide
theorem ev_t5 : (5 : Int32).toInt = 5 := by decide
theorem ev_u5 : (nI 5).toInt = 5 := by decide
theorem ev_t6 : (6 : Int32).toInt = 6 := by decide
theorem ev_u6 : (nI 6).toInt = 6 := by decide
theorem ev_t7 : (7 : Int32).toInt = 7 := by decide
theorem ev_u7 : (nI 7).toInt = 7 := by decide
theorem ev_t8 : (8 : Int32).toInt = 8 := by decide
theorem ev_u8 : (nI 8).toInt = 8 := by decide
theorem ev_t9 : (9 : Int32).toInt = 9 := by decide
theorem ev_u9 : (nI 9).toInt = 9 := by decide
theorem ev_t10 : (10 : Int32).toInt = 10 := by decide
theorem ev_u10 : (nI 10).toInt = 10 := by decide
theorem ev_t11 : (11 : Int32).toInt = 11 := by decide
theorem ev_u11 : (nI 11).toInt = 11 := by decide
theorem ev_t12 : (12 : Int32).toInt = 12 := by decide
theorem ev_u12 : (nI 12).toInt = 12 := by decide
theorem ev_t13 : (13 : Int32).toInt = 13 := by decide
theorem ev_u13 : (nI 13).toInt = 13 := by decide
theorem ev_t14 : (14 : Int32).toInt = 14 := by decide
theorem ev_u14 : (nI 14).toInt = 14 := by decide
theorem ev_t15 : (15 : Int32).toInt = 15 := by decide
theorem ev_u15 : (nI 15).toInt = 15 := by decide
theorem ev_b0 {t : Bool} : wr_eq (bif t then 1 else 0) 0 = !t := by cases t <;> rfl
theorem ev_b1 {t : Bool} : wr_ne (bif t then 1 else 0) 0 = t := by cases t <;> rfl
theorem ev_sw {a : wm_Ex Int32} {v : Int} {ss : List wm_St} {d : wm_St} {lv : List Value} {S : wm_S} : ws_sw a v ss d lv S = wx_bind a (fun x S1 => ws_pick d x.toInt v ss lv S1) lv S := (rfl)
theorem wm_up_same {α : Type} {g : Nat → Nat → α} {q j : Nat} {v : α} : wm_up g q j v q j = v := by simp [wm_up]
theorem wm_up_qne {α : Type} {g : Nat → Nat → α} {q j a b : Nat} {v : α} (h : a ≠ q) : wm_up g q j v a b = g a b := by simp [wm_up, h]
theorem wm_up_kne {α : Type} {g : Nat → Nat → α} {q j b : Nat} {v : α} (h : b ≠ j) : wm_up g q j v q b = g q b := by simp [wm_up, h]
theorem wq_step {A B : wm_St} {lv lv1 : List Value} {S S1 : wm_S} {K : wm_O → Prop} (h : A lv S = some (.inl (lv1, S1))) (k : wq (B lv1 S1) K) : wq (ws_seq A B lv S) K := by
  obtain ⟨r, h1, h2⟩ := k
  exact ⟨r, by unfold ws_seq; rw [h]; exact h1, h2⟩
theorem wq_rets {A : wm_St} {lv : List Value} {S S1 : wm_S} {v : Option Value} {K : wm_O → Prop} (h : A lv S = some (.inr (v, S1))) (k : K (.inr (v, S1))) : wq (A lv S) K := ⟨_, h, k⟩
theorem wq_assoc {A B C : wm_St} {lv : List Value} {S : wm_S} {K : wm_O → Prop} (k : wq (ws_seq A (ws_seq B C) lv S) K) : wq (ws_seq (ws_seq A B) C lv S) K := by
  rw [wq_seq] at k ⊢
  rw [wq_seq]
  refine wq_mono k (fun o ho => ?_)
  cases o with
  | inl q => exact wq_seq.mp ho
  | inr r => exact ho
theorem wq_if {c : wm_Ex Bool} {A : wm_St} {lv : List Value} {S : wm_S} {K : wm_O → Prop} {t : Bool} (h : c lv S = some (t, S)) (h1 : t = true → wq (A lv S) K) (h2 : t = false → K (.inl (lv, S))) : wq (ws_if c A lv S) K := by
  unfold ws_if wx_bind
  rw [h]
  cases t with
  | true => exact h1 rfl
  | false => exact ⟨_, rfl, h2 rfl⟩
theorem wq_ifs {c : wm_Ex Bool} {A B : wm_St} {lv : List Value} {S : wm_S} {K : wm_O → Prop} {t : Bool} (h : c lv S = some (t, S)) (h1 : t = true → wq (ws_seq A B lv S) K) (h2 : t = false → wq (B lv S) K) : wq (ws_seq (ws_if c A) B lv S) K := by
  rw [wq_seq]
  refine wq_if h (fun e => ?_) (fun e => h2 e)
  exact wq_seq.mp (h1 e)
theorem wq_ife {c : wm_Ex Bool} {A B : wm_St} {lv : List Value} {S : wm_S} {K : wm_O → Prop} {t : Bool} (h : c lv S = some (t, S)) (h1 : t = true → wq (A lv S) K) (h2 : t = false → wq (B lv S) K) : wq (ws_ife c A B lv S) K := by
  unfold ws_ife wx_bind
  rw [h]
  cases t with
  | true => exact h1 rfl
  | false => exact h2 rfl
/-- a statement that is a call without an answer -/
theorem wq_call {f : List Value → wm_S → Option (Option Value × wm_S)} {b : wm_Ex (List Value)} {lv vs : List Value} {S : wm_S} {K : wm_O → Prop} (hb : b lv S = some (vs, S)) (hf : wq (f vs S) (fun r => r.1 = none ∧ K (.inl (lv, r.2)))) : wq (ws_call f b lv S) K := by
  obtain ⟨⟨v, S'⟩, h1, h2, h3⟩ := hf
  cases h2
  refine ⟨_, ?_, h3⟩
  unfold ws_call wx_bind
  rw [hb]
  dsimp only
  rw [h1]
/-- for (int k = 0; k < n; k++), with a state s beside k -/
theorem wq_for {c : wm_Ex Bool} {b : wm_St} {K : wm_O → Prop} {β : Type} (n : Nat) (lvf : Nat → β → List Value) (Sf : Nat → β → wm_S) (P : Nat → β → Prop)
    (hc : ∀ k s, k ≤ n → P k s → c (lvf k s) (Sf k s) = some (decide (k < n), Sf k s))
    (hb : ∀ k s, k < n → P k s → wq (b (lvf k s) (Sf k s)) (fun o => match o with
      | .inl q => ∃ s', q = (lvf (k + 1) s', Sf (k + 1) s') ∧ P (k + 1) s'
      | .inr r => K (.inr r)))
    (he : ∀ s, P n s → K (.inl (lvf n s, Sf n s))) {N : Nat} (hN : n < N) {lv : List Value} {S : wm_S} (s0 : β) (e1 : lv = lvf 0 s0) (e2 : S = Sf 0 s0) (h0 : P 0 s0) : wq (ws_loop c b N lv S) K := by
  subst e1
  subst e2
  have key : ∀ (d k N : Nat) (s : β), k + d = n → d < N → P k s → wq (ws_loop c b N (lvf k s) (Sf k s)) K := by
    intro d
    induction d with
    | zero =>
      intro k N s hk hN hP
      obtain ⟨M, rfl⟩ : ∃ M, N = M + 1 := ⟨N - 1, by omega⟩
      have e : k = n := by omega
      subst e
      unfold ws_loop
      rw [wq_bind]
      refine ⟨_, hc k s (Nat.le_refl _) hP, ?_⟩
      simp only [Nat.lt_irrefl, decide_false, cond_false]
      exact ⟨_, rfl, he s hP⟩
    | succ d ih =>
      intro k N s hk hN hP
      obtain ⟨M, rfl⟩ : ∃ M, N = M + 1 := ⟨N - 1, by omega⟩
      unfold ws_loop
      rw [wq_bind]
      refine ⟨_, hc k s (by omega) hP, ?_⟩
      have hlt : k < n := by omega
      simp only [hlt, decide_true, cond_true]
      obtain ⟨o, h1, h2⟩ := hb k s hlt hP
      rw [h1]
      cases o with
      | inl q =>
        obtain ⟨s', rfl, h3⟩ := h2
        exact ih (k + 1) M s' (by omega) (by omega) h3
      | inr r => exact ⟨_, rfl, h2⟩
  exact key n 0 N s0 (by omega) hN h0
theorem wq_fnT {chk : List Value → Bool} {rt n : Nat} {bd : wm_St} {av : List Value} {S : wm_S} {K : Option Value × wm_S → Prop} (h1 : chk av = true) (h2 : Nat.ble (wm_cs av) n = true) (h3 : wm_nod av = true)
    (hb : wq (bd (wm_en n av) S) (fun o => match o with
      | .inl _ => False
      | .inr r => (wm_rt rt r.1 || wt_rt r.1) = true ∧ K r)) : wq (wt_fn chk rt n bd av S) K := by
  obtain ⟨o, h4, h5⟩ := hb
  cases o with
  | inl q => exact h5.elim
  | inr r =>
    refine ⟨r, ?_, h5.2⟩
    unfold wt_fn
    rw [h1, h2, h3, h4]
    show (bif wm_rt rt r.1 || wt_rt r.1 then some (r.1, r.2) else none) = some r
    rw [h5.1]
    rfl
theorem wm_rt3 {t : Bool} : wm_rt 3 (some (.int (bif t then 1 else 0))) = true := by cases t <;> rfl
/-- the methods: what they answer -/
theorem wq_eq {β : Type} {o : Option β} {r : β} (h : wq o (fun x => x = r)) : o = some r := by
  obtain ⟨x, h1, h2⟩ := h
  rw [h1, h2]
end WEV
section WEA
theorem e_G_allBlocks {S : wm_S} {n : Nat} (hn : S.1 1 0 = nI n) : f_G_allBlocks [.ref 1] S = some (some (.int (((1 : Int32) <<< (nI n &&& 31)) - 1)), S) := by
  refine wq_eq (wq_fn rfl rfl rfl ?_)
  show wq (t_G_allBlocks [.ref 1] S) _
  unfold t_G_allBlocks
  obtain ⟨L, N, M1, M2, hL, hN0, hF, hA, hR, hN, hM1, hM2⟩ := w_ex; (try simp only [hL, hN0])
  refine wq_rets (by simp only [wx_bind, wx_i, wx_l, wx_r, wx_c, wx_bin, wx_un, wx_div, wx_rem, kx_fi, wx_fl, kx_fr, wf3_4, wf3_5, wf3_6, wf3_7, wf3_8, wf3_9, wf3_10, wf3_11, wf3_12, wf3_13, wf3_14, wf3_15, wf3_16, wf3_17, wf3_18, wf3_19, wf3_20, wf3_21, wf3_22, wf3_23, wf3_24, wf3_25, wf3_26, wf3_27, wf3_28, wf3_29, wf3_30, wf3_31, wf3_32, wf3_33, wf3_34, wf3_35, wf3_36, wf3_37, wf3_38, wf3_39, wf3_40, wf3_41, wf3_42, wf3_43, wf3_44, wf3_45, wf3_46, wf3_47, wf3_48, wf3_49, wf3_50, wf3_51, wf3_52, wf3_53, wf3_54, wf3_55, wf3_56, wf3_57, wf3_58, wf3_59, wf3_60, wf3_61, wf3_62, wf3_63, wf3_64, wf3_65, wf3_66, wf3_67, wf3_68, wf3_69, wf3_70, kx_ai, kx_al, kx_ar, wx_cond, wx_a1, wx_ac, wx_call, wm_pi, wm_pl, wb_and, wb_or, wb_not, ws_seq, ws_i, ws_l, ws_inc, ks_fi, ws_fl, ws_ofi, ws_ofl, ks_ai, ks_az, ks_al, ks_oai, ks_oal, wk_in, wk_in0, wz_0, wz_1, wz_b, wf0_0, wf0_2, ws_call, ws_if, ws_ife, ws_ret, ws_skip, ws_retv, ws_thr, wo_iadd, wo_isub, wo_imul, wo_iand, wo_ior, wo_ixor, wo_ishl, wo_ishr, wo_iushr, wo_ladd, wo_lsub, wo_land, wo_lor, wo_lxor, wo_lshl, wo_lushr, wo_i2l, wo_l2i, List.getElem?_cons_zero, List.getElem?_cons_succ, List.length_cons, List.length_nil, wm_st, wm_st2, List.set_cons_zero, List.set_cons_succ, hF, hA, hR, ev_cl, ev_cl0, ev_lt, ev_ge, ev_gt, ev_le, ev_eqn, ev_nen, ev_ltc, ev_gec, ev_gtc, ev_lec, ev_eqc, ev_nec, ev_pair, ev_pairL, ev_b0, ev_b1, Bool.not_not, ev_sw,  cond_true, cond_false, nI_1, Nat.zero_add, Nat.reduceAdd, Nat.reduceLT, if_true, ite_true, if_false, ite_false, reduceIte, wm_up_same, wm_up_qne, wm_up_kne]; rfl) ?_
  exact ⟨rfl, by rw [hn]⟩
end WEA

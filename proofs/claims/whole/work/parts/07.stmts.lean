/-! rules for jumps and statements -/
section WMV
variable {L : List wm_C} {fl : List (Nat × Nat × Nat)} {cs : List (Nat × Value)} {sc : Option (Nat × (Nat → Int32))} {cV cS : List (Nat × wm_M)} {ret : Option Value → wm_S → Prop} {tb : List wm_R} {w : wm_K}
variable {d p0 p1 p2 p3 p4 p5 p6 p7 pT pF pG pE nx tg t2 t3 t4 t5 t6 : Nat} {α β γ : Type}
theorem wm_j_eqT {o : Int} : ∀ lv st S (x y : Int32) (k : wm_K), k (bif wr_eq x y then tg else nx) lv st S → wm_step L fl cs sc cV cS ret (.if_icmp .eq o) p2 nx tg lv (.int y :: .int x :: st) S k := by
  intro lv st S x y k h
  refine ⟨fun e => ?_, fun e => ?_⟩
  · have q : wr_eq x y = true := by simp [wr_eq, e]
    rw [q] at h
    exact h
  · have q : wr_eq x y = false := by simp [wr_eq, e]
    rw [q] at h
    exact h
theorem wm_z_eqT {o : Int} : ∀ lv st S (x : Int32) (k : wm_K), k (bif wr_eq x 0 then tg else nx) lv st S → wm_step L fl cs sc cV cS ret (.ifCond .eq o) p2 nx tg lv (.int x :: st) S k := by
  intro lv st S x k h
  refine ⟨fun e => ?_, fun e => ?_⟩
  · have q : wr_eq x (0 : Int32) = true := by simp [wr_eq, e]
    rw [q] at h
    exact h
  · have q : wr_eq x (0 : Int32) = false := by simp [wr_eq, e]
    rw [q] at h
    exact h
theorem wm_j_eqF {o : Int} : ∀ lv st S (x y : Int32) (k : wm_K), k (bif wr_eq x y then nx else tg) lv st S → wm_step L fl cs sc cV cS ret (.if_icmp .ne o) p2 nx tg lv (.int y :: .int x :: st) S k := by
  intro lv st S x y k h
  refine ⟨fun e => ?_, fun e => ?_⟩
  · have q : wr_eq x y = false := by simp [wr_eq, e]
    rw [q] at h
    exact h
  · have q : wr_eq x y = true := by simp [wr_eq, e]
    rw [q] at h
    exact h
theorem wm_z_eqF {o : Int} : ∀ lv st S (x : Int32) (k : wm_K), k (bif wr_eq x 0 then nx else tg) lv st S → wm_step L fl cs sc cV cS ret (.ifCond .ne o) p2 nx tg lv (.int x :: st) S k := by
  intro lv st S x k h
  refine ⟨fun e => ?_, fun e => ?_⟩
  · have q : wr_eq x (0 : Int32) = false := by simp [wr_eq, e]
    rw [q] at h
    exact h
  · have q : wr_eq x (0 : Int32) = true := by simp [wr_eq, e]
    rw [q] at h
    exact h
theorem wm_j_neT {o : Int} : ∀ lv st S (x y : Int32) (k : wm_K), k (bif wr_ne x y then tg else nx) lv st S → wm_step L fl cs sc cV cS ret (.if_icmp .ne o) p2 nx tg lv (.int y :: .int x :: st) S k := by
  intro lv st S x y k h
  refine ⟨fun e => ?_, fun e => ?_⟩
  · have q : wr_ne x y = true := by simp [wr_ne, e]
    rw [q] at h
    exact h
  · have q : wr_ne x y = false := by simp [wr_ne, e]
    rw [q] at h
    exact h
theorem wm_z_neT {o : Int} : ∀ lv st S (x : Int32) (k : wm_K), k (bif wr_ne x 0 then tg else nx) lv st S → wm_step L fl cs sc cV cS ret (.ifCond .ne o) p2 nx tg lv (.int x :: st) S k := by
  intro lv st S x k h
  refine ⟨fun e => ?_, fun e => ?_⟩
  · have q : wr_ne x (0 : Int32) = true := by simp [wr_ne, e]
    rw [q] at h
    exact h
  · have q : wr_ne x (0 : Int32) = false := by simp [wr_ne, e]
    rw [q] at h
    exact h
theorem wm_j_neF {o : Int} : ∀ lv st S (x y : Int32) (k : wm_K), k (bif wr_ne x y then nx else tg) lv st S → wm_step L fl cs sc cV cS ret (.if_icmp .eq o) p2 nx tg lv (.int y :: .int x :: st) S k := by
  intro lv st S x y k h
  refine ⟨fun e => ?_, fun e => ?_⟩
  · have q : wr_ne x y = false := by simp [wr_ne, e]
    rw [q] at h
    exact h
  · have q : wr_ne x y = true := by simp [wr_ne, e]
    rw [q] at h
    exact h
theorem wm_z_neF {o : Int} : ∀ lv st S (x : Int32) (k : wm_K), k (bif wr_ne x 0 then nx else tg) lv st S → wm_step L fl cs sc cV cS ret (.ifCond .eq o) p2 nx tg lv (.int x :: st) S k := by
  intro lv st S x k h
  refine ⟨fun e => ?_, fun e => ?_⟩
  · have q : wr_ne x (0 : Int32) = false := by simp [wr_ne, e]
    rw [q] at h
    exact h
  · have q : wr_ne x (0 : Int32) = true := by simp [wr_ne, e]
    rw [q] at h
    exact h
theorem wm_j_ltT {o : Int} : ∀ lv st S (x y : Int32) (k : wm_K), k (bif wr_lt x y then tg else nx) lv st S → wm_step L fl cs sc cV cS ret (.if_icmp .lt o) p2 nx tg lv (.int y :: .int x :: st) S k := by
  intro lv st S x y k h
  refine ⟨fun e => ?_, fun e => ?_⟩
  · have q : wr_lt x y = true := decide_eq_true (e)
    rw [q] at h
    exact h
  · have q : wr_lt x y = false := decide_eq_false (e)
    rw [q] at h
    exact h
theorem wm_z_ltT {o : Int} : ∀ lv st S (x : Int32) (k : wm_K), k (bif wr_lt x 0 then tg else nx) lv st S → wm_step L fl cs sc cV cS ret (.ifCond .lt o) p2 nx tg lv (.int x :: st) S k := by
  intro lv st S x k h
  refine ⟨fun e => ?_, fun e => ?_⟩
  · have q : wr_lt x (0 : Int32) = true := decide_eq_true (e)
    rw [q] at h
    exact h
  · have q : wr_lt x (0 : Int32) = false := decide_eq_false (e)
    rw [q] at h
    exact h
theorem wm_j_ltF {o : Int} : ∀ lv st S (x y : Int32) (k : wm_K), k (bif wr_lt x y then nx else tg) lv st S → wm_step L fl cs sc cV cS ret (.if_icmp .ge o) p2 nx tg lv (.int y :: .int x :: st) S k := by
  intro lv st S x y k h
  refine ⟨fun e => ?_, fun e => ?_⟩
  · have q : wr_lt x y = false := decide_eq_false (Int32.not_lt.mpr e)
    rw [q] at h
    exact h
  · have q : wr_lt x y = true := decide_eq_true (Int32.not_le.mp e)
    rw [q] at h
    exact h
theorem wm_z_ltF {o : Int} : ∀ lv st S (x : Int32) (k : wm_K), k (bif wr_lt x 0 then nx else tg) lv st S → wm_step L fl cs sc cV cS ret (.ifCond .ge o) p2 nx tg lv (.int x :: st) S k := by
  intro lv st S x k h
  refine ⟨fun e => ?_, fun e => ?_⟩
  · have q : wr_lt x (0 : Int32) = false := decide_eq_false (Int32.not_lt.mpr e)
    rw [q] at h
    exact h
  · have q : wr_lt x (0 : Int32) = true := decide_eq_true (Int32.not_le.mp e)
    rw [q] at h
    exact h
theorem wm_j_geT {o : Int} : ∀ lv st S (x y : Int32) (k : wm_K), k (bif wr_ge x y then tg else nx) lv st S → wm_step L fl cs sc cV cS ret (.if_icmp .ge o) p2 nx tg lv (.int y :: .int x :: st) S k := by
  intro lv st S x y k h
  refine ⟨fun e => ?_, fun e => ?_⟩
  · have q : wr_ge x y = true := decide_eq_true (e)
    rw [q] at h
    exact h
  · have q : wr_ge x y = false := decide_eq_false (e)
    rw [q] at h
    exact h
theorem wm_z_geT {o : Int} : ∀ lv st S (x : Int32) (k : wm_K), k (bif wr_ge x 0 then tg else nx) lv st S → wm_step L fl cs sc cV cS ret (.ifCond .ge o) p2 nx tg lv (.int x :: st) S k := by
  intro lv st S x k h
  refine ⟨fun e => ?_, fun e => ?_⟩
  · have q : wr_ge x (0 : Int32) = true := decide_eq_true (e)
    rw [q] at h
    exact h
  · have q : wr_ge x (0 : Int32) = false := decide_eq_false (e)
    rw [q] at h
    exact h
theorem wm_j_geF {o : Int} : ∀ lv st S (x y : Int32) (k : wm_K), k (bif wr_ge x y then nx else tg) lv st S → wm_step L fl cs sc cV cS ret (.if_icmp .lt o) p2 nx tg lv (.int y :: .int x :: st) S k := by
  intro lv st S x y k h
  refine ⟨fun e => ?_, fun e => ?_⟩
  · have q : wr_ge x y = false := decide_eq_false (Int32.not_le.mpr e)
    rw [q] at h
    exact h
  · have q : wr_ge x y = true := decide_eq_true (Int32.not_lt.mp e)
    rw [q] at h
    exact h
theorem wm_z_geF {o : Int} : ∀ lv st S (x : Int32) (k : wm_K), k (bif wr_ge x 0 then nx else tg) lv st S → wm_step L fl cs sc cV cS ret (.ifCond .lt o) p2 nx tg lv (.int x :: st) S k := by
  intro lv st S x k h
  refine ⟨fun e => ?_, fun e => ?_⟩
  · have q : wr_ge x (0 : Int32) = false := decide_eq_false (Int32.not_le.mpr e)
    rw [q] at h
    exact h
  · have q : wr_ge x (0 : Int32) = true := decide_eq_true (Int32.not_lt.mp e)
    rw [q] at h
    exact h
theorem wm_j_gtT {o : Int} : ∀ lv st S (x y : Int32) (k : wm_K), k (bif wr_gt x y then tg else nx) lv st S → wm_step L fl cs sc cV cS ret (.if_icmp .gt o) p2 nx tg lv (.int y :: .int x :: st) S k := by
  intro lv st S x y k h
  refine ⟨fun e => ?_, fun e => ?_⟩
  · have q : wr_gt x y = true := decide_eq_true (e)
    rw [q] at h
    exact h
  · have q : wr_gt x y = false := decide_eq_false (e)
    rw [q] at h
    exact h
theorem wm_z_gtT {o : Int} : ∀ lv st S (x : Int32) (k : wm_K), k (bif wr_gt x 0 then tg else nx) lv st S → wm_step L fl cs sc cV cS ret (.ifCond .gt o) p2 nx tg lv (.int x :: st) S k := by
  intro lv st S x k h
  refine ⟨fun e => ?_, fun e => ?_⟩
  · have q : wr_gt x (0 : Int32) = true := decide_eq_true (e)
    rw [q] at h
    exact h
  · have q : wr_gt x (0 : Int32) = false := decide_eq_false (e)
    rw [q] at h
    exact h
theorem wm_j_gtF {o : Int} : ∀ lv st S (x y : Int32) (k : wm_K), k (bif wr_gt x y then nx else tg) lv st S → wm_step L fl cs sc cV cS ret (.if_icmp .le o) p2 nx tg lv (.int y :: .int x :: st) S k := by
  intro lv st S x y k h
  refine ⟨fun e => ?_, fun e => ?_⟩
  · have q : wr_gt x y = false := decide_eq_false (Int32.not_lt.mpr e)
    rw [q] at h
    exact h
  · have q : wr_gt x y = true := decide_eq_true (Int32.not_le.mp e)
    rw [q] at h
    exact h
theorem wm_z_gtF {o : Int} : ∀ lv st S (x : Int32) (k : wm_K), k (bif wr_gt x 0 then nx else tg) lv st S → wm_step L fl cs sc cV cS ret (.ifCond .le o) p2 nx tg lv (.int x :: st) S k := by
  intro lv st S x k h
  refine ⟨fun e => ?_, fun e => ?_⟩
  · have q : wr_gt x (0 : Int32) = false := decide_eq_false (Int32.not_lt.mpr e)
    rw [q] at h
    exact h
  · have q : wr_gt x (0 : Int32) = true := decide_eq_true (Int32.not_le.mp e)
    rw [q] at h
    exact h
theorem wm_j_leT {o : Int} : ∀ lv st S (x y : Int32) (k : wm_K), k (bif wr_le x y then tg else nx) lv st S → wm_step L fl cs sc cV cS ret (.if_icmp .le o) p2 nx tg lv (.int y :: .int x :: st) S k := by
  intro lv st S x y k h
  refine ⟨fun e => ?_, fun e => ?_⟩
  · have q : wr_le x y = true := decide_eq_true (e)
    rw [q] at h
    exact h
  · have q : wr_le x y = false := decide_eq_false (e)
    rw [q] at h
    exact h
theorem wm_z_leT {o : Int} : ∀ lv st S (x : Int32) (k : wm_K), k (bif wr_le x 0 then tg else nx) lv st S → wm_step L fl cs sc cV cS ret (.ifCond .le o) p2 nx tg lv (.int x :: st) S k := by
  intro lv st S x k h
  refine ⟨fun e => ?_, fun e => ?_⟩
  · have q : wr_le x (0 : Int32) = true := decide_eq_true (e)
    rw [q] at h
    exact h
  · have q : wr_le x (0 : Int32) = false := decide_eq_false (e)
    rw [q] at h
    exact h
theorem wm_j_leF {o : Int} : ∀ lv st S (x y : Int32) (k : wm_K), k (bif wr_le x y then nx else tg) lv st S → wm_step L fl cs sc cV cS ret (.if_icmp .gt o) p2 nx tg lv (.int y :: .int x :: st) S k := by
  intro lv st S x y k h
  refine ⟨fun e => ?_, fun e => ?_⟩
  · have q : wr_le x y = false := decide_eq_false (Int32.not_le.mpr e)
    rw [q] at h
    exact h
  · have q : wr_le x y = true := decide_eq_true (Int32.not_lt.mp e)
    rw [q] at h
    exact h
theorem wm_z_leF {o : Int} : ∀ lv st S (x : Int32) (k : wm_K), k (bif wr_le x 0 then nx else tg) lv st S → wm_step L fl cs sc cV cS ret (.ifCond .gt o) p2 nx tg lv (.int x :: st) S k := by
  intro lv st S x k h
  refine ⟨fun e => ?_, fun e => ?_⟩
  · have q : wr_le x (0 : Int32) = false := decide_eq_false (Int32.not_le.mpr e)
    rw [q] at h
    exact h
  · have q : wr_le x (0 : Int32) = true := decide_eq_true (Int32.not_lt.mp e)
    rw [q] at h
    exact h
theorem wm_blt {j n : Nat} (h : j < n) : Nat.blt j n = true := Nat.ble_eq_true_of_le h
theorem wm_cs0 : wm_cs [] ≤ 0 := Nat.le_refl 0
theorem wm_t_in {j : Fin 4} {k : Nat} {a : wm_Ex Int32} (hc : wm_cl L fl cs sc cV cS ret tb w) (ha : wm_E w tb 0 p0 p1 .int a) (h : wm_lp tb p1 = some (.istore_n j, p2, tg)) (hj : j.val = k) : wm_T w tb ret p0 p2 (ws_i k a) := by
  subst hj
  refine ⟨ha.1, fun lv S o hf ho => ?_⟩
  obtain ⟨x, S1, h1, hf⟩ := wx_bind_some hf
  split at hf
  · rename_i hlt
    cases hf
    refine ha.2 lv [] S x S1 wm_cs0 h1 (wm_at hc h rfl ?_)
    simp only [wm_step, wm_blt hlt]
    exact wm_thr_w hc ho
  · cases hf
theorem wm_t_ln {j : Fin 4} {k : Nat} {a : wm_Ex Int64} (hc : wm_cl L fl cs sc cV cS ret tb w) (ha : wm_E w tb 0 p0 p1 .long a) (h : wm_lp tb p1 = some (.lstore_n j, p2, tg)) (hj : j.val = k) : wm_T w tb ret p0 p2 (ws_l k a) := by
  subst hj
  refine ⟨ha.1, fun lv S o hf ho => ?_⟩
  obtain ⟨x, S1, h1, hf⟩ := wx_bind_some hf
  split at hf
  · rename_i hlt
    cases hf
    refine ha.2 lv [] S x S1 wm_cs0 h1 (wm_at hc h rfl ?_)
    simp only [wm_step, wm_blt hlt]
    exact wm_thr_w hc ho
  · cases hf
theorem wm_t_i {j : Nat} {a : wm_Ex Int32} (hc : wm_cl L fl cs sc cV cS ret tb w) (ha : wm_E w tb 0 p0 p1 .int a) (h : wm_lp tb p1 = some (.istore j, p2, tg)) : wm_T w tb ret p0 p2 (ws_i j a) := by
  refine ⟨ha.1, fun lv S o hf ho => ?_⟩
  obtain ⟨x, S1, h1, hf⟩ := wx_bind_some hf
  split at hf
  · rename_i hlt
    cases hf
    refine ha.2 lv [] S x S1 wm_cs0 h1 (wm_at hc h rfl ?_)
    simp only [wm_step, wm_blt hlt]
    exact wm_thr_w hc ho
  · cases hf
theorem wm_t_l {j : Nat} {a : wm_Ex Int64} (hc : wm_cl L fl cs sc cV cS ret tb w) (ha : wm_E w tb 0 p0 p1 .long a) (h : wm_lp tb p1 = some (.lstore j, p2, tg)) : wm_T w tb ret p0 p2 (ws_l j a) := by
  refine ⟨ha.1, fun lv S o hf ho => ?_⟩
  obtain ⟨x, S1, h1, hf⟩ := wx_bind_some hf
  split at hf
  · rename_i hlt
    cases hf
    refine ha.2 lv [] S x S1 wm_cs0 h1 (wm_at hc h rfl ?_)
    simp only [wm_step, wm_blt hlt]
    exact wm_thr_w hc ho
  · cases hf
theorem wm_t_inc {j : Nat} {zz : Int} {z : Int32} (hc : wm_cl L fl cs sc cV cS ret tb w) (h : wm_lp tb p0 = some (.iinc j zz, p1, tg)) (hz : Int32.ofInt zz = z) : wm_T w tb ret p0 p1 (ws_inc j z) := by
  subst hz
  refine ⟨wm_thr_ng h rfl, fun lv S o hf ho => ?_⟩
  unfold ws_inc at hf
  split at hf
  · rename_i x e
    cases hf
    refine hc _ _ _ _ _ _ _ h ?_
    simp only [wm_step, e]
    exact wm_thr_w hc ho
  · cases hf
theorem wm_t_fi {ix ci j : Nat} {a : wm_Ex Nat} {b : wm_Ex Int32} (hc : wm_cl L fl cs sc cV cS ret tb w) (ha : wm_E w tb 0 p0 p1 .ref a) (hb : wm_E w tb (0 + 2) p1 p2 .int b) (h : wm_lp tb p2 = some (.putfield ix, p3, tg)) (hl : wm_lp fl ix = some (ci, j)) : wm_T w tb ret p0 p3 (ws_fi L ci j a b) := by
  refine ⟨ha.1, fun lv S o hf ho => ?_⟩
  obtain ⟨q, S1, h1, hf⟩ := wx_bind_some hf
  obtain ⟨x, S2, h2, hf⟩ := wx_bind_some hf
  refine ha.2 lv [] S q S1 wm_cs0 h1 ?_
  rw [hb.1]
  refine hb.2 lv _ S1 x S2 (wm_cs_cons wm_cs0) h2 (wm_at hc h rfl ?_)
  split at hf
  · rename_i e
    cases hf
    simp only [wm_step, wm_fld_of hl e]
    exact wm_thr_w hc ho
  · rename_i e
    split at hf
    · rename_i hz
      cases hf
      simp only [wm_step, wm_fld_of hl e]
      exact ⟨hz, wm_thr_w hc ho⟩
    · cases hf
  · cases hf
theorem wm_t_fl {ix ci j : Nat} {a : wm_Ex Nat} {b : wm_Ex Int64} (hc : wm_cl L fl cs sc cV cS ret tb w) (ha : wm_E w tb 0 p0 p1 .ref a) (hb : wm_E w tb (0 + 2) p1 p2 .long b) (h : wm_lp tb p2 = some (.putfield ix, p3, tg)) (hl : wm_lp fl ix = some (ci, j)) : wm_T w tb ret p0 p3 (ws_fl L ci j a b) := by
  refine ⟨ha.1, fun lv S o hf ho => ?_⟩
  obtain ⟨q, S1, h1, hf⟩ := wx_bind_some hf
  obtain ⟨x, S2, h2, hf⟩ := wx_bind_some hf
  refine ha.2 lv [] S q S1 wm_cs0 h1 ?_
  rw [hb.1]
  refine hb.2 lv _ S1 x S2 (wm_cs_cons wm_cs0) h2 (wm_at hc h rfl ?_)
  split at hf
  · rename_i e
    cases hf
    simp only [wm_step, wm_fld_of hl e]
    exact wm_thr_w hc ho
  · cases hf
theorem wm_t_ofi {ix ci j : Nat} {op : Int32 → Int32 → Int32} {a : wm_Ex Nat} {b : wm_Ex Int32} {i : Instr} (hc : wm_cl L fl cs sc cV cS ret tb w) (ha : wm_E w tb 0 p0 p1 .ref a) (h1 : wm_lp tb p1 = some (.dup, p2, t2)) (h2 : wm_lp tb p2 = some (.getfield ix, p3, t3)) (hb : wm_E w tb (0 + 2 + 2) p3 p4 .int b) (h4 : wm_lp tb p4 = some (i, p5, t4)) (hi : wm_ng i = true)
    (hs : ∀ lv st S x y (k : wm_K), k p5 lv (.int (op x y) :: st) S → wm_step L fl cs sc cV cS ret i p4 p5 t4 lv (.int y :: .int x :: st) S k) (h5 : wm_lp tb p5 = some (.putfield ix, p6, t5)) (hl : wm_lp fl ix = some (ci, j)) : wm_T w tb ret p0 p6 (ws_ofi L ci j op a b) := by
  refine ⟨ha.1, fun lv S o hf ho => ?_⟩
  obtain ⟨q, S1, g1, hf⟩ := wx_bind_some hf
  split at hf
  · rename_i e
    obtain ⟨y, S2, g2, hf⟩ := wx_bind_some hf
    cases hf
    refine ha.2 lv [] S q S1 wm_cs0 g1 (wm_at hc h1 rfl ?_)
    show w p2 lv (.ref q :: .ref q :: []) S1
    refine hc _ _ _ _ _ _ _ h2 ?_
    simp only [wm_step, wm_fld_of hl e]
    have := hb.2 lv [.int (S1.1 q j), .ref q] S1 y S2 (wm_cs_cons (wm_cs_cons wm_cs0)) g2 (wm_at hc h4 hi (hs _ _ _ _ _ _ (hc _ _ _ _ _ _ _ h5 (by
      simp only [wm_step, wm_fld_of hl e]
      exact wm_thr_w hc ho))))
    exact this
  · cases hf
theorem wm_t_ofl {ix ci j : Nat} {op : Int64 → Int64 → Int64} {a : wm_Ex Nat} {b : wm_Ex Int64} {i : Instr} (hc : wm_cl L fl cs sc cV cS ret tb w) (ha : wm_E w tb 0 p0 p1 .ref a) (h1 : wm_lp tb p1 = some (.dup, p2, t2)) (h2 : wm_lp tb p2 = some (.getfield ix, p3, t3)) (hb : wm_E w tb (0 + 2 + 2) p3 p4 .long b) (h4 : wm_lp tb p4 = some (i, p5, t4)) (hi : wm_ng i = true)
    (hs : ∀ lv st S x y (k : wm_K), k p5 lv (.long (op x y) :: st) S → wm_step L fl cs sc cV cS ret i p4 p5 t4 lv (.long y :: .long x :: st) S k) (h5 : wm_lp tb p5 = some (.putfield ix, p6, t5)) (hl : wm_lp fl ix = some (ci, j)) : wm_T w tb ret p0 p6 (ws_ofl L ci j op a b) := by
  refine ⟨ha.1, fun lv S o hf ho => ?_⟩
  obtain ⟨q, S1, g1, hf⟩ := wx_bind_some hf
  split at hf
  · rename_i e
    obtain ⟨y, S2, g2, hf⟩ := wx_bind_some hf
    cases hf
    refine ha.2 lv [] S q S1 wm_cs0 g1 (wm_at hc h1 rfl ?_)
    show w p2 lv (.ref q :: .ref q :: []) S1
    refine hc _ _ _ _ _ _ _ h2 ?_
    simp only [wm_step, wm_fld_of hl e]
    have := hb.2 lv [.long (S1.2 q j), .ref q] S1 y S2 (wm_cs_cons (wm_cs_cons wm_cs0)) g2 (wm_at hc h4 hi (hs _ _ _ _ _ _ (hc _ _ _ _ _ _ _ h5 (by
      simp only [wm_step, wm_fld_of hl e]
      exact wm_thr_w hc ho))))
    exact this
  · cases hf
theorem wm_t_ai {a : wm_Ex Nat} {b : wm_Ex Int32} {c : wm_Ex Int32} (hc : wm_cl L fl cs sc cV cS ret tb w) (ha : wm_E w tb 0 p0 p1 .ref a) (hb : wm_E w tb (0 + 2) p1 p2 .int b) (hd : wm_E w tb (0 + 2 + 2) p2 p3 .int c) (h : wm_lp tb p3 = some (.iastore, p4, tg)) : wm_T w tb ret p0 p4 (ws_ai L a b c) := by
  refine ⟨ha.1, fun lv S o hf ho => ?_⟩
  obtain ⟨q, S1, h1, hf⟩ := wx_bind_some hf
  obtain ⟨i, S2, h2, hf⟩ := wx_bind_some hf
  obtain ⟨x, S3, h3, hf⟩ := wx_bind_some hf
  refine ha.2 lv [] S q S1 wm_cs0 h1 ?_
  rw [hb.1]
  refine hb.2 lv _ S1 i S2 (wm_cs_cons wm_cs0) h2 ?_
  rw [hd.1]
  refine hd.2 lv _ S2 x S3 (wm_cs_cons (wm_cs_cons wm_cs0)) h3 (wm_at hc h rfl ?_)
  split at hf
  · rename_i n f e
    split at hf
    · cases hf
    · rename_i hi
      cases hf
      simp only [wm_step, e]
      exact ⟨hi, wm_thr_w hc ho⟩
  · cases hf
theorem wm_t_az {a : wm_Ex Nat} {b : wm_Ex Int32} {c : wm_Ex Int32} (hc : wm_cl L fl cs sc cV cS ret tb w) (ha : wm_E w tb 0 p0 p1 .ref a) (hb : wm_E w tb (0 + 2) p1 p2 .int b) (hd : wm_E w tb (0 + 2 + 2) p2 p3 .int c) (h : wm_lp tb p3 = some (.bastore, p4, tg)) : wm_T w tb ret p0 p4 (ws_az L a b c) := by
  refine ⟨ha.1, fun lv S o hf ho => ?_⟩
  obtain ⟨q, S1, h1, hf⟩ := wx_bind_some hf
  obtain ⟨i, S2, h2, hf⟩ := wx_bind_some hf
  obtain ⟨x, S3, h3, hf⟩ := wx_bind_some hf
  refine ha.2 lv [] S q S1 wm_cs0 h1 ?_
  rw [hb.1]
  refine hb.2 lv _ S1 i S2 (wm_cs_cons wm_cs0) h2 ?_
  rw [hd.1]
  refine hd.2 lv _ S2 x S3 (wm_cs_cons (wm_cs_cons wm_cs0)) h3 (wm_at hc h rfl ?_)
  split at hf
  · rename_i n f e
    split at hf
    · cases hf
    · rename_i hi
      split at hf
      · rename_i hz
        cases hf
        simp only [wm_step, e]
        exact ⟨hi, hz, wm_thr_w hc ho⟩
      · cases hf
  · cases hf
theorem wm_t_al {a : wm_Ex Nat} {b : wm_Ex Int32} {c : wm_Ex Int64} (hc : wm_cl L fl cs sc cV cS ret tb w) (ha : wm_E w tb 0 p0 p1 .ref a) (hb : wm_E w tb (0 + 2) p1 p2 .int b) (hd : wm_E w tb (0 + 2 + 2) p2 p3 .long c) (h : wm_lp tb p3 = some (.lastore, p4, tg)) : wm_T w tb ret p0 p4 (ws_al L a b c) := by
  refine ⟨ha.1, fun lv S o hf ho => ?_⟩
  obtain ⟨q, S1, h1, hf⟩ := wx_bind_some hf
  obtain ⟨i, S2, h2, hf⟩ := wx_bind_some hf
  obtain ⟨x, S3, h3, hf⟩ := wx_bind_some hf
  refine ha.2 lv [] S q S1 wm_cs0 h1 ?_
  rw [hb.1]
  refine hb.2 lv _ S1 i S2 (wm_cs_cons wm_cs0) h2 ?_
  rw [hd.1]
  refine hd.2 lv _ S2 x S3 (wm_cs_cons (wm_cs_cons wm_cs0)) h3 (wm_at hc h rfl ?_)
  split at hf
  · rename_i n f e
    split at hf
    · cases hf
    · rename_i hi
      cases hf
      simp only [wm_step, e]
      exact ⟨hi, wm_thr_w hc ho⟩
  · cases hf
theorem wm_t_oai {op : Int32 → Int32 → Int32} {a : wm_Ex Nat} {b : wm_Ex Int32} {c : wm_Ex Int32} {i : Instr} (hc : wm_cl L fl cs sc cV cS ret tb w) (ha : wm_E w tb 0 p0 p1 .ref a) (hb : wm_E w tb (0 + 2) p1 p2 .int b) (h1 : wm_lp tb p2 = some (.dup2, p3, t2)) (h2 : wm_lp tb p3 = some (.iaload, p4, t3)) (hd : wm_E w tb (0 + 2 + 2 + 2) p4 p5 .int c) (h4 : wm_lp tb p5 = some (i, p6, t4)) (hi : wm_ng i = true)
    (hs : ∀ lv st S x y (k : wm_K), k p6 lv (.int (op x y) :: st) S → wm_step L fl cs sc cV cS ret i p5 p6 t4 lv (.int y :: .int x :: st) S k) (h5 : wm_lp tb p6 = some (.iastore, p7, t5)) : wm_T w tb ret p0 p7 (ws_oai L op a b c) := by
  refine ⟨ha.1, fun lv S o hf ho => ?_⟩
  obtain ⟨q, S1, g1, hf⟩ := wx_bind_some hf
  obtain ⟨j, S2, g2, hf⟩ := wx_bind_some hf
  split at hf
  · rename_i n f e
    split at hf
    · cases hf
    · rename_i hj
      obtain ⟨y, S3, g3, hf⟩ := wx_bind_some hf
      cases hf
      refine ha.2 lv [] S q S1 wm_cs0 g1 ?_
      rw [hb.1]
      refine hb.2 lv _ S1 j S2 (wm_cs_cons wm_cs0) g2 (wm_at hc h1 rfl ?_)
      show w p3 lv (.int j :: .ref q :: .int j :: .ref q :: []) S2
      refine hc _ _ _ _ _ _ _ h2 ?_
      simp only [wm_step, e]
      refine ⟨hj, ?_⟩
      have := hd.2 lv [.int (S2.1 q j.toNatClampNeg), .int j, .ref q] S2 y S3 (wm_cs_cons (wm_cs_cons (wm_cs_cons wm_cs0))) g3 (wm_at hc h4 hi (hs _ _ _ _ _ _ (hc _ _ _ _ _ _ _ h5 (by
        simp only [wm_step, e]
        exact ⟨hj, wm_thr_w hc ho⟩))))
      exact this
  · cases hf
theorem wm_t_oal {op : Int64 → Int64 → Int64} {a : wm_Ex Nat} {b : wm_Ex Int32} {c : wm_Ex Int64} {i : Instr} (hc : wm_cl L fl cs sc cV cS ret tb w) (ha : wm_E w tb 0 p0 p1 .ref a) (hb : wm_E w tb (0 + 2) p1 p2 .int b) (h1 : wm_lp tb p2 = some (.dup2, p3, t2)) (h2 : wm_lp tb p3 = some (.laload, p4, t3)) (hd : wm_E w tb (0 + 2 + 2 + 2) p4 p5 .long c) (h4 : wm_lp tb p5 = some (i, p6, t4)) (hi : wm_ng i = true)
    (hs : ∀ lv st S x y (k : wm_K), k p6 lv (.long (op x y) :: st) S → wm_step L fl cs sc cV cS ret i p5 p6 t4 lv (.long y :: .long x :: st) S k) (h5 : wm_lp tb p6 = some (.lastore, p7, t5)) : wm_T w tb ret p0 p7 (ws_oal L op a b c) := by
  refine ⟨ha.1, fun lv S o hf ho => ?_⟩
  obtain ⟨q, S1, g1, hf⟩ := wx_bind_some hf
  obtain ⟨j, S2, g2, hf⟩ := wx_bind_some hf
  split at hf
  · rename_i n f e
    split at hf
    · cases hf
    · rename_i hj
      obtain ⟨y, S3, g3, hf⟩ := wx_bind_some hf
      cases hf
      refine ha.2 lv [] S q S1 wm_cs0 g1 ?_
      rw [hb.1]
      refine hb.2 lv _ S1 j S2 (wm_cs_cons wm_cs0) g2 (wm_at hc h1 rfl ?_)
      show w p3 lv (.int j :: .ref q :: .int j :: .ref q :: []) S2
      refine hc _ _ _ _ _ _ _ h2 ?_
      simp only [wm_step, e]
      refine ⟨hj, ?_⟩
      have := hd.2 lv [.long (S2.2 q j.toNatClampNeg), .int j, .ref q] S2 y S3 (wm_cs_cons (wm_cs_cons (wm_cs_cons wm_cs0))) g3 (wm_at hc h4 hi (hs _ _ _ _ _ _ (hc _ _ _ _ _ _ _ h5 (by
        simp only [wm_step, e]
        exact ⟨hj, wm_thr_w hc ho⟩))))
      exact this
  · cases hf
theorem wm_t_callV {b : wm_Ex (List Value)} {ix n : Nat} {f : List Value → wm_S → Option (Option Value × wm_S)} (hc : wm_cl L fl cs sc cV cS ret tb w) (hb : wm_A w tb 0 p0 p1 n b) (h : wm_lp tb p1 = some (.invokevirtual ix, p2, tg)) (hl : wm_lp cV ix = some (n, f)) : wm_T w tb ret p0 p2 (ws_call f b) := by
  refine ⟨hb.1, fun lv S o hf ho => ?_⟩
  obtain ⟨vs, S1, h1, hf⟩ := wx_bind_some hf
  refine hb.2 lv [] S vs S1 wm_cs0 h1 (fun hn => wm_at hc h rfl ?_)
  split at hf
  · rename_i S2 e
    cases hf
    simp only [wm_step, wm_inv, hl]
    exact ⟨vs, [], none, S2, rfl, hn, Nat.zero_le _, e, wm_thr_w hc ho⟩
  · cases hf
theorem wm_t_callS {b : wm_Ex (List Value)} {ix n : Nat} {f : List Value → wm_S → Option (Option Value × wm_S)} (hc : wm_cl L fl cs sc cV cS ret tb w) (hb : wm_A w tb 0 p0 p1 n b) (h : wm_lp tb p1 = some (.invokestatic ix, p2, tg)) (hl : wm_lp cS ix = some (n, f)) : wm_T w tb ret p0 p2 (ws_call f b) := by
  refine ⟨hb.1, fun lv S o hf ho => ?_⟩
  obtain ⟨vs, S1, h1, hf⟩ := wx_bind_some hf
  refine hb.2 lv [] S vs S1 wm_cs0 h1 (fun hn => wm_at hc h rfl ?_)
  split at hf
  · rename_i S2 e
    cases hf
    simp only [wm_step, wm_inv, hl]
    exact ⟨vs, [], none, S2, rfl, hn, Nat.zero_le _, e, wm_thr_w hc ho⟩
  · cases hf
theorem wm_t_seq {a b : wm_St} (ha : wm_T w tb ret p0 p1 a) (hb : wm_T w tb ret p1 p2 b) : wm_T w tb ret p0 p2 (ws_seq a b) := by
  refine ⟨ha.1, fun lv S o hf ho => ?_⟩
  unfold ws_seq at hf
  split at hf
  · rename_i lv1 S1 e
    refine ha.2 lv S _ e ?_
    show w (wm_thr tb p1) lv1 [] S1
    rw [hb.1]
    exact hb.2 lv1 S1 o hf ho
  · rename_i hne
    refine ha.2 lv S o hf ?_
    cases o with
    | inl q => exact absurd hf (hne q.1 q.2)
    | inr q => exact ho
theorem wm_t_if {c : wm_Ex Bool} {a : wm_St} (hcd : wm_B w tb 0 p0 pT pF c) (ha : wm_T w tb ret pT p1 a) (he : wm_thr tb pF = wm_thr tb p1) : wm_T w tb ret p0 p1 (ws_if c a) := by
  refine ⟨hcd.1, fun lv S o hf ho => ?_⟩
  obtain ⟨t, S1, h1, hf⟩ := wx_bind_some hf
  refine hcd.2 lv [] S t S1 wm_cs0 h1 ?_
  cases t with
  | true =>
    show w (wm_thr tb pT) lv [] S1
    rw [ha.1]
    exact ha.2 lv S1 o hf ho
  | false =>
    cases hf
    show w (wm_thr tb pF) lv [] S1
    rw [he]
    exact ho
theorem wm_t_ife {c : wm_Ex Bool} {a b : wm_St} (hcd : wm_B w tb 0 p0 pT pF c) (ha : wm_T w tb ret pT pG a) (hb : wm_T w tb ret pF p1 b) (hg : wm_thr tb pG = wm_thr tb p1) : wm_T w tb ret p0 p1 (ws_ife c a b) := by
  refine ⟨hcd.1, fun lv S o hf ho => ?_⟩
  obtain ⟨t, S1, h1, hf⟩ := wx_bind_some hf
  refine hcd.2 lv [] S t S1 wm_cs0 h1 ?_
  cases t with
  | true =>
    show w (wm_thr tb pT) lv [] S1
    rw [ha.1]
    refine ha.2 lv S1 o hf ?_
    rw [hg]
    exact ho
  | false =>
    show w (wm_thr tb pF) lv [] S1
    rw [hb.1]
    exact hb.2 lv S1 o hf ho
theorem wm_t_ret {inj : α → Value} {a : wm_Ex α} {i : Instr} (hc : wm_cl L fl cs sc cV cS ret tb w) (ha : wm_E w tb 0 p0 p1 inj a) (h : wm_lp tb p1 = some (i, nx, tg)) (hi : wm_ng i = true) (hs : ∀ lv S x (k : wm_K), ret (some (inj x)) S → wm_step L fl cs sc cV cS ret i p1 nx tg lv [inj x] S k) : wm_T w tb ret p0 p2 (ws_ret inj a) := by
  refine ⟨ha.1, fun lv S o hf ho => ?_⟩
  obtain ⟨x, S1, h1, hf⟩ := wx_bind_some hf
  cases hf
  exact ha.2 lv [] S x S1 wm_cs0 h1 (wm_at hc h hi (hs _ _ _ _ ho))
theorem wm_t_retv (hc : wm_cl L fl cs sc cV cS ret tb w) (h : wm_lp tb p0 = some (.return_, nx, tg)) : wm_T w tb ret p0 p1 ws_retv := by
  refine ⟨wm_thr_ng h rfl, fun lv S o hf ho => ?_⟩
  cases hf
  exact hc _ _ _ _ _ _ _ h ho
/-- where the method throws: the exception's number is its answer -/
def wm_thw (tt : List (Nat × Nat)) (ret : Option Value → wm_S → Prop) (w : wm_K) : Prop := ∀ pc k, wm_lp tt pc = some k → ∀ lv S, ret (some (.retAddr k)) S → w pc lv [] S
theorem wm_t_skip (h0 : wm_thr tb p0 = p0) : wm_T w tb ret p0 p0 ws_skip := by
  refine ⟨h0, fun lv S o hf ho => ?_⟩
  cases hf
  rw [h0] at ho
  exact ho
theorem wm_t_thr {k : Nat} (h0 : wm_thr tb p0 = p0) (ht : ∀ lv S, ret (some (.retAddr k)) S → w p0 lv [] S) : wm_T w tb ret p0 p1 (ws_thr k) := by
  refine ⟨h0, fun lv S o hf ho => ?_⟩
  cases hf
  exact ht _ _ ho
theorem wm_t_loop {c : wm_Ex Bool} {b : wm_St} {n : Nat} (hcd : wm_B w tb 0 p0 pT p1 c) (hb : wm_T w tb ret pT pG b) (hg : wm_thr tb pG = p0) : wm_T w tb ret p0 p1 (ws_loop c b n) := by
  refine ⟨hcd.1, ?_⟩
  induction n with
  | zero => intro lv S o hf; cases hf
  | succ n ih =>
    intro lv S o hf ho
    unfold ws_loop at hf
    obtain ⟨t, S1, h1, hf⟩ := wx_bind_some hf
    refine hcd.2 lv [] S t S1 wm_cs0 h1 ?_
    cases t with
    | true =>
      show w (wm_thr tb pT) lv [] S1
      rw [hb.1]
      simp only [cond_true] at hf
      split at hf
      · rename_i lv2 S2 e
        refine hb.2 lv S1 _ e ?_
        show w (wm_thr tb pG) lv2 [] S2
        rw [hg]
        exact ih lv2 S2 o hf ho
      · rename_i hne
        refine hb.2 lv S1 o hf ?_
        cases o with
        | inl q => exact absurd hf (hne q.1 q.2)
        | inr q => exact ho
    | false =>
      cases hf
      exact ho
/-- each case's code does what its tree says -/
def wm_sws (w : wm_K) (tb : List wm_R) (ret : Option Value → wm_S → Prop) (pc pE : Nat) : List Int → List wm_St → Prop
  | [], [] => True
  | o :: os, s :: ss => (∃ t pg : Nat, (pc : Int) + o = (t : Int) ∧ wm_T w tb ret t pg s ∧ wm_thr tb pg = wm_thr tb pE) ∧ wm_sws w tb ret pc pE os ss
  | _, _ => False
theorem wm_jmp_of {pc t : Nat} {o : Int} {k : Nat → Prop} (h : (pc : Int) + o = (t : Int)) (hk : k t) : wm_jmp pc o k := by
  unfold wm_jmp
  rw [h]
  exact hk
theorem wm_sws_tsw {pc : Nat} {x : Int32} {sd : wm_St} {lv : List Value} {S : wm_S} {o : wm_O} (ho : match o with
  | .inl (lv', S') => w (wm_thr tb pE) lv' [] S'
  | .inr (v, S') => ret v S') : ∀ (os : List Int) (ss : List wm_St) (v : Int), wm_sws w tb ret pc pE os ss → (v ≤ x.toInt → ws_pick sd x.toInt v ss lv S = some o) → wm_tsw pc x (fun t => w t lv [] S) v os
  | [], [], _, _, _ => trivial
  | [], _ :: _, _, h, _ => h.elim
  | _ :: _, [], _, h, _ => h.elim
  | o1 :: os, s :: ss, v, h, hf => by
    obtain ⟨⟨t, pg, h1, h2, h3⟩, h4⟩ := h
    refine ⟨fun e => wm_jmp_of h1 ?_, wm_sws_tsw (sd := sd) ho os ss (v + 1) h4 (fun hv => ?_)⟩
    · have := hf (by omega)
      simp only [ws_pick, e, if_true] at this
      exact h2.2 lv S o this (by rw [h3]; exact ho)
    · have := hf (by omega)
      have hne : ¬ x.toInt = v := by omega
      simp only [ws_pick, hne, if_false] at this
      exact this
theorem wm_sws_len {pc : Nat} : ∀ {os : List Int} {ss : List wm_St}, wm_sws w tb ret pc pE os ss → os.length = ss.length
  | [], [], _ => rfl
  | [], _ :: _, h => h.elim
  | _ :: _, [], h => h.elim
  | _ :: os, _ :: ss, h => by rw [List.length_cons, List.length_cons, wm_sws_len h.2]
theorem ws_pick_out {sd : wm_St} {x : Int} : ∀ (ss : List wm_St) (v : Int), x < v ∨ v + ss.length ≤ x → ws_pick sd x v ss = sd
  | [], _, _ => rfl
  | s :: ss, v, h => by
    have h1 : ((s :: ss).length : Int) = ss.length + 1 := by simp
    have hne : ¬ x = v := by omega
    simp only [ws_pick, hne, if_false]
    exact ws_pick_out ss (v + 1) (by omega)
theorem wm_t_sw {a : wm_Ex Int32} {ss : List wm_St} {sd : wm_St} {dd lo hi : Int} {offs : Array Int} (hc : wm_cl L fl cs sc cV cS ret tb w) (ha : wm_E w tb 0 p0 p1 .int a) (h : wm_lp tb p1 = some (.tableswitch dd lo hi offs, nx, tg)) (hz : (offs.size == (hi - lo + 1).toNat) = true) (hS : wm_sws w tb ret p1 pE offs.toList ss) (hD : ∃ t pg : Nat, (p1 : Int) + dd = (t : Int) ∧ wm_T w tb ret t pg sd ∧ wm_thr tb pg = wm_thr tb pE) : wm_T w tb ret p0 pE (ws_sw a lo ss sd) := by
  refine ⟨ha.1, fun lv S o hf ho => ?_⟩
  obtain ⟨x, S1, h1, hf⟩ := wx_bind_some hf
  refine ha.2 lv [] S x S1 wm_cs0 h1 (wm_at hc h rfl ?_)
  simp only [wm_step, hz]
  have hl : offs.size = ss.length := by rw [← wm_sws_len hS, Array.length_toList]
  have hz2 : offs.size = (hi - lo + 1).toNat := by simpa using hz
  refine ⟨fun hq => ?_, wm_sws_tsw (w := w) (tb := tb) (ret := ret) (pE := pE) (sd := sd) ho _ _ _ hS (fun _ => hf)⟩
  rw [ws_pick_out ss lo (by omega)] at hf
  obtain ⟨t, pg, g1, g2, g3⟩ := hD
  exact wm_jmp_of g1 (g2.2 lv S1 o hf (by rw [g3]; exact ho))
end WMV

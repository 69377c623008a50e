/-! rules: a piece of the table does what its tree says -/
section WMU
variable {L : List wm_C} {fl : List (Nat × Nat × Nat)} {cs : List (Nat × Value)} {sc : Option (Nat × (Nat → Int32))} {cV cS : List (Nat × wm_M)} {ret : Option Value → wm_S → Prop} {tb : List wm_R} {w : wm_K}
variable {d p0 p1 p2 p3 p4 p5 p6 p7 pT pF pG nx tg t2 t3 t4 t5 t6 : Nat} {α β γ : Type}
theorem wm_leaf (hc : wm_cl L fl cs sc cV cS ret tb w) {inj : α → Value} {f : wm_Ex α} {i : Instr} (h : wm_lp tb p0 = some (i, p1, tg)) (hi : wm_ng i = true)
    (hs : ∀ lv st S a S', f lv S = some (a, S') → w p1 lv (inj a :: st) S' → wm_step L fl cs sc cV cS ret i p0 p1 tg lv st S w) : wm_E w tb d p0 p1 inj f :=
  ⟨wm_thr_ng h hi, fun lv st S a S' _ hf hw => hc _ _ _ _ _ _ _ h (hs lv st S a S' hf (wm_thr_w hc hw))⟩
theorem wx_i_some {j : Nat} {lv : List Value} {S : wm_S} {a : Int32} {S' : wm_S} (h : wx_i j lv S = some (a, S')) : lv[j]? = some (.int a) ∧ S' = S := by
  unfold wx_i at h
  split at h
  · rename_i x hx
    cases h
    exact ⟨hx, rfl⟩
  · cases h
theorem wx_l_some {j : Nat} {lv : List Value} {S : wm_S} {a : Int64} {S' : wm_S} (h : wx_l j lv S = some (a, S')) : lv[j]? = some (.long a) ∧ S' = S := by
  unfold wx_l at h
  split at h
  · rename_i x hx
    cases h
    exact ⟨hx, rfl⟩
  · cases h
theorem wx_r_some {j : Nat} {lv : List Value} {S : wm_S} {a : Nat} {S' : wm_S} (h : wx_r j lv S = some (a, S')) : lv[j]? = some (.ref a) ∧ S' = S := by
  unfold wx_r at h
  split at h
  · rename_i x hx
    cases h
    exact ⟨hx, rfl⟩
  · cases h
theorem wm_x_in (hc : wm_cl L fl cs sc cV cS ret tb w) {j : Fin 4} {k : Nat} (h : wm_lp tb p0 = some (.iload_n j, p1, tg)) (hj : j.val = k) : wm_E w tb d p0 p1 .int (wx_i k) := wm_leaf hc h rfl (fun lv st S a S' hf hw => by
  subst hj
  obtain ⟨h1, rfl⟩ := wx_i_some hf
  simp only [wm_step, h1]
  exact hw)
theorem wm_x_i (hc : wm_cl L fl cs sc cV cS ret tb w) {j : Nat} (h : wm_lp tb p0 = some (.iload j, p1, tg)) : wm_E w tb d p0 p1 .int (wx_i j) := wm_leaf hc h rfl (fun lv st S a S' hf hw => by
  obtain ⟨h1, rfl⟩ := wx_i_some hf
  simp only [wm_step, h1]
  exact hw)
theorem wm_x_ln (hc : wm_cl L fl cs sc cV cS ret tb w) {j : Fin 4} {k : Nat} (h : wm_lp tb p0 = some (.lload_n j, p1, tg)) (hj : j.val = k) : wm_E w tb d p0 p1 .long (wx_l k) := wm_leaf hc h rfl (fun lv st S a S' hf hw => by
  subst hj
  obtain ⟨h1, rfl⟩ := wx_l_some hf
  simp only [wm_step, h1]
  exact hw)
theorem wm_x_l (hc : wm_cl L fl cs sc cV cS ret tb w) {j : Nat} (h : wm_lp tb p0 = some (.lload j, p1, tg)) : wm_E w tb d p0 p1 .long (wx_l j) := wm_leaf hc h rfl (fun lv st S a S' hf hw => by
  obtain ⟨h1, rfl⟩ := wx_l_some hf
  simp only [wm_step, h1]
  exact hw)
theorem wm_x_rn (hc : wm_cl L fl cs sc cV cS ret tb w) {j : Fin 4} {k : Nat} (h : wm_lp tb p0 = some (.aload_n j, p1, tg)) (hj : j.val = k) : wm_E w tb d p0 p1 .ref (wx_r k) := wm_leaf hc h rfl (fun lv st S a S' hf hw => by
  subst hj
  obtain ⟨h1, rfl⟩ := wx_r_some hf
  simp only [wm_step, h1]
  exact hw)
theorem wm_x_r (hc : wm_cl L fl cs sc cV cS ret tb w) {j : Nat} (h : wm_lp tb p0 = some (.aload j, p1, tg)) : wm_E w tb d p0 p1 .ref (wx_r j) := wm_leaf hc h rfl (fun lv st S a S' hf hw => by
  obtain ⟨h1, rfl⟩ := wx_r_some hf
  simp only [wm_step, h1]
  exact hw)
theorem wm_x_c {x : α} {inj : α → Value} (hc : wm_cl L fl cs sc cV cS ret tb w) {i : Instr} (h : wm_lp tb p0 = some (i, p1, tg)) (hi : wm_ng i = true) (hs : ∀ lv st S (k : wm_K), k p1 lv (inj x :: st) S → wm_step L fl cs sc cV cS ret i p0 p1 tg lv st S k) : wm_E w tb d p0 p1 inj (wx_c x) := wm_leaf hc h hi (fun lv st S a S' hf hw => by
  cases hf
  exact hs _ _ _ _ hw)
theorem wm_x_iconst (hc : wm_cl L fl cs sc cV cS ret tb w) {z : Int} {x : Int32} (h : wm_lp tb p0 = some (.iconst z, p1, tg)) (hx : Int32.ofInt z = x) : wm_E w tb d p0 p1 .int (wx_c x) := wm_x_c hc h rfl (fun _ _ _ _ q => by subst hx; exact q)
theorem wm_x_bipush (hc : wm_cl L fl cs sc cV cS ret tb w) {z : Int} {x : Int32} (h : wm_lp tb p0 = some (.bipush z, p1, tg)) (hx : (Int8.ofInt z).toInt32 = x) : wm_E w tb d p0 p1 .int (wx_c x) := wm_x_c hc h rfl (fun _ _ _ _ q => by subst hx; exact q)
theorem wm_x_sipush (hc : wm_cl L fl cs sc cV cS ret tb w) {z : Int} {x : Int32} (h : wm_lp tb p0 = some (.sipush z, p1, tg)) (hx : (Int16.ofInt z).toInt32 = x) : wm_E w tb d p0 p1 .int (wx_c x) := wm_x_c hc h rfl (fun _ _ _ _ q => by subst hx; exact q)
theorem wm_x_lconst (hc : wm_cl L fl cs sc cV cS ret tb w) {z : Fin 2} {x : Int64} (h : wm_lp tb p0 = some (.lconst z, p1, tg)) (hx : Int64.ofNat z.val = x) : wm_E w tb d p0 p1 .long (wx_c x) := wm_x_c hc h rfl (fun _ _ _ _ q => by subst hx; exact q)
theorem wm_x_ldc (hc : wm_cl L fl cs sc cV cS ret tb w) {ix : Nat} {x : Int32} (h : wm_lp tb p0 = some (.ldc ix, p1, tg)) (hx : wm_lp cs ix = some (.int x)) : wm_E w tb d p0 p1 .int (wx_c x) := wm_x_c hc h rfl (fun _ _ _ _ q => by simp only [wm_step, hx]; exact q)
theorem wm_x_ldc2 (hc : wm_cl L fl cs sc cV cS ret tb w) {ix : Nat} {x : Int64} (h : wm_lp tb p0 = some (.ldc2_w ix, p1, tg)) (hx : wm_lp cs ix = some (.long x)) : wm_E w tb d p0 p1 .long (wx_c x) := wm_x_c hc h rfl (fun _ _ _ _ q => by simp only [wm_step, hx]; exact q)
theorem wm_x_bin {ia : α → Value} {ib : β → Value} {ic : γ → Value} {op : α → β → γ} {a : wm_Ex α} {b : wm_Ex β} {i : Instr} (hc : wm_cl L fl cs sc cV cS ret tb w) (ha : wm_E w tb d p0 p1 ia a) (hb : wm_E w tb (d + 2) p1 p2 ib b) (h : wm_lp tb p2 = some (i, p3, tg)) (hi : wm_ng i = true)
    (hs : ∀ lv st S x y (k : wm_K), k p3 lv (ic (op x y) :: st) S → wm_step L fl cs sc cV cS ret i p2 p3 tg lv (ib y :: ia x :: st) S k) : wm_E w tb d p0 p3 ic (wx_bin op a b) := by
  refine ⟨ha.1, fun lv st S r S' hd hf hw => ?_⟩
  obtain ⟨x, S1, h1, hf⟩ := wx_bind_some hf
  obtain ⟨y, S2, h2, hf⟩ := wx_bind_some hf
  cases hf
  refine ha.2 lv st S x _ hd h1 ?_
  rw [hb.1]
  refine hb.2 lv _ _ _ _ (wm_cs_cons hd) h2 (wm_at hc h hi (hs _ _ _ _ _ _ (wm_thr_w hc hw)))
theorem wm_x_un {ia : α → Value} {ic : γ → Value} {op : α → γ} {a : wm_Ex α} {i : Instr} (hc : wm_cl L fl cs sc cV cS ret tb w) (ha : wm_E w tb d p0 p1 ia a) (h : wm_lp tb p1 = some (i, p2, tg)) (hi : wm_ng i = true)
    (hs : ∀ lv st S x (k : wm_K), k p2 lv (ic (op x) :: st) S → wm_step L fl cs sc cV cS ret i p1 p2 tg lv (ia x :: st) S k) : wm_E w tb d p0 p2 ic (wx_un op a) := by
  refine ⟨ha.1, fun lv st S r S' hd hf hw => ?_⟩
  obtain ⟨x, S1, h1, hf⟩ := wx_bind_some hf
  cases hf
  exact ha.2 lv st S x _ hd h1 (wm_at hc h hi (hs _ _ _ _ _ (wm_thr_w hc hw)))
theorem wm_x_div {a b : wm_Ex Int32} (hc : wm_cl L fl cs sc cV cS ret tb w) (ha : wm_E w tb d p0 p1 .int a) (hb : wm_E w tb (d + 2) p1 p2 .int b) (h : wm_lp tb p2 = some (.idiv, p3, tg)) : wm_E w tb d p0 p3 .int (wx_div a b) := by
  refine ⟨ha.1, fun lv st S r S' hd hf hw => ?_⟩
  obtain ⟨x, S1, h1, hf⟩ := wx_bind_some hf
  obtain ⟨y, S2, h2, hf⟩ := wx_bind_some hf
  split at hf
  · cases hf
  · rename_i hy
    cases hf
    refine ha.2 lv st S x _ hd h1 ?_
    rw [hb.1]
    exact hb.2 lv _ _ _ _ (wm_cs_cons hd) h2 (wm_at hc h rfl ⟨hy, wm_thr_w hc hw⟩)
theorem wm_x_rem {a b : wm_Ex Int32} (hc : wm_cl L fl cs sc cV cS ret tb w) (ha : wm_E w tb d p0 p1 .int a) (hb : wm_E w tb (d + 2) p1 p2 .int b) (h : wm_lp tb p2 = some (.irem, p3, tg)) : wm_E w tb d p0 p3 .int (wx_rem a b) := by
  refine ⟨ha.1, fun lv st S r S' hd hf hw => ?_⟩
  obtain ⟨x, S1, h1, hf⟩ := wx_bind_some hf
  obtain ⟨y, S2, h2, hf⟩ := wx_bind_some hf
  split at hf
  · cases hf
  · rename_i hy
    cases hf
    refine ha.2 lv st S x _ hd h1 ?_
    rw [hb.1]
    exact hb.2 lv _ _ _ _ (wm_cs_cons hd) h2 (wm_at hc h rfl ⟨hy, wm_thr_w hc hw⟩)
theorem wm_fld_of {q ix ci j f : Nat} (h : wm_lp fl ix = some (ci, j)) (h2 : wm_fd L q ci j = some f) : wm_fld L fl q ix = some (j, f) := by
  unfold wm_fld
  rw [h]
  dsimp only
  rw [h2]
theorem wm_x_fi {ix ci j : Nat} {a : wm_Ex Nat} (hc : wm_cl L fl cs sc cV cS ret tb w) (ha : wm_E w tb d p0 p1 .ref a) (h : wm_lp tb p1 = some (.getfield ix, p2, tg)) (hl : wm_lp fl ix = some (ci, j)) : wm_E w tb d p0 p2 .int (wx_fi L ci j a) := by
  refine ⟨ha.1, fun lv st S r S' hd hf hw => ?_⟩
  obtain ⟨q, S1, h1, hf⟩ := wx_bind_some hf
  refine ha.2 lv st S q S1 hd h1 (wm_at hc h rfl ?_)
  have hw := wm_thr_w hc hw
  split at hf
  · rename_i e
    cases hf
    simp only [wm_step, wm_fld_of hl e]
    exact hw
  · rename_i e
    cases hf
    simp only [wm_step, wm_fld_of hl e]
    exact hw
  · cases hf
theorem wm_x_fl {ix ci j : Nat} {a : wm_Ex Nat} (hc : wm_cl L fl cs sc cV cS ret tb w) (ha : wm_E w tb d p0 p1 .ref a) (h : wm_lp tb p1 = some (.getfield ix, p2, tg)) (hl : wm_lp fl ix = some (ci, j)) : wm_E w tb d p0 p2 .long (wx_fl L ci j a) := by
  refine ⟨ha.1, fun lv st S r S' hd hf hw => ?_⟩
  obtain ⟨q, S1, h1, hf⟩ := wx_bind_some hf
  refine ha.2 lv st S q S1 hd h1 (wm_at hc h rfl ?_)
  have hw := wm_thr_w hc hw
  split at hf
  · rename_i e
    cases hf
    simp only [wm_step, wm_fld_of hl e]
    exact hw
  · cases hf
theorem wm_x_fr {ix ci j : Nat} {a : wm_Ex Nat} (hc : wm_cl L fl cs sc cV cS ret tb w) (ha : wm_E w tb d p0 p1 .ref a) (h : wm_lp tb p1 = some (.getfield ix, p2, tg)) (hl : wm_lp fl ix = some (ci, j)) : wm_E w tb d p0 p2 .ref (wx_fr L ci j a) := by
  refine ⟨ha.1, fun lv st S r S' hd hf hw => ?_⟩
  obtain ⟨q, S1, h1, hf⟩ := wx_bind_some hf
  refine ha.2 lv st S q S1 hd h1 (wm_at hc h rfl ?_)
  have hw := wm_thr_w hc hw
  split at hf
  · rename_i e
    cases hf
    simp only [wm_step, wm_fld_of hl e]
    exact hw
  · cases hf
theorem wm_x_ai {a : wm_Ex Nat} {b : wm_Ex Int32} (hc : wm_cl L fl cs sc cV cS ret tb w) (ha : wm_E w tb d p0 p1 .ref a) (hb : wm_E w tb (d + 2) p1 p2 .int b) (h : wm_lp tb p2 = some (.iaload, p3, tg)) : wm_E w tb d p0 p3 .int (wx_ai L 0 a b) := by
  refine ⟨ha.1, fun lv st S r S' hd hf hw => ?_⟩
  obtain ⟨q, S1, h1, hf⟩ := wx_bind_some hf
  obtain ⟨i, S2, h2, hf⟩ := wx_bind_some hf
  refine ha.2 lv st S q S1 hd h1 ?_
  rw [hb.1]
  refine hb.2 lv _ S1 i S2 (wm_cs_cons hd) h2 (wm_at hc h rfl ?_)
  have hw := wm_thr_w hc hw
  split at hf
  · rename_i n f e
    split at hf
    · cases hf
    · rename_i hi
      cases hf
      simp only [wm_step, e]
      exact ⟨hi, hw⟩
  · cases hf
theorem wm_x_az {a : wm_Ex Nat} {b : wm_Ex Int32} (hc : wm_cl L fl cs sc cV cS ret tb w) (ha : wm_E w tb d p0 p1 .ref a) (hb : wm_E w tb (d + 2) p1 p2 .int b) (h : wm_lp tb p2 = some (.baload, p3, tg)) : wm_E w tb d p0 p3 .int (wx_ai L 3 a b) := by
  refine ⟨ha.1, fun lv st S r S' hd hf hw => ?_⟩
  obtain ⟨q, S1, h1, hf⟩ := wx_bind_some hf
  obtain ⟨i, S2, h2, hf⟩ := wx_bind_some hf
  refine ha.2 lv st S q S1 hd h1 ?_
  rw [hb.1]
  refine hb.2 lv _ S1 i S2 (wm_cs_cons hd) h2 (wm_at hc h rfl ?_)
  have hw := wm_thr_w hc hw
  split at hf
  · rename_i n f e
    split at hf
    · cases hf
    · rename_i hi
      cases hf
      simp only [wm_step, e]
      exact ⟨hi, hw⟩
  · cases hf
theorem wm_x_al {a : wm_Ex Nat} {b : wm_Ex Int32} (hc : wm_cl L fl cs sc cV cS ret tb w) (ha : wm_E w tb d p0 p1 .ref a) (hb : wm_E w tb (d + 2) p1 p2 .int b) (h : wm_lp tb p2 = some (.laload, p3, tg)) : wm_E w tb d p0 p3 .long (wx_al L a b) := by
  refine ⟨ha.1, fun lv st S r S' hd hf hw => ?_⟩
  obtain ⟨q, S1, h1, hf⟩ := wx_bind_some hf
  obtain ⟨i, S2, h2, hf⟩ := wx_bind_some hf
  refine ha.2 lv st S q S1 hd h1 ?_
  rw [hb.1]
  refine hb.2 lv _ S1 i S2 (wm_cs_cons hd) h2 (wm_at hc h rfl ?_)
  have hw := wm_thr_w hc hw
  split at hf
  · rename_i n f e
    split at hf
    · cases hf
    · rename_i hi
      cases hf
      simp only [wm_step, e]
      exact ⟨hi, hw⟩
  · cases hf
theorem wm_x_ar {a : wm_Ex Nat} {b : wm_Ex Int32} (hc : wm_cl L fl cs sc cV cS ret tb w) (ha : wm_E w tb d p0 p1 .ref a) (hb : wm_E w tb (d + 2) p1 p2 .int b) (h : wm_lp tb p2 = some (.aaload, p3, tg)) : wm_E w tb d p0 p3 .ref (wx_ar L a b) := by
  refine ⟨ha.1, fun lv st S r S' hd hf hw => ?_⟩
  obtain ⟨q, S1, h1, hf⟩ := wx_bind_some hf
  obtain ⟨i, S2, h2, hf⟩ := wx_bind_some hf
  refine ha.2 lv st S q S1 hd h1 ?_
  rw [hb.1]
  refine hb.2 lv _ S1 i S2 (wm_cs_cons hd) h2 (wm_at hc h rfl ?_)
  have hw := wm_thr_w hc hw
  split at hf
  · rename_i n f e
    split at hf
    · cases hf
    · rename_i hi
      cases hf
      simp only [wm_step, e]
      exact ⟨hi, hw⟩
  · cases hf
theorem wm_x_cond {inj : α → Value} {c : wm_Ex Bool} {a b : wm_Ex α} (hcd : wm_B w tb d p0 pT pF c) (ha : wm_E w tb d pT pG inj a) (hb : wm_E w tb d pF p1 inj b) (hg : wm_thr tb pG = wm_thr tb p1) : wm_E w tb d p0 p1 inj (wx_cond c a b) := by
  refine ⟨hcd.1, fun lv st S r S' hd hf hw => ?_⟩
  obtain ⟨t, S1, h1, hf⟩ := wx_bind_some hf
  refine hcd.2 lv st S t _ hd h1 ?_
  cases t with
  | true =>
    show w (wm_thr tb pT) lv st S1
    rw [ha.1]
    exact ha.2 lv st S1 r S' hd hf (by rw [hg]; exact hw)
  | false =>
    show w (wm_thr tb pF) lv st S1
    rw [hb.1]
    exact hb.2 lv st S1 r S' hd hf hw
theorem wm_a_1 {inj : α → Value} {a : wm_Ex α} (ha : wm_E w tb d p0 p1 inj a) : wm_A w tb d p0 p1 1 (wx_a1 inj a) := by
  refine ⟨ha.1, fun lv st S r S' hd hf hw => ?_⟩
  obtain ⟨x, S1, h1, hf⟩ := wx_bind_some hf
  cases hf
  exact ha.2 lv st S x _ hd h1 (hw rfl)
theorem wm_a_c {inj : α → Value} {a : wm_Ex α} {b : wm_Ex (List Value)} {n : Nat} (ha : wm_E w tb d p0 p1 inj a) (hb : wm_A w tb (d + 2) p1 p2 n b) : wm_A w tb d p0 p2 (n + 1) (wx_ac inj a b) := by
  refine ⟨ha.1, fun lv st S r S' hd hf hw => ?_⟩
  obtain ⟨x, S1, h1, hf⟩ := wx_bind_some hf
  obtain ⟨vs, S2, h2, hf⟩ := wx_bind_some hf
  cases hf
  refine ha.2 lv st S x _ hd h1 ?_
  rw [hb.1]
  refine hb.2 lv _ _ _ _ (wm_cs_cons hd) h2 (fun hn => ?_)
  have := hw (by rw [List.length_cons, hn])
  simpa using this
theorem wm_x_callV {pr : Value → Option α} {inj : α → Value} {b : wm_Ex (List Value)} {ix n : Nat} {f : List Value → wm_S → Option (Option Value × wm_S)} (hc : wm_cl L fl cs sc cV cS ret tb w) (hp : ∀ {v x}, pr v = some x → v = inj x) (hb : wm_A w tb d p0 p1 n b) (h : wm_lp tb p1 = some (.invokevirtual ix, p2, tg)) (hl : wm_lp cV ix = some (n, f)) (hd8 : d ≤ 8) : wm_E w tb d p0 p2 inj (wx_call pr f b) := by
  refine ⟨hb.1, fun lv st S r S' hd hf hw => ?_⟩
  obtain ⟨vs, S1, h1, hf⟩ := wx_bind_some hf
  refine hb.2 lv st S vs S1 hd h1 (fun hn => wm_at hc h rfl ?_)
  have hw := wm_thr_w hc hw
  split at hf
  · rename_i v S2 e
    split at hf
    · rename_i x e2
      cases hf
      cases hp e2
      simp only [wm_step, wm_inv, hl]
      exact ⟨vs, st, some (inj r), S', rfl, hn, Nat.le_trans hd hd8, e, hw⟩
    · cases hf
  · cases hf
theorem wm_x_callS {pr : Value → Option α} {inj : α → Value} {b : wm_Ex (List Value)} {ix n : Nat} {f : List Value → wm_S → Option (Option Value × wm_S)} (hc : wm_cl L fl cs sc cV cS ret tb w) (hp : ∀ {v x}, pr v = some x → v = inj x) (hb : wm_A w tb d p0 p1 n b) (h : wm_lp tb p1 = some (.invokestatic ix, p2, tg)) (hl : wm_lp cS ix = some (n, f)) (hd8 : d ≤ 8) : wm_E w tb d p0 p2 inj (wx_call pr f b) := by
  refine ⟨hb.1, fun lv st S r S' hd hf hw => ?_⟩
  obtain ⟨vs, S1, h1, hf⟩ := wx_bind_some hf
  refine hb.2 lv st S vs S1 hd h1 (fun hn => wm_at hc h rfl ?_)
  have hw := wm_thr_w hc hw
  split at hf
  · rename_i v S2 e
    split at hf
    · rename_i x e2
      cases hf
      cases hp e2
      simp only [wm_step, wm_inv, hl]
      exact ⟨vs, st, some (inj r), S', rfl, hn, Nat.le_trans hd hd8, e, hw⟩
    · cases hf
  · cases hf
/-! conditions -/
theorem wm_b_cmp {ia : α → Value} {ib : β → Value} {rel : α → β → Bool} {a : wm_Ex α} {b : wm_Ex β} {i : Instr} (hc : wm_cl L fl cs sc cV cS ret tb w) (ha : wm_E w tb d p0 p1 ia a) (hb : wm_E w tb (d + 2) p1 p2 ib b) (h : wm_lp tb p2 = some (i, nx, tg)) (hi : wm_ng i = true)
    (hs : ∀ lv st S x y (k : wm_K), k (bif rel x y then pT else pF) lv st S → wm_step L fl cs sc cV cS ret i p2 nx tg lv (ib y :: ia x :: st) S k) : wm_B w tb d p0 pT pF (wx_bin rel a b) := by
  refine ⟨ha.1, fun lv st S r S' hd hf hw => ?_⟩
  obtain ⟨x, S1, h1, hf⟩ := wx_bind_some hf
  obtain ⟨y, S2, h2, hf⟩ := wx_bind_some hf
  cases hf
  refine ha.2 lv st S x _ hd h1 ?_
  rw [hb.1]
  exact hb.2 lv _ _ _ _ (wm_cs_cons hd) h2 (wm_at hc h hi (hs _ _ _ _ _ _ (wm_thr_w hc hw)))
theorem wm_b_un {ia : α → Value} {rel : α → Bool} {a : wm_Ex α} {i : Instr} (hc : wm_cl L fl cs sc cV cS ret tb w) (ha : wm_E w tb d p0 p1 ia a) (h : wm_lp tb p1 = some (i, nx, tg)) (hi : wm_ng i = true)
    (hs : ∀ lv st S x (k : wm_K), k (bif rel x then pT else pF) lv st S → wm_step L fl cs sc cV cS ret i p1 nx tg lv (ia x :: st) S k) : wm_B w tb d p0 pT pF (wx_un rel a) := by
  refine ⟨ha.1, fun lv st S r S' hd hf hw => ?_⟩
  obtain ⟨x, S1, h1, hf⟩ := wx_bind_some hf
  cases hf
  exact ha.2 lv st S x _ hd h1 (wm_at hc h hi (hs _ _ _ _ _ (wm_thr_w hc hw)))
theorem wm_b_and {a b : wm_Ex Bool} (ha : wm_B w tb d p0 p1 pF a) (hb : wm_B w tb d p1 pT pF b) : wm_B w tb d p0 pT pF (wb_and a b) := by
  refine ⟨ha.1, fun lv st S r S' hd hf hw => ?_⟩
  obtain ⟨t, S1, h1, hf⟩ := wx_bind_some hf
  refine ha.2 lv st S t _ hd h1 ?_
  cases t with
  | true =>
    show w (wm_thr tb p1) lv st S1
    rw [hb.1]
    exact hb.2 lv st S1 r S' hd hf hw
  | false =>
    cases hf
    exact hw
theorem wm_b_or {a b : wm_Ex Bool} (ha : wm_B w tb d p0 pT p1 a) (hb : wm_B w tb d p1 pT pF b) : wm_B w tb d p0 pT pF (wb_or a b) := by
  refine ⟨ha.1, fun lv st S r S' hd hf hw => ?_⟩
  obtain ⟨t, S1, h1, hf⟩ := wx_bind_some hf
  refine ha.2 lv st S t _ hd h1 ?_
  cases t with
  | true =>
    cases hf
    exact hw
  | false =>
    show w (wm_thr tb p1) lv st S1
    rw [hb.1]
    exact hb.2 lv st S1 r S' hd hf hw
theorem wm_b_not {a : wm_Ex Bool} (ha : wm_B w tb d p0 pF pT a) : wm_B w tb d p0 pT pF (wb_not a) := by
  refine ⟨ha.1, fun lv st S r S' hd hf hw => ?_⟩
  obtain ⟨t, S1, h1, hf⟩ := wx_bind_some hf
  cases hf
  refine ha.2 lv st S t _ hd h1 ?_
  cases t with
  | true => exact hw
  | false => exact hw
end WMU

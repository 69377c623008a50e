/-! the script's ints -/
section WTP
variable {L : List wm_C} {fl : List (Nat × Nat × Nat)} {cs : List (Nat × Value)} {sc : Option (Nat × (Nat → Int32))} {cV cS : List (Nat × wm_M)} {ret : Option Value → wm_S → Prop} {tb : List wm_R} {w : wm_K} {d p0 p1 p2 p3 tg : Nat}
def wx_si (L : List wm_C) (sc : Option (Nat × (Nat → Int32))) (a : wm_Ex Nat) (b : wm_Ex Int32) : wm_Ex Int32 := fun lv S => wx_bind a (fun q S1 => wx_bind b (fun i S2 => match wm_ak L q 0, sc with
  | none, some (n, xs) => if q = L.length then (if i < 0 ∨ n ≤ i.toNatClampNeg then none else some (xs i.toNatClampNeg, S2)) else none
  | _, _ => none) lv S1) lv S
def wx_sl (L : List wm_C) (sc : Option (Nat × (Nat → Int32))) (a : wm_Ex Nat) : wm_Ex Int32 := fun lv S => wx_bind a (fun q S1 => match sc with
  | some (n, _) => if q = L.length then some (Int32.ofNat n, S1) else none
  | none => none) lv S
theorem wm_x_si {a : wm_Ex Nat} {b : wm_Ex Int32} (hc : wm_cl L fl cs sc cV cS ret tb w) (ha : wm_E w tb d p0 p1 .ref a) (hb : wm_E w tb (d + 2) p1 p2 .int b) (h : wm_lp tb p2 = some (.iaload, p3, tg)) : wm_E w tb d p0 p3 .int (wx_si L sc a b) := by
  refine ⟨ha.1, fun lv st S r S' hd hf hw => ?_⟩
  obtain ⟨q, S1, h1, hf⟩ := wx_bind_some hf
  obtain ⟨i, S2, h2, hf⟩ := wx_bind_some hf
  refine ha.2 lv st S q S1 hd h1 ?_
  rw [hb.1]
  refine hb.2 lv _ S1 i S2 (wm_cs_cons hd) h2 (wm_at hc h rfl ?_)
  have hw := wm_thr_w hc hw
  cases e : wm_ak L q 0 with
  | some g =>
    simp only [e] at hf
    cases hf
  | none =>
    cases sc with
    | none =>
      simp only [e] at hf
      cases hf
    | some g =>
      obtain ⟨n, xs⟩ := g
      simp only [e] at hf
      split at hf
      · rename_i hq
        split at hf
        · cases hf
        · rename_i hi
          cases hf
          simp only [wm_step, e]
          exact ⟨hq, hi, hw⟩
      · cases hf
theorem wm_x_sl {a : wm_Ex Nat} (hc : wm_cl L fl cs sc cV cS ret tb w) (ha : wm_E w tb d p0 p1 .ref a) (h : wm_lp tb p1 = some (.arraylength, p2, tg)) : wm_E w tb d p0 p2 .int (wx_sl L sc a) := by
  refine ⟨ha.1, fun lv st S r S' hd hf hw => ?_⟩
  obtain ⟨q, S1, h1, hf⟩ := wx_bind_some hf
  refine ha.2 lv st S q S1 hd h1 (wm_at hc h rfl ?_)
  have hw := wm_thr_w hc hw
  split at hf
  · rename_i n xs
    split at hf
    · rename_i hq
      cases hf
      exact ⟨hq, hw⟩
    · cases hf
  · cases hf
end WTP

/-! the layout: all cells of the class's object (0 to 46), of the reference's (47 to 67), the law's array of longs (68); the script lies behind -/
section WML
def w_L : List wm_C := [.inl (0, [4, 18, 35, 2]),
  .inl (1, [0, 0, 5, 6, 7, 8, 9, 10, 11, 12]),
  .inr (0, 60, 0, fun _ => 0),
  .inr (0, 60, 0, fun _ => 0),
  .inr (0, 60, 0, fun _ => 0),
  .inr (0, 60, 0, fun _ => 0),
  .inr (0, 60, 0, fun _ => 0),
  .inr (0, 12, 0, fun _ => 0),
  .inr (2, 12, 2, fun i => 35 + i),
  .inl (2, [13, 14, 15, 16, 17]),
  .inr (0, 12, 0, fun _ => 0),
  .inr (0, 12, 0, fun _ => 0),
  .inr (0, 12, 0, fun _ => 0),
  .inr (0, 12, 0, fun _ => 0),
  .inr (0, 12, 0, fun _ => 0),
  .inl (3, [19, 23, 28, 29, 0, 0]),
  .inl (4, [20, 21, 22]),
  .inr (0, 12, 0, fun _ => 0),
  .inr (0, 12, 0, fun _ => 0),
  .inr (0, 12, 0, fun _ => 0),
  .inl (5, [24, 25, 26, 27]),
  .inr (1, 8, 1, fun _ => 0),
  .inr (1, 12, 1, fun _ => 0),
  .inr (1, 60, 1, fun _ => 0),
  .inr (1, 12, 1, fun _ => 0),
  .inl (6, [1, 0]),
  .inl (2, [30, 31, 32, 33, 34]),
  .inr (0, 12, 0, fun _ => 0),
  .inr (0, 12, 0, fun _ => 0),
  .inr (0, 12, 0, fun _ => 0),
  .inr (0, 12, 0, fun _ => 0),
  .inr (0, 12, 0, fun _ => 0),
  .inl (7, [36, 37, 0, 0, 0, 0, 0, 0]),
  .inr (0, 8, 0, fun _ => 0),
  .inr (0, 50, 0, fun _ => 0),
  .inr (0, 60, 0, fun _ => 0),
  .inr (0, 60, 0, fun _ => 0),
  .inr (0, 60, 0, fun _ => 0),
  .inr (0, 60, 0, fun _ => 0),
  .inr (0, 60, 0, fun _ => 0),
  .inr (0, 60, 0, fun _ => 0),
  .inr (0, 60, 0, fun _ => 0),
  .inr (0, 60, 0, fun _ => 0),
  .inr (0, 60, 0, fun _ => 0),
  .inr (0, 60, 0, fun _ => 0),
  .inr (0, 60, 0, fun _ => 0),
  .inr (0, 60, 0, fun _ => 0),
  .inl (8, [0, 0, 51, 52, 53, 54, 0, 55, 56, 57, 58, 59, 2, 60, 61, 62, 63, 64, 65, 66, 67, 68, 69, 0, 0, 0, 0, 0, 70]),
  .inr (0, 12, 0, fun _ => 0),
  .inr (0, 12, 0, fun _ => 0),
  .inr (0, 12, 0, fun _ => 0),
  .inr (0, 12, 0, fun _ => 0),
  .inr (0, 60, 0, fun _ => 0),
  .inr (0, 60, 0, fun _ => 0),
  .inr (0, 60, 0, fun _ => 0),
  .inr (0, 60, 0, fun _ => 0),
  .inr (0, 60, 0, fun _ => 0),
  .inr (3, 144, 3, fun _ => 0),
  .inr (0, 12, 0, fun _ => 0),
  .inr (3, 3600, 3, fun _ => 0),
  .inr (3, 720, 3, fun _ => 0),
  .inr (3, 60, 3, fun _ => 0),
  .inr (3, 12, 3, fun _ => 0),
  .inr (0, 12, 0, fun _ => 0),
  .inr (0, 12, 0, fun _ => 0),
  .inr (0, 12, 0, fun _ => 0),
  .inr (0, 8, 0, fun _ => 0),
  .inr (0, 50, 0, fun _ => 0),
  .inr (1, 1, 1, fun _ => 0)]
def w_N : Nat := 1000000
abbrev tys0 (cA : Nat → ClassId) : List (ClassId × FieldType) := [(cA 0, .int), (cA 1, .long), (cA 2, .array .int), (cA 3, .boolean)]
def wm_tok (c : wm_C) : Bool := match c with
  | .inr (t, _, kd, _) => Nat.beq t kd && Nat.blt kd 4
  | _ => true
theorem w_tok : w_L.all wm_tok = true := by decide +kernel
theorem w_T {cA : Nat → ClassId} : ∀ (q t n kd : Nat) (f : Nat → Nat), w_L[q]? = some (Sum.inr (t, n, kd, f)) → (tys0 cA)[t]? = some (cA t, wm_ty kd) := by
  intro q t n kd f h
  have h1 := List.all_eq_true.mp w_tok _ (List.mem_of_getElem? h)
  simp only [wm_tok, Bool.and_eq_true] at h1
  have e1 : t = kd := Nat.eq_of_beq_eq_true h1.1
  subst e1
  have h2 : t < 4 := Nat.le_of_ble_eq_true h1.2
  match t, h2 with
  | 0, _ => rfl
  | 1, _ => rfl
  | 2, _ => rfl
  | 3, _ => rfl
def wm_lokb (c : wm_C) : Bool := match c with
  | .inl (ci, fs) => (match cl0[ci]? with
    | some (_, T, _) => fs.zipIdx.all (fun q => (!(q.1 == 0) || ((T q.2).2.2.1 == "I" && (T q.2).2.2.2 == false)) && (!(q.1 == 1) || ((T q.2).2.2.1 == "J" && (T q.2).2.2.2 == false)) && (!(q.1 == 2) || ((T q.2).2.2.1 == "Z" && (T q.2).2.2.2 == false)))
    | none => false)
  | _ => true
theorem w_lokb : w_L.all wm_lokb = true := by decide +kernel
theorem w_lok : wm_lok cl0 w_L := by
  intro q ci fs C T N h hc j f hf
  have h1 := List.all_eq_true.mp w_lokb _ (List.mem_of_getElem? h)
  simp only [wm_lokb, hc] at h1
  have h2 := List.all_eq_true.mp h1 (f, j) (List.mem_zipIdx_iff_getElem?.mpr hf)
  simp only [Bool.and_eq_true, Bool.or_eq_true, Bool.not_eq_true', beq_iff_eq, beq_eq_false_iff_ne] at h2
  obtain ⟨⟨h3, h4⟩, h5⟩ := h2
  exact ⟨fun e => h3.resolve_left (fun q => q e), fun e => h4.resolve_left (fun q => q e), fun e => h5.resolve_left (fun q => q e)⟩
theorem w_D {A : Nat → Prop} {ad : Nat → Nat} {cA : Nat → ClassId} (h1 : ∀ i j, i < 69 → j < 69 → ad i = ad j → i = j) (h2 : ∀ i, i < 69 → A (ad i)) (S : wm_S) : va_D A (wm_lay ad cA w_L S) := by
  have hl : ∀ (k : Nat) (q : Nat × va_E), (wm_lay ad cA w_L S)[k]? = some q → k < 69 ∧ q.1 = ad k := by
    intro k q h
    simp only [wm_lay, List.getElem?_mapIdx, Option.map_eq_some_iff] at h
    obtain ⟨c, h3, rfl⟩ := h
    exact ⟨(List.getElem?_eq_some_iff.mp h3).1, rfl⟩
  refine ⟨fun i j p q hp hq e => ?_, fun k q h => ?_⟩
  · obtain ⟨a1, a2⟩ := hl i p hp
    obtain ⟨b1, b2⟩ := hl j q hq
    exact h1 i j a1 b1 (by rw [← a2, ← b2]; exact e)
  · obtain ⟨a1, a2⟩ := hl k q h
    rw [a2]
    exact h2 k a1
theorem w_Y {A : Nat → Prop} {ad : Nat → Nat} {cA : Nat → ClassId} (h1 : ∀ i j, i < 69 → j < 69 → ad i = ad j → i = j) (h2 : ∀ i, i < 69 → A (ad i)) : wm_Y cl0 (tys0 cA) A ad cA w_L := ⟨w_D h1 h2, w_T, w_lok⟩
theorem wm_fok_mono {own : String} {Ts Ts' : List Cond} {cl : List vw_C} {r : Nat × Nat × Nat} (h : ∀ w ∈ Ts, w ∈ Ts') (hf : wm_fok own Ts cl r) : wm_fok own Ts' cl r := by
  obtain ⟨C, T, N, ty, h1, h2, h3, h4, h5, h6, h7⟩ := hf
  exact ⟨C, T, N, ty, h1, fun w hw => h _ (h2 w hw), h3, h4, h5, h _ h6, h7⟩
theorem wm_cok_mono {own : String} {Ts Ts' : List Cond} {r : Nat × Value} (h : ∀ w ∈ Ts, w ∈ Ts') (hf : wm_cok own Ts r) : wm_cok own Ts' r := by
  unfold wm_cok at hf ⊢
  split <;> simp_all
end WML

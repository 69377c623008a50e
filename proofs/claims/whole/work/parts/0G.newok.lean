section WNB
variable {p : Program} {l : Launch} {e : Env} {R : Room} {s : State} {m : MethodId} {args : Array Value} {below : List Frame} {meth : Method} {c : Code} {Q : State → Prop}
variable {cc : ByteArray} {own : String} {Ts : List Cond} {D : va_G} {cl : List vw_C} {cA : Nat → ClassId} {nL h0 o ci io Nc Ns E0 Z0 : Nat} {pf : List (Nat × Nat × FieldType)} {nw : List (Nat × Nat × List Value)} {cf : List (Nat × Nat × Nat × wn_F)} {mi : List Nat} {tb : List wm_R} {ls : Array Slot}
abbrev wn_ty (cA : Nat → ClassId) : List (ClassId × FieldType) := [(cA 0, .int), (cA 1, .long), (cA 2, .array .int), (cA 3, .boolean)]
def wn_pok (own : String) (Ts : List Cond) (cl : List vw_C) (ci : Nat) (r : Nat × Nat × FieldType) : Prop := ∃ (T : u_T) (N : Nat) (ty : Nat → FieldType), cl[ci]? = some (own, T, N) ∧ (∀ w ∈ u_ws own T N, w ∈ Ts) ∧ (∀ k, k < N → parseFieldDescriptor (T k).2.2.1 = some (ty k)) ∧ (∀ a, a < N → ∀ b, b < N → a ≠ b → (T a).2.1 ≠ (T b).2.1) ∧ r.2.1 < N ∧ Cond.fieldLink own r.1 own (T r.2.1).2.1 (T r.2.1).2.2.1 ∈ Ts ∧ (T r.2.1).1 = own ∧ ty r.2.1 = r.2.2
def wn_nok (own : String) (Ts : List Cond) (cl : List vw_C) (r : Nat × Nat × List Value) : Prop := ∃ (C : String) (T : u_T) (N : Nat) (ty : Nat → FieldType), cl[r.2.1]? = some (C, T, N) ∧ (∀ w ∈ u_ws C T N, w ∈ Ts) ∧ (∀ k, k < N → parseFieldDescriptor (T k).2.2.1 = some (ty k)) ∧ Cond.classLink own r.1 C ∈ Ts ∧ Cond.instantiable C N ∈ Ts ∧ Cond.initialized C ∈ Ts ∧ r.2.2.length = N ∧ (∀ j, j < N → defaultValue (ty j) = vp_V r.2.2 j) ∧ ∀ g, r.2.2.map (wm_cv g) = r.2.2
theorem wn_sized {H : Heap} {locs : List Loc} {cells slots : Nat} {g : JFrame} (k : H.size ≤ s.heap.size + cells → W p l e R s m args below meth c H locs cells slots Q g) : W p l e R s m args below meth c H locs cells slots Q g := fun T hT X => k (by rw [← hT]; exact X.heapSize) T hT X
theorem wn_exact {H : Heap} {locs : List Loc} {cells : Nat} {E : List wn_E} {A : Nat → Prop} (h1 : H.size ≤ s.heap.size + cells) (hE : s.heap.size = h0 + E0) (hc : cells + E0 = E.length) (hP : va_P D cl (wn_w h0 cA E) H) (hS : va_S A s.heap H locs) : H.size = h0 + E.length := by
  have h2 := hS.1
  by_cases h3 : E.length = E0
  · omega
  · have h4 : E.length - 1 < E.length := by omega
    have h5 := (hP _ _ (wn_at (h0 := h0) (cA := cA) (List.getElem?_eq_getElem h4))).lt
    have h6 : h0 + (E.length - 1) < H.size := h5
    omega
theorem wn_sz_app (E : List wn_E) (F : List wn_E) : wn_sz (E ++ F) = wn_sz E + wn_sz F := by simp [wn_sz]
theorem wn_sz_ar (kd n : Nat) : wn_sz [wn_ar kd n] = n := by simp [wn_sz, wn_ar]
theorem wn_sz_rep (kd n : Nat) : ∀ k, wn_sz (List.replicate k (wn_ar kd n)) = k * n
  | 0 => by simp [wn_sz]
  | k + 1 => by
    have h1 : List.replicate (k + 1) (wn_ar kd n) = [wn_ar kd n] ++ List.replicate k (wn_ar kd n) := rfl
    rw [h1, wn_sz_app, wn_sz_ar, wn_sz_rep kd n k, Nat.succ_mul]
    omega
theorem wn_sz_set {E : List wn_E} {i ci : Nat} {fs fs' : List Value} (h : E[i]? = some (.inr (ci, fs))) (hl : fs'.length = fs.length) : wn_sz (E.set i (.inr (ci, fs'))) = wn_sz E := by
  induction E generalizing i with
  | nil => simp at h
  | cons x r ih =>
    cases i with
    | zero =>
      simp at h
      subst h
      simp [wn_sz, hl]
    | succ i =>
      have h' : r[i]? = some (.inr (ci, fs)) := by simpa using h
      have := ih h'
      simp only [wn_sz, List.set_cons_succ, List.map_cons, List.sum_cons] at this ⊢
      omega
theorem wn_arrAt {H1 : Heap} {cA' : ClassId} {q kd n : Nat} {ty : FieldType} (hd : (kd = 0 ∧ ty = .int) ∨ (kd = 1 ∧ ty = .long) ∨ (kd = 3 ∧ ty = .boolean)) (hc : cA' = cA kd) (h : H1[q]? = some (arrV cA' n (fun _ => defaultValue ty))) : va_at D cl (q, wn_ce h0 cA (wn_ar kd n)) H1 := by
  subst hc
  rcases hd with ⟨rfl, rfl⟩ | ⟨rfl, rfl⟩ | ⟨rfl, rfl⟩
  · exact h
  · exact h
  · exact h
theorem wn_class {kd : Nat} {ty : FieldType} {cA' : ClassId} (hK : va_K D cl (wn_ty cA) s) (hd : (kd = 0 ∧ ty = .int) ∨ (kd = 1 ∧ ty = .long) ∨ (kd = 3 ∧ ty = .boolean)) (h : s.vm.findClass ("[" ++ ty.toString) = some cA') : cA' = cA kd := by
  rcases hd with ⟨rfl, rfl⟩ | ⟨rfl, rfl⟩ | ⟨rfl, rfl⟩
  · exact Option.some.inj (h.symm.trans (hK.2 0 (cA 0, .int) rfl).2)
  · exact Option.some.inj (h.symm.trans (hK.2 1 (cA 1, .long) rfl).2)
  · exact Option.some.inj (h.symm.trans (hK.2 3 (cA 3, .boolean) rfl).2)
theorem arrV_ext {c : ClassId} {n : Nat} {f g : Nat → Value} (h : ∀ j, j < n → f j = g j) : arrV c n f = arrV c n g := by
  unfold arrV
  congr 2
  funext j
  exact h j.val j.isLt
theorem wn_outer (c : ClassId) (N h0 : Nat) : ∀ i : Nat, Jvm.Free.Multi.outerC c N h0 i = arrV c N (fun j => va_rf (if j < i then some (h0 + 1 + j) else none))
  | 0 => by
    show ({ cls := c, slots := Array.replicate N .null, vm := .none } : Cell) = _
    rw [arrV_new]
    exact arrV_ext (fun j _ => by simp [va_rf])
  | i + 1 => by
    show (Jvm.Free.Multi.outerC c N h0 i).setSlot i (.ref (h0 + 1 + i)) = _
    rw [wn_outer c N h0 i, arrV_store]
    refine arrV_ext (fun j _ => ?_)
    by_cases e : j = i
    · subst e
      simp [updV, va_rf]
    · by_cases h : j < i
      · simp [updV, e, h, Nat.lt_succ_of_lt h]
      · simp [updV, e, h, show ¬ j < i + 1 by omega]
theorem wn_fit_ok {ty : FieldType} {v : Value} (h : wn_fit ty v = true) : narrow ty (wn_cv h0 v) = wn_cv h0 v ∧ fits ty (wn_cv h0 v) = true := by
  simp only [wn_fit, Bool.and_eq_true, decide_eq_true_eq] at h
  cases v with
  | ref k => cases ty <;> simp_all [narrow, fits, wm_cv]
  | _ => exact h
end WNB

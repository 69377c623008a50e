/-! what a tree comes to: wq o K: o is there, and K of it -/
section WQA
def wq {β : Type} (o : Option β) (K : β → Prop) : Prop := ∃ r, o = some r ∧ K r
theorem wq_some {β : Type} {r : β} {K : β → Prop} : wq (some r) K ↔ K r := ⟨fun ⟨_, h, k⟩ => by cases h; exact k, fun k => ⟨r, rfl, k⟩⟩
theorem wq_none {β : Type} {K : β → Prop} : wq (none : Option β) K ↔ False := ⟨fun ⟨_, h, _⟩ => (nomatch h), False.elim⟩
theorem wq_bind {α β : Type} {a : wm_Ex α} {g : α → wm_S → Option β} {lv : List Value} {S : wm_S} {K : β → Prop} : wq (wx_bind a g lv S) K ↔ wq (a lv S) (fun r => wq (g r.1 r.2) K) := by
  constructor
  · rintro ⟨r, h, k⟩
    obtain ⟨x, S1, h1, h2⟩ := wx_bind_some h
    exact ⟨(x, S1), h1, r, h2, k⟩
  · rintro ⟨⟨x, S1⟩, h1, r, h2, k⟩
    exact ⟨r, by unfold wx_bind; rw [h1]; exact h2, k⟩
theorem wq_mono {β : Type} {o : Option β} {K K' : β → Prop} (h : wq o K) (hk : ∀ r, K r → K' r) : wq o K' := by
  obtain ⟨r, h1, h2⟩ := h
  exact ⟨r, h1, hk r h2⟩
theorem wq_seq {a b : wm_St} {lv : List Value} {S : wm_S} {K : wm_O → Prop} : wq (ws_seq a b lv S) K ↔ wq (a lv S) (fun o => match o with
    | .inl q => wq (b q.1 q.2) K
    | .inr r => K (.inr r)) := by
  unfold ws_seq
  constructor
  · rintro ⟨r, h, k⟩
    split at h
    · rename_i lv1 S1 e
      exact ⟨_, e, r, h, k⟩
    · rename_i hne
      cases r with
      | inl q => exact absurd h (hne q.1 q.2)
      | inr q => exact ⟨_, h, k⟩
  · rintro ⟨o, h, k⟩
    rw [h]
    cases o with
    | inl q =>
      obtain ⟨r, h1, h2⟩ := k
      exact ⟨r, h1, h2⟩
    | inr q => exact ⟨_, rfl, k⟩
/-- a loop: I holds at its head, μ falls -/
theorem wq_loop {c : wm_Ex Bool} {b : wm_St} {K : wm_O → Prop} (I : List Value → wm_S → Prop) (μ : List Value → wm_S → Nat)
    (hs : ∀ lv S, I lv S → wq (c lv S) (fun t => (t.1 = true → wq (b lv t.2) (fun o => match o with
      | .inl q => I q.1 q.2 ∧ μ q.1 q.2 < μ lv S
      | .inr r => K (.inr r))) ∧ (t.1 = false → K (.inl (lv, t.2))))) : ∀ (n : Nat) (lv : List Value) (S : wm_S), I lv S → μ lv S < n → wq (ws_loop c b n lv S) K := by
  intro n
  induction n with
  | zero => intro lv S _ h; omega
  | succ n ih =>
    intro lv S hI hn
    unfold ws_loop
    rw [wq_bind]
    refine wq_mono (hs lv S hI) ?_
    rintro ⟨t, S1⟩ ⟨h1, h2⟩
    cases t with
    | true =>
      obtain ⟨o, h3, h4⟩ := h1 rfl
      dsimp only [cond_true] at h3 h4 ⊢
      rw [h3]
      cases o with
      | inl q => exact ih q.1 q.2 h4.1 (by have := h4.2; omega)
      | inr q => exact ⟨_, rfl, h4⟩
    | false => exact ⟨_, rfl, h2 rfl⟩
/-- a method, called with arguments that fit -/
theorem wq_fn {chk : List Value → Bool} {rt n : Nat} {bd : wm_St} {av : List Value} {S : wm_S} {K : Option Value × wm_S → Prop} (h1 : chk av = true) (h2 : Nat.ble (wm_cs av) n = true) (h3 : wm_nod av = true)
    (hb : wq (bd (wm_en n av) S) (fun o => match o with
      | .inl _ => False
      | .inr r => wm_rt rt r.1 = true ∧ K r)) : wq (wm_fn chk rt n bd av S) K := by
  obtain ⟨o, h4, h5⟩ := hb
  cases o with
  | inl q => exact h5.elim
  | inr r =>
    refine ⟨r, ?_, h5.2⟩
    unfold wm_fn
    rw [h1, h2, h3, h4]
    show (bif wm_rt rt r.1 then some (r.1, r.2) else none) = some r
    rw [h5.1]
    rfl
end WQA

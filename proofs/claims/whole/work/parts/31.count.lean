/-! how many numbers below n have f -/
section GRC
def gC (f : Nat → Bool) : Nat → Nat
  | 0 => 0
  | n + 1 => gC f n + (bif f n then 1 else 0)
theorem gC_le (f : Nat → Bool) : ∀ n, gC f n ≤ n
  | 0 => Nat.le_refl 0
  | n + 1 => by
    have := gC_le f n
    unfold gC
    cases f n <;> simp <;> omega
theorem gC_mono {f g : Nat → Bool} : ∀ {n}, (∀ i, i < n → f i = true → g i = true) → gC f n ≤ gC g n
  | 0, _ => Nat.le_refl 0
  | n + 1, h => by
    have h1 := gC_mono (n := n) (fun i hi => h i (by omega))
    have h2 := h n (by omega)
    unfold gC
    cases e : f n with
    | false => cases g n <;> simp <;> omega
    | true => rw [h2 e]; simp; omega
theorem gC_lt {f g : Nat → Bool} : ∀ {n}, (∀ i, i < n → f i = true → g i = true) → (∃ i, i < n ∧ f i = false ∧ g i = true) → gC f n < gC g n
  | 0, _, h => by obtain ⟨i, h, _⟩ := h; omega
  | n + 1, h, hx => by
    have h2 := h n (by omega)
    by_cases hq : ∃ i, i < n ∧ f i = false ∧ g i = true
    · have h1 := gC_lt (n := n) (fun i hi => h i (by omega)) hq
      unfold gC
      cases e : f n with
      | false => cases g n <;> simp <;> omega
      | true => rw [h2 e]; simp; omega
    · obtain ⟨i, k1, k2, k3⟩ := hx
      have e : i = n := by
        by_cases e : i = n
        · exact e
        · exact absurd ⟨i, by omega, k2, k3⟩ hq
      subst e
      have h1 := gC_mono (n := i) (fun j hj => h j (by omega))
      unfold gC
      rw [k2, k3]
      simp
      omega
theorem gC_full {f : Nat → Bool} : ∀ {n}, gC f n = n → ∀ i, i < n → f i = true
  | 0, _, i, h => by omega
  | n + 1, h, i, hi => by
    have h1 := gC_le f n
    unfold gC at h
    cases e : f n with
    | false => rw [e] at h; simp at h; omega
    | true =>
      rw [e] at h
      simp at h
      by_cases e2 : i = n
      · rw [e2]; exact e
      · exact gC_full h i (by omega)
theorem gC_congr {f g : Nat → Bool} : ∀ {n}, (∀ i, i < n → f i = g i) → gC f n = gC g n
  | 0, _ => rfl
  | n + 1, h => by
    unfold gC
    rw [gC_congr (n := n) (fun i hi => h i (by omega)), h n (by omega)]
end GRC

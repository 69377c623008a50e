/-! ways to a return in a graph of blocks: n blocks, rt those that return, E the edges, a the blocks to be avoided -/
section GRA
def gR (n : Nat) (rt : Nat → Prop) (E : Nat → Nat → Prop) (a : Nat → Prop) (b : Nat) : Prop := ∀ X : Nat → Prop, (∀ v, v < n → ¬ a v → (rt v ∨ ∃ u, u < n ∧ E v u ∧ X u) → X v) → X b
/-- x post-dominates b -/
def gP (n : Nat) (rt : Nat → Prop) (E : Nat → Nat → Prop) (x b : Nat) : Prop := ¬ gR n rt E (fun v => v = x) b
variable {n : Nat} {rt : Nat → Prop} {E : Nat → Nat → Prop} {a : Nat → Prop}
theorem gR_ret {v : Nat} (h1 : v < n) (h2 : ¬ a v) (h3 : rt v) : gR n rt E a v := fun _ hX => hX v h1 h2 (Or.inl h3)
theorem gR_step {v u : Nat} (h1 : v < n) (h2 : ¬ a v) (h3 : u < n) (h4 : E v u) (h5 : gR n rt E a u) : gR n rt E a v := fun X hX => hX v h1 h2 (Or.inr ⟨u, h3, h4, h5 X hX⟩)
theorem gR_ind {P : Nat → Prop} {b : Nat} (h : gR n rt E a b) (hP : ∀ v, v < n → ¬ a v → (rt v ∨ ∃ u, u < n ∧ E v u ∧ gR n rt E a u ∧ P u) → P v) : P b := by
  have := h (fun v => gR n rt E a v ∧ P v) (fun v h1 h2 h3 => by
    rcases h3 with h3 | ⟨u, h4, h5, h6, h7⟩
    · exact ⟨gR_ret h1 h2 h3, hP v h1 h2 (Or.inl h3)⟩
    · exact ⟨gR_step h1 h2 h4 h5 h6, hP v h1 h2 (Or.inr ⟨u, h4, h5, h6, h7⟩)⟩)
  exact this.2
theorem gR_in {b : Nat} (h : gR n rt E a b) : b < n ∧ ¬ a b := gR_ind (P := fun v => v < n ∧ ¬ a v) h (fun _ h1 h2 _ => ⟨h1, h2⟩)
theorem gR_inv {b : Nat} (h : gR n rt E a b) : rt b ∨ ∃ u, u < n ∧ E b u ∧ gR n rt E a u := gR_ind (P := fun v => rt v ∨ ∃ u, u < n ∧ E v u ∧ gR n rt E a u) h (fun _ _ _ h3 => h3.imp id (fun ⟨u, h4, h5, h6, _⟩ => ⟨u, h4, h5, h6⟩))
theorem gP_self (x : Nat) : gP n rt E x x := fun h => (gR_in h).2 rfl
theorem gP_trans {x y b : Nat} (h1 : gP n rt E x y) (h2 : gP n rt E y b) : gP n rt E x b := by
  intro h
  have key : gR n rt E (fun v => v = y) b ∨ gR n rt E (fun v => v = x) y := gR_ind (P := fun v => gR n rt E (fun v => v = y) v ∨ gR n rt E (fun v => v = x) y) h (fun v k1 k2 k3 => by
    by_cases e : v = y
    · subst e
      rcases k3 with k3 | ⟨u, k4, k5, k6, k7⟩
      · exact Or.inr (gR_ret k1 k2 k3)
      · exact Or.inr (gR_step k1 k2 k4 k5 k6)
    · rcases k3 with k3 | ⟨u, k4, k5, k6, k7⟩
      · exact Or.inl (gR_ret k1 e k3)
      · rcases k7 with k7 | k7
        · exact Or.inl (gR_step k1 e k4 k5 k7)
        · exact Or.inr k7)
  rcases key with k | k
  · exact h2 k
  · exact h1 k
/-- every block has a way to a return -/
def gS (n : Nat) (rt : Nat → Prop) (E : Nat → Nat → Prop) : Prop := ∀ b, b < n → gR n rt E (fun _ => False) b
theorem gP_anti (hs : gS n rt E) {x y : Nat} (hx : x < n) (hne : x ≠ y) (h1 : gP n rt E x y) (h2 : gP n rt E y x) : False := by
  have key : (gR n rt E (fun v => v = x) x ∧ gR n rt E (fun v => v = y) x) ∨ gR n rt E (fun v => v = y) x ∨ gR n rt E (fun v => v = x) y := gR_ind (P := fun v => (gR n rt E (fun v => v = x) v ∧ gR n rt E (fun v => v = y) v) ∨ gR n rt E (fun v => v = y) x ∨ gR n rt E (fun v => v = x) y) (hs x hx) (fun v k1 _ k3 => by
    by_cases e : v = x
    · subst e
      rcases k3 with k3 | ⟨u, k4, k5, k6, k7⟩
      · exact Or.inr (Or.inl (gR_ret k1 hne k3))
      · rcases k7 with k7 | k7
        · exact Or.inr (Or.inl (gR_step k1 hne k4 k5 k7.2))
        · exact Or.inr k7
    · by_cases e2 : v = y
      · subst e2
        rcases k3 with k3 | ⟨u, k4, k5, k6, k7⟩
        · exact Or.inr (Or.inr (gR_ret k1 e k3))
        · rcases k7 with k7 | k7
          · exact Or.inr (Or.inr (gR_step k1 e k4 k5 k7.1))
          · exact Or.inr k7
      · rcases k3 with k3 | ⟨u, k4, k5, k6, k7⟩
        · exact Or.inl ⟨gR_ret k1 e k3, gR_ret k1 e2 k3⟩
        · rcases k7 with k7 | k7
          · exact Or.inl ⟨gR_step k1 e k4 k5 k7.1, gR_step k1 e2 k4 k5 k7.2⟩
          · exact Or.inr k7)
  rcases key with k | k | k
  · exact gP_self x k.1
  · exact h2 k
  · exact h1 k
theorem gP_total (hs : gS n rt E) {y z b : Nat} (hb : b < n) (h1 : gP n rt E y b) (h2 : gP n rt E z b) : gP n rt E y z ∨ gP n rt E z y := by
  by_cases hyz : y = z
  · subst hyz
    exact Or.inl (gP_self y)
  · refine Classical.byContradiction fun hn => ?_
    have k1 : gR n rt E (fun v => v = y) z := Classical.byContradiction fun k => hn (Or.inl k)
    have k2 : gR n rt E (fun v => v = z) y := Classical.byContradiction fun k => hn (Or.inr k)
    have key : gR n rt E (fun v => v = y) b ∨ gR n rt E (fun v => v = z) b := gR_ind (P := fun v => gR n rt E (fun v => v = y) v ∨ gR n rt E (fun v => v = z) v) (hs b hb) (fun v q1 _ q3 => by
      by_cases e : v = y
      · subst e
        exact Or.inr k2
      · by_cases e2 : v = z
        · subst e2
          exact Or.inl k1
        · rcases q3 with q3 | ⟨u, q4, q5, q6, q7⟩
          · exact Or.inl (gR_ret q1 e q3)
          · rcases q7 with q7 | q7
            · exact Or.inl (gR_step q1 e q4 q5 q7)
            · exact Or.inr (gR_step q1 e2 q4 q5 q7))
    rcases key with k | k
    · exact h1 k
    · exact h2 k
/-- x is the next of b -/
def gN (n : Nat) (rt : Nat → Prop) (E : Nat → Nat → Prop) (b x : Nat) : Prop := x < n ∧ x ≠ b ∧ gP n rt E x b ∧ ∀ y, y < n → y ≠ b → gP n rt E y b → gP n rt E y x
theorem gN_unique (hs : gS n rt E) {b x y : Nat} (hx : gN n rt E b x) (hy : gN n rt E b y) : x = y := by
  refine Classical.byContradiction fun hne => ?_
  exact gP_anti hs hx.1 hne (hy.2.2.2 x hx.1 hx.2.1 hx.2.2.1) (hx.2.2.2 y hy.1 hy.2.1 hy.2.2.1)
theorem gN_exists (hs : gS n rt E) {b x : Nat} (hb : b < n) (h1 : x < n) (h2 : x ≠ b) (h3 : gP n rt E x b) : ∃ y, gN n rt E b y := by
  have key : ∀ m, m ≤ n → (∃ x, x < m ∧ x ≠ b ∧ gP n rt E x b) → ∃ x, x < m ∧ x ≠ b ∧ gP n rt E x b ∧ ∀ y, y < m → y ≠ b → gP n rt E y b → gP n rt E y x := by
    intro m
    induction m with
    | zero => rintro _ ⟨x, h, _⟩; omega
    | succ m ih =>
      rintro hm ⟨x, k1, k2, k3⟩
      by_cases hex : ∃ x, x < m ∧ x ≠ b ∧ gP n rt E x b
      · obtain ⟨z, q1, q2, q3, q4⟩ := ih (by omega) hex
        by_cases hq : m ≠ b ∧ gP n rt E m b
        · rcases gP_total hs hb q3 hq.2 with t | t
          · refine ⟨m, by omega, hq.1, hq.2, fun y r1 r2 r3 => ?_⟩
            by_cases e : y = m
            · subst e; exact gP_self _
            · exact gP_trans (q4 y (by omega) r2 r3) t
          · refine ⟨z, by omega, q2, q3, fun y r1 r2 r3 => ?_⟩
            by_cases e : y = m
            · subst e; exact t
            · exact q4 y (by omega) r2 r3
        · refine ⟨z, by omega, q2, q3, fun y r1 r2 r3 => ?_⟩
          by_cases e : y = m
          · subst e; exact absurd ⟨r2, r3⟩ hq
          · exact q4 y (by omega) r2 r3
      · have e : x = m := by
          by_cases e : x = m
          · exact e
          · exact absurd ⟨x, by omega, k2, k3⟩ hex
        subst e
        refine ⟨x, by omega, k2, k3, fun y r1 r2 r3 => ?_⟩
        by_cases e : y = x
        · subst e; exact gP_self _
        · exact absurd ⟨y, by omega, r2, r3⟩ hex
  obtain ⟨y, q1, q2, q3, q4⟩ := key n (Nat.le_refl n) ⟨x, h1, h2, h3⟩
  exact ⟨y, q1, q2, q3, q4⟩
/-- a marked block that post-dominates x is x, or post-dominates x's next -/
theorem gN_on (hs : gS n rt E) {m x : Nat} (hx : x < n) (hm : m < n) (h : gP n rt E m x) (hne : m ≠ x) : ∃ y, gN n rt E x y ∧ gP n rt E m y := by
  obtain ⟨y, hy⟩ := gN_exists hs hx hm hne h
  exact ⟨y, hy, hy.2.2.2 m hm hne h⟩
/-- what a block without a needed end comes to: a marked block behind it -/
theorem gM_exists (hs : gS n rt E) {M : Nat → Prop} {nd : Nat → Prop} {br : Nat → Prop} (hr : ∀ v, v < n → rt v → M v) (hd : ∀ v, v < n → nd v → M v)
    (hone : ∀ v u u', v < n → u < n → u' < n → ¬ rt v → ¬ br v → E v u → E v u' → u = u') (hbr : ∀ v, br v → ¬ rt v)
    (hdep : ∀ m v u, m < n → v < n → M m → br v → u < n → E v u → gP n rt E m u → ¬ gP n rt E m v → nd v) {b : Nat} (hb : b < n) (h1 : br b) (h2 : ¬ nd b) : ∃ m, m < n ∧ M m ∧ m ≠ b ∧ gP n rt E m b := by
  have key : ∀ v, gR n rt E (fun v => v = b) v → ∃ m, m < n ∧ M m ∧ m ≠ b ∧ gP n rt E m v := by
    intro v hv
    refine gR_ind (P := fun v => ∃ m, m < n ∧ M m ∧ m ≠ b ∧ gP n rt E m v) hv (fun v k1 k2 k3 => ?_)
    by_cases hM : M v
    · exact ⟨v, k1, hM, k2, gP_self v⟩
    · rcases k3 with k3 | ⟨u, k4, k5, k6, m, q1, q2, q3, q4⟩
      · exact absurd (hr v k1 k3) hM
      · refine ⟨m, q1, q2, q3, ?_⟩
        refine Classical.byContradiction fun hn => ?_
        by_cases hbv : br v
        · exact hM (hd v k1 (hdep m v u q1 k1 q2 hbv k4 k5 q4 hn))
        · have hrv : ¬ rt v := fun h => hM (hr v k1 h)
          have hg : gR n rt E (fun w => w = m) v := Classical.byContradiction fun h => hn h
          rcases gR_inv hg with h | ⟨u', h3, h4, h5⟩
          · exact hrv h
          · rw [hone v u u' k1 k4 h3 hrv hbv k5 h4] at q4
            exact q4 h5
  have hu : gR n rt E (fun v => v = b) b ∨ ∃ u, u < n ∧ E b u ∧ gR n rt E (fun v => v = b) u := gR_ind (P := fun v => gR n rt E (fun v => v = b) v ∨ ∃ u, u < n ∧ E b u ∧ gR n rt E (fun v => v = b) u) (hs b hb) (fun v k1 _ k3 => by
    by_cases e : v = b
    · subst e
      rcases k3 with k3 | ⟨u, k4, k5, k6, k7⟩
      · exact absurd k3 (hbr v h1)
      · rcases k7 with k7 | k7
        · exact Or.inr ⟨u, k4, k5, k7⟩
        · exact Or.inr k7
    · rcases k3 with k3 | ⟨u, k4, k5, k6, k7⟩
      · exact Or.inl (gR_ret k1 e k3)
      · rcases k7 with k7 | k7
        · exact Or.inl (gR_step k1 e k4 k5 k7)
        · exact Or.inr k7)
  rcases hu with hu | ⟨u, k1, k2, k3⟩
  · exact absurd rfl (gR_in hu).2
  · obtain ⟨m, q1, q2, q3, q4⟩ := key u k3
    refine ⟨m, q1, q2, q3, ?_⟩
    refine Classical.byContradiction fun hn => ?_
    exact h2 (hdep m b u q1 hb q2 h1 k1 k2 q4 hn)
/-- blocks that are reached from b by edges to others than those in a -/
def gF (n : Nat) (E : Nat → Nat → Prop) (a : Nat → Prop) (b v : Nat) : Prop := ∀ X : Nat → Prop, X b → (∀ v u, X v → v < n → u < n → E v u → ¬ a u → X u) → X v
theorem gF_start {b : Nat} : gF n E a b b := fun _ h _ => h
theorem gF_step {b v u : Nat} (h : gF n E a b v) (h1 : v < n) (h2 : u < n) (h3 : E v u) (h4 : ¬ a u) : gF n E a b u := fun X h0 hX => hX v u (h X h0 hX) h1 h2 h3 h4
/-- forwards and backwards are the same: b has a way to a return exactly if a return is reached from it -/
theorem gF_iff {b : Nat} (hb : b < n) (hab : ¬ a b) : gR n rt E a b ↔ ∃ v, v < n ∧ gF n E a b v ∧ rt v := by
  constructor
  · intro h
    refine Classical.byContradiction fun hn => ?_
    have := gR_ind (P := fun v => ¬ gF n E a b v) h (fun v h1 h2 h3 hF => by
      rcases h3 with h3 | ⟨u, h4, h5, h6, h7⟩
      · exact hn ⟨v, h1, hF, h3⟩
      · exact h7 (gF_step hF h1 h4 h5 (gR_in h6).2))
    exact this gF_start
  · rintro ⟨v, h1, h2, h3⟩
    have := h2 (fun v => (v < n → ¬ a v) ∧ (gR n rt E a v → gR n rt E a b)) ⟨fun _ => hab, id⟩ (fun v u hv k1 k2 k3 k4 => ⟨fun _ => k4, fun hu => hv.2 (gR_step k1 (hv.1 k1) k2 k3 hu)⟩)
    exact this.2 (gR_ret h1 (this.1 h1) h3)
end GRA

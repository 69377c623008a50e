/-! the layout's cells, one by one -/
section WMF
theorem w_fds : wm_fd w_L 0 0 0 = some 4 ∧
  wm_fd w_L 0 0 1 = some 18 ∧
  wm_fd w_L 0 0 2 = some 35 ∧
  wm_fd w_L 0 0 3 = some 2 ∧
  wm_fd w_L 1 1 0 = some 0 ∧
  wm_fd w_L 1 1 1 = some 0 ∧
  wm_fd w_L 1 1 2 = some 5 ∧
  wm_fd w_L 1 1 3 = some 6 ∧
  wm_fd w_L 1 1 4 = some 7 ∧
  wm_fd w_L 1 1 5 = some 8 ∧
  wm_fd w_L 1 1 6 = some 9 ∧
  wm_fd w_L 1 1 7 = some 10 ∧
  wm_fd w_L 1 1 8 = some 11 ∧
  wm_fd w_L 1 1 9 = some 12 ∧
  wm_fd w_L 9 2 0 = some 13 ∧
  wm_fd w_L 9 2 1 = some 14 ∧
  wm_fd w_L 9 2 2 = some 15 ∧
  wm_fd w_L 9 2 3 = some 16 ∧
  wm_fd w_L 9 2 4 = some 17 ∧
  wm_fd w_L 15 3 0 = some 19 ∧
  wm_fd w_L 15 3 1 = some 23 ∧
  wm_fd w_L 15 3 2 = some 28 ∧
  wm_fd w_L 15 3 3 = some 29 ∧
  wm_fd w_L 15 3 4 = some 0 ∧
  wm_fd w_L 15 3 5 = some 0 ∧
  wm_fd w_L 16 4 0 = some 20 ∧
  wm_fd w_L 16 4 1 = some 21 ∧
  wm_fd w_L 16 4 2 = some 22 ∧
  wm_fd w_L 20 5 0 = some 24 ∧
  wm_fd w_L 20 5 1 = some 25 ∧
  wm_fd w_L 20 5 2 = some 26 ∧
  wm_fd w_L 20 5 3 = some 27 ∧
  wm_fd w_L 25 6 0 = some 1 ∧
  wm_fd w_L 25 6 1 = some 0 ∧
  wm_fd w_L 26 2 0 = some 30 ∧
  wm_fd w_L 26 2 1 = some 31 ∧
  wm_fd w_L 26 2 2 = some 32 ∧
  wm_fd w_L 26 2 3 = some 33 ∧
  wm_fd w_L 26 2 4 = some 34 ∧
  wm_fd w_L 32 7 0 = some 36 ∧
  wm_fd w_L 32 7 1 = some 37 ∧
  wm_fd w_L 32 7 2 = some 0 ∧
  wm_fd w_L 32 7 3 = some 0 ∧
  wm_fd w_L 32 7 4 = some 0 ∧
  wm_fd w_L 32 7 5 = some 0 ∧
  wm_fd w_L 32 7 6 = some 0 ∧
  wm_fd w_L 32 7 7 = some 0 ∧
  wm_fd w_L 47 8 0 = some 0 ∧
  wm_fd w_L 47 8 1 = some 0 ∧
  wm_fd w_L 47 8 2 = some 51 ∧
  wm_fd w_L 47 8 3 = some 52 ∧
  wm_fd w_L 47 8 4 = some 53 ∧
  wm_fd w_L 47 8 5 = some 54 ∧
  wm_fd w_L 47 8 6 = some 0 ∧
  wm_fd w_L 47 8 7 = some 55 ∧
  wm_fd w_L 47 8 8 = some 56 ∧
  wm_fd w_L 47 8 9 = some 57 ∧
  wm_fd w_L 47 8 10 = some 58 ∧
  wm_fd w_L 47 8 11 = some 59 ∧
  wm_fd w_L 47 8 12 = some 2 ∧
  wm_fd w_L 47 8 13 = some 60 ∧
  wm_fd w_L 47 8 14 = some 61 ∧
  wm_fd w_L 47 8 15 = some 62 ∧
  wm_fd w_L 47 8 16 = some 63 ∧
  wm_fd w_L 47 8 17 = some 64 ∧
  wm_fd w_L 47 8 18 = some 65 ∧
  wm_fd w_L 47 8 19 = some 66 ∧
  wm_fd w_L 47 8 20 = some 67 ∧
  wm_fd w_L 47 8 21 = some 68 ∧
  wm_fd w_L 47 8 22 = some 69 ∧
  wm_fd w_L 47 8 23 = some 0 ∧
  wm_fd w_L 47 8 24 = some 0 ∧
  wm_fd w_L 47 8 25 = some 0 ∧
  wm_fd w_L 47 8 26 = some 0 ∧
  wm_fd w_L 47 8 27 = some 0 ∧
  wm_fd w_L 47 8 28 = some 70 :=
  ⟨rfl, rfl, rfl, rfl, rfl, rfl, rfl, rfl, rfl, rfl, rfl, rfl, rfl, rfl, rfl, rfl, rfl, rfl, rfl, rfl, rfl, rfl, rfl, rfl, rfl, rfl, rfl, rfl, rfl, rfl, rfl, rfl, rfl, rfl, rfl, rfl, rfl, rfl, rfl, rfl, rfl, rfl, rfl, rfl, rfl, rfl, rfl, rfl, rfl, rfl, rfl, rfl, rfl, rfl, rfl, rfl, rfl, rfl, rfl, rfl, rfl, rfl, rfl, rfl, rfl, rfl, rfl, rfl, rfl, rfl, rfl, rfl, rfl, rfl, rfl, rfl⟩
theorem w_aks : wm_ak w_L 2 0 = some (60, fun _ => 0) ∧
  wm_ak w_L 3 0 = some (60, fun _ => 0) ∧
  wm_ak w_L 4 0 = some (60, fun _ => 0) ∧
  wm_ak w_L 5 0 = some (60, fun _ => 0) ∧
  wm_ak w_L 6 0 = some (60, fun _ => 0) ∧
  wm_ak w_L 7 0 = some (12, fun _ => 0) ∧
  wm_ak w_L 10 0 = some (12, fun _ => 0) ∧
  wm_ak w_L 11 0 = some (12, fun _ => 0) ∧
  wm_ak w_L 12 0 = some (12, fun _ => 0) ∧
  wm_ak w_L 13 0 = some (12, fun _ => 0) ∧
  wm_ak w_L 14 0 = some (12, fun _ => 0) ∧
  wm_ak w_L 17 0 = some (12, fun _ => 0) ∧
  wm_ak w_L 18 0 = some (12, fun _ => 0) ∧
  wm_ak w_L 19 0 = some (12, fun _ => 0) ∧
  wm_ak w_L 21 1 = some (8, fun _ => 0) ∧
  wm_ak w_L 22 1 = some (12, fun _ => 0) ∧
  wm_ak w_L 23 1 = some (60, fun _ => 0) ∧
  wm_ak w_L 24 1 = some (12, fun _ => 0) ∧
  wm_ak w_L 27 0 = some (12, fun _ => 0) ∧
  wm_ak w_L 28 0 = some (12, fun _ => 0) ∧
  wm_ak w_L 29 0 = some (12, fun _ => 0) ∧
  wm_ak w_L 30 0 = some (12, fun _ => 0) ∧
  wm_ak w_L 31 0 = some (12, fun _ => 0) ∧
  wm_ak w_L 33 0 = some (8, fun _ => 0) ∧
  wm_ak w_L 34 0 = some (50, fun _ => 0) ∧
  wm_ak w_L 35 0 = some (60, fun _ => 0) ∧
  wm_ak w_L 36 0 = some (60, fun _ => 0) ∧
  wm_ak w_L 37 0 = some (60, fun _ => 0) ∧
  wm_ak w_L 38 0 = some (60, fun _ => 0) ∧
  wm_ak w_L 39 0 = some (60, fun _ => 0) ∧
  wm_ak w_L 40 0 = some (60, fun _ => 0) ∧
  wm_ak w_L 41 0 = some (60, fun _ => 0) ∧
  wm_ak w_L 42 0 = some (60, fun _ => 0) ∧
  wm_ak w_L 43 0 = some (60, fun _ => 0) ∧
  wm_ak w_L 44 0 = some (60, fun _ => 0) ∧
  wm_ak w_L 45 0 = some (60, fun _ => 0) ∧
  wm_ak w_L 46 0 = some (60, fun _ => 0) ∧
  wm_ak w_L 48 0 = some (12, fun _ => 0) ∧
  wm_ak w_L 49 0 = some (12, fun _ => 0) ∧
  wm_ak w_L 50 0 = some (12, fun _ => 0) ∧
  wm_ak w_L 51 0 = some (12, fun _ => 0) ∧
  wm_ak w_L 52 0 = some (60, fun _ => 0) ∧
  wm_ak w_L 53 0 = some (60, fun _ => 0) ∧
  wm_ak w_L 54 0 = some (60, fun _ => 0) ∧
  wm_ak w_L 55 0 = some (60, fun _ => 0) ∧
  wm_ak w_L 56 0 = some (60, fun _ => 0) ∧
  wm_ak w_L 57 3 = some (144, fun _ => 0) ∧
  wm_ak w_L 58 0 = some (12, fun _ => 0) ∧
  wm_ak w_L 59 3 = some (3600, fun _ => 0) ∧
  wm_ak w_L 60 3 = some (720, fun _ => 0) ∧
  wm_ak w_L 61 3 = some (60, fun _ => 0) ∧
  wm_ak w_L 62 3 = some (12, fun _ => 0) ∧
  wm_ak w_L 63 0 = some (12, fun _ => 0) ∧
  wm_ak w_L 64 0 = some (12, fun _ => 0) ∧
  wm_ak w_L 65 0 = some (12, fun _ => 0) ∧
  wm_ak w_L 66 0 = some (8, fun _ => 0) ∧
  wm_ak w_L 67 0 = some (50, fun _ => 0) ∧
  wm_ak w_L 68 1 = some (1, fun _ => 0) ∧
  wm_ak w_L 8 2 = some (12, fun i => 35 + i) :=
  ⟨rfl, rfl, rfl, rfl, rfl, rfl, rfl, rfl, rfl, rfl, rfl, rfl, rfl, rfl, rfl, rfl, rfl, rfl, rfl, rfl, rfl, rfl, rfl, rfl, rfl, rfl, rfl, rfl, rfl, rfl, rfl, rfl, rfl, rfl, rfl, rfl, rfl, rfl, rfl, rfl, rfl, rfl, rfl, rfl, rfl, rfl, rfl, rfl, rfl, rfl, rfl, rfl, rfl, rfl, rfl, rfl, rfl, rfl, rfl⟩
theorem w_row {i : Nat} (h : i < 12) : wm_ak w_L (35 + i) 0 = some (60, fun _ => 0) := by
  match i, h with
  | 0, _ => rfl
  | 1, _ => rfl
  | 2, _ => rfl
  | 3, _ => rfl
  | 4, _ => rfl
  | 5, _ => rfl
  | 6, _ => rfl
  | 7, _ => rfl
  | 8, _ => rfl
  | 9, _ => rfl
  | 10, _ => rfl
  | 11, _ => rfl
/-- the same of a list and a number that stand for the layout and the bound, so that nothing unfolds them -/
theorem w_ex : ∃ (L : List wm_C) (N M1 M2 : Nat), w_L = L ∧ w_N = N ∧ (wm_fd L 0 0 0 = some 4 ∧ wm_fd L 0 0 1 = some 18 ∧ wm_fd L 0 0 2 = some 35 ∧ wm_fd L 0 0 3 = some 2 ∧ wm_fd L 1 1 0 = some 0 ∧ wm_fd L 1 1 1 = some 0 ∧ wm_fd L 1 1 2 = some 5 ∧ wm_fd L 1 1 3 = some 6 ∧ wm_fd L 1 1 4 = some 7 ∧ wm_fd L 1 1 5 = some 8 ∧ wm_fd L 1 1 6 = some 9 ∧ wm_fd L 1 1 7 = some 10 ∧ wm_fd L 1 1 8 = some 11 ∧ wm_fd L 1 1 9 = some 12 ∧ wm_fd L 9 2 0 = some 13 ∧ wm_fd L 9 2 1 = some 14 ∧ wm_fd L 9 2 2 = some 15 ∧ wm_fd L 9 2 3 = some 16 ∧ wm_fd L 9 2 4 = some 17 ∧ wm_fd L 15 3 0 = some 19 ∧ wm_fd L 15 3 1 = some 23 ∧ wm_fd L 15 3 2 = some 28 ∧ wm_fd L 15 3 3 = some 29 ∧ wm_fd L 15 3 4 = some 0 ∧ wm_fd L 15 3 5 = some 0 ∧ wm_fd L 16 4 0 = some 20 ∧ wm_fd L 16 4 1 = some 21 ∧ wm_fd L 16 4 2 = some 22 ∧ wm_fd L 20 5 0 = some 24 ∧ wm_fd L 20 5 1 = some 25 ∧ wm_fd L 20 5 2 = some 26 ∧ wm_fd L 20 5 3 = some 27 ∧ wm_fd L 25 6 0 = some 1 ∧ wm_fd L 25 6 1 = some 0 ∧ wm_fd L 26 2 0 = some 30 ∧ wm_fd L 26 2 1 = some 31 ∧ wm_fd L 26 2 2 = some 32 ∧ wm_fd L 26 2 3 = some 33 ∧ wm_fd L 26 2 4 = some 34 ∧ wm_fd L 32 7 0 = some 36 ∧ wm_fd L 32 7 1 = some 37 ∧ wm_fd L 32 7 2 = some 0 ∧ wm_fd L 32 7 3 = some 0 ∧ wm_fd L 32 7 4 = some 0 ∧ wm_fd L 32 7 5 = some 0 ∧ wm_fd L 32 7 6 = some 0 ∧ wm_fd L 32 7 7 = some 0 ∧ wm_fd L 47 8 0 = some 0 ∧ wm_fd L 47 8 1 = some 0 ∧ wm_fd L 47 8 2 = some 51 ∧ wm_fd L 47 8 3 = some 52 ∧ wm_fd L 47 8 4 = some 53 ∧ wm_fd L 47 8 5 = some 54 ∧ wm_fd L 47 8 6 = some 0 ∧ wm_fd L 47 8 7 = some 55 ∧ wm_fd L 47 8 8 = some 56 ∧ wm_fd L 47 8 9 = some 57 ∧ wm_fd L 47 8 10 = some 58 ∧ wm_fd L 47 8 11 = some 59 ∧ wm_fd L 47 8 12 = some 2 ∧ wm_fd L 47 8 13 = some 60 ∧ wm_fd L 47 8 14 = some 61 ∧ wm_fd L 47 8 15 = some 62 ∧ wm_fd L 47 8 16 = some 63 ∧ wm_fd L 47 8 17 = some 64 ∧ wm_fd L 47 8 18 = some 65 ∧ wm_fd L 47 8 19 = some 66 ∧ wm_fd L 47 8 20 = some 67 ∧ wm_fd L 47 8 21 = some 68 ∧ wm_fd L 47 8 22 = some 69 ∧ wm_fd L 47 8 23 = some 0 ∧ wm_fd L 47 8 24 = some 0 ∧ wm_fd L 47 8 25 = some 0 ∧ wm_fd L 47 8 26 = some 0 ∧ wm_fd L 47 8 27 = some 0 ∧ wm_fd L 47 8 28 = some 70) ∧ (wm_ak L 2 0 = some (60, fun _ => 0) ∧ wm_ak L 3 0 = some (60, fun _ => 0) ∧ wm_ak L 4 0 = some (60, fun _ => 0) ∧ wm_ak L 5 0 = some (60, fun _ => 0) ∧ wm_ak L 6 0 = some (60, fun _ => 0) ∧ wm_ak L 7 0 = some (12, fun _ => 0) ∧ wm_ak L 10 0 = some (12, fun _ => 0) ∧ wm_ak L 11 0 = some (12, fun _ => 0) ∧ wm_ak L 12 0 = some (12, fun _ => 0) ∧ wm_ak L 13 0 = some (12, fun _ => 0) ∧ wm_ak L 14 0 = some (12, fun _ => 0) ∧ wm_ak L 17 0 = some (12, fun _ => 0) ∧ wm_ak L 18 0 = some (12, fun _ => 0) ∧ wm_ak L 19 0 = some (12, fun _ => 0) ∧ wm_ak L 21 1 = some (8, fun _ => 0) ∧ wm_ak L 22 1 = some (12, fun _ => 0) ∧ wm_ak L 23 1 = some (60, fun _ => 0) ∧ wm_ak L 24 1 = some (12, fun _ => 0) ∧ wm_ak L 27 0 = some (12, fun _ => 0) ∧ wm_ak L 28 0 = some (12, fun _ => 0) ∧ wm_ak L 29 0 = some (12, fun _ => 0) ∧ wm_ak L 30 0 = some (12, fun _ => 0) ∧ wm_ak L 31 0 = some (12, fun _ => 0) ∧ wm_ak L 33 0 = some (8, fun _ => 0) ∧ wm_ak L 34 0 = some (50, fun _ => 0) ∧ wm_ak L 35 0 = some (60, fun _ => 0) ∧ wm_ak L 36 0 = some (60, fun _ => 0) ∧ wm_ak L 37 0 = some (60, fun _ => 0) ∧ wm_ak L 38 0 = some (60, fun _ => 0) ∧ wm_ak L 39 0 = some (60, fun _ => 0) ∧ wm_ak L 40 0 = some (60, fun _ => 0) ∧ wm_ak L 41 0 = some (60, fun _ => 0) ∧ wm_ak L 42 0 = some (60, fun _ => 0) ∧ wm_ak L 43 0 = some (60, fun _ => 0) ∧ wm_ak L 44 0 = some (60, fun _ => 0) ∧ wm_ak L 45 0 = some (60, fun _ => 0) ∧ wm_ak L 46 0 = some (60, fun _ => 0) ∧ wm_ak L 48 0 = some (12, fun _ => 0) ∧ wm_ak L 49 0 = some (12, fun _ => 0) ∧ wm_ak L 50 0 = some (12, fun _ => 0) ∧ wm_ak L 51 0 = some (12, fun _ => 0) ∧ wm_ak L 52 0 = some (60, fun _ => 0) ∧ wm_ak L 53 0 = some (60, fun _ => 0) ∧ wm_ak L 54 0 = some (60, fun _ => 0) ∧ wm_ak L 55 0 = some (60, fun _ => 0) ∧ wm_ak L 56 0 = some (60, fun _ => 0) ∧ wm_ak L 57 3 = some (144, fun _ => 0) ∧ wm_ak L 58 0 = some (12, fun _ => 0) ∧ wm_ak L 59 3 = some (M1, fun _ => 0) ∧ wm_ak L 60 3 = some (M2, fun _ => 0) ∧ wm_ak L 61 3 = some (60, fun _ => 0) ∧ wm_ak L 62 3 = some (12, fun _ => 0) ∧ wm_ak L 63 0 = some (12, fun _ => 0) ∧ wm_ak L 64 0 = some (12, fun _ => 0) ∧ wm_ak L 65 0 = some (12, fun _ => 0) ∧ wm_ak L 66 0 = some (8, fun _ => 0) ∧ wm_ak L 67 0 = some (50, fun _ => 0) ∧ wm_ak L 68 1 = some (1, fun _ => 0) ∧ wm_ak L 8 2 = some (12, fun i => 35 + i)) ∧ (∀ {i : Nat}, i < 12 → wm_ak L (35 + i) 0 = some (60, fun _ => 0)) ∧ 900000 < N ∧ 3600 ≤ M1 ∧ 720 ≤ M2 := ⟨w_L, w_N, 3600, 720, rfl, rfl, w_fds, w_aks, w_row, by unfold w_N; omega, by omega, by omega⟩
end WMF

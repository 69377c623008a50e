section WMO
theorem th_0 : Cond.classLink "CodePruner" 38 (wt_ex 0) ∈ gw := gw_at 298 (by decide +kernel) rfl
theorem ti_0 : Cond.initialized (wt_ex 0) ∈ gw := gw_at 13 (by decide +kernel) rfl
theorem tv_0 : (Bundle.ownAtoms0 "CodePruner" 40 (wt_ex 0) wt_up).all (fun w => !goodWord w || decide (w ∈ tables_1)) = true := by decide +kernel
theorem tw_0 : ∀ w ∈ Bundle.ownAtoms0 "CodePruner" 40 (wt_ex 0) wt_up, goodWord w = true → w ∈ gw := fun w hw hg => by
  have h := List.all_eq_true.mp tv_0 w hw
  simp only [hg, Bool.not_true, Bool.false_or, decide_eq_true_eq] at h
  exact gw_of (List.mem_append_right _ h) hg
theorem t5_0 : (Bundle.ownAtoms0 "CodePruner" 40 (wt_ex 0) wt_up).all (wt_five (wt_ex 0)) = true := by decide +kernel
theorem tf_0 : Bundle.fit (wt_ex 0) = true := by decide +kernel
theorem th_1 : Cond.classLink "CodePruner" 52 (wt_ex 1) ∈ gw := gw_at 386 (by decide +kernel) rfl
theorem ti_1 : Cond.initialized (wt_ex 1) ∈ gw := gw_at 14 (by decide +kernel) rfl
theorem tv_1 : (Bundle.ownAtoms0 "CodePruner" 54 (wt_ex 1) wt_up).all (fun w => !goodWord w || decide (w ∈ tables_1)) = true := by decide +kernel
theorem tw_1 : ∀ w ∈ Bundle.ownAtoms0 "CodePruner" 54 (wt_ex 1) wt_up, goodWord w = true → w ∈ gw := fun w hw hg => by
  have h := List.all_eq_true.mp tv_1 w hw
  simp only [hg, Bool.not_true, Bool.false_or, decide_eq_true_eq] at h
  exact gw_of (List.mem_append_right _ h) hg
theorem t5_1 : (Bundle.ownAtoms0 "CodePruner" 54 (wt_ex 1) wt_up).all (wt_five (wt_ex 1)) = true := by decide +kernel
theorem tf_1 : Bundle.fit (wt_ex 1) = true := by decide +kernel
theorem th_2 : Cond.classLink "CodePruner" 59 (wt_ex 2) ∈ gw := gw_at 407 (by decide +kernel) rfl
theorem ti_2 : Cond.initialized (wt_ex 2) ∈ gw := gw_at 15 (by decide +kernel) rfl
theorem tv_2 : (Bundle.ownAtoms0 "CodePruner" 61 (wt_ex 2) wt_up).all (fun w => !goodWord w || decide (w ∈ tables_1)) = true := by decide +kernel
theorem tw_2 : ∀ w ∈ Bundle.ownAtoms0 "CodePruner" 61 (wt_ex 2) wt_up, goodWord w = true → w ∈ gw := fun w hw hg => by
  have h := List.all_eq_true.mp tv_2 w hw
  simp only [hg, Bool.not_true, Bool.false_or, decide_eq_true_eq] at h
  exact gw_of (List.mem_append_right _ h) hg
theorem t5_2 : (Bundle.ownAtoms0 "CodePruner" 61 (wt_ex 2) wt_up).all (wt_five (wt_ex 2)) = true := by decide +kernel
theorem tf_2 : Bundle.fit (wt_ex 2) = true := by decide +kernel
theorem th_3 : Cond.classLink "CodePruner" 89 (wt_ex 3) ∈ gw := gw_at 464 (by decide +kernel) rfl
theorem ti_3 : Cond.initialized (wt_ex 3) ∈ gw := gw_at 16 (by decide +kernel) rfl
theorem tv_3 : (Bundle.ownAtoms0 "CodePruner" 91 (wt_ex 3) wt_up).all (fun w => !goodWord w || decide (w ∈ tables_1)) = true := by decide +kernel
theorem tw_3 : ∀ w ∈ Bundle.ownAtoms0 "CodePruner" 91 (wt_ex 3) wt_up, goodWord w = true → w ∈ gw := fun w hw hg => by
  have h := List.all_eq_true.mp tv_3 w hw
  simp only [hg, Bool.not_true, Bool.false_or, decide_eq_true_eq] at h
  exact gw_of (List.mem_append_right _ h) hg
theorem t5_3 : (Bundle.ownAtoms0 "CodePruner" 91 (wt_ex 3) wt_up).all (wt_five (wt_ex 3)) = true := by decide +kernel
theorem tf_3 : Bundle.fit (wt_ex 3) = true := by decide +kernel
end WMO

theorem mj_uwsT : (List.range 13).all (fun ci => (u_ws (mj_R ci) (mj_T ci) (mj_N ci)).all (fun w => goodWord w && decide (w ∈ tables_1))) = true := by decide +kernel
theorem mj_uws {ci : Nat} (h : ci < 13) : ∀ w ∈ u_ws (mj_R ci) (mj_T ci) (mj_N ci), w ∈ lw_g := by
  intro w hw
  have h1 := List.all_eq_true.mp (List.all_eq_true.mp mj_uwsT ci (List.mem_range.mpr h)) w hw
  rw [Bool.and_eq_true] at h1
  exact List.mem_filter.mpr ⟨List.mem_append_right _ (of_decide_eq_true h1.2), h1.1⟩

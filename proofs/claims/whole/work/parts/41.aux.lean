theorem sm2 {x y : Int} : Nat.ble (mj_sum [.inl x, .inl y]) 8 = true := rfl
theorem lc_lt {x y : Int} : (l_cmp x y < 0) = (x < y) := by
  apply propext; unfold l_cmp; split
  · simp_all
  · split <;> simp_all
theorem lc_gt {x y : Int} : (0 < l_cmp x y) = (y < x) := by
  apply propext; unfold l_cmp; split
  · simp_all; omega
  · split
    · simp_all
    · simp_all; omega
theorem lc_eq {x y : Int} : (l_cmp x y = 0) = (x = y) := by
  apply propext; unfold l_cmp; split
  · simp_all; omega
  · split <;> simp_all

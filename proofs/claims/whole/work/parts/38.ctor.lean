/-! THE MAKING: class and model are made, step by step -/
theorem mj_bifT {b : Bool} {a : Prop} (h : b = true) : (bif b then a else False) = a := by rw [h]; rfl
theorem rc_g0 {sx : mS} {top : Nat} {cal : mC} {J : mJ} {KR : mK} {lv : mL} {st : List mV} {n : Nat} {σ : mM} {k : mL → List mV → Nat → mM → Prop} {q a b z : Nat} (h : mj_is n q a = true) : mj_op sx top cal J KR (.getfield 0, a, b, z) lv (.inr (.inr q) :: st) n σ k = k lv (.inl (σ q b) :: st) n σ := mj_bifT h
theorem rc_g2 {sx : mS} {top : Nat} {cal : mC} {J : mJ} {KR : mK} {lv : mL} {st : List mV} {n : Nat} {σ : mM} {k : mL → List mV → Nat → mM → Prop} {q a b z : Nat} (h : mj_is n q a = true) : mj_op sx top cal J KR (.getfield 2, a, b, z) lv (.inr (.inr q) :: st) n σ k = k lv (.inr (.inr (σ q b).toNat) :: st) n σ := mj_bifT h
theorem rc_p0 {sx : mS} {top : Nat} {cal : mC} {J : mJ} {KR : mK} {lv : mL} {st : List mV} {n : Nat} {σ : mM} {k : mL → List mV → Nat → mM → Prop} {q a b z : Nat} {x : Int} (h : mj_is n q a = true) : mj_op sx top cal J KR (.putfield 0, a, b, z) lv (.inl x :: .inr (.inr q) :: st) n σ k = k lv st n (mj_set σ q b x) := mj_bifT h
theorem rc_p1 {sx : mS} {top : Nat} {cal : mC} {J : mJ} {KR : mK} {lv : mL} {st : List mV} {n : Nat} {σ : mM} {k : mL → List mV → Nat → mM → Prop} {q a b z : Nat} {x : Int} (h : mj_is n q a = true) : mj_op sx top cal J KR (.putfield 1, a, b, z) lv (.inr (.inl x) :: .inr (.inr q) :: st) n σ k = k lv st n (mj_set σ q b x) := mj_bifT h
theorem rc_p2 {sx : mS} {top : Nat} {cal : mC} {J : mJ} {KR : mK} {lv : mL} {st : List mV} {n : Nat} {σ : mM} {k : mL → List mV → Nat → mM → Prop} {q a b z x : Nat} (h : mj_is n q a = true) : mj_op sx top cal J KR (.putfield 2, a, b, z) lv (.inr (.inr x) :: .inr (.inr q) :: st) n σ k = k lv st n (mj_set σ q b (x : Int)) := mj_bifT h
theorem rc_ia {sx : mS} {top : Nat} {cal : mC} {J : mJ} {KR : mK} {lv : mL} {st : List mV} {n : Nat} {σ : mM} {k : mL → List mV → Nat → mM → Prop} {q a b z : Nat} {j : Int} (h0 : Nat.beq q mj_SCR = false) (h : mj_is n q 20 = true) (hj : 0 ≤ j ∧ j < ((mj_shp q).2 : Int)) : mj_op sx top cal J KR (.iaload, a, b, z) lv (.inl j :: .inr (.inr q) :: st) n σ k = k lv (.inl (σ q j.toNat) :: st) n σ := by
  show (bif Nat.beq q mj_SCR then _ else bif mj_is n q 20 then _ else False) = _
  rw [h0, h]
  exact propext ⟨fun h => h.2, fun h => ⟨hj, h⟩⟩
theorem rc_is {sx : mS} {top : Nat} {cal : mC} {J : mJ} {KR : mK} {lv : mL} {st : List mV} {n : Nat} {σ : mM} {k : mL → List mV → Nat → mM → Prop} {q a b z : Nat} {j x : Int} (h : mj_is n q 20 = true) (hj : 0 ≤ j ∧ j < ((mj_shp q).2 : Int)) : mj_op sx top cal J KR (.iastore, a, b, z) lv (.inl x :: .inl j :: .inr (.inr q) :: st) n σ k = k lv st n (mj_set σ q j.toNat x) := by
  refine (mj_bifT h).trans ?_
  exact propext ⟨fun h => h.2, fun h => ⟨hj, h⟩⟩
theorem rc_cs {sx : mS} {top : Nat} {cal : mC} {J : mJ} {KR : mK} {lv : mL} {st : List mV} {n : Nat} {σ : mM} {k : mL → List mV → Nat → mM → Prop} {q a b z : Nat} {j x : Int} (h : mj_is n q 22 = true) (hj : 0 ≤ j ∧ j < ((mj_shp q).2 : Int)) (hx : 0 ≤ x ∧ x < 65536) : mj_op sx top cal J KR (.castore, a, b, z) lv (.inl x :: .inl j :: .inr (.inr q) :: st) n σ k = k lv st n (mj_set σ q j.toNat x) := by
  refine (mj_bifT h).trans ?_
  exact propext ⟨fun h => h.2.2, fun h => ⟨hj, hx, h⟩⟩
theorem rc_as {sx : mS} {top : Nat} {cal : mC} {J : mJ} {KR : mK} {lv : mL} {st : List mV} {n : Nat} {σ : mM} {k : mL → List mV → Nat → mM → Prop} {q a b z x : Nat} {j : Int} (h : (mj_is n x 7 && mj_is n q 24 || mj_is n x 2 && mj_is n q 25) = true) (hj : 0 ≤ j ∧ j < ((mj_shp q).2 : Int)) : mj_op sx top cal J KR (.aastore, a, b, z) lv (.inr (.inr x) :: .inl j :: .inr (.inr q) :: st) n σ k = k lv st n (mj_set σ q j.toNat (x : Int)) := by
  refine (mj_bifT h).trans ?_
  exact propext ⟨fun h => h.2, fun h => ⟨hj, h⟩⟩
theorem rc_al {sx : mS} {top : Nat} {cal : mC} {J : mJ} {KR : mK} {lv : mL} {st : List mV} {n : Nat} {σ : mM} {k : mL → List mV → Nat → mM → Prop} {q a b z : Nat} (h0 : Nat.beq q mj_SCR = false) (h : (Nat.blt q n && Nat.ble 20 (mj_shp q).1) = true) : mj_op sx top cal J KR (.arraylength, a, b, z) lv (.inr (.inr q) :: st) n σ k = k lv (.inl ((mj_shp q).2 : Int) :: st) n σ := by
  show (bif Nat.beq q mj_SCR then _ else bif (Nat.blt q n && Nat.ble 20 (mj_shp q).1) then _ else False) = _
  rw [h0, h]
  rfl
theorem rc_nw {sx : mS} {top : Nat} {cal : mC} {J : mJ} {KR : mK} {lv : mL} {st : List mV} {n : Nat} {σ : mM} {k : mL → List mV → Nat → mM → Prop} {ci a b z : Nat} (h : (Nat.blt n top && Nat.beq (mj_shp n).1 ci) = true) : mj_op sx top cal J KR (.new ci, a, b, z) lv st n σ k = k lv (.inr (.inr n) :: st) (n + 1) (mj_new σ n (mj_dfl ci)) := mj_bifT h
theorem rc_na {sx : mS} {top : Nat} {cal : mC} {J : mJ} {KR : mK} {lv : mL} {st : List mV} {n : Nat} {σ : mM} {k : mL → List mV → Nat → mM → Prop} {a b z : Nat} {t : ArrayType} {x : Int} (h : (Nat.blt n top && Nat.beq (mj_shp n).1 a) = true) (hx : x = ((mj_shp n).2 : Int)) : mj_op sx top cal J KR (.newarray t, a, b, z) lv (.inl x :: st) n σ k = k lv (.inr (.inr n) :: st) (n + 1) (mj_new σ n (fun _ => 0)) := by
  refine (mj_bifT h).trans ?_
  exact propext ⟨fun h => h.2, fun h => ⟨hx, h⟩⟩
theorem rc_nq {sx : mS} {top : Nat} {cal : mC} {J : mJ} {KR : mK} {lv : mL} {st : List mV} {n : Nat} {σ : mM} {k : mL → List mV → Nat → mM → Prop} {kd a b z : Nat} {x : Int} (h : (Nat.blt n top && Nat.beq (mj_shp n).1 kd) = true) (hx : x = ((mj_shp n).2 : Int)) : mj_op sx top cal J KR (.anewarray kd, a, b, z) lv (.inl x :: st) n σ k = k lv (.inr (.inr n) :: st) (n + 1) (mj_new σ n (fun _ => 999999)) := by
  refine (mj_bifT h).trans ?_
  exact propext ⟨fun h => h.2, fun h => ⟨hx, h⟩⟩
theorem rc_ob {sx : mS} {top : Nat} {cal : mC} {J : mJ} {KR : mK} {lv : mL} {st : List mV} {n : Nat} {σ : mM} {k : mL → List mV → Nat → mM → Prop} {q a b z : Nat} (h1 : Nat.blt q 900000 = true) (h2 : Nat.ble (mj_sum st) 8 = true) : mj_op sx top cal J KR (.monitorexit, a, b, z) lv (.inr (.inr q) :: st) n σ k = k lv st n σ := propext ⟨fun h => h.2.2, fun h => ⟨h1, h2, h⟩⟩
theorem rc_cv1 {sx : mS} {top : Nat} {cal : mC} {J : mJ} {KR : mK} {lv : mL} {st : List mV} {n : Nat} {σ : mM} {k : mL → List mV → Nat → mM → Prop} {y q b z : Nat} (h1 : Nat.ble (mj_sum st) 8 = true) (h : mj_is n q b = true) : mj_op sx top cal J KR (.invokevirtual y, 1, b, z) lv (.inr (.inr q) :: st) n σ k = cal y [.inr (.inr q)] n σ (fun r n2 σ2 => k lv (r.toList ++ st) n2 σ2) := propext ⟨fun h9 => (Eq.mp (mj_bifT h) h9.2), fun h9 => ⟨h1, Eq.mpr (mj_bifT h) h9⟩⟩
theorem rc_ci1 {sx : mS} {top : Nat} {cal : mC} {J : mJ} {KR : mK} {lv : mL} {st : List mV} {n : Nat} {σ : mM} {k : mL → List mV → Nat → mM → Prop} {y q b z : Nat} (h1 : Nat.ble (mj_sum st) 8 = true) (h : mj_is n q b = true) : mj_op sx top cal J KR (.invokespecial y, 1, b, z) lv (.inr (.inr q) :: st) n σ k = cal y [.inr (.inr q)] n σ (fun r n2 σ2 => k lv (r.toList ++ st) n2 σ2) := propext ⟨fun h9 => (Eq.mp (mj_bifT h) h9.2), fun h9 => ⟨h1, Eq.mpr (mj_bifT h) h9⟩⟩
theorem rc_cv2 {sx : mS} {top : Nat} {cal : mC} {J : mJ} {KR : mK} {lv : mL} {st : List mV} {n : Nat} {σ : mM} {k : mL → List mV → Nat → mM → Prop} {v1 : mV} {y q b z : Nat} (h1 : Nat.ble (mj_sum st) 8 = true) (h : mj_is n q b = true) : mj_op sx top cal J KR (.invokevirtual y, 2, b, z) lv (v1 :: .inr (.inr q) :: st) n σ k = cal y [.inr (.inr q), v1] n σ (fun r n2 σ2 => k lv (r.toList ++ st) n2 σ2) := propext ⟨fun h9 => (Eq.mp (mj_bifT h) h9.2), fun h9 => ⟨h1, Eq.mpr (mj_bifT h) h9⟩⟩
theorem rc_ci2 {sx : mS} {top : Nat} {cal : mC} {J : mJ} {KR : mK} {lv : mL} {st : List mV} {n : Nat} {σ : mM} {k : mL → List mV → Nat → mM → Prop} {v1 : mV} {y q b z : Nat} (h1 : Nat.ble (mj_sum st) 8 = true) (h : mj_is n q b = true) : mj_op sx top cal J KR (.invokespecial y, 2, b, z) lv (v1 :: .inr (.inr q) :: st) n σ k = cal y [.inr (.inr q), v1] n σ (fun r n2 σ2 => k lv (r.toList ++ st) n2 σ2) := propext ⟨fun h9 => (Eq.mp (mj_bifT h) h9.2), fun h9 => ⟨h1, Eq.mpr (mj_bifT h) h9⟩⟩
theorem rc_cv3 {sx : mS} {top : Nat} {cal : mC} {J : mJ} {KR : mK} {lv : mL} {st : List mV} {n : Nat} {σ : mM} {k : mL → List mV → Nat → mM → Prop} {v1 v2 : mV} {y q b z : Nat} (h1 : Nat.ble (mj_sum st) 8 = true) (h : mj_is n q b = true) : mj_op sx top cal J KR (.invokevirtual y, 3, b, z) lv (v2 :: v1 :: .inr (.inr q) :: st) n σ k = cal y [.inr (.inr q), v1, v2] n σ (fun r n2 σ2 => k lv (r.toList ++ st) n2 σ2) := propext ⟨fun h9 => (Eq.mp (mj_bifT h) h9.2), fun h9 => ⟨h1, Eq.mpr (mj_bifT h) h9⟩⟩
theorem rc_ci3 {sx : mS} {top : Nat} {cal : mC} {J : mJ} {KR : mK} {lv : mL} {st : List mV} {n : Nat} {σ : mM} {k : mL → List mV → Nat → mM → Prop} {v1 v2 : mV} {y q b z : Nat} (h1 : Nat.ble (mj_sum st) 8 = true) (h : mj_is n q b = true) : mj_op sx top cal J KR (.invokespecial y, 3, b, z) lv (v2 :: v1 :: .inr (.inr q) :: st) n σ k = cal y [.inr (.inr q), v1, v2] n σ (fun r n2 σ2 => k lv (r.toList ++ st) n2 σ2) := propext ⟨fun h9 => (Eq.mp (mj_bifT h) h9.2), fun h9 => ⟨h1, Eq.mpr (mj_bifT h) h9⟩⟩
theorem rc_cv4 {sx : mS} {top : Nat} {cal : mC} {J : mJ} {KR : mK} {lv : mL} {st : List mV} {n : Nat} {σ : mM} {k : mL → List mV → Nat → mM → Prop} {v1 v2 v3 : mV} {y q b z : Nat} (h1 : Nat.ble (mj_sum st) 8 = true) (h : mj_is n q b = true) : mj_op sx top cal J KR (.invokevirtual y, 4, b, z) lv (v3 :: v2 :: v1 :: .inr (.inr q) :: st) n σ k = cal y [.inr (.inr q), v1, v2, v3] n σ (fun r n2 σ2 => k lv (r.toList ++ st) n2 σ2) := propext ⟨fun h9 => (Eq.mp (mj_bifT h) h9.2), fun h9 => ⟨h1, Eq.mpr (mj_bifT h) h9⟩⟩
theorem rc_ci4 {sx : mS} {top : Nat} {cal : mC} {J : mJ} {KR : mK} {lv : mL} {st : List mV} {n : Nat} {σ : mM} {k : mL → List mV → Nat → mM → Prop} {v1 v2 v3 : mV} {y q b z : Nat} (h1 : Nat.ble (mj_sum st) 8 = true) (h : mj_is n q b = true) : mj_op sx top cal J KR (.invokespecial y, 4, b, z) lv (v3 :: v2 :: v1 :: .inr (.inr q) :: st) n σ k = cal y [.inr (.inr q), v1, v2, v3] n σ (fun r n2 σ2 => k lv (r.toList ++ st) n2 σ2) := propext ⟨fun h9 => (Eq.mp (mj_bifT h) h9.2), fun h9 => ⟨h1, Eq.mpr (mj_bifT h) h9⟩⟩
theorem rc_cv5 {sx : mS} {top : Nat} {cal : mC} {J : mJ} {KR : mK} {lv : mL} {st : List mV} {n : Nat} {σ : mM} {k : mL → List mV → Nat → mM → Prop} {v1 v2 v3 v4 : mV} {y q b z : Nat} (h1 : Nat.ble (mj_sum st) 8 = true) (h : mj_is n q b = true) : mj_op sx top cal J KR (.invokevirtual y, 5, b, z) lv (v4 :: v3 :: v2 :: v1 :: .inr (.inr q) :: st) n σ k = cal y [.inr (.inr q), v1, v2, v3, v4] n σ (fun r n2 σ2 => k lv (r.toList ++ st) n2 σ2) := propext ⟨fun h9 => (Eq.mp (mj_bifT h) h9.2), fun h9 => ⟨h1, Eq.mpr (mj_bifT h) h9⟩⟩
theorem rc_ci5 {sx : mS} {top : Nat} {cal : mC} {J : mJ} {KR : mK} {lv : mL} {st : List mV} {n : Nat} {σ : mM} {k : mL → List mV → Nat → mM → Prop} {v1 v2 v3 v4 : mV} {y q b z : Nat} (h1 : Nat.ble (mj_sum st) 8 = true) (h : mj_is n q b = true) : mj_op sx top cal J KR (.invokespecial y, 5, b, z) lv (v4 :: v3 :: v2 :: v1 :: .inr (.inr q) :: st) n σ k = cal y [.inr (.inr q), v1, v2, v3, v4] n σ (fun r n2 σ2 => k lv (r.toList ++ st) n2 σ2) := propext ⟨fun h9 => (Eq.mp (mj_bifT h) h9.2), fun h9 => ⟨h1, Eq.mpr (mj_bifT h) h9⟩⟩
theorem rc_cs0 {sx : mS} {top : Nat} {cal : mC} {J : mJ} {KR : mK} {lv : mL} {st : List mV} {n : Nat} {σ : mM} {k : mL → List mV → Nat → mM → Prop} {y b z : Nat} (h1 : Nat.ble (mj_sum st) 8 = true) : mj_op sx top cal J KR (.invokestatic y, 0, b, z) lv st n σ k = cal y [] n σ (fun r n2 σ2 => k lv (r.toList ++ st) n2 σ2) := propext ⟨fun h9 => h9.2, fun h9 => ⟨h1, h9⟩⟩
theorem rc_cs1 {sx : mS} {top : Nat} {cal : mC} {J : mJ} {KR : mK} {lv : mL} {st : List mV} {n : Nat} {σ : mM} {k : mL → List mV → Nat → mM → Prop} {v0 : mV} {y b z : Nat} (h1 : Nat.ble (mj_sum st) 8 = true) : mj_op sx top cal J KR (.invokestatic y, 1, b, z) lv (v0 :: st) n σ k = cal y [v0] n σ (fun r n2 σ2 => k lv (r.toList ++ st) n2 σ2) := propext ⟨fun h9 => h9.2, fun h9 => ⟨h1, h9⟩⟩
theorem rc_cs2 {sx : mS} {top : Nat} {cal : mC} {J : mJ} {KR : mK} {lv : mL} {st : List mV} {n : Nat} {σ : mM} {k : mL → List mV → Nat → mM → Prop} {v0 v1 : mV} {y b z : Nat} (h1 : Nat.ble (mj_sum st) 8 = true) : mj_op sx top cal J KR (.invokestatic y, 2, b, z) lv (v1 :: v0 :: st) n σ k = cal y [v0, v1] n σ (fun r n2 σ2 => k lv (r.toList ++ st) n2 σ2) := propext ⟨fun h9 => h9.2, fun h9 => ⟨h1, h9⟩⟩
theorem rc_cs3 {sx : mS} {top : Nat} {cal : mC} {J : mJ} {KR : mK} {lv : mL} {st : List mV} {n : Nat} {σ : mM} {k : mL → List mV → Nat → mM → Prop} {v0 v1 v2 : mV} {y b z : Nat} (h1 : Nat.ble (mj_sum st) 8 = true) : mj_op sx top cal J KR (.invokestatic y, 3, b, z) lv (v2 :: v1 :: v0 :: st) n σ k = cal y [v0, v1, v2] n σ (fun r n2 σ2 => k lv (r.toList ++ st) n2 σ2) := propext ⟨fun h9 => h9.2, fun h9 => ⟨h1, h9⟩⟩
theorem mn_app {σ : mM} {n q k : Nat} {f : Nat → Int} : mj_new σ n f q k = (if q = n then f k else σ q k) := rfl
theorem CB {d y top n0 b : Nat} {K : mK} {lv : mL} {st : List mV} {n : Nat} {σ : mM} {is : List mI} (hy : Nat.blt y 282 = true) (hb : (mj_code y)[b]? = some is) (htop : Nat.ble top 218 = true) (hl : lv.length = mj_max y) (hn : Nat.ble n top = true)
    (h : ∀ sx, mj_den sx top (mj_cal d top) (mj_AtG d y top n0 K) (fun r n σ => n = top ∧ K r n σ) (b + 1) is lv st n σ) : mj_AtG d y top n0 K b lv st n σ :=
  mj_AtG.blk (Nat.blt_eq.mp hy) hb (Nat.le_of_ble_eq_true htop) hl (Nat.le_of_ble_eq_true hn) (fun _ _ _ _ _ _ _ h => h) (fun b lv st n σ hj => by obtain ⟨t, ht, -⟩ := hj; exact ⟨t, ht⟩) (fun r n σ _ _ h => h) h
theorem CC {d y top n : Nat} {as : List mV} {lv : mL} {σ : mM} {K : mK} (top' : Nat) (h1 : Nat.ble n top' = true) (h2 : Nat.ble top' top = true) (hy : Nat.blt y 281 = true) (hz : Nat.ble (mj_lv0 as).length (mj_max y) = true) (hl : mj_lv0 as ++ List.replicate (mj_max y - (mj_lv0 as).length) none = lv) (h : mj_AtG d y top' n K 0 lv [] n σ) : mj_cal (d + 1) top y as n σ K :=
  ⟨top', Nat.le_of_ble_eq_true h1, Nat.le_of_ble_eq_true h2, Nat.blt_eq.mp hy, mj_M.of (Nat.blt_eq.mp hy) (Nat.le_of_ble_eq_true hz) (by rw [hl]; exact h)⟩
theorem w32_0 : w32 0 = 0 := rfl
theorem w32_1 : w32 1 = 1 := rfl
theorem w32_2 : w32 2 = 2 := rfl
theorem w32_3 : w32 3 = 3 := rfl
theorem w32_4 : w32 4 = 4 := rfl
theorem w32_5 : w32 5 = 5 := rfl
theorem w32_6 : w32 6 = 6 := rfl
theorem w32_7 : w32 7 = 7 := rfl
theorem w32_8 : w32 8 = 8 := rfl
theorem w32_9 : w32 9 = 9 := rfl
theorem w32_10 : w32 10 = 10 := rfl
theorem w32_11 : w32 11 = 11 := rfl
theorem w32_12 : w32 12 = 12 := rfl
theorem w32_13 : w32 13 = 13 := rfl
theorem w32_14 : w32 14 = 14 := rfl
theorem w32_15 : w32 15 = 15 := rfl
theorem w32_16 : w32 16 = 16 := rfl
theorem w32_17 : w32 17 = 17 := rfl
theorem w32_18 : w32 18 = 18 := rfl
theorem w32_19 : w32 19 = 19 := rfl
theorem w32_20 : w32 20 = 20 := rfl
theorem w32_21 : w32 21 = 21 := rfl
theorem w32_22 : w32 22 = 22 := rfl
theorem w32_23 : w32 23 = 23 := rfl
theorem w32_24 : w32 24 = 24 := rfl
theorem w32_25 : w32 25 = 25 := rfl
theorem w32_26 : w32 26 = 26 := rfl
set_option maxRecDepth 100000 in
set_option maxHeartbeats 40000000 in
theorem ctorX (K : mK) (h : ∀ σ, K none 146 σ) : mj_AtG 990 105 146 1 K 0 [some (.inr (.inr 0))] [] 1 (mj_new (fun _ _ => 0) 0 (mj_dfl 11)) := by
  refine CB rfl rfl rfl rfl rfl fun sx => ?_
  simp (decide := true) only [RR, rc_g0, rc_g2, rc_p0, rc_p1, rc_p2, rc_ia, rc_is, rc_cs, rc_as, rc_al, rc_nw, rc_na, rc_nq, rc_ob, rc_cv1, rc_ci1, rc_cv2, rc_ci2, rc_cv3, rc_ci3, rc_cv4, rc_ci4, rc_cv5, rc_ci5, rc_cs0, rc_cs1, rc_cs2, rc_cs3, mn_app, ms_app, toList_some, toList_none, if_true, if_false, true_and, and_true, Int.toNat_natCast, Nat.reduceAdd, Int.reduceAdd, Int.reduceToNat, Nat.reduceEqDiff, Nat.reduceSub, w32_0, w32_1, w32_2, w32_3, w32_4, w32_5, w32_6, w32_7, w32_8, w32_9, w32_10, w32_11, w32_12, w32_13, w32_14, w32_15, w32_16, w32_17, w32_18, w32_19, w32_20, w32_21, w32_22, w32_23, w32_24, w32_25, w32_26]
  refine CC (lv := [some (.inr (.inr 1))]) 3 rfl rfl rfl rfl rfl ?_
  refine CB rfl rfl rfl rfl rfl fun sx => ?_
  simp (decide := true) only [RR, rc_g0, rc_g2, rc_p0, rc_p1, rc_p2, rc_ia, rc_is, rc_cs, rc_as, rc_al, rc_nw, rc_na, rc_nq, rc_ob, rc_cv1, rc_ci1, rc_cv2, rc_ci2, rc_cv3, rc_ci3, rc_cv4, rc_ci4, rc_cv5, rc_ci5, rc_cs0, rc_cs1, rc_cs2, rc_cs3, mn_app, ms_app, toList_some, toList_none, if_true, if_false, true_and, and_true, Int.toNat_natCast, Nat.reduceAdd, Int.reduceAdd, Int.reduceToNat, Nat.reduceEqDiff, Nat.reduceSub, w32_0, w32_1, w32_2, w32_3, w32_4, w32_5, w32_6, w32_7, w32_8, w32_9, w32_10, w32_11, w32_12, w32_13, w32_14, w32_15, w32_16, w32_17, w32_18, w32_19, w32_20, w32_21, w32_22, w32_23, w32_24, w32_25, w32_26]
  refine ⟨rfl, ?_⟩
  simp (decide := true) only [RR, rc_g0, rc_g2, rc_p0, rc_p1, rc_p2, rc_ia, rc_is, rc_cs, rc_as, rc_al, rc_nw, rc_na, rc_nq, rc_ob, rc_cv1, rc_ci1, rc_cv2, rc_ci2, rc_cv3, rc_ci3, rc_cv4, rc_ci4, rc_cv5, rc_ci5, rc_cs0, rc_cs1, rc_cs2, rc_cs3, mn_app, ms_app, toList_some, toList_none, if_true, if_false, true_and, and_true, Int.toNat_natCast, Nat.reduceAdd, Int.reduceAdd, Int.reduceToNat, Nat.reduceEqDiff, Nat.reduceSub, w32_0, w32_1, w32_2, w32_3, w32_4, w32_5, w32_6, w32_7, w32_8, w32_9, w32_10, w32_11, w32_12, w32_13, w32_14, w32_15, w32_16, w32_17, w32_18, w32_19, w32_20, w32_21, w32_22, w32_23, w32_24, w32_25, w32_26]
  refine CC (lv := [some (.inr (.inr 3))]) 11 rfl rfl rfl rfl rfl ?_
  refine CB rfl rfl rfl rfl rfl fun sx => ?_
  simp (decide := true) only [RR, rc_g0, rc_g2, rc_p0, rc_p1, rc_p2, rc_ia, rc_is, rc_cs, rc_as, rc_al, rc_nw, rc_na, rc_nq, rc_ob, rc_cv1, rc_ci1, rc_cv2, rc_ci2, rc_cv3, rc_ci3, rc_cv4, rc_ci4, rc_cv5, rc_ci5, rc_cs0, rc_cs1, rc_cs2, rc_cs3, mn_app, ms_app, toList_some, toList_none, if_true, if_false, true_and, and_true, Int.toNat_natCast, Nat.reduceAdd, Int.reduceAdd, Int.reduceToNat, Nat.reduceEqDiff, Nat.reduceSub, w32_0, w32_1, w32_2, w32_3, w32_4, w32_5, w32_6, w32_7, w32_8, w32_9, w32_10, w32_11, w32_12, w32_13, w32_14, w32_15, w32_16, w32_17, w32_18, w32_19, w32_20, w32_21, w32_22, w32_23, w32_24, w32_25, w32_26]
  refine CC (lv := [some (.inr (.inr 7))]) 11 rfl rfl rfl rfl rfl ?_
  refine CB rfl rfl rfl rfl rfl fun sx => ?_
  done

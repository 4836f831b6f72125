/-- THE CONTRACT of a method when all places stand -/
def Mt (d y : Nat) (as : List mV) (σ : mM) (K : Option mV → mM → Prop) : Prop := mj_M d y as 218 218 σ (fun r _ σ => K r σ)
/-- from block b of method y the method comes to its end K -/
def At (d y b : Nat) (lv : mL) (st : List mV) (σ : mM) (K : Option mV → mM → Prop) : Prop := mj_AtG d y 218 218 (fun r _ σ => K r σ) b lv st 218 σ
theorem At.blk {d y b : Nat} {K : Option mV → mM → Prop} {lv : mL} {st : List mV} {σ : mM} {is : List mI} (hy : Nat.blt y 283 = true) (hb : (mj_code y)[b]? = some is) (hl : lv.length = mj_max y)
    (h : ∀ sx, mj_den sx 218 (mj_cal d 218) (fun b lv st _ σ => At d y b lv st σ K) (fun r _ σ => K r σ) (b + 1) is lv st 218 σ) : At d y b lv st σ K := by
  refine mj_AtG.blk (Nat.blt_eq.mp hy) hb (Nat.le_refl _) hl (Nat.le_refl _) (fun b lv st n σ h1 h2 hj => ?_) (fun b lv st n σ hj => ?_) (fun r n σ h1 h2 hk => ⟨by omega, hk⟩) h
  · obtain rfl : n = 218 := by omega
    exact hj
  · obtain ⟨t, ht, -⟩ := hj
    exact ⟨t, ht⟩
theorem Mt.of {d y : Nat} {K : Option mV → mM → Prop} {as : List mV} {σ : mM} (hy : Nat.blt y 282 = true) (hz : Nat.ble (mj_lv0 as).length (mj_max y) = true) (h : At d y 0 (mj_lv0 as ++ List.replicate (mj_max y - (mj_lv0 as).length) none) [] σ K) : Mt (d + 1) y as σ K :=
  mj_M.of (Nat.blt_eq.mp hy) (Nat.le_of_ble_eq_true hz) h
/-- a call -/
theorem cal_of {d y : Nat} {as : List mV} {σ : mM} {K : mK} (hy : Nat.blt y 282 = true) (h : Mt d y as σ (fun r σ' => K r 218 σ')) : mj_cal d 218 y as 218 σ K := ⟨218, Nat.le_refl _, Nat.le_refl _, Nat.blt_eq.mp hy, mj_M.weaken h (fun _ _ hr => hr)⟩
theorem Mt.mono {d y : Nat} {as : List mV} {σ : mM} {K K' : Option mV → mM → Prop} (h : Mt d y as σ K) (hK : ∀ r σ', K r σ' → K' r σ') : Mt d y as σ K' := mj_M.weaken h (fun r σ' hr => hK r σ' hr)

/-! what was, and what can be undone -/
section
variable {sx : mS} {top : Nat} {cal : mC} {J : mJ} {KR : mK} {lv : mL} {st : List mV} {σ : mM} {k : mL → List mV → Nat → mM → Prop} {f z kd s a b : Nat} {x j : Int}
theorem gf0 (h : mj_is 218 s kd = true) : mj_op sx top cal J KR (.getfield 0, kd, f, z) lv (.inr (.inr s) :: st) 218 σ k = k lv (.inl (σ s f) :: st) 218 σ := by
  show (bif mj_is 218 s kd then _ else False) = _
  rw [h]; rfl
theorem gf2 (h : mj_is 218 s kd = true) : mj_op sx top cal J KR (.getfield 2, kd, f, z) lv (.inr (.inr s) :: st) 218 σ k = k lv (.inr (.inr (σ s f).toNat) :: st) 218 σ := by
  show (bif mj_is 218 s kd then _ else False) = _
  rw [h]; rfl
theorem pf0 (h : mj_is 218 s kd = true) : mj_op sx top cal J KR (.putfield 0, kd, f, z) lv (.inl x :: .inr (.inr s) :: st) 218 σ k = k lv st 218 (mj_set σ s f x) := by
  show (bif mj_is 218 s kd then _ else False) = _
  rw [h]; rfl
end
theorem mc_app {σ : mM} {q0 sp q1 dp n q2 k2 : Nat} : mj_cpy σ q0 sp q1 dp n q2 k2 = (if q2 = q1 then (if dp ≤ k2 ∧ k2 < dp + n then σ q0 (sp + (k2 - dp)) else σ q2 k2) else σ q2 k2) := rfl
def skyB (s : Nat) : Bool := mj_is 218 s 7 && mj_is 218 (s + 1) 20 && mj_is 218 (s + 2) 20 && Nat.beq (mj_shp (s + 1)).2 7 && Nat.beq (mj_shp (s + 2)).2 7 && (Nat.blt s 218 && Nat.blt 0 (mj_shp s).2 && fixS s 0) && (Nat.blt s 218 && Nat.blt 1 (mj_shp s).2 && fixS s 1) && decide ((fixR s).getD 0 0 = ((s + 1 : Nat) : Int)) && decide ((fixR s).getD 1 0 = ((s + 2 : Nat) : Int))
theorem skyB.get {s : Nat} {σ : mM} (h : skyB s = true) (hF : Fix σ) : mj_is 218 s 7 = true ∧ mj_is 218 (s + 1) 20 = true ∧ mj_is 218 (s + 2) 20 = true ∧ (mj_shp (s + 1)).2 = 7 ∧ (mj_shp (s + 2)).2 = 7 ∧ σ s 0 = ((s + 1 : Nat) : Int) ∧ σ s 1 = ((s + 2 : Nat) : Int) := by
  unfold skyB at h
  obtain ⟨h, h9⟩ := mj_and h
  obtain ⟨h, h8⟩ := mj_and h
  obtain ⟨h, h7⟩ := mj_and h
  obtain ⟨h, h6⟩ := mj_and h
  obtain ⟨h, h5⟩ := mj_and h
  obtain ⟨h, h4⟩ := mj_and h
  obtain ⟨h, h3⟩ := mj_and h
  obtain ⟨h1, h2⟩ := mj_and h
  exact ⟨h1, h2, h3, Nat.eq_of_beq_eq_true h4, Nat.eq_of_beq_eq_true h5, (hF.get s 0 h6).trans (of_decide_eq_true h8), (hF.get s 1 h7).trans (of_decide_eq_true h9)⟩
def kepB (s : Nat) : Bool := mj_is 218 s 2 && mj_is 218 (s + 1) 20 && Nat.beq (mj_shp (s + 1)).2 40 && (Nat.blt s 218 && Nat.blt 0 (mj_shp s).2 && fixS s 0) && decide ((fixR s).getD 0 0 = ((s + 1 : Nat) : Int))
theorem kepB.get {s : Nat} {σ : mM} (h : kepB s = true) (hF : Fix σ) : mj_is 218 s 2 = true ∧ mj_is 218 (s + 1) 20 = true ∧ (mj_shp (s + 1)).2 = 40 ∧ σ s 0 = ((s + 1 : Nat) : Int) := by
  unfold kepB at h
  obtain ⟨h, h9⟩ := mj_and h
  obtain ⟨h, h8⟩ := mj_and h
  obtain ⟨h, h7⟩ := mj_and h
  obtain ⟨h1, h2⟩ := mj_and h
  exact ⟨h1, h2, Nat.eq_of_beq_eq_true h7, (hF.get s 0 h8).trans (of_decide_eq_true h9)⟩
theorem sky_all : ∀ k : Nat, k < 20 → skyB (44 + 5 * k) = true ∧ kepB (47 + 5 * k) = true := by decide +kernel
theorem sky_row : ∀ k : Nat, k < 20 → (Nat.blt 42 218 && Nat.blt k (mj_shp 42).2 && fixS 42 k) = true ∧ (Nat.blt 43 218 && Nat.blt k (mj_shp 43).2 && fixS 43 k) = true ∧ (fixR 42).getD k 0 = ((44 + 5 * k : Nat) : Int) ∧ (fixR 43).getD k 0 = ((47 + 5 * k : Nat) : Int) := by decide +kernel
theorem Fix.sky {σ : mM} (hF : Fix σ) {k : Nat} (hk : k < 20) : σ 42 k = ((44 + 5 * k : Nat) : Int) ∧ σ 43 k = ((47 + 5 * k : Nat) : Int) := by
  obtain ⟨h1, h2, h3, h4⟩ := sky_row k hk
  exact ⟨(hF.get 42 k h1).trans h3, (hF.get 43 k h2).trans h4⟩
/-- a sky over a sky -/
def skyC (σ : mM) (s o : Nat) : mM := fun q k => if q = s + 1 then (if k < 7 then σ (o + 1) k else σ q k) else if q = s + 2 then (if k < 7 then σ (o + 2) k else σ q k) else if q = s then (if k = 2 then σ o 2 else if k = 3 then σ o 3 else if k = 4 then σ o 4 else σ q k) else σ q k
def kepC (σ : mM) (s o : Nat) : mM := fun q k => if q = s + 1 then (if k < 40 then σ (o + 1) k else σ q k) else if q = s then (if k = 1 then σ o 1 else σ q k) else σ q k
section
variable {d : Nat} {σ : mM} {K : Option mV → mM → Prop} {s o : Nat}
theorem x_skyCopy (hF : Fix σ) (hs : skyB s = true) (ho : skyB o = true) (hd : s + 2 < o ∨ o + 2 < s) (hK : K none (skyC σ s o)) : Mt (d + 1) 78 [.inr (.inr s), .inr (.inr o)] σ K := by
  refine Mt.go (lv := [some (.inr (.inr s)), some (.inr (.inr o))]) rfl rfl rfl ?_
  obtain ⟨s1, s2, s3, s4, s5, s6, s7⟩ := skyB.get hs hF
  obtain ⟨o1, o2, o3, o4, o5, o6, o7⟩ := skyB.get ho hF
  have e1 : (o = s + 1) = False := eq_false (by omega)
  have e2 : (o = s + 2) = False := eq_false (by omega)
  have e3 : (o = s) = False := eq_false (by omega)
  have e4 : (s = s + 1) = False := eq_false (by omega)
  have e5 : (s = s + 2) = False := eq_false (by omega)
  refine At.blk rfl rfl rfl fun sx => ?_
  simp (decide := true) only [RR, ms_app, toList_some, toList_none, if_true, if_false, true_and, and_true, cond_true, sm0, sm1, sm1l, sm2, lc_lt, lc_gt, lc_eq, Int.toNat_natCast, Int.reduceToNat, Nat.reduceAdd, Nat.reduceEqDiff, Int.reduceLT, Int.reduceEq, Int.reduceNeg, Int.reduceAdd, Int.reduceMul, Nat.reduceMul, ms_n, ms_i, ms_l, ms_p, gf0 s1, gf2 s1, pf0 s1, gf0 o1, gf2 o1, s2, s3, s4, s5, s6, s7, o2, o3, o4, o5, o6, o7, mc_app, e1, e2, e3, e4, e5, Bool.and_self, Int.add_zero, Int.zero_add, Int.reduceLE, Int.le_refl, Int.cast_ofNat_Int]
  suffices he : mj_set (mj_set (mj_set (mj_cpy (mj_cpy σ (o + 1) 0 (s + 1) 0 7) (o + 2) 0 (s + 2) 0 7) s 2 (σ o 2)) s 3 (σ o 3)) s 4 (σ o 4) = skyC σ s o by
    rw [← he] at hK; exact hK
  funext q k
  simp only [ms_app, mc_app, skyC, Nat.zero_add, Nat.zero_le, true_and, Nat.sub_zero]
  by_cases c1 : q = s + 1
  · subst c1
    simp only [show ¬(s + 1 = s) by omega, show ¬(s + 1 = s + 2) by omega, if_false, if_true]
  · by_cases c2 : q = s + 2
    · subst c2
      simp only [show ¬(s + 2 = s) by omega, show ¬(s + 2 = s + 1) by omega, show ¬(o + 2 = s + 1) by omega, if_false, if_true]
    · by_cases c3 : q = s
      · subst c3
        simp only [show ¬(q = q + 1) by omega, show ¬(q = q + 2) by omega, if_false, if_true]
        by_cases k4 : k = 4
        · subst k4; rfl
        · by_cases k3 : k = 3
          · subst k3; rfl
          · by_cases k2 : k = 2
            · subst k2; rfl
            · simp only [k4, k3, k2, if_false]
      · simp only [c1, c2, c3, if_false]
theorem x_kepCopy (hF : Fix σ) (hs : kepB s = true) (ho : kepB o = true) (hd : s + 1 < o ∨ o + 1 < s) (hK : K none (kepC σ s o)) : Mt (d + 1) 14 [.inr (.inr s), .inr (.inr o)] σ K := by
  refine Mt.go (lv := [some (.inr (.inr s)), some (.inr (.inr o))]) rfl rfl rfl ?_
  obtain ⟨s1, s2, s4, s6⟩ := kepB.get hs hF
  obtain ⟨o1, o2, o4, o6⟩ := kepB.get ho hF
  have e1 : (o = s + 1) = False := eq_false (by omega)
  have e3 : (o = s) = False := eq_false (by omega)
  have e4 : (s = s + 1) = False := eq_false (by omega)
  refine At.blk rfl rfl rfl fun sx => ?_
  simp (decide := true) only [RR, ms_app, toList_some, toList_none, if_true, if_false, true_and, and_true, cond_true, sm0, sm1, sm1l, sm2, lc_lt, lc_gt, lc_eq, Int.toNat_natCast, Int.reduceToNat, Nat.reduceAdd, Nat.reduceEqDiff, Int.reduceLT, Int.reduceEq, Int.reduceNeg, Int.reduceAdd, Int.reduceMul, Nat.reduceMul, ms_n, ms_i, ms_l, ms_p, gf0 s1, gf2 s1, pf0 s1, gf0 o1, gf2 o1, s2, s4, s6, o2, o4, o6, mc_app, e1, e3, e4, Bool.and_self, Int.add_zero, Int.zero_add, Int.reduceLE, Int.le_refl, Int.cast_ofNat_Int]
  suffices he : mj_set (mj_cpy σ (o + 1) 0 (s + 1) 0 40) s 1 (σ o 1) = kepC σ s o by
    rw [← he] at hK; exact hK
  funext q k
  simp only [ms_app, mc_app, kepC, Nat.zero_add, Nat.zero_le, true_and, Nat.sub_zero]
  by_cases c1 : q = s + 1
  · subst c1
    simp only [show ¬(s + 1 = s) by omega, if_false, if_true]
  · by_cases c3 : q = s
    · subst c3
      simp only [show ¬(q = q + 1) by omega, if_false, if_true]
    · simp only [c1, c3, if_false]
end

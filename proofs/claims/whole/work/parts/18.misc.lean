theorem mj_inX1 : Cond.instanceMethod objectInit ∈ lw_g := mj_in1 (i := 28) rfl rfl
theorem mj_inX2 : Cond.code objectInit ⟨#[0xb1]⟩ 1 none ∈ lw_g := mj_in1 (i := 29) rfl rfl
theorem mj_inX3 : Cond.native arraycopyName ∈ lw_g := mj_in3 (i := 185) rfl rfl
theorem mj_inX4 : Cond.static arraycopyName ∈ lw_g := mj_in3 (i := 184) rfl rfl
theorem mj_inX5 : Cond.initialized "java/lang/System" ∈ lw_g := mj_in1 (i := 20) rfl rfl
theorem mj_objI : Cond.instanceMethod objectInit ∈ lw_g ∧ Cond.code objectInit ⟨#[0xb1]⟩ 1 none ∈ lw_g := ⟨mj_inX1, mj_inX2⟩
section
variable {G : mG} {p : Program} {l : Launch} {e : Env} {R : Room} {s : State} {m : MethodId} {args : Array Value} {below : List Frame} {meth : Method} {c : Code} {Q : State → Prop} {n0 : Nat} {ad0 : Nat → Nat} {cc : ByteArray} {pc : Nat} {lv : mL} {st : List mV} {n : Nat} {σ : mM} {own : String} {top : Nat}
theorem g_obj (hx : p.tables.exec = Jvm.exec) (hb : c.code = cc) (hml : c.maxLocals = lv.length) (hts : ∀ w ∈ lw_g, w.before args s = true) (hown : s.vm.findClass own = some m.cls) {idx q : Nat} (hq : q ≠ 999999) (hR1 : 1 ≤ R.frames) (hR2 : 40 ≤ R.locals) (hl : (Cond.methodLink own idx objectInit).before args s = true) (hsum : mj_sum st ≤ 8) (hd : decode cc pc = .ok (.invokespecial idx, 3))
    (kk : mj_Go G p l e R s m args below meth c Q n0 ad0 (pc + 3) lv st n σ) : mj_Go G p l e R s m args below meth c Q n0 ad0 pc lv (.inr (.inr q) :: st) n σ := by
  intro ad H locs ls st2 hA
  obtain ⟨h1, h2, h3, h4⟩ := hA
  obtain ⟨w, r, rfl, hw, h3a⟩ := h3.r
  have hw2 := hw.ref hq
  subst hw2
  exact W.objInit hx hb hown hl (hts _ mj_objI.1) (hts _ mj_objI.2) rfl (by rw [hml]; exact h2.1) rfl hd hR1 (by show 2 * 0 + _ + 12 ≤ _; rw [h3a.sum]; omega) (kk ad H locs ls r ⟨h1, h2, h3a, h4⟩)
theorem mj_cpy_q (σ : mM) (q0 sp q1 dp n : Nat) : mj_cpy σ q0 sp q1 dp n q1 = fun k' => if dp ≤ k' ∧ k' < dp + n then σ q0 (sp + (k' - dp)) else σ q1 k' := by funext k'; simp [mj_cpy]
theorem mj_cpy_ne (σ : mM) (q0 sp q1 dp n q' : Nat) (h : q' ≠ q1) : mj_cpy σ q0 sp q1 dp n q' = σ q' := by funext k'; simp [mj_cpy, h]
theorem g_copy (hx : p.tables.exec = Jvm.exec) (hb : c.code = cc) (hml : c.maxLocals = lv.length) (hts : ∀ w ∈ lw_g, w.before args s = true) (hown : s.vm.findClass own = some m.cls) (hK : va_K G.1 vwCl (mj_tys G.2.1) s) {idx q0 q1 : Nat} {sp dp x : Int} (hq0 : mj_is n q0 20 = true) (hq1 : mj_is n q1 20 = true) (hR1 : 1 ≤ R.frames) (hR2 : 40 ≤ R.locals)
    (hl : (Cond.methodLink own idx arraycopyName).before args s = true) (hb1 : 0 ≤ sp ∧ 0 ≤ dp ∧ 0 ≤ x ∧ sp + x ≤ (mj_shp q0).2 ∧ dp + x ≤ (mj_shp q1).2) (hsum : mj_sum st ≤ 8) (hd : decode cc pc = .ok (.invokestatic idx, 3))
    (kk : mj_Go G p l e R s m args below meth c Q n0 ad0 (pc + 3) lv st n (mj_cpy σ q0 sp.toNat q1 dp.toNat x.toNat)) : mj_Go G p l e R s m args below meth c Q n0 ad0 pc lv (.inl x :: .inl dp :: .inr (.inr q1) :: .inl sp :: .inr (.inr q0) :: st) n σ := by
  intro ad H locs ls st2 hA
  obtain ⟨h1, h2, h3, h4⟩ := hA
  obtain ⟨zx, r1, rfl, ex, h3a⟩ := h3.i
  obtain ⟨zd, r2, rfl, ed, h3b⟩ := h3a.i
  obtain ⟨w1, r3, rfl, v1, h3c⟩ := h3b.r
  obtain ⟨zs, r4, rfl, es, h3d⟩ := h3c.i
  obtain ⟨w0, r5, rfl, v0, h3e⟩ := h3d.r
  obtain ⟨ws, hP, hD, hlen, hn, ha⟩ := id h1
  have hl0 := (mj_is_iff hq0).1
  have hl1 := (mj_is_iff hq1).1
  have hw0 := v0.ref (by omega)
  subst hw0
  have hw1 := v1.ref (by omega)
  subst hw1
  obtain ⟨E0, hE0, he0⟩ := ha q0 hl0
  obtain ⟨E1, hE1, he1⟩ := ha q1 hl1
  rw [(mj_is_iff hq0).2, mj_e20] at he0
  rw [(mj_is_iff hq1).2, mj_e20] at he1
  obtain ⟨f0, rfl, hf0⟩ := he0
  obtain ⟨f1, rfl, hf1⟩ := he1
  have ng : ∀ {z : Int32} {y : Int}, z.toInt = y → 0 ≤ y → ¬ z < 0 := fun {z y} h1 h2 h3 => by
    have := mj_lt.mp h3
    rw [h1] at this
    exact absurd this (by show ¬ y < 0; omega)
  have cs := mj_clamp es
  have cd := mj_clamp ed
  have cx := mj_clamp ex
  refine va_copyi hx hb (by rw [hml]; exact h2.1.symm) hown hl (hts _ mj_inX3) (hts _ mj_inX4) (hts _ mj_inX5) hK hP hD h4.1 q0 q1 0 0 hE0 hE1 rfl rfl rfl (ng es hb1.1) (ng ed hb1.2.1) (ng ex hb1.2.2.1) (by omega) (by omega) (fun _ _ => rfl) hR1 (by rw [h3e.sum]; show _ + (5 + 2 + 11) ≤ _; omega) hd (fun H1 locs1 hP1 hD1 hS1 => kk ad H1 locs1 ls r5 ⟨⟨_, hP1, hD1, by simpa using hlen, hn, fun q' hq' => ?_⟩, h2, h3e, hS1, h4.2⟩)
  by_cases e9 : q' = q1
  · subst e9
    refine ⟨_, by rw [List.getElem?_set_self (by omega)], ?_⟩
    rw [(mj_is_iff hq1).2, mj_e20, mj_cpy_q]
    refine ⟨_, rfl, fun k hk => ?_⟩
    unfold va_cpy
    rw [cs, cd, cx]
    dsimp only
    by_cases hc : dp.toNat ≤ k ∧ k < dp.toNat + x.toNat
    · rw [if_pos hc, if_pos hc]
      exact hf0 _ (by omega)
    · rw [if_neg hc, if_neg hc]
      exact hf1 k hk
  · obtain ⟨E2, i1, i2⟩ := ha q' hq'
    exact ⟨E2, by rw [List.getElem?_set_ne (fun z => e9 z.symm)]; exact i1, by rw [mj_cpy_ne _ _ _ _ _ _ _ e9]; exact i2⟩
end

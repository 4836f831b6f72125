/-! THE START: what the Statement gives, in the small machine's words -/
theorem mj_arr {args : Array Value} {s : State} {ty : FieldType} (h : (Cond.arrayClass ty).before args s = true) (hn : ∀ C, ty ≠ .object C) : ∃ cA : ClassId, ArrOfT s cA ty ∧ va_RA s cA ty := by
  obtain ⟨cA, kA, comp, h1, h2, h3⟩ := Cond.arrayClass_spec h
  refine ⟨cA, fun n z => ⟨fun k h => (by cases h), kA, h2, comp, h3⟩, ?_⟩
  cases ty with
  | object C => exact absurd rfl (hn C)
  | _ => exact h1
theorem mj_arrO {s : State} {C : String} (h : va_AO C s) : ∃ cA : ClassId, ArrOfT s cA (.object C) ∧ va_RA s cA (.object C) := by
  obtain ⟨comp, cA, k, h1, h2, h3, h4, h5⟩ := Cond.arrayOver_spec h
  exact ⟨cA, fun n z => ⟨fun k h => (by cases h), k, h3, comp, h4⟩, k, comp, h3, h4, h1, h5⟩
theorem mj_startK {args : Array Value} {s : State} (hts : ∀ w ∈ lw_g, w.before args s = true) (a1 : va_AO "NightForecast$Sky" s) (a2 : va_AO "NightForecast$Kept" s) : ∃ (D : va_G) (t : Nat → ClassId), va_K D vwCl (mj_tys t) s := by
  have hk : ∀ ci, ∃ q : ClassId × (Nat → Nat), ci < 13 → u_Kn s (mj_R ci) (mj_T ci) (mj_N ci) q.1 q.2 := fun ci => by
    by_cases h : ci < 13
    · obtain ⟨c, iS, hKn⟩ := u_known (C := mj_R ci) (T := mj_T ci) (N := mj_N ci) (n := mj_N ci) hts (mj_uws h) (hts _ (mj_ins ci h).1)
      exact ⟨(c, iS), fun _ => hKn⟩
    · exact ⟨(0, fun _ => 0), fun q => absurd q h⟩
  obtain ⟨t0, i0⟩ := mj_arr (hts _ mj_inA_int) (fun C h => by cases h)
  obtain ⟨t1, i1⟩ := mj_arr (hts _ mj_inA_long) (fun C h => by cases h)
  obtain ⟨t2, i2⟩ := mj_arr (hts _ mj_inA_char) (fun C h => by cases h)
  obtain ⟨t3, i3⟩ := mj_arr (hts _ mj_inA_boolean) (fun C h => by cases h)
  obtain ⟨t4, i4⟩ := mj_arrO a1
  obtain ⟨t5, i5⟩ := mj_arrO a2
  refine ⟨(fun ci => (hk ci).choose.1, fun ci => (hk ci).choose.2), fun k => match k with | 0 => t0 | 1 => t1 | 2 => t2 | 3 => t3 | 4 => t4 | _ => t5, ?_, ?_⟩
  · intro ci q hq
    have hlt : ci < 13 := (List.getElem?_eq_some_iff.mp hq).1
    rw [mj_cl ci hlt] at hq
    cases hq
    exact (hk ci).choose_spec hlt
  · intro k q hq
    match k, hq with
    | 0, hq => cases hq; exact i0
    | 1, hq => cases hq; exact i1
    | 2, hq => cases hq; exact i2
    | 3, hq => cases hq; exact i3
    | 4, hq => cases hq; exact i4
    | 5, hq => cases hq; exact i5
    | k + 6, hq => cases hq

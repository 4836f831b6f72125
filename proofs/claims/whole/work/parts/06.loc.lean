-- locals
def mj_all (ls : Array Slot) : List (Nat × Value) := (List.range ls.size).filterMap (fun (i : Nat) => match (ls[i]? : Option Slot) with
  | some (.val w) => some (i, w)
  | _ => none)
theorem mj_all_in {ls : Array Slot} {i : Nat} {w : Value} (h : ls[i]? = some (.val w)) : (i, w) ∈ mj_all ls := by
  refine List.mem_filterMap.mpr ⟨i, List.mem_range.mpr (Array.getElem?_eq_some_iff.mp h).1, ?_⟩
  rw [h]
theorem mj_all_has {ls : Array Slot} (hw : lv_wf ls) : lv_has ls ls.size (mj_all ls) := by
  refine ⟨rfl, hw, fun q hq => ?_⟩
  obtain ⟨i, -, hi⟩ := List.mem_filterMap.mp hq
  cases h : ls[i]? with
  | none => rw [h] at hi; cases hi
  | some x =>
    rw [h] at hi
    cases x with
    | val w => cases hi; exact h
    | _ => cases hi
theorem mj_v_cat {ad : Nat → Nat} {n : Nat} {v : mV} {w : Value} (h : mj_v ad n v w) : w.category = mj_cat v := by
  match v, h with
  | .inl x, ⟨z, hz, _⟩ => subst hz; rfl
  | .inr (.inl x), ⟨z, hz, _⟩ => subst hz; rfl
  | .inr (.inr q), h =>
    rcases h with ⟨_, rfl⟩ | ⟨_, _, rfl⟩ <;> rfl
theorem mj_clr_len (lv : mL) (i : Nat) : (mj_clr lv i).length = lv.length := by
  cases i with
  | zero => rfl
  | succ k => unfold mj_clr; dsimp only; split <;> simp
theorem mj_clr_get {lv : mL} {i j : Nat} {v : mV} (h : (mj_clr lv i)[j]? = some (some v)) : lv[j]? = some (some v) ∧ (j + 1 = i → mj_cat v ≠ 2) := by
  cases i with
  | zero => exact ⟨h, fun q => absurd q (by omega)⟩
  | succ k =>
    unfold mj_clr at h
    dsimp only at h
    split at h
    · rename_i x hx
      by_cases hj : j = k
      · subst hj
        rw [List.getElem?_set] at h
        simp at h
      · rw [List.getElem?_set_ne (fun q => hj q.symm)] at h
        exact ⟨h, fun q => absurd q (by omega)⟩
    · rename_i hx
      refine ⟨h, fun q => ?_⟩
      have hk : j = k := by omega
      subst hk
      have e : lv.getD j none = some v := by rw [List.getD_eq_getElem?_getD, h]; rfl
      rw [e] at hx
      match v, hx with
      | .inl x, _ => exact fun z => by cases z
      | .inr (.inl x), hx => exact absurd rfl (hx x)
      | .inr (.inr x), _ => exact fun z => by cases z
theorem mj_st1_lv {ad : Nat → Nat} {n i : Nat} {lv : mL} {ls ls' : Array Slot} {v : mV} {w : Value} (h : mj_lv ad n lv ls) (hv : mj_v ad n v w)
    (h' : lv_has ls' ls.size ((i, w) :: (mj_all ls).filter (fun q => !(q.1 == i) && !(q.1 + 1 == i && q.2.category == 2)))) : mj_lv ad n (mj_st1 lv i v) ls' := by
  obtain ⟨h1, h2, h3⟩ := h
  obtain ⟨g1, g2, g3⟩ := h'
  refine ⟨by rw [g1, h1]; simp [mj_st1, mj_clr_len], g2, fun j u hj => ?_⟩
  unfold mj_st1 at hj
  by_cases e : j = i
  · subst e
    rw [List.getElem?_set_self'] at hj
    have e2 : u = v := by
      cases hq : (mj_clr lv j)[j]? with
      | none => rw [hq] at hj; cases hj
      | some z => rw [hq] at hj; cases hj; rfl
    subst e2
    exact ⟨w, g3 _ List.mem_cons_self, hv⟩
  · rw [List.getElem?_set_ne (fun q => e q.symm)] at hj
    obtain ⟨hj1, hj2⟩ := mj_clr_get hj
    obtain ⟨w', e1, e2⟩ := h3 j u hj1
    refine ⟨w', g3 (j, w') (List.mem_cons_of_mem _ (List.mem_filter.mpr ⟨mj_all_in e1, ?_⟩)), e2⟩
    have hc := mj_v_cat e2
    simp only [Bool.and_eq_true, Bool.not_eq_true', beq_eq_false_iff_ne, ne_eq, Bool.and_eq_false_imp, beq_iff_eq]
    refine ⟨e, fun q => ?_⟩
    rw [hc]
    exact hj2 q
theorem mj_st2_lv {ad : Nat → Nat} {n i : Nat} {lv : mL} {ls ls' : Array Slot} {v : mV} {w : Value} (h : mj_lv ad n lv ls) (hv : mj_v ad n v w)
    (h' : lv_has ls' ls.size ((i, w) :: (mj_all ls).filter (fun q => !(q.1 == i) && (!(q.1 == i + 1) && !(q.1 + 1 == i && q.2.category == 2))))) : mj_lv ad n (mj_st2 lv i v) ls' := by
  obtain ⟨h1, h2, h3⟩ := h
  obtain ⟨g1, g2, g3⟩ := h'
  refine ⟨by rw [g1, h1]; simp [mj_st2, mj_clr_len], g2, fun j u hj => ?_⟩
  unfold mj_st2 at hj
  by_cases e9 : j = i + 1
  · subst e9
    rw [List.getElem?_set_self'] at hj
    cases hq : ((mj_clr lv i).set i (some v))[i + 1]? with
    | none => rw [hq] at hj; cases hj
    | some z => rw [hq] at hj; cases hj
  · rw [List.getElem?_set_ne (fun q => e9 q.symm)] at hj
    by_cases e : j = i
    · subst e
      rw [List.getElem?_set_self'] at hj
      have e2 : u = v := by
        cases hq : (mj_clr lv j)[j]? with
        | none => rw [hq] at hj; cases hj
        | some z => rw [hq] at hj; cases hj; rfl
      subst e2
      exact ⟨w, g3 _ List.mem_cons_self, hv⟩
    · rw [List.getElem?_set_ne (fun q => e q.symm)] at hj
      obtain ⟨hj1, hj2⟩ := mj_clr_get hj
      obtain ⟨w', e1, e2⟩ := h3 j u hj1
      refine ⟨w', g3 (j, w') (List.mem_cons_of_mem _ (List.mem_filter.mpr ⟨mj_all_in e1, ?_⟩)), e2⟩
      have hc := mj_v_cat e2
      simp only [Bool.and_eq_true, Bool.not_eq_true', beq_eq_false_iff_ne, ne_eq, Bool.and_eq_false_imp, beq_iff_eq]
      refine ⟨e, e9, fun q => ?_⟩
      rw [hc]
      exact hj2 q
theorem mj_lv.get {ad : Nat → Nat} {n i : Nat} {lv : mL} {ls : Array Slot} {v : mV} (h : mj_lv ad n lv ls) (hv : lv.getD i none = some v) : ∃ w, ls[i]? = some (.val w) ∧ mj_v ad n v w := by
  refine h.2.2 i v ?_
  rw [List.getD_eq_getElem?_getD] at hv
  cases hq : lv[i]? with
  | none => rw [hq] at hv; cases hv
  | some z => rw [hq] at hv; cases hv; rfl
theorem mj_lv.lt {ad : Nat → Nat} {n i : Nat} {lv : mL} {ls : Array Slot} {v : mV} (h : mj_lv ad n lv ls) (hv : lv.getD i none = some v) : i < ls.size := by
  obtain ⟨w, hw, -⟩ := h.get hv
  exact (Array.getElem?_eq_some_iff.mp hw).1

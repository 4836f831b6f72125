theorem mj_pcs0B : ∀ y, y < 283 → (mj_pcs y)[0]? = some 0 := by decide +kernel
theorem mj_pcs0 (y : Nat) (hy : y < 283) (t : Nat) (h : (mj_pcs y)[0]? = some t) : t = 0 := by
  rw [mj_pcs0B y hy] at h
  cases h; rfl
theorem mj_lv0_len {ad : Nat → Nat} {n : Nat} : ∀ {as : List mV} {vs : List Value}, mj_ss ad n as vs → (lg_sl vs).length = (mj_lv0 as).length
  | [], [], _ => rfl
  | a :: as, w :: vs, h => by
    have hc := mj_v_cat h.1
    have ih := mj_lv0_len h.2
    match a, hc with
    | .inl x, hc =>
      have hc : w.category = 1 := hc
      have e : lg_sl (w :: vs) = [.val w] ++ lg_sl vs := by simp [lg_sl, hc]
      rw [e]; simp [mj_lv0, ih]
    | .inr (.inl x), hc =>
      have hc : w.category = 2 := hc
      have e : lg_sl (w :: vs) = [.val w, .second] ++ lg_sl vs := by simp [lg_sl, hc]
      rw [e]; simp [mj_lv0, ih]
    | .inr (.inr x), hc =>
      have hc : w.category = 1 := hc
      have e : lg_sl (w :: vs) = [.val w] ++ lg_sl vs := by simp [lg_sl, hc]
      rw [e]; simp [mj_lv0, ih]
theorem mj_lv0_get {ad : Nat → Nat} {n : Nat} : ∀ {as : List mV} {vs : List Value} (i : Nat), mj_ss ad n as vs → ∀ (j : Nat) (v : mV), (mj_lv0 as)[j]? = some (some v) → ∃ w, (i + j, w) ∈ lv_args i vs ∧ mj_v ad n v w
  | [], [], _, _, j, v, h => by simp [mj_lv0] at h
  | a :: as, w :: vs, i, h, j, v, hj => by
    have hc := mj_v_cat h.1
    match a, hc, h, hj with
    | .inl x, hc, h, hj =>
      have hc : w.category = 1 := hc
      have e : lv_args i (w :: vs) = (i, w) :: lv_args (i + 1) vs := by simp [lv_args, hc]
      rw [e]
      cases j with
      | zero => cases hj; exact ⟨w, List.mem_cons_self, h.1⟩
      | succ j =>
        obtain ⟨u, h1, h2⟩ := mj_lv0_get (i + 1) h.2 j v hj
        exact ⟨u, List.mem_cons_of_mem _ (by rw [show i + (j + 1) = i + 1 + j by omega]; exact h1), h2⟩
    | .inr (.inl x), hc, h, hj =>
      have hc : w.category = 2 := hc
      have e : lv_args i (w :: vs) = (i, w) :: lv_args (i + 2) vs := by simp [lv_args, hc]
      rw [e]
      cases j with
      | zero => cases hj; exact ⟨w, List.mem_cons_self, h.1⟩
      | succ j =>
        cases j with
        | zero => cases hj
        | succ j =>
          obtain ⟨u, h1, h2⟩ := mj_lv0_get (i + 2) h.2 j v hj
          exact ⟨u, List.mem_cons_of_mem _ (by rw [show i + (j + 1 + 1) = i + 2 + j by omega]; exact h1), h2⟩
    | .inr (.inr x), hc, h, hj =>
      have hc : w.category = 1 := hc
      have e : lv_args i (w :: vs) = (i, w) :: lv_args (i + 1) vs := by simp [lv_args, hc]
      rw [e]
      cases j with
      | zero => cases hj; exact ⟨w, List.mem_cons_self, h.1⟩
      | succ j =>
        obtain ⟨u, h1, h2⟩ := mj_lv0_get (i + 1) h.2 j v hj
        exact ⟨u, List.mem_cons_of_mem _ (by rw [show i + (j + 1) = i + 1 + j by omega]; exact h1), h2⟩
theorem mj_lv0_rel {ad : Nat → Nat} {n nL : Nat} {as : List mV} {vs : List Value} {ls : Array Slot} (h : mj_ss ad n as vs) (hl : lv_has ls nL (lv_args 0 vs)) (hz : (mj_lv0 as).length ≤ nL) : mj_lv ad n (mj_lv0 as ++ List.replicate (nL - (mj_lv0 as).length) none) ls := by
  refine ⟨by rw [hl.1]; simp; omega, hl.2.1, fun i v hi => ?_⟩
  by_cases e : i < (mj_lv0 as).length
  · rw [List.getElem?_append_left e] at hi
    obtain ⟨w, h1, h2⟩ := mj_lv0_get 0 h i v hi
    rw [Nat.zero_add] at h1
    exact ⟨w, hl.2.2 _ h1, h2⟩
  · rw [List.getElem?_append_right (by omega), List.getElem?_replicate] at hi
    split at hi
    · cases hi
    · cases hi

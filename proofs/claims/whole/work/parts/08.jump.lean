theorem mj_tab_at {P : Nat → Prop} {x : Int} {d : Nat} : ∀ (os : List Int) (lo : Int), mj_tab x P d lo os → (∀ (j : Nat) (o : Int), os[j]? = some o → x = lo + j → P o.toNat) ∧ ((x < lo ∨ lo + os.length ≤ x) → P d) := by
  intro os
  induction os with
  | nil => intro lo h; exact ⟨fun j o q => by simp at q, fun _ => h⟩
  | cons o os ih =>
    intro lo h
    unfold mj_tab at h
    by_cases hx : x = lo
    · rw [if_pos hx] at h
      refine ⟨fun j o' hj e => ?_, fun q => ?_⟩
      · have : j = 0 := by omega
        subst this
        simp at hj
        rw [← hj]; exact h
      · simp at q; omega
    · rw [if_neg hx] at h
      obtain ⟨h1, h2⟩ := ih _ h
      refine ⟨fun j o' hj e => ?_, fun q => h2 ?_⟩
      · cases j with
        | zero => exact absurd e (by omega)
        | succ j => exact h1 j o' (by simpa using hj) (by omega)
      · simp at q; omega
/-- the place of a jump -/
def mj_jok (pcs : List Nat) (pc : Nat) (o : Int) (b : Nat) : Bool := match pcs[b]? with
  | some t => decide ((pc : Int) + o = (t : Int))
  | none => false
theorem mj_jok_iff {pcs : List Nat} {pc : Nat} {o : Int} {b : Nat} (h : mj_jok pcs pc o b = true) : ∃ t, pcs[b]? = some t ∧ (pc : Int) + o = (t : Int) := by
  unfold mj_jok at h
  split at h
  · rename_i t ht; exact ⟨t, ht, of_decide_eq_true h⟩
  · cases h
section
variable {G : mG} {p : Program} {l : Launch} {e : Env} {R : Room} {s : State} {m : MethodId} {args : Array Value} {below : List Frame} {meth : Method} {c : Code} {Q : State → Prop} {n0 : Nat} {ad0 : Nat → Nat} {cc : ByteArray} {pc : Nat} {lv : mL} {st : List mV} {n : Nat} {σ : mM}
theorem g_icmp (hx : p.tables.exec = Jvm.exec) (hb : c.code = cc) {cd : ClassFile.Cond} {off : Int} {tgt : Nat} {x y : Int} {a b : Prop} (ht : (pc : Int) + off = (tgt : Int)) (hd : decode cc pc = .ok (.if_icmp cd off, 3)) (h : mj_br cd x y a b)
    (kt : a → mj_Go G p l e R s m args below meth c Q n0 ad0 tgt lv st n σ) (kf : b → mj_Go G p l e R s m args below meth c Q n0 ad0 (pc + 3) lv st n σ) : mj_Go G p l e R s m args below meth c Q n0 ad0 pc lv (.inl y :: .inl x :: st) n σ := by
  intro ad H locs ls st2 hA
  obtain ⟨h1, h2, h3, h4⟩ := hA
  obtain ⟨u, r, rfl, rfl, h3a⟩ := h3.i
  obtain ⟨v, r2, rfl, rfl, h3b⟩ := h3a.i
  have gt : a → W p l e R s m args below meth c H locs (n - n0) (mj_SL n - mj_SL n0) Q (F0 m tgt ls r2) := fun q => kt q ad H locs ls _ ⟨h1, h2, h3b, h4⟩
  have gf : b → W p l e R s m args below meth c H locs (n - n0) (mj_SL n - mj_SL n0) Q (F0 m (pc + 3) ls r2) := fun q => kf q ad H locs ls _ ⟨h1, h2, h3b, h4⟩
  unfold mj_br at h
  cases cd with
  | eq =>
    refine lv_icmp_eq hx hb hd ht (fun q => gt ?_) (fun q => gf ?_) <;> rw [mj_eq] at q
    · simpa only [if_pos q] using h
    · simpa only [if_neg q] using h
  | ne =>
    refine lv_icmp_ne hx hb hd ht (fun q => gt ?_) (fun q => gf ?_)
    · have q2 : ¬ v.toInt = u.toInt := fun z => q (mj_eq.mpr z)
      simpa only [if_neg q2] using h
    · have q2 : v.toInt = u.toInt := mj_eq.mp q
      simpa only [if_pos q2] using h
  | lt =>
    refine lv_icmp_lt hx hb hd ht (fun q => gt ?_) (fun q => gf ?_) <;> rw [mj_lt] at q
    · simpa only [if_pos q] using h
    · simpa only [if_neg q] using h
  | ge =>
    refine lv_icmp_ge hx hb hd ht (fun q => gt ?_) (fun q => gf ?_)
    · have q2 : ¬ v.toInt < u.toInt := by have := mj_le.mp q; omega
      simpa only [if_neg q2] using h
    · have q2 : v.toInt < u.toInt := by
        rcases Int.lt_or_le v.toInt u.toInt with z | z
        · exact z
        · exact absurd (mj_le.mpr z) q
      simpa only [if_pos q2] using h
  | gt =>
    refine lv_icmp_gt hx hb hd ht (fun q => gt ?_) (fun q => gf ?_)
    · have q2 : u.toInt < v.toInt := mj_lt.mp q
      simpa only [if_pos q2] using h
    · have q2 : ¬ u.toInt < v.toInt := fun z => q (mj_lt.mpr z)
      simpa only [if_neg q2] using h
  | le =>
    refine lv_icmp_le hx hb hd ht (fun q => gt ?_) (fun q => gf ?_)
    · have q2 : ¬ u.toInt < v.toInt := by have := mj_le.mp q; omega
      simpa only [if_neg q2] using h
    · have q2 : u.toInt < v.toInt := by
        rcases Int.lt_or_le u.toInt v.toInt with z | z
        · exact z
        · exact absurd (mj_le.mpr z) q
      simpa only [if_pos q2] using h
theorem g_if (hx : p.tables.exec = Jvm.exec) (hb : c.code = cc) {cd : ClassFile.Cond} {off : Int} {tgt : Nat} {x : Int} {a b : Prop} (ht : (pc : Int) + off = (tgt : Int)) (hd : decode cc pc = .ok (.ifCond cd off, 3)) (h : mj_br cd x 0 a b)
    (kt : a → mj_Go G p l e R s m args below meth c Q n0 ad0 tgt lv st n σ) (kf : b → mj_Go G p l e R s m args below meth c Q n0 ad0 (pc + 3) lv st n σ) : mj_Go G p l e R s m args below meth c Q n0 ad0 pc lv (.inl x :: st) n σ := by
  intro ad H locs ls st2 hA
  obtain ⟨h1, h2, h3, h4⟩ := hA
  obtain ⟨v, r2, rfl, rfl, h3b⟩ := h3.i
  have gt : a → W p l e R s m args below meth c H locs (n - n0) (mj_SL n - mj_SL n0) Q (F0 m tgt ls r2) := fun q => kt q ad H locs ls _ ⟨h1, h2, h3b, h4⟩
  have gf : b → W p l e R s m args below meth c H locs (n - n0) (mj_SL n - mj_SL n0) Q (F0 m (pc + 3) ls r2) := fun q => kf q ad H locs ls _ ⟨h1, h2, h3b, h4⟩
  have z0 : (0 : Int32).toInt = 0 := rfl
  unfold mj_br at h
  cases cd with
  | eq =>
    refine lv_if_eq hx hb hd ht (fun q => gt ?_) (fun q => gf ?_) <;> rw [mj_eq, z0] at q
    · simpa only [if_pos q] using h
    · simpa only [if_neg q] using h
  | ne =>
    refine lv_if_ne hx hb hd ht (fun q => gt ?_) (fun q => gf ?_)
    · have q2 : ¬ v.toInt = 0 := fun z => q (mj_eq.mpr z)
      simpa only [if_neg q2] using h
    · have q2 : v.toInt = 0 := mj_eq.mp q
      simpa only [if_pos q2] using h
  | lt =>
    refine lv_if_lt hx hb hd ht (fun q => gt ?_) (fun q => gf ?_) <;> rw [mj_lt, z0] at q
    · simpa only [if_pos q] using h
    · simpa only [if_neg q] using h
  | ge =>
    refine lv_if_ge hx hb hd ht (fun q => gt ?_) (fun q => gf ?_)
    · have q2 : ¬ v.toInt < 0 := by have := mj_le.mp q; rw [z0] at this; omega
      simpa only [if_neg q2] using h
    · have q2 : v.toInt < 0 := by
        rcases Int.lt_or_le v.toInt 0 with z | z
        · exact z
        · exact absurd ((mj_le (x := 0) (y := v)).mpr z) q
      simpa only [if_pos q2] using h
  | gt =>
    refine lv_if_gt hx hb hd ht (fun q => gt ?_) (fun q => gf ?_)
    · have q2 : 0 < v.toInt := mj_lt.mp q
      simpa only [if_pos q2] using h
    · have q2 : ¬ 0 < v.toInt := fun z => q (mj_lt.mpr z)
      simpa only [if_neg q2] using h
  | le =>
    refine lv_if_le hx hb hd ht (fun q => gt ?_) (fun q => gf ?_)
    · have q2 : ¬ 0 < v.toInt := by have := mj_le.mp q; rw [z0] at this; omega
      simpa only [if_neg q2] using h
    · have q2 : 0 < v.toInt := by
        rcases Int.lt_or_le 0 v.toInt with z | z
        · exact z
        · exact absurd ((mj_le (x := v) (y := 0)).mpr z) q
      simpa only [if_pos q2] using h
theorem g_tab (hx : p.tables.exec = Jvm.exec) (hb : c.code = cc) {dflt lo hi : Int} {offs : Array Int} {os : List Int} {d2 len : Nat} {pcs : List Nat} {x : Int} {J : Nat → Prop} (hd : decode cc pc = .ok (.tableswitch dflt lo hi offs, len)) (hl : os.length = offs.toList.length) (hh : hi = lo + os.length - 1) (hdf : mj_jok pcs pc dflt d2 = true)
    (ho : ∀ (j : Nat) (o o2 : Int), offs.toList[j]? = some o → os[j]? = some o2 → mj_jok pcs pc o o2.toNat = true) (h : mj_tab x J d2 lo os)
    (k : ∀ (b t : Nat), pcs[b]? = some t → J b → mj_Go G p l e R s m args below meth c Q n0 ad0 t lv st n σ) : mj_Go G p l e R s m args below meth c Q n0 ad0 pc lv (.inl x :: st) n σ := by
  intro ad H locs ls st2 hA
  obtain ⟨h1, h2, h3, h4⟩ := hA
  obtain ⟨v, r2, rfl, rfl, h3b⟩ := h3.i
  obtain ⟨hi1, hi2⟩ := mj_tab_at os lo h
  by_cases q : v.toInt < lo ∨ hi < v.toInt
  · obtain ⟨t, ht, e1⟩ := mj_jok_iff hdf
    exact lv_tableOut hx hb hd q e1 (k d2 t ht (hi2 (by omega)) ad H locs ls _ ⟨h1, h2, h3b, h4⟩)
  · have hj : (v.toInt - lo).toNat < os.length := by omega
    have e9 : os[(v.toInt - lo).toNat]? = some (os[(v.toInt - lo).toNat]) := List.getElem?_eq_getElem hj
    have hj2 : (v.toInt - lo).toNat < offs.toList.length := by omega
    have e8 : offs.toList[(v.toInt - lo).toNat]? = some (offs.toList[(v.toInt - lo).toNat]) := List.getElem?_eq_getElem hj2
    obtain ⟨t, ht, e1⟩ := mj_jok_iff (ho _ _ _ e8 e9)
    exact lv_tableIn hx hb hd (by omega) (by omega) (by rw [← Array.getElem?_toList]; exact e8) e1 (k _ t ht (hi1 _ _ e9 (by omega)) ad H locs ls _ ⟨h1, h2, h3b, h4⟩)
end

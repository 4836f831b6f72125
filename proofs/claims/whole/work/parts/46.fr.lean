theorem ms_n : mj_sum [] = 0 := rfl
theorem ms_i {x : Int} {s : List mV} : mj_sum (.inl x :: s) = 1 + mj_sum s := rfl
theorem ms_l {x : Int} {s : List mV} : mj_sum (.inr (.inl x) :: s) = 2 + mj_sum s := rfl
theorem ms_p {x : Nat} {s : List mV} : mj_sum (.inr (.inr x) :: s) = 1 + mj_sum s := rfl
/-! FRAMES: memory changed nowhere but in the rows L and at the places T -/
def Fr (L : List Nat) (T : List (Nat × Nat)) (σ σ1 : mM) : Prop := ∀ q k, (L.elem q || T.elem (q, k)) = false → σ1 q k = σ q k
section
variable {L L' : List Nat} {T T' : List (Nat × Nat)} {σ σ1 σ2 : mM}
theorem Fr.same : Fr L T σ σ := fun _ _ _ => rfl
theorem Fr.trans (h1 : Fr L T σ σ1) (h2 : Fr L T σ1 σ2) : Fr L T σ σ2 := fun q k h => (h2 q k h).trans (h1 q k h)
theorem Fr.set {q k : Nat} {x : Int} (h : Fr L T σ σ1) (hp : (L.elem q || T.elem (q, k)) = true) : Fr L T σ (mj_set σ1 q k x) := by
  intro q' k' hn
  unfold mj_set
  by_cases e1 : q' = q
  · by_cases e2 : k' = k
    · subst e1; subst e2; rw [hp] at hn; cases hn
    · rw [if_pos e1, if_neg e2]; exact h q' k' hn
  · rw [if_neg e1]; exact h q' k' hn
theorem Fr.setr {q k : Nat} {x : Int} (h : Fr L T σ σ1) (hp : L.elem q = true) : Fr L T σ (mj_set σ1 q k x) := h.set (by rw [hp]; rfl)
theorem Fr.get (h : Fr L T σ σ1) (q k : Nat) (hc : (L.elem q || T.elem (q, k)) = false) : σ1 q k = σ q k := h q k hc
theorem elem_fst {q k : Nat} : ∀ T : List (Nat × Nat), T.all (fun p => !(Nat.beq p.1 q)) = true → T.elem (q, k) = false
  | [], _ => rfl
  | (a, b) :: T, h => by
    simp only [List.all_cons, Bool.and_eq_true] at h
    rw [List.elem_cons, elem_fst T h.2]
    have : ((q, k) == (a, b)) = false := by
      apply beq_eq_false_iff_ne.mpr
      intro e
      have : a = q := by injection e with e1 e2; exact e1.symm
      rw [this, Nat.beq_refl] at h
      exact absurd h.1 (by decide)
    rw [this]
theorem Fr.row (h : Fr L T σ σ1) (q : Nat) (hc : (!(L.elem q) && T.all (fun p => !(Nat.beq p.1 q))) = true) : σ1 q = σ q := by
  funext k
  obtain ⟨h1, h2⟩ := mj_and hc
  refine h q k ?_
  rw [elem_fst T h2]
  cases hq : L.elem q
  · rfl
  · rw [hq] at h1; cases h1
def frB (L : List Nat) (T : List (Nat × Nat)) (L' : List Nat) (T' : List (Nat × Nat)) : Bool := L.all (fun q => L'.elem q) && T.all (fun p => L'.elem p.1 || T'.elem p)
theorem elem_all {P : Nat → Bool} {x : Nat} {l : List Nat} (h : l.all P = true) (hx : l.elem x = true) : P x = true := by
  rw [List.all_eq_true] at h
  exact h x (List.elem_iff.mp hx)
theorem elem_all2 {P : Nat × Nat → Bool} {x : Nat × Nat} {l : List (Nat × Nat)} (h : l.all P = true) (hx : l.elem x = true) : P x = true := by
  rw [List.all_eq_true] at h
  exact h x (List.elem_iff.mp hx)
theorem Fr.mono (h : Fr L T σ σ1) (hc : frB L T L' T' = true) : Fr L' T' σ σ1 := by
  intro q k hn
  obtain ⟨h1, h2⟩ := mj_and hc
  refine h q k ?_
  cases e1 : L.elem q
  · cases e2 : T.elem (q, k)
    · rfl
    · have : (L'.elem q || T'.elem (q, k)) = true := elem_all2 h2 e2
      rw [this] at hn; cases hn
  · have : L'.elem q = true := elem_all h1 e1
    rw [this] at hn; cases hn
def nofB (q : Nat) : Bool := match (mj_shp q).1 with
  | 20 => true
  | 21 => true
  | 23 => true
  | _ => false
def okS (L : List Nat) (T : List (Nat × Nat)) : Bool := L.all nofB && T.all (fun p => !(fixS p.1 p.2))
theorem nofix {q k : Nat} (h : nofB q = true) : fixS q k = false := by
  unfold fixS
  unfold nofB at h
  generalize (mj_shp q).1 = n at h
  by_cases h20 : n = 20
  · subst h20; rfl
  · by_cases h21 : n = 21
    · subst h21; rfl
    · by_cases h23 : n = 23
      · subst h23; rfl
      · split at h <;> simp_all
theorem Fix.fr (hF : Fix σ) (h : Fr L T σ σ1) (hc : okS L T = true) : Fix σ1 := by
  obtain ⟨h1, h2⟩ := mj_and hc
  refine hF.row (fun q k hq hs => h q k ?_)
  cases e1 : L.elem q
  · cases e2 : T.elem (q, k)
    · rfl
    · have : (!(fixS q k)) = true := elem_all2 h2 e2
      rw [hs] at this; cases this
  · have := nofix (k := k) (elem_all h1 e1)
    rw [hs] at this; cases this
end
/-- rows and places that the invariant does not speak of -/
def scrL : List Nat := [5, 12, 13, 14, 16, 17, 18, 22, 23, 24, 25, 26, 27, 35, 36, 37, 38, 175, 177, 183, 184, 185, 186, 187, 188, 190, 191, 192, 214, 215, 216]
def scrT : List (Nat × Nat) := [(7, 3), (11, 4), (11, 5), (11, 6), (11, 7), (11, 8), (11, 9), (15, 3), (19, 4), (19, 5), (20, 1), (20, 2), (20, 3), (20, 4), (20, 5), (21, 4), (33, 7), (33, 8), (34, 2), (34, 3), (34, 4), (146, 2), (146, 3), (146, 4), (146, 5), (146, 6), (146, 34), (146, 44), (146, 45), (146, 46), (146, 54), (146, 55), (146, 56), (146, 62), (146, 89), (146, 91), (146, 92), (146, 93), (146, 95), (146, 96), (146, 97)]
theorem scr_ok : okS scrL scrT = true := rfl
theorem elem_ge {q : Nat} : ∀ L : List Nat, L.all (fun p => !(Nat.ble 44 p && Nat.blt p 144)) = true → 44 ≤ q → q < 144 → L.elem q = false
  | [], _, _, _ => rfl
  | a :: L, h, h1, h2 => by
    simp only [List.all_cons, Bool.and_eq_true] at h
    rw [List.elem_cons, elem_ge L h.2 h1 h2]
    have : (q == a) = false := by
      apply beq_eq_false_iff_ne.mpr
      intro e
      subst e
      rw [Nat.ble_eq_true_of_le h1, Nat.blt_eq.mpr h2] at h
      exact absurd h.1 (by decide)
    rw [this]
theorem elem_ge2 {q k : Nat} : ∀ T : List (Nat × Nat), T.all (fun p => !(Nat.ble 44 p.1 && Nat.blt p.1 144)) = true → 44 ≤ q → q < 144 → T.elem (q, k) = false
  | [], _, _, _ => rfl
  | (a, b) :: T, h, h1, h2 => by
    simp only [List.all_cons, Bool.and_eq_true] at h
    rw [List.elem_cons, elem_ge2 T h.2 h1 h2]
    have : ((q, k) == (a, b)) = false := by
      apply beq_eq_false_iff_ne.mpr
      intro e
      have : a = q := by injection e with e1 e2; exact e1.symm
      subst this
      rw [Nat.ble_eq_true_of_le h1, Nat.blt_eq.mpr h2] at h
      exact absurd h.1 (by decide)
    rw [this]
theorem Fr.hist {L : List Nat} {T : List (Nat × Nat)} {σ σ1 : mM} (f : Fr L T σ σ1) (hL : L.all (fun p => !(Nat.ble 44 p && Nat.blt p 144)) = true) (hT : T.all (fun p => !(Nat.ble 44 p.1 && Nat.blt p.1 144)) = true) {q : Nat} (h1 : 44 ≤ q) (h2 : q < 144) : σ1 q = σ q := by
  funext k
  refine f q k ?_
  rw [elem_ge L hL h1 h2, elem_ge2 T hT h1 h2]
  rfl
theorem Inv.fr {σ σ1 : mM} (h : Inv σ) (f : Fr scrL scrT σ σ1) : Inv σ1 := by
  obtain ⟨hF, hT, hR, hf, hZ, hP, hS, hC, hN, hk2, hU, hth⟩ := h
  refine ⟨hF.fr f scr_ok, hT.cg (f 146 1 rfl) (f 1 1 rfl) (f.row 147 rfl) (f.row 2 rfl), hR.cg (f.row 148 rfl) (f.row 145 rfl), hf.cg (f 146 7 rfl) (f 19 2 rfl) (f 146 8 rfl) (f 19 3 rfl), hZ.cg (f 146 67 rfl) (f 0 13 rfl), hP.cg (f 146 99 rfl) (f 0 12 rfl) (f.row 217 rfl) (f.row 144 rfl), hS.cg (f 146 58 rfl) (f 31 1 rfl) (f.row 189 rfl) (f.row 32 rfl) (f 3 4 rfl), hC.cg (f.row 173 rfl) (f.row 3 rfl) (f.row 178 rfl) (f.row 4 rfl) (f.row 174 rfl) (f.row 176 rfl) (f.row 6 rfl) (f.row 9 rfl) (f.row 10 rfl) (f.row 8 rfl) (f.row 179 rfl) (f.row 180 rfl) (f.row 181 rfl), hN.cg (f.row 182 rfl) (f.row 28 rfl) (f.row 29 rfl) (f.row 30 rfl) (f 3 4 rfl), hk2.cg (f.row 182 rfl) (f.row 39 rfl) (f.row 40 rfl), hU.cg (f 146 65 rfl) (f 41 3 rfl) (f 146 66 rfl) (f 41 2 rfl) (f 3 4 rfl) (f.row 193 rfl) (fun q h1 h2 => ?_), by rw [f 146 53 rfl]; exact hth⟩
  exact f.hist rfl rfl h1 h2

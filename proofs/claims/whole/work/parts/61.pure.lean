/-! THE PURE WORLD. A sky: NIGHT, air, aunts, DEAF, ACTS (as the model has them). A city: how many PARTS, gale, who is near, the codes of its sums -/
abbrev Sk : Type := Int × (Nat → Int) × (Nat → Int) × (Nat → Int) × (Nat → Int)
abbrev Ct : Type := Nat × Int × (Nat → Int) × (Nat → List Int)
def arN (C : Ct) (w : Sk) (mo : Bool) (p : Nat) : Nat → Int
  | 0 => -1
  | k + 1 => if bit (C.2.2.1 p) k = 1 ∧ w.2.2.1 k ≠ 1 then (if arN C w mo p k = -1 ∨ (mo = true ∧ arN C w mo p k < w.2.1 k) ∨ (mo = false ∧ w.2.1 k < arN C w mo p k) then w.2.1 k else arN C w mo p k) else arN C w mo p k
def around (C : Ct) (w : Sk) (mo : Bool) (p : Nat) : Int := if arN C w mo p C.1 = -1 then w.2.1 p else arN C w mo p C.1
def galesP (C : Ct) (w : Sk) : Int := sumN (fun p => galeI C.2.1 (w.2.1 p)) C.1
def valC (C : Ct) (w : Sk) (t : Nat → Int) (p : Nat) (c : Int) : Int :=
  if c = 40 then w.2.1 p else if c = 41 then around C w true p else if c = 42 then around C w false p else if c = 43 then w.1 else if c = 44 then galesP C w else if c = 45 then t p else if c = 46 then (p : Int) else if c = 47 then w.2.2.1 p else w.2.2.2.1 p
def clip (v : Int) : Int := if 1000000 < v then 1000000 else if v < -1000000 then -1000000 else v
def flo (a b : Int) : Int := if b = 0 then 0 else if a.tmod b ≠ 0 ∧ ¬(a < 0 ↔ b < 0) then a.tdiv b - 1 else a.tdiv b
def nearV (C : Ct) (p : Nat) (v : Int) : Int := if 0 ≤ v ∧ v < C.1 then bit (C.2.2.1 p) v.toNat else 0
def joinC (c a b : Int) : Int :=
  if c = 1 then clip (a + b) else if c = 2 then clip (a - b) else if c = 3 then clip (a * b) else if c = 4 then flo a b else if c = 5 then (if a < b then a else b) else if c = 6 then (if b < a then a else b)
  else if c = 7 then (if a < b then 1 else 0) else if c = 8 then (if b < a then 1 else 0) else if c = 9 then (if a = b then 1 else 0) else if c = 10 then a * b else (if 0 < a + b then 1 else 0)
def st1C (f : Int → Int) : List Int → List Int
  | v :: s => f v :: s
  | [] => []
def st2C (f : Int → Int → Int) : List Int → List Int
  | b :: a :: s => f a b :: s
  | s => s
def stC (C : Ct) (w : Sk) (t : Nat → Int) (p : Nat) (c : Int) (st : List Int) : List Int :=
  if 1000 ≤ c then (c - 1000) :: st else if 60 ≤ c then st1C (nearV C p) st else if 40 ≤ c then valC C w t p c :: st else if c = 13 then 1 :: st else if c = 12 then st1C (fun v => 1 - v) st else st2C (joinC c) st
def evC (C : Ct) (w : Sk) (t : Nat → Int) (p : Nat) : List Int → List Int → List Int
  | [], st => st
  | c :: cs, st => evC C w t p cs (stC C w t p c st)
/-- kinds of what lies on the pile: true: 0 or 1 -/
def ty1 (a b : Bool) : List Bool → Option (List Bool)
  | x :: s => if x = a then some (b :: s) else none
  | [] => none
def ty2 (a b : Bool) : List Bool → Option (List Bool)
  | x :: y :: s => if x = a ∧ y = a then some (b :: s) else none
  | _ => none
def tyC (c : Int) (ts : List Bool) : Option (List Bool) :=
  if 1000 ≤ c then (if c ≤ 10999 ∧ ts.length < 64 then some (false :: ts) else none) else if 60 ≤ c then (if c = 60 then ty1 false false ts else none) else if 40 ≤ c then (if c ≤ 48 ∧ ts.length < 64 then some (false :: ts) else none) else if c = 13 then (if ts.length < 64 then some (true :: ts) else none) else if c = 12 then ty1 true true ts
  else if 1 ≤ c ∧ c ≤ 6 then ty2 false false ts else if 7 ≤ c ∧ c ≤ 9 then ty2 false true ts else if 10 ≤ c ∧ c ≤ 11 then ty2 true true ts else none
def tys : List Int → List Bool → Option (List Bool)
  | [], ts => some ts
  | c :: cs, ts => (tyC c ts).bind (tys cs)
def StV : List Bool → List Int → Prop
  | [], [] => True
  | t :: ts, v :: st => (if t = true then v = 0 ∨ v = 1 else -1000000 ≤ v ∧ v ≤ 1000000) ∧ StV ts st
  | [], _ :: _ => False
  | _ :: _, [] => False
theorem StV.len : ∀ {ts : List Bool} {st : List Int}, StV ts st → st.length = ts.length
  | [], [], _ => rfl
  | t :: ts, v :: st, h => by
    have := StV.len h.2
    simp only [List.length_cons]; omega
  | [], _ :: _, h => h.elim
  | _ :: _, [], h => h.elim
theorem StV.top {t : Bool} {ts : List Bool} {v : Int} {st : List Int} (h : StV (t :: ts) (v :: st)) : -1000000 ≤ v ∧ v ≤ 1000000 := by
  have := h.1
  split at this <;> omega
theorem StV.uncons {t : Bool} {ts : List Bool} {st : List Int} (h : StV (t :: ts) st) : ∃ v s, st = v :: s ∧ (if t = true then v = 0 ∨ v = 1 else -1000000 ≤ v ∧ v ≤ 1000000) ∧ StV ts s := by
  match st, h with
  | v :: s, h => exact ⟨v, s, rfl, h.1, h.2⟩
  | [], h => exact h.elim
theorem StV.nil {st : List Int} (h : StV [] st) : st = [] := by
  match st, h with
  | [], _ => rfl
  | _ :: _, h => exact h.elim
theorem clip_le {v : Int} : -1000000 ≤ clip v ∧ clip v ≤ 1000000 := by
  unfold clip; split
  · omega
  · split <;> omega
theorem clip_id {v : Int} (h : -1000000 ≤ v ∧ v ≤ 1000000) : clip v = v := by
  unfold clip; rw [if_neg (by omega), if_neg (by omega)]
theorem flo_le {a b : Int} (ha : -1000000 ≤ a ∧ a ≤ 1000000) : -1000000 ≤ flo a b ∧ flo a b ≤ 1000000 := by
  unfold flo
  split
  · omega
  · have h2 := Int.natAbs_tdiv_le_natAbs a b
    split
    · rename_i hb hc
      have hb2 : 2 ≤ b.natAbs := by
        rcases Nat.lt_or_ge b.natAbs 2 with h | h
        · exfalso
          have : b = 1 ∨ b = -1 := by omega
          rcases this with rfl | rfl
          · exact hc.1 (Int.tmod_one a)
          · exact hc.1 (by rw [Int.tmod_neg]; exact Int.tmod_one a)
        · exact h
      have h3 : (a.tdiv b).natAbs ≤ a.natAbs / 2 := by
        rw [Int.natAbs_tdiv]
        exact Nat.div_le_div_left hb2 (by decide)
      omega
    · omega
theorem ty1_some {a b : Bool} {ts ts' : List Bool} (h : ty1 a b ts = some ts') : ∃ s, ts = a :: s ∧ ts' = b :: s := by
  match ts, h with
  | x :: s, h =>
    simp only [ty1] at h
    split at h
    · rename_i e; cases h; exact ⟨s, by rw [e], rfl⟩
    · cases h
  | [], h => cases h
theorem ty2_some {a b : Bool} {ts ts' : List Bool} (h : ty2 a b ts = some ts') : ∃ s, ts = a :: a :: s ∧ ts' = b :: s := by
  match ts, h with
  | x :: y :: s, h =>
    simp only [ty2] at h
    split at h
    · rename_i e; cases h; exact ⟨s, by rw [e.1, e.2], rfl⟩
    · cases h
  | [_], h => cases h
  | [], h => cases h
/-- the nine ways of a code -/
theorem tyC_some {c : Int} {ts ts' : List Bool} (h : tyC c ts = some ts') :
    ((1000 ≤ c ∧ c ≤ 10999) ∧ ts.length < 64 ∧ ts' = false :: ts) ∨ (c = 60 ∧ ∃ s, ts = false :: s ∧ ts' = false :: s) ∨ ((40 ≤ c ∧ c ≤ 48) ∧ ts.length < 64 ∧ ts' = false :: ts) ∨ (c = 13 ∧ ts.length < 64 ∧ ts' = true :: ts) ∨ (c = 12 ∧ ∃ s, ts = true :: s ∧ ts' = true :: s) ∨
    ((1 ≤ c ∧ c ≤ 6) ∧ ∃ s, ts = false :: false :: s ∧ ts' = false :: s) ∨ ((7 ≤ c ∧ c ≤ 9) ∧ ∃ s, ts = false :: false :: s ∧ ts' = true :: s) ∨ ((10 ≤ c ∧ c ≤ 11) ∧ ∃ s, ts = true :: true :: s ∧ ts' = true :: s) := by
  unfold tyC at h
  split at h
  · split at h
    · rename_i h1 h2; cases h; exact Or.inl ⟨⟨h1, h2.1⟩, h2.2, rfl⟩
    · cases h
  · split at h
    · split at h
      · rename_i h2; exact Or.inr (Or.inl ⟨h2, ty1_some h⟩)
      · cases h
    · split at h
      · split at h
        · rename_i h1 h2; cases h; exact Or.inr (Or.inr (Or.inl ⟨⟨h1, h2.1⟩, h2.2, rfl⟩))
        · cases h
      · split at h
        · split at h
          · rename_i h1 h2; cases h; exact Or.inr (Or.inr (Or.inr (Or.inl ⟨h1, h2, rfl⟩)))
          · cases h
        · split at h
          · rename_i h1; exact Or.inr (Or.inr (Or.inr (Or.inr (Or.inl ⟨h1, ty1_some h⟩))))
          · split at h
            · rename_i h1; exact Or.inr (Or.inr (Or.inr (Or.inr (Or.inr (Or.inl ⟨h1, ty2_some h⟩)))))
            · split at h
              · rename_i h1; exact Or.inr (Or.inr (Or.inr (Or.inr (Or.inr (Or.inr (Or.inl ⟨h1, ty2_some h⟩))))))
              · split at h
                · rename_i h1; exact Or.inr (Or.inr (Or.inr (Or.inr (Or.inr (Or.inr (Or.inr ⟨h1, ty2_some h⟩))))))
                · cases h
theorem joinC_le {c a b : Int} (ha : -1000000 ≤ a ∧ a ≤ 1000000) (hb : -1000000 ≤ b ∧ b ≤ 1000000) (hc : 1 ≤ c ∧ c ≤ 6) : -1000000 ≤ joinC c a b ∧ joinC c a b ≤ 1000000 := by
  unfold joinC
  split
  · exact clip_le
  · split
    · exact clip_le
    · split
      · exact clip_le
      · split
        · exact flo_le ha
        · split
          · split <;> omega
          · rw [if_pos (by omega)]; split <;> omega
theorem joinC_tr {c a b : Int} (hc : 7 ≤ c ∧ c ≤ 9) : joinC c a b = 0 ∨ joinC c a b = 1 := by
  unfold joinC
  rw [if_neg (by omega), if_neg (by omega), if_neg (by omega), if_neg (by omega), if_neg (by omega), if_neg (by omega)]
  split
  · split <;> omega
  · split
    · split <;> omega
    · rw [if_pos (by omega)]; split <;> omega
theorem joinC_tt {c a b : Int} (ha : a = 0 ∨ a = 1) (hb : b = 0 ∨ b = 1) (hc : 10 ≤ c ∧ c ≤ 11) : joinC c a b = 0 ∨ joinC c a b = 1 := by
  unfold joinC
  rw [if_neg (by omega), if_neg (by omega), if_neg (by omega), if_neg (by omega), if_neg (by omega), if_neg (by omega), if_neg (by omega), if_neg (by omega), if_neg (by omega)]
  split
  · rcases ha with rfl | rfl <;> rcases hb with rfl | rfl <;> decide
  · split <;> omega
theorem nearV_le {C : Ct} {p : Nat} {v : Int} : 0 ≤ nearV C p v ∧ nearV C p v ≤ 1 := by
  unfold nearV
  split
  · have := bit01 (v := C.2.2.1 p) (p := v.toNat)
    omega
  · omega
theorem StV.step {C : Ct} {w : Sk} {t : Nat → Int} {p : Nat} {c : Int} {ts ts' : List Bool} {st : List Int} (hv : 40 ≤ c → c ≤ 48 → -1000000 ≤ valC C w t p c ∧ valC C w t p c ≤ 1000000) (h : StV ts st) (ht : tyC c ts = some ts') : StV ts' (stC C w t p c st) := by
  unfold stC
  rcases tyC_some ht with ⟨h1, h2, rfl⟩ | ⟨rfl, s, rfl, rfl⟩ | ⟨h1, h2, rfl⟩ | ⟨rfl, h2, rfl⟩ | ⟨rfl, s, rfl, rfl⟩ | ⟨h1, s, rfl, rfl⟩ | ⟨h1, s, rfl, rfl⟩ | ⟨h1, s, rfl, rfl⟩
  · rw [if_pos (by omega)]
    exact ⟨by rw [if_neg (by decide)]; omega, h⟩
  · rw [if_neg (by omega), if_pos (by omega)]
    obtain ⟨v, s', rfl, h3, h4⟩ := h.uncons
    have := nearV_le (C := C) (p := p) (v := v)
    exact ⟨by rw [if_neg (by decide)]; omega, h4⟩
  · rw [if_neg (by omega), if_neg (by omega), if_pos (by omega)]
    exact ⟨by rw [if_neg (by decide)]; exact hv h1.1 h1.2, h⟩
  · rw [if_neg (by omega), if_neg (by omega), if_neg (by omega), if_pos rfl]
    exact ⟨by rw [if_pos rfl]; omega, h⟩
  · rw [if_neg (by omega), if_neg (by omega), if_neg (by omega), if_neg (by omega), if_pos rfl]
    obtain ⟨v, s', rfl, h3, h4⟩ := h.uncons
    rw [if_pos rfl] at h3
    refine ⟨?_, h4⟩
    rw [if_pos rfl]
    show 1 - v = 0 ∨ 1 - v = 1
    omega
  · rw [if_neg (by omega), if_neg (by omega), if_neg (by omega), if_neg (by omega), if_neg (by omega)]
    obtain ⟨b, s', rfl, h3, h4⟩ := h.uncons
    obtain ⟨a, s', rfl, h5, h6⟩ := h4.uncons
    rw [if_neg (by decide)] at h3 h5
    exact ⟨by rw [if_neg (by decide)]; exact joinC_le h5 h3 h1, h6⟩
  · rw [if_neg (by omega), if_neg (by omega), if_neg (by omega), if_neg (by omega), if_neg (by omega)]
    obtain ⟨b, s', rfl, h3, h4⟩ := h.uncons
    obtain ⟨a, s', rfl, h5, h6⟩ := h4.uncons
    exact ⟨by rw [if_pos rfl]; exact joinC_tr h1, h6⟩
  · rw [if_neg (by omega), if_neg (by omega), if_neg (by omega), if_neg (by omega), if_neg (by omega)]
    obtain ⟨b, s', rfl, h3, h4⟩ := h.uncons
    obtain ⟨a, s', rfl, h5, h6⟩ := h4.uncons
    rw [if_pos rfl] at h3 h5
    exact ⟨by rw [if_pos rfl]; exact joinC_tt h5 h3 h1, h6⟩
theorem StV.ev {C : Ct} {w : Sk} {t : Nat → Int} {p : Nat} (hv : ∀ c, 40 ≤ c → c ≤ 48 → -1000000 ≤ valC C w t p c ∧ valC C w t p c ≤ 1000000) : ∀ (cs : List Int) (ts ts' : List Bool) (st : List Int), StV ts st → tys cs ts = some ts' → StV ts' (evC C w t p cs st)
  | [], ts, ts', st, h, ht => by cases ht; exact h
  | c :: cs, ts, ts', st, h, ht => by
    simp only [tys] at ht
    cases e : tyC c ts with
    | none => rw [e] at ht; cases ht
    | some ts1 =>
      rw [e] at ht
      exact StV.ev hv cs ts1 ts' _ (h.step (hv c) e) ht
/-- a pile in a row: its top lies highest -/
def Stk (σ : mM) (q : Nat) : List Int → Prop
  | [] => True
  | v :: s => σ q s.length = v ∧ Stk σ q s
theorem Stk.cg {σ σ' : mM} {q : Nat} : ∀ {st : List Int}, Stk σ q st → (∀ k, k < st.length → σ' q k = σ q k) → Stk σ' q st
  | [], _, _ => trivial
  | v :: s, h, e => ⟨by rw [e s.length (by simp)]; exact h.1, h.2.cg (fun k hk => e k (by simp only [List.length_cons]; omega))⟩
theorem Stk.set {σ : mM} {q k : Nat} {x : Int} {st : List Int} (h : Stk σ q st) (hk : st.length ≤ k) : Stk (mj_set σ q k x) q st :=
  h.cg (fun j hj => by rw [ms_app, if_pos rfl, if_neg (by omega)])
theorem Stk.push {σ : mM} {q : Nat} {x : Int} {st : List Int} (h : Stk σ q st) : Stk (mj_set σ q st.length x) q (x :: st) :=
  ⟨by rw [ms_app, if_pos rfl, if_pos rfl], h.set (Nat.le_refl _)⟩
/-- what is READ, what the RIVAL says, what a PART is TOLD, its air THEN -/
def cutA (v : Int) : Int := if v < 0 then 0 else if 20 < v then 20 else v
theorem cutA_le {v : Int} : 0 ≤ cutA v ∧ cutA v ≤ 20 := by
  unfold cutA; split
  · omega
  · split <;> omega
theorem cutA_id {v : Int} (h : 0 ≤ v ∧ v ≤ 20) : cutA v = v := by
  unfold cutA; rw [if_neg (by omega), if_neg (by omega)]
def tellP (C : Ct) (w : Sk) (t : Nat → Int) (r p : Nat) : Int := (evC C w t p (C.2.2.2 r) []).headD 0
def readP (C : Ct) (w : Sk) (p : Nat) : Int := if w.2.2.2.2 p = -2 then -1 else if w.2.2.2.2 p = -1 then cutA (tellP C w (fun _ => 0) 0 p) else w.2.2.2.2 p
def rivP (C : Ct) (w : Sk) (p : Nat) : Int := cutA (tellP C w (fun _ => 0) 1 p)
def tolP (C : Ct) (w : Sk) (p : Nat) : Int := if w.2.2.2.1 p = 1 ∨ readP C w p = -1 then w.2.1 p else readP C w p
def thnP (C : Ct) (w : Sk) (p : Nat) : Int := cutA (tellP C w (tolP C w) 2 p)
/-- what numbers can be -/
def CtV (C : Ct) : Prop := C.1 ≤ 7 ∧ (1 ≤ C.2.1 ∧ C.2.1 ≤ 20) ∧ (∀ p, p < C.1 → 0 ≤ C.2.2.1 p ∧ C.2.2.1 p < 2 ^ C.1) ∧ ∀ r, r < 3 → tys (C.2.2.2 r) [] = some [false] ∧ (r < 2 → 45 ∉ C.2.2.2 r) ∧ ∀ c ∈ C.2.2.2 r, c ≠ 60 ∧ c ≠ 12 ∧ c ≠ 13
def SkV (C : Ct) (w : Sk) : Prop := (0 ≤ w.1 ∧ w.1 ≤ 5000) ∧ ∀ p, p < C.1 → (0 ≤ w.2.1 p ∧ w.2.1 p ≤ 20) ∧ (w.2.2.1 p = 0 ∨ w.2.2.1 p = 1) ∧ (w.2.2.2.1 p = 0 ∨ w.2.2.2.1 p = 1) ∧ -2 ≤ w.2.2.2.2 p ∧ w.2.2.2.2 p ≤ 20
theorem CtV.near {C : Ct} (h : CtV C) {p : Nat} (hp : p < C.1) : 0 ≤ C.2.2.1 p ∧ C.2.2.1 p < 128 := by
  have h1 := h.2.2.1 p hp
  have := pw7 C.1 h.1
  omega
theorem arN_le {C : Ct} {w : Sk} {mo : Bool} {p : Nat} (h : SkV C w) : ∀ k, k ≤ C.1 → -1 ≤ arN C w mo p k ∧ arN C w mo p k ≤ 20
  | 0, _ => by unfold arN; omega
  | k + 1, hk => by
    have ih := arN_le (mo := mo) (p := p) h k (by omega)
    have := (h.2 k (by omega)).1
    unfold arN
    split
    · split <;> omega
    · exact ih
theorem around_le {C : Ct} {w : Sk} {mo : Bool} {p : Nat} (h : SkV C w) (hp : p < C.1) : 0 ≤ around C w mo p ∧ around C w mo p ≤ 20 := by
  unfold around
  have := arN_le (mo := mo) (p := p) h C.1 (Nat.le_refl _)
  have a := (h.2 p hp).1
  split <;> omega
theorem gales_le {C : Ct} {w : Sk} (h : CtV C) : 0 ≤ galesP C w ∧ galesP C w ≤ 7 := by
  unfold galesP
  have := sumN_le (f := fun p => galeI C.2.1 (w.2.1 p)) (c := 1) C.1 (fun j _ => galeI_le)
  have := h.1
  omega
theorem valC_le {C : Ct} {w : Sk} {t : Nat → Int} {p : Nat} {c : Int} (hC : CtV C) (hw : SkV C w) (hp : p < C.1) (ht : -1000000 ≤ t p ∧ t p ≤ 1000000) : -1000000 ≤ valC C w t p c ∧ valC C w t p c ≤ 1000000 := by
  have a := hw.2 p hp
  have b1 := around_le (mo := true) hw hp
  have b2 := around_le (mo := false) hw hp
  have g := gales_le (w := w) hC
  have n := hw.1
  have m := hC.1
  unfold valC
  split
  · omega
  · split
    · omega
    · split
      · omega
      · split
        · omega
        · split
          · omega
          · split
            · exact ht
            · split
              · omega
              · split <;> omega
theorem tell_ok {C : Ct} {w : Sk} {t : Nat → Int} {p r : Nat} (hC : CtV C) (hw : SkV C w) (hp : p < C.1) (ht : -1000000 ≤ t p ∧ t p ≤ 1000000) (hr : r < 3) : ∃ v, evC C w t p (C.2.2.2 r) [] = [v] ∧ -1000000 ≤ v ∧ v ≤ 1000000 := by
  have h := StV.ev (fun c _ _ => valC_le hC hw hp ht) (C.2.2.2 r) [] [false] [] trivial (hC.2.2.2 r hr).1
  obtain ⟨v, s, e, h1, h2⟩ := h.uncons
  rw [h2.nil] at e
  exact ⟨v, e, by rw [if_neg (by decide)] at h1; exact h1⟩
theorem read_le {C : Ct} {w : Sk} {p : Nat} (hw : SkV C w) (hp : p < C.1) : -1 ≤ readP C w p ∧ readP C w p ≤ 20 := by
  have a := (hw.2 p hp).2.2.2
  have := cutA_le (v := tellP C w (fun _ => 0) 0 p)
  unfold readP
  split
  · omega
  · split <;> omega
theorem tol_le {C : Ct} {w : Sk} {p : Nat} (hw : SkV C w) (hp : p < C.1) : 0 ≤ tolP C w p ∧ tolP C w p ≤ 20 := by
  have a := (hw.2 p hp).1
  have := read_le hw hp
  unfold tolP
  split <;> omega

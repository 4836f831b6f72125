/-! THE INVARIANT between the class (places below 146) and the model (146 on) -/
/-- bit p of a number that is not below 0 -/
def bit (v : Int) (p : Nat) : Int := v / (2 : Int) ^ p % 2
/-- what ACTS tell: the class (254 nothing, 255 none), the model (-2, -1) -/
def ActR (c m : Int) : Prop := (0 ≤ c ∧ c ≤ 20 ∧ m = c) ∨ (c = 254 ∧ m = -2) ∨ (c = 255 ∧ m = -1)
def enc5 : List Int → Int
  | [] => 0
  | l :: ls => l + 32 * enc5 ls
def enc27 : List Int → Int → Int
  | [], v => v
  | l :: ls, v => enc27 ls (27 * v + l)
/-- a NAME: the class has five bits a letter, the first lowest; the model counts by 27 -/
def NameR (c m : Int) : Prop := ∃ ls : List Int, 1 ≤ ls.length ∧ ls.length ≤ 6 ∧ (∀ l ∈ ls, 1 ≤ l ∧ l ≤ 26) ∧ c = enc5 ls ∧ m = enc27 ls 0
def IvT (σ : mM) : Prop := σ 146 1 = σ 1 1 ∧ (0 ≤ σ 1 1 ∧ σ 1 1 ≤ 1600) ∧ ∀ k : Nat, (k : Int) < σ 1 1 → σ 147 k = σ 2 k ∧ 0 ≤ σ 2 k ∧ σ 2 k ≤ 255
def IvR (σ : mM) : Prop := ∀ k : Nat, k < 6 → σ 148 k = σ 145 k
def IvF (σ : mM) : Prop := σ 146 7 = σ 19 2 ∧ σ 146 8 = σ 19 3
def IvZ (σ : mM) : Prop := σ 146 67 = σ 0 13 ∧ 0 ≤ σ 0 13 ∧ σ 0 13 ≤ 2147483647
def IvP (σ : mM) : Prop := σ 146 99 = σ 0 12 ∧ (0 ≤ σ 0 12 ∧ σ 0 12 ≤ 24) ∧ ∀ k : Nat, (k : Int) < σ 0 12 → σ 217 k = σ 144 k
def IvS (σ : mM) : Prop := σ 146 58 = σ 31 1 ∧ (0 ≤ σ 31 1 ∧ σ 31 1 ≤ 16) ∧ (∀ k : Nat, (k : Int) < 3 * σ 31 1 → σ 189 k = σ 32 k) ∧ ∀ k : Nat, (k : Int) < σ 31 1 → (0 ≤ σ 32 (3 * k) ∧ σ 32 (3 * k) ≤ 30) ∧ (0 ≤ σ 32 (3 * k + 1) ∧ σ 32 (3 * k + 1) < σ 3 4) ∧ (0 ≤ σ 32 (3 * k + 2) ∧ σ 32 (3 * k + 2) ≤ 20)
/-- a sky of the class at the places s, a row of the model at the place q from o on -/
def SkyR (σ : mM) (s q o : Nat) : Prop := σ q o = σ s 2 ∧ (0 ≤ σ s 2 ∧ σ s 2 ≤ 999) ∧ (0 ≤ σ s 3 ∧ σ s 3 < 2 ^ (σ 3 4).toNat) ∧ (0 ≤ σ s 4 ∧ σ s 4 < 2 ^ (σ 3 4).toNat) ∧
  ∀ p : Nat, (p : Int) < σ 3 4 → (σ q (o + (1 + 4 * p)) = σ (s + 1) p ∧ 0 ≤ σ (s + 1) p ∧ σ (s + 1) p ≤ 20) ∧ σ q (o + (2 + 4 * p)) = bit (σ s 3) p ∧ σ q (o + (3 + 4 * p)) = bit (σ s 4) p ∧ ActR (σ (s + 2) p) (σ q (o + (4 + 4 * p)))
/-- what is KEPT: rows of the class at s, of the model at q from o on -/
def KeptR (σ : mM) (s q o : Nat) : Prop := σ q (o + 29) = σ s 1 ∧ (0 ≤ σ s 1 ∧ σ s 1 ≤ 40) ∧
  ∀ k : Nat, (k : Int) < σ s 1 → (0 ≤ σ q (o + (30 + 3 * k)) ∧ σ q (o + (30 + 3 * k)) ≤ 999) ∧ (0 ≤ σ q (o + (31 + 3 * k)) ∧ σ q (o + (31 + 3 * k)) ≤ 6) ∧ (0 ≤ σ q (o + (32 + 3 * k)) ∧ σ q (o + (32 + 3 * k)) ≤ 20) ∧ σ (s + 1) k = 256 * σ q (o + (30 + 3 * k)) + 32 * σ q (o + (31 + 3 * k)) + σ q (o + (32 + 3 * k))
/-- what can be undone: two rings -/
def IvU (σ : mM) : Prop := σ 146 65 = σ 41 3 ∧ (0 ≤ σ 41 3 ∧ σ 41 3 ≤ 20) ∧ (0 ≤ σ 146 66 ∧ σ 146 66 < 20) ∧ σ 41 2 = σ 146 66 ∧
  ∀ j : Nat, (j : Int) < σ 41 3 → SkyR σ (44 + 5 * ((σ 146 66 - 1 - j) % 20).toNat) 193 (150 * ((σ 146 66 - j) % 20).toNat) ∧ KeptR σ (47 + 5 * ((σ 146 66 - 1 - j) % 20).toNat) 193 (150 * ((σ 146 66 - j) % 20).toNat)
/-- a step of the class, a code of the model -/
def StepR (s m : Int) : Prop := (∃ v, (0 ≤ v ∧ v ≤ 9999) ∧ s = 32 * v ∧ m = 1000 + v) ∨ (s = 32 ∧ m = 13) ∨ (∃ k, (1 ≤ k ∧ k ≤ 9) ∧ s = k ∧ m = 39 + k) ∨ (s = 10 ∧ m = 60) ∨ (s = 11 ∧ m = 12) ∨ (∃ k, (12 ≤ k ∧ k ≤ 22) ∧ s = k ∧ m = k - 11)
/-- a step and a code of a city's sum: up to u kinds of values -/
def CStepR (u s m : Int) : Prop := (∃ v, (0 ≤ v ∧ v ≤ 9999) ∧ s = 32 * v ∧ m = 1000 + v) ∨ (∃ k, (1 ≤ k ∧ k ≤ u) ∧ s = k ∧ m = 39 + k) ∨ (∃ k, (12 ≤ k ∧ k ≤ 17) ∧ s = k ∧ m = k - 11)
/-- how high the pile stands behind codes, never above B, never wanting -/
def hts (B : Nat) : List Int → Nat → Option Nat
  | [], h => some h
  | m :: c, h => if 1000 ≤ m ∨ (40 ≤ m ∧ m < 60) ∨ m = 13 then (if h < B then hts B c (h + 1) else none)
    else if 60 ≤ m ∨ m = 12 then (if 0 < h then hts B c h else none)
    else (if 1 < h then hts B c (h - 1) else none)
theorem hts_app {B : Nat} : ∀ (a b : List Int) (h : Nat), hts B (a ++ b) h = (hts B a h).bind (hts B b)
  | [], b, h => rfl
  | m :: a, b, h => by
    simp only [List.cons_append, hts]
    split
    · split
      · exact hts_app a b _
      · rfl
    · split
      · split
        · exact hts_app a b _
        · rfl
      · split
        · exact hts_app a b _
        · rfl
/-- the model's codes of n from o on -/
def codesOf (σ : mM) (q o n : Nat) : List Int := (List.range n).map (fun j => σ q (o + j))
/-- the sum r of the city: none told, or alike -/
def RuleR (σ : mM) (r : Nat) : Prop := (0 ≤ σ 9 r ∧ σ 9 r ≤ σ 10 r ∧ σ 10 r ≤ 1603) ∧
  ((σ 179 (3 + r) = -1 ∧ σ 10 r = σ 9 r + 1 ∧ σ 8 (σ 9 r).toNat = (if r = 0 then 1 else if r = 1 then 2 else 6)) ∨
   ((0 ≤ σ 179 (3 + r) ∧ σ 179 (3 + r) ≤ σ 180 (3 + r) ∧ σ 180 (3 + r) ≤ 1600) ∧ σ 10 r - σ 9 r = σ 180 (3 + r) - σ 179 (3 + r) ∧
    (∀ j : Nat, (j : Int) < σ 10 r - σ 9 r → CStepR (if r = 2 then 6 else 5) (σ 8 ((σ 9 r).toNat + j)) (σ 181 (1600 + ((σ 179 (3 + r)).toNat + j)))) ∧
    hts 64 (codesOf σ 181 (1600 + (σ 179 (3 + r)).toNat) (σ 10 r - σ 9 r).toNat) 0 = some 1))
def IvC (σ : mM) : Prop := (σ 173 2 = σ 3 4 ∧ 0 ≤ σ 3 4 ∧ σ 3 4 ≤ 7) ∧ σ 173 3 = σ 3 5 ∧ (σ 178 2 = σ 3 8 ∧ 1 ≤ σ 3 8 ∧ σ 3 8 ≤ 20) ∧ (σ 178 3 = σ 3 9 ∧ 0 ≤ σ 3 9 ∧ σ 3 9 ≤ 100) ∧
  (∀ p : Nat, (p : Int) < σ 3 4 → NameR (σ 4 p) (σ 174 (7 + p)) ∧ σ 176 (7 + p) = σ 6 p ∧ 0 ≤ σ 6 p ∧ σ 6 p < 2 ^ (σ 3 4).toNat) ∧ ∀ r : Nat, r < 3 → RuleR σ r
/-- class and model are alike -/
def Inv (σ : mM) : Prop := Fix σ ∧ IvT σ ∧ IvR σ ∧ IvF σ ∧ IvZ σ ∧ IvP σ ∧ IvS σ ∧ IvC σ ∧ SkyR σ 28 182 0 ∧ KeptR σ 39 182 0 ∧ IvU σ ∧ σ 146 53 = 0

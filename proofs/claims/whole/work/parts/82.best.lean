/-! the best of sets: fewest, then the smallest number -/
def Bst (N : Nat) (B : Int) (Q : Nat → Prop) (v : Int) : Prop := (v = -1 ∧ ∀ s, s < N → bcF (s : Int) ≤ B → ¬Q s) ∨ ∃ r, r < N ∧ v = (r : Int) ∧ bcF (r : Int) ≤ B ∧ Q r ∧ ∀ s, s < N → bcF (s : Int) ≤ B → Q s → bcF (r : Int) < bcF (s : Int) ∨ (bcF (r : Int) = bcF (s : Int) ∧ r ≤ s)
theorem Bst.uniq {N : Nat} {B : Int} {Q : Nat → Prop} {u v : Int} (h : Bst N B Q u) (h2 : Bst N B Q v) : u = v := by
  rcases h with ⟨rfl, h⟩ | ⟨r, r1, rfl, r2, r3, r4⟩
  · rcases h2 with ⟨rfl, h2⟩ | ⟨r, r1, rfl, r2, r3, r4⟩
    · rfl
    · exact absurd r3 (h r r1 r2)
  · rcases h2 with ⟨rfl, h2⟩ | ⟨t, t1, rfl, t2, t3, t4⟩
    · exact absurd r3 (h2 r r1 r2)
    · have a := r4 t t1 t2 t3
      have b := t4 r r1 r2 r3
      have : r = t := by omega
      rw [this]
/-- sizes below z are none, and sets below s of size z -/
def BsL (N : Nat) (Q : Nat → Prop) (z : Int) (s : Nat) : Prop := ∀ t, t < N → (bcF (t : Int) < z ∨ (bcF (t : Int) = z ∧ t < s)) → ¬Q t
theorem BsL.no {N : Nat} {Q : Nat → Prop} {z : Int} {s : Nat} (h : BsL N Q z s) (hs : bcF (s : Int) = z → ¬Q s) : BsL N Q z (s + 1) := by
  intro t ht hc hQ
  by_cases e : t = s
  · subst e
    rcases hc with hc | hc
    · exact h t ht (Or.inl hc) hQ
    · exact hs hc.1 hQ
  · exact h t ht (by omega) hQ
theorem BsL.up {N : Nat} {Q : Nat → Prop} {z : Int} (h : BsL N Q z N) : BsL N Q (z + 1) 0 := by
  intro t ht hc hQ
  exact h t ht (by omega) hQ
theorem BsL.found {N : Nat} {B : Int} {Q : Nat → Prop} {z : Int} {s : Nat} (h : BsL N Q z s) (hs : s < N) (hz : bcF (s : Int) = z) (hB : z ≤ B) (hQ : Q s) : Bst N B Q (s : Int) := by
  refine Or.inr ⟨s, hs, rfl, by omega, hQ, fun t ht _ hQt => ?_⟩
  have := h t ht
  by_cases e : bcF (t : Int) < z ∨ (bcF (t : Int) = z ∧ t < s)
  · exact absurd hQt (this e)
  · omega
theorem BsL.none {N : Nat} {B : Int} {Q : Nat → Prop} {z : Int} (h : BsL N Q z 0) (hB : B < z) : Bst N B Q (-1) :=
  Or.inl ⟨rfl, fun s hs hb => h s hs (Or.inl (by omega))⟩
theorem Bst.skip {s : Nat} {B : Int} {Q : Nat → Prop} {v : Int} (h : Bst s B Q v) (hs : bcF (s : Int) ≤ B → Q s → ∃ r : Nat, v = (r : Int) ∧ bcF (r : Int) ≤ bcF (s : Int)) : Bst (s + 1) B Q v := by
  rcases h with ⟨rfl, h⟩ | ⟨r, r1, rfl, r2, r3, r4⟩
  · refine Or.inl ⟨rfl, fun t ht hb hQ => ?_⟩
    by_cases e : t = s
    · subst e
      obtain ⟨r, hr, _⟩ := hs hb hQ
      omega
    · exact h t (by omega) hb hQ
  · refine Or.inr ⟨r, by omega, rfl, r2, r3, fun t ht hb hQ => ?_⟩
    by_cases e : t = s
    · subst e
      obtain ⟨r', hr, hr2⟩ := hs hb hQ
      have : r' = r := by omega
      subst this
      omega
    · exact r4 t (by omega) hb hQ
theorem Bst.take {s : Nat} {B : Int} {Q : Nat → Prop} {v : Int} (h : Bst s B Q v) (hb : bcF (s : Int) ≤ B) (hQ : Q s) (hs : v = -1 ∨ ∃ r : Nat, v = (r : Int) ∧ bcF (s : Int) < bcF (r : Int)) : Bst (s + 1) B Q (s : Int) := by
  refine Or.inr ⟨s, by omega, rfl, hb, hQ, fun t ht hb2 hQ2 => ?_⟩
  by_cases e : t = s
  · subst e; exact Or.inr ⟨rfl, Nat.le_refl _⟩
  · rcases h with ⟨rfl, h⟩ | ⟨r, r1, rfl, r2, r3, r4⟩
    · exact absurd hQ2 (h t (by omega) hb2)
    · rcases hs with hs | ⟨r', hr, hr2⟩
      · omega
      · have : r' = r := by omega
        subst this
        have := r4 t (by omega) hb2 hQ2
        omega
theorem ro_pair2 {yx ym : Nat} {as : List mV} {σ : mM} {C : Ct} {w : Sk} {l : Kp} {R : Int → Prop} (h : Inv σ) (hW : Wrl σ C w l) (hR : ∀ u v, R u → R v → u = v) (hx : Mt 1000 yx (.inr (.inr 0) :: as) σ (fun r σ' => ∃ v, r = some (.inl v) ∧ R v ∧ Fr scrL scrT σ σ')) (hm : ∀ σ1, Inv σ1 → Wrl σ1 C w l → Fr scrL scrT σ σ1 → Mt 1000 ym (.inr (.inr 146) :: as) σ1 (fun r σ' => ∃ v, r = some (.inl v) ∧ R v ∧ Fr scrL scrT σ1 σ')) : PairI Inv yx ym as σ :=
  hx.mono (fun _ σ1 e => by
    obtain ⟨v, e1, e2, e3⟩ := e
    refine ⟨v, e1, (hm σ1 (h.fr e3) (hW.fr e3) e3).mono (fun r2 σ2 e4 => ?_)⟩
    obtain ⟨v', q1, q2, q3⟩ := e4
    exact ⟨by rw [q1, hR v' v q2 e2], h.fr (e3.trans q3)⟩)
/-! tables of sets -/
def orB (a b : Nat) : Bool := decide (0 ≤ i_or a b ∧ i_or a b < 128) && (List.range 7).all (fun k => decide (bit (i_or a b) k = 1) == (decide (bit a k = 1) || decide (bit b k = 1)))
theorem or_tab : ((List.range 128).all (fun a => (List.range 128).all (fun b => orB a b))) = true := by decide +kernel
theorem or_bits {a b : Int} (ha : 0 ≤ a ∧ a < 128) (hb : 0 ≤ b ∧ b < 128) : (0 ≤ i_or a b ∧ i_or a b < 128) ∧ ∀ k, k < 7 → (bit (i_or a b) k = 1 ↔ bit a k = 1 ∨ bit b k = 1) := by
  obtain ⟨a, rfl⟩ := Int.eq_ofNat_of_zero_le ha.1
  obtain ⟨b, rfl⟩ := Int.eq_ofNat_of_zero_le hb.1
  have h := List.all_eq_true.mp (List.all_eq_true.mp or_tab a (List.mem_range.mpr (by omega))) b (List.mem_range.mpr (by omega))
  unfold orB at h
  obtain ⟨h1, h2⟩ := mj_and h
  refine ⟨of_decide_eq_true h1, fun k hk => ?_⟩
  have h3 := List.all_eq_true.mp h2 k (List.mem_range.mpr hk)
  have h4 := eq_of_beq h3
  by_cases e1 : bit (a : Int) k = 1 <;> by_cases e2 : bit (b : Int) k = 1 <;> by_cases e3 : bit (i_or (a : Int) (b : Int)) k = 1 <;> simp_all
def anB (a b : Nat) : Bool := decide (i_and a b = 0) == (List.range 7).all (fun k => !(decide (bit a k = 1) && decide (bit b k = 1)))
theorem an_tab : ((List.range 128).all (fun a => (List.range 128).all (fun b => anB a b))) = true := by decide +kernel
theorem and_zero {a b : Int} (ha : 0 ≤ a ∧ a < 128) (hb : 0 ≤ b ∧ b < 128) : i_and a b = 0 ↔ ∀ k, k < 7 → bit a k = 1 → bit b k ≠ 1 := by
  obtain ⟨a, rfl⟩ := Int.eq_ofNat_of_zero_le ha.1
  obtain ⟨b, rfl⟩ := Int.eq_ofNat_of_zero_le hb.1
  have h := eq_of_beq (List.all_eq_true.mp (List.all_eq_true.mp an_tab a (List.mem_range.mpr (by omega))) b (List.mem_range.mpr (by omega)))
  constructor
  · intro e k hk h1 h2
    rw [decide_eq_true e] at h
    have h3 := List.all_eq_true.mp h.symm k (List.mem_range.mpr hk)
    rw [decide_eq_true h1, decide_eq_true h2] at h3
    cases h3
  · intro hh
    have : ((List.range 7).all (fun k => !(decide (bit (a : Int) k = 1) && decide (bit (b : Int) k = 1)))) = true := by
      refine List.all_eq_true.mpr (fun k hk => ?_)
      have := hh k (List.mem_range.mp hk)
      by_cases e1 : bit (a : Int) k = 1
      · rw [decide_eq_true e1, decide_eq_false (this e1)]; rfl
      · rw [decide_eq_false e1]; rfl
    rw [this] at h
    exact of_decide_eq_true h
theorem bc_step : ∀ s : Nat, s < 128 → s ≠ 0 → (0 ≤ i_and (s : Int) (w32 ((s : Int) - 1)) ∧ i_and (s : Int) (w32 ((s : Int) - 1)) < s) ∧ bcF (s : Int) = 1 + bcF (i_and (s : Int) (w32 ((s : Int) - 1))) := by decide +kernel
theorem bc_le : ∀ n : Nat, n < 8 → ∀ s : Nat, s < 2 ^ n → 0 ≤ bcF (s : Int) ∧ bcF (s : Int) ≤ n := by decide +kernel
theorem bc_zero : bcF 0 = 0 := by decide +kernel
theorem one_shl : ∀ p : Nat, p < 8 → i_shl 1 (p : Int) = ((2 ^ p : Nat) : Int) ∧ ∀ j : Nat, j < 7 → (bit ((2 ^ p : Nat) : Int) j = 1 ↔ j = p) := by decide +kernel
theorem bit_hi {n j : Nat} {x : Int} (h : 0 ≤ x ∧ x < 2 ^ n) (hj : n ≤ j) : bit x j = 0 := by
  obtain ⟨a, rfl⟩ := Int.eq_ofNat_of_zero_le h.1
  have h2 : a < 2 ^ n := by
    have := h.2
    have e : ((2 ^ n : Nat) : Int) = (2 : Int) ^ n := by simp
    rw [← e] at this
    omega
  have h3 : (2 : Nat) ^ n ≤ 2 ^ j := Nat.pow_le_pow_right (by decide) hj
  have key : bit (a : Int) j = ((a / 2 ^ j % 2 : Nat) : Int) := by unfold bit; simp
  rw [key, Nat.div_eq_of_lt (by omega)]
  rfl
theorem pw_cast {n : Nat} : ((2 ^ n : Nat) : Int) = (2 : Int) ^ n := by simp
theorem pwN7 : ∀ n : Nat, n ≤ 7 → 2 ^ n ≤ 128 := by decide
section
variable {d : Nat} {σ σ0 : mM} {K : Option mV → mM → Prop} {C : Ct} {w : Sk} {l : Kp}
theorem m_bits {s : Nat} (hs : s < 128) (hK : K (some (.inl (bcF (s : Int)))) σ) : Mt (d + 1) 201 [.inl (s : Int)] σ K := by
  refine Mt.go (lv := [some (.inl (s : Int)), none, none]) rfl rfl rfl ?_
  refine At.blk rfl rfl rfl fun sx => ?_
  simp (decide := true) only [RR, ms_app, toList_some, toList_none, if_true, if_false, true_and, and_true, cond_true, sm0, sm1, sm1l, sm2, lc_lt, lc_gt, lc_eq, Int.toNat_natCast, Int.reduceToNat, Nat.reduceAdd, Nat.reduceEqDiff, Int.reduceLT, Int.reduceEq, Int.reduceNeg, Int.reduceAdd, Int.reduceMul, Nat.reduceMul, ms_n, ms_i, ms_l, ms_p, PM]
  have loop : ∀ m t : Nat, t ≤ m → t < 128 → ∀ n : Int, 0 ≤ n → n + bcF (t : Int) = bcF (s : Int) → At d 201 1 [some (.inl (s : Int)), some (.inl n), some (.inl (t : Int))] [] σ K := by
    intro m
    induction m with
    | zero =>
      intro t ht ht2 n hn e
      obtain rfl : t = 0 := by omega
      refine At.blk rfl rfl rfl fun sx => ?_
      simp (decide := true) only [RR, ms_app, toList_some, toList_none, if_true, if_false, true_and, and_true, cond_true, sm0, sm1, sm1l, sm2, lc_lt, lc_gt, lc_eq, Int.toNat_natCast, Int.reduceToNat, Nat.reduceAdd, Nat.reduceEqDiff, Int.reduceLT, Int.reduceEq, Int.reduceNeg, Int.reduceAdd, Int.reduceMul, Nat.reduceMul, ms_n, ms_i, ms_l, ms_p, PM]
      refine At.blk rfl rfl rfl fun sx => ?_
      simp (decide := true) only [RR, ms_app, toList_some, toList_none, if_true, if_false, true_and, and_true, cond_true, sm0, sm1, sm1l, sm2, lc_lt, lc_gt, lc_eq, Int.toNat_natCast, Int.reduceToNat, Nat.reduceAdd, Nat.reduceEqDiff, Int.reduceLT, Int.reduceEq, Int.reduceNeg, Int.reduceAdd, Int.reduceMul, Nat.reduceMul, ms_n, ms_i, ms_l, ms_p, PM]
      rw [show ((0 : Nat) : Int) = 0 from rfl, bc_zero] at e
      rw [show n = bcF (s : Int) by omega]
      exact hK
    | succ m ih =>
      intro t ht ht2 n hn e
      by_cases t0 : t = 0
      · exact ih t (by omega) ht2 n hn e
      · obtain ⟨b1, b2⟩ := bc_step t ht2 t0
        have b3 := bc_le 7 (by decide) s hs
        have b4 := bc_le 7 (by decide) t ht2
        refine At.blk rfl rfl rfl fun sx => ?_
        simp (decide := true) only [RR, ms_app, toList_some, toList_none, if_true, if_false, true_and, and_true, cond_true, sm0, sm1, sm1l, sm2, lc_lt, lc_gt, lc_eq, Int.toNat_natCast, Int.reduceToNat, Nat.reduceAdd, Nat.reduceEqDiff, Int.reduceLT, Int.reduceEq, Int.reduceNeg, Int.reduceAdd, Int.reduceMul, Nat.reduceMul, ms_n, ms_i, ms_l, ms_p, PM]
        rw [if_neg (by omega)]
        generalize hg : i_and (t : Int) (w32 ((t : Int) - 1)) = g at *
        obtain ⟨g, rfl⟩ := Int.eq_ofNat_of_zero_le b1.1
        rw [w32_small (by omega) (by omega)]
        exact ih g (by omega) (by omega) (n + 1) (by omega) (by omega)
  exact loop s s (Nat.le_refl _) hs 0 (by omega) (by omega)
end

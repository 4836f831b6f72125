/-! the class: what is foreseen -/
def andnB (a b : Nat) : Bool := decide (0 ≤ i_and a (i_xor b (-1)) ∧ i_and a (i_xor b (-1)) ≤ a) && (List.range 7).all (fun k => decide (bit (i_and a (i_xor b (-1))) k = 1) == (decide (bit a k = 1) && !decide (bit b k = 1)))
theorem andn_tab : ((List.range 128).all (fun a => (List.range 128).all (fun b => andnB a b))) = true := by decide +kernel
theorem andn {a b : Int} (ha : 0 ≤ a ∧ a < 128) (hb : 0 ≤ b ∧ b < 128) : (0 ≤ i_and a (i_xor b (-1)) ∧ i_and a (i_xor b (-1)) ≤ a) ∧ ∀ k, k < 7 → (bit (i_and a (i_xor b (-1))) k = 1 ↔ bit a k = 1 ∧ bit b k ≠ 1) := by
  obtain ⟨u, rfl⟩ := Int.eq_ofNat_of_zero_le ha.1
  obtain ⟨v, rfl⟩ := Int.eq_ofNat_of_zero_le hb.1
  have h := List.all_eq_true.mp (List.all_eq_true.mp andn_tab u (List.mem_range.mpr (by omega))) v (List.mem_range.mpr (by omega))
  unfold andnB at h
  obtain ⟨h1, h2⟩ := mj_and h
  refine ⟨of_decide_eq_true h1, fun k hk => ?_⟩
  have h3 := eq_of_beq (List.all_eq_true.mp h2 k (List.mem_range.mpr hk))
  constructor
  · intro h4
    rw [decide_eq_true h4] at h3
    obtain ⟨h5, h6⟩ := mj_and h3.symm
    refine ⟨of_decide_eq_true h5, fun h7 => ?_⟩
    rw [decide_eq_true h7] at h6; cases h6
  · intro h4
    rw [decide_eq_true h4.1, decide_eq_false h4.2] at h3
    exact of_decide_eq_true h3
theorem bit_ex_tab : ∀ n : Nat, n < 8 → ∀ v : Nat, v < 2 ^ n → v ≠ 0 → ∃ k, k < n ∧ bit (v : Int) k = 1 := by decide +kernel
theorem bit_ex {n : Nat} {v : Int} (hn : n ≤ 7) (h : 0 ≤ v ∧ v < 2 ^ n) (h0 : v ≠ 0) : ∃ k, k < n ∧ bit v k = 1 := by
  obtain ⟨u, rfl⟩ := Int.eq_ofNat_of_zero_le h.1
  refine bit_ex_tab n (by omega) u ?_ (by omega)
  have : ((2 ^ n : Nat) : Int) = (2 : Int) ^ n := by simp
  omega
theorem bit_zero {k : Nat} : bit 0 k = 0 := by unfold bit; simp
theorem arN_ne {C : Ct} {w : Sk} {mo : Bool} {p k : Nat} (hw : SkV C w) (hb : bit (C.2.2.1 p) k = 1 ∧ w.2.2.1 k ≠ 1) : ∀ m, k < m → m ≤ C.1 → arN C w mo p m ≠ -1
  | 0, h, _ => by omega
  | m + 1, h, hm => by
    have a := (hw.2 m (by omega)).1
    unfold arN
    by_cases e : k = m
    · subst e
      rw [if_pos hb]
      split
      · omega
      · rename_i h1; exact fun h2 => h1 (Or.inl h2)
    · have ih := arN_ne (mo := mo) hw hb m (by omega) (by omega)
      split
      · split
        · omega
        · exact ih
      · exact ih
theorem arN_no {C : Ct} {w : Sk} {mo : Bool} {p : Nat} (hb : ∀ k, k < C.1 → ¬(bit (C.2.2.1 p) k = 1 ∧ w.2.2.1 k ≠ 1)) : ∀ m, m ≤ C.1 → arN C w mo p m = -1
  | 0, _ => rfl
  | m + 1, h => by
    unfold arN
    rw [if_neg (hb m (by omega))]
    exact arN_no hb m (by omega)

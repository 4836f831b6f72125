/-! names -/
def nmL (t : Nat → Int) (s n : Nat) : List Int := (List.range n).map (fun i => t (s + i) - 96)
theorem nmL_s {t : Nat → Int} {s n : Nat} : nmL t s (n + 1) = nmL t s n ++ [t (s + n) - 96] := by
  unfold nmL
  rw [List.range_succ, List.map_append]; rfl
theorem nmL_len {t : Nat → Int} {s n : Nat} : (nmL t s n).length = n := by unfold nmL; simp
theorem enc5_app {x : Int} : ∀ a : List Int, enc5 (a ++ [x]) = enc5 a + 32 ^ a.length * x
  | [] => by simp [enc5]
  | y :: a => by
    show y + 32 * enc5 (a ++ [x]) = y + 32 * enc5 a + 32 ^ (a.length + 1) * x
    rw [enc5_app a, Int.pow_succ, Int.mul_add, Int.add_assoc]
    congr 2
    rw [← Int.mul_assoc, Int.mul_comm 32]
def nmN (t : Nat → Int) (s : Nat) : Nat → Nat
  | 0 => 0
  | n + 1 => 2 ^ (5 * n) * (t (s + n) - 96).toNat + nmN t s n
theorem nmN_eq {t : Nat → Int} {s : Nat} : ∀ n, (∀ k, k < n → 97 ≤ t (s + k) ∧ t (s + k) ≤ 122) → enc5 (nmL t s n) = ((nmN t s n : Nat) : Int) ∧ nmN t s n < 2 ^ (5 * n)
  | 0, _ => ⟨rfl, by show 0 < 1; decide⟩
  | n + 1, h => by
    obtain ⟨i1, i2⟩ := nmN_eq n (fun k hk => h k (by omega))
    have hx := h n (by omega)
    obtain ⟨x, e⟩ := Int.eq_ofNat_of_zero_le (show 0 ≤ t (s + n) - 96 by omega)
    have hx2 : x < 32 := by omega
    have e2 : (t (s + n) - 96).toNat = x := by omega
    have ep : (2 : Nat) ^ (5 * (n + 1)) = 2 ^ (5 * n) * 32 := by rw [Nat.mul_add, Nat.pow_add]
    have e32 : (32 : Int) ^ n = ((2 ^ (5 * n) : Nat) : Int) := by
      rw [Nat.pow_mul]
      simp
    constructor
    · rw [nmL_s, enc5_app, nmL_len, i1, e, e32]
      show _ = ((2 ^ (5 * n) * (t (s + n) - 96).toNat + nmN t s n : Nat) : Int)
      rw [e2, Int.natCast_add, Int.natCast_mul, Int.add_comm]
    · show 2 ^ (5 * n) * (t (s + n) - 96).toNat + nmN t s n < _
      rw [e2, ep]
      have : 2 ^ (5 * n) * x + 2 ^ (5 * n) ≤ 2 ^ (5 * n) * 32 := by
        rw [← Nat.mul_succ]
        exact Nat.mul_le_mul_left _ (by omega)
      omega
section
variable {d : Nat} {σ : mM} {K : Option mV → mM → Prop} {N : Nat} {t : Nat → Int} {s e : Nat}
theorem x_asName (hF : Fix σ) (hT : TxX σ N t) (q2 : σ 20 2 = (s : Int)) (q3 : σ 20 3 = (e : Int)) (he : s ≤ e ∧ e ≤ N ∧ e - s ≤ 6) (hl : ∀ k, s ≤ k → k < e → 97 ≤ t k ∧ t k ≤ 122) (hK : K (some (.inl (enc5 (nmL t s (e - s))))) σ) : Mt (d + 1) 88 [.inr (.inr 20)] σ K := by
  refine Mt.go (lv := [some (.inr (.inr 20)), none, none]) rfl rfl rfl ?_
  have n16 := hT.2.1
  have loop : ∀ m k : Nat, e - s - k = m → k ≤ e - s → At d 88 1 [some (.inr (.inr 20)), some (.inl ((nmN t s k : Nat) : Int)), some (.inl (k : Int))] [] σ K := by
    intro m
    induction m with
    | zero =>
      intro k hk hk2
      obtain rfl : k = e - s := by omega
      have fin : At d 88 2 [some (.inr (.inr 20)), some (.inl ((nmN t s (e - s) : Nat) : Int)), some (.inl ((e - s : Nat) : Int))] [] σ K := by
        refine At.blk rfl rfl rfl fun sx => ?_
        simp (decide := true) only [RR, ms_app, toList_some, toList_none, if_true, if_false, true_and, and_true, cond_true, sm0, sm1, sm1l, sm2, lc_lt, lc_gt, lc_eq, Int.toNat_natCast, Int.reduceToNat, Nat.reduceAdd, Nat.reduceEqDiff, Int.reduceLT, Int.reduceEq, Int.reduceNeg, Int.reduceAdd, Int.reduceMul, Nat.reduceMul, ms_n, ms_i, ms_l, ms_p, PX]
        rw [← (nmN_eq (e - s) (fun k hk => hl (s + k) (by omega) (by omega))).1]
        exact hK
      have w2 : Unit → w32 ((s : Int) + ((e - s : Nat) : Int)) = (e : Int) := fun _ => by rw [w32_small (by omega) (by omega)]; omega
      refine At.blk rfl rfl rfl fun sx => ?_
      simp (decide := true) only [RR, ms_app, toList_some, toList_none, if_true, if_false, true_and, and_true, cond_true, sm0, sm1, sm1l, sm2, lc_lt, lc_gt, lc_eq, Int.toNat_natCast, Int.reduceToNat, Nat.reduceAdd, Nat.reduceEqDiff, Int.reduceLT, Int.reduceEq, Int.reduceNeg, Int.reduceAdd, Int.reduceMul, Nat.reduceMul, ms_n, ms_i, ms_l, ms_p, PX, fxX hF, q2, q3, w2 ()]
      by_cases c : ((e - s : Nat) : Int) < 6
      · rw [if_pos c, if_neg (by omega)]
        exact fin
      · rw [if_neg c]
        exact fin
    | succ m ih =>
      intro k hk hk2
      have hx := hl (s + k) (by omega) (by omega)
      have et := (hT.2.2 (s + k) (by omega)).1
      obtain ⟨i1, i2⟩ := nmN_eq (t := t) (s := s) k (fun i hi => hl (s + i) (by omega) (by omega))
      obtain ⟨x, ex⟩ := Int.eq_ofNat_of_zero_le (show 0 ≤ t (s + k) - 96 by omega)
      have hx2 : x < 32 := by omega
      have p25 : (2 : Nat) ^ (5 * k) ≤ 2 ^ 25 := Nat.pow_le_pow_right (by decide) (by omega)
      have px : x * 2 ^ (5 * k) ≤ 31 * 2 ^ 25 := Nat.mul_le_mul (by omega) p25
      have px2 : 2 ^ (5 * k) * x ≤ 31 * 2 ^ 25 := by rw [Nat.mul_comm]; exact px
      have w1 : Unit → w32 ((k : Int) + 1) = ((k + 1 : Nat) : Int) := fun _ => by rw [w32_small (by omega) (by omega)]; omega
      have w2 : Unit → w32 ((s : Int) + (k : Int)) = ((s + k : Nat) : Int) := fun _ => by rw [w32_small (by omega) (by omega)]; omega
      have w3 : Unit → w32 (w32 (t (s + k) - 97) + 1) = (x : Int) := fun _ => by
        have e1 : w32 (t (s + k) - 97) = t (s + k) - 97 := w32_small (by omega) (by omega)
        rw [e1, w32_small (by omega) (by omega)]
        omega
      have w4 : Unit → w32 (5 * (k : Int)) = ((5 * k : Nat) : Int) := fun _ => by rw [w32_small (by omega) (by omega)]; omega
      have e5 : i_or ((nmN t s k : Nat) : Int) (i_shl (x : Int) ((5 * k : Nat) : Int)) = ((nmN t s (k + 1) : Nat) : Int) := by
        rw [i_shl_nat (by omega) (by omega), Nat.mul_comm x, i_or_add2 i2 (by omega)]
        show _ = ((2 ^ (5 * k) * (t (s + k) - 96).toNat + nmN t s k : Nat) : Int)
        rw [ex]; rfl
      refine At.blk rfl rfl rfl fun sx => ?_
      simp (decide := true) only [RR, ms_app, toList_some, toList_none, if_true, if_false, true_and, and_true, cond_true, sm0, sm1, sm1l, sm2, lc_lt, lc_gt, lc_eq, Int.toNat_natCast, Int.reduceToNat, Nat.reduceAdd, Nat.reduceEqDiff, Int.reduceLT, Int.reduceEq, Int.reduceNeg, Int.reduceAdd, Int.reduceMul, Nat.reduceMul, ms_n, ms_i, ms_l, ms_p, PX, fxX hF, q2, q3, w2 (), et, w3 (), w4 (), e5, w1 ()]
      rw [if_pos (by omega), if_pos (by omega)]
      refine ⟨⟨by omega, by omega⟩, ?_⟩
      exact ih (k + 1) (by omega) (by omega)
  refine At.blk rfl rfl rfl fun sx => ?_
  simp (decide := true) only [RR, ms_app, toList_some, toList_none, if_true, if_false, true_and, and_true, cond_true, sm0, sm1, sm1l, sm2, lc_lt, lc_gt, lc_eq, Int.toNat_natCast, Int.reduceToNat, Nat.reduceAdd, Nat.reduceEqDiff, Int.reduceLT, Int.reduceEq, Int.reduceNeg, Int.reduceAdd, Int.reduceMul, Nat.reduceMul, ms_n, ms_i, ms_l, ms_p, PX]
  exact loop (e - s) 0 (by omega) (by omega)
end

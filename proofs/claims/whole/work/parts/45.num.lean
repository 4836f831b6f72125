/-! numbers -/
theorem tbn (v : Int) : ((Int32.ofInt v).toBitVec.toNat : Int) = v % 4294967296 := by
  have h : (Int32.ofInt v).toBitVec = BitVec.ofInt 32 v := rfl
  rw [h, BitVec.toNat_ofInt]
  omega
theorem tbn' (x : Int32) : (x.toBitVec.toNat : Int) = x.toInt % 4294967296 := by
  have := tbn x.toInt
  rwa [mj_of] at this
theorem i_and_mask {v m : Int} (k : Nat) (hk : k ≤ 30) (hm : (Int32.ofInt m).toBitVec.toNat = 2 ^ k - 1) : i_and v m = v % (2 : Int) ^ k := by
  unfold i_and
  rw [pk_and (Int32.ofInt v) k hm]
  have hp : (2 : Nat) ^ k ≤ 2 ^ 30 := Nat.pow_le_pow_right (by decide) hk
  have hp0 : 0 < (2 : Nat) ^ k := Nat.pow_pos (by decide)
  have hlt := Nat.mod_lt (Int32.ofInt v).toBitVec.toNat hp0
  rw [nI_toInt (by omega)]
  have h1 := tbn v
  rw [Int.natCast_emod, h1]
  have e : ((2 ^ k : Nat) : Int) = (2 : Int) ^ k := by simp
  rw [e]
  have hd : (2 : Int) ^ k ∣ 4294967296 := by
    refine ⟨(2 : Int) ^ (32 - k), ?_⟩
    rw [← Int.pow_add, show k + (32 - k) = 32 by omega]
    rfl
  exact Int.emod_emod_of_dvd v hd
theorem i_and1 {v : Int} : i_and v 1 = v % 2 := i_and_mask 1 (by decide) (by decide)
theorem i_and31 {v : Int} : i_and v 31 = v % 32 := i_and_mask 5 (by decide) (by decide)
theorem i_and7 {v : Int} : i_and v 7 = v % 8 := i_and_mask 3 (by decide) (by decide)
theorem i_and255 {v : Int} : i_and v 255 = v % 256 := i_and_mask 8 (by decide) (by decide)
theorem sh_amt : ∀ p : Nat, p < 32 → ((Int32.ofInt (p : Int) &&& 31).toBitVec.smod 32).toNat = p := by decide +kernel
theorem i_shr_div {v : Int} {p : Nat} (h1 : -2147483648 ≤ v) (h2 : v < 2147483648) (hp : p < 32) : i_shr v p = v / (2 : Int) ^ p := by
  unfold i_shr
  rw [pk_shr _ _ p (sh_amt p hp), Int32.toInt_ofInt_of_le (by omega) (by omega), Int.shiftRight_eq_div_pow]
  simp
theorem shu_amt : ∀ p : Nat, p < 32 → (((Int32.ofInt (p : Int)).toUInt32 &&& Int32.toUInt32 31).toBitVec % 32).toNat = p := by decide +kernel
theorem pk_ushrB (v : Int) (p : Nat) (hp : p < 32) : ((Int32.ofInt v).toUInt32 >>> ((Int32.ofInt (p : Int)).toUInt32 &&& Int32.toUInt32 31)).toInt32.toBitVec.toNat = (Int32.ofInt v).toBitVec.toNat / 2 ^ p := pk_ushr (Int32.ofInt v) (Int32.ofInt (p : Int)) p (shu_amt p hp)
theorem dm_lemma (v : Int) (p : Nat) (hp : p ≤ 24) : v % 4294967296 / (2 : Int) ^ p % ((2 ^ 8 : Nat) : Int) = v / (2 : Int) ^ p % 256 := by
  have h : ∀ p : Nat, p ≤ 24 → p = 0 ∨ p = 1 ∨ p = 2 ∨ p = 3 ∨ p = 4 ∨ p = 5 ∨ p = 6 ∨ p = 7 ∨ p = 8 ∨ p = 9 ∨ p = 10 ∨ p = 11 ∨ p = 12 ∨ p = 13 ∨ p = 14 ∨ p = 15 ∨ p = 16 ∨ p = 17 ∨ p = 18 ∨ p = 19 ∨ p = 20 ∨ p = 21 ∨ p = 22 ∨ p = 23 ∨ p = 24 := fun p hp => by omega
  rcases h p hp with rfl | rfl | rfl | rfl | rfl | rfl | rfl | rfl | rfl | rfl | rfl | rfl | rfl | rfl | rfl | rfl | rfl | rfl | rfl | rfl | rfl | rfl | rfl | rfl | rfl <;> omega
theorem ushr_and {v : Int} {p : Nat} (hp : p ≤ 24) : i_and (i_ushr v p) 255 = v / (2 : Int) ^ p % 256 := by
  unfold i_and i_ushr
  rw [mj_of]
  have e := pk_and ((Int32.ofInt v).toUInt32 >>> ((Int32.ofInt (p : Int)).toUInt32 &&& Int32.toUInt32 31)).toInt32 (m := 255) 8 (by decide)
  rw [show Int32.ofInt 255 = 255 from rfl, e]
  -- the shifted number
  have h1 := pk_ushrB v p (by omega)
  rw [h1, nI_toInt (by omega), Int.natCast_emod, Int.natCast_ediv, tbn v]
  have h2 : ((2 ^ p : Nat) : Int) = (2 : Int) ^ p := by simp
  rw [h2]
  exact dm_lemma v p hp

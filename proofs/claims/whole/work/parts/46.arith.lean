theorem mk_63 : ∀ k : Fin 64, ((nI k.val).toInt64 &&& 63).toBitVec.smod 64 = BitVec.ofNat 64 k.val := by decide
theorem sr_i {a : Int64} {k : Nat} (hk : k < 64) : (a >>> ((nI k).toInt64 &&& 63)).toInt = a.toInt / 2 ^ k := by
  have h := mk_63 ⟨k, hk⟩
  dsimp only at h
  rw [← Int64.toInt_toBitVec, Int64.toBitVec_shiftRight, h, BitVec.sshiftRight', BitVec.toInt_sshiftRight, Int64.toInt_toBitVec, BitVec.toNat_ofNat, Nat.mod_eq_of_lt (by omega), Int.shiftRight_eq_div_pow]
  simp
theorem ad_i {a b : Int64} (h1 : -2 ^ 63 ≤ a.toInt + b.toInt) (h2 : a.toInt + b.toInt < 2 ^ 63) : (a + b).toInt = a.toInt + b.toInt := by
  rw [Int64.toInt_add, Int.bmod_eq_of_le_mul_two] <;> omega
theorem sb_i {a b : Int64} (h1 : -2 ^ 63 ≤ a.toInt - b.toInt) (h2 : a.toInt - b.toInt < 2 ^ 63) : (a - b).toInt = a.toInt - b.toInt := by
  rw [Int64.toInt_sub, Int.bmod_eq_of_le_mul_two] <;> omega
theorem mu_i {a b : Int64} (h1 : -2 ^ 63 ≤ a.toInt * b.toInt) (h2 : a.toInt * b.toInt < 2 ^ 63) : (a * b).toInt = a.toInt * b.toInt := by
  rw [Int64.toInt_mul, Int.bmod_eq_of_le_mul_two] <;> omega
theorem ng_i {a : Int64} (h1 : -2 ^ 63 < a.toInt) : (-a).toInt = -a.toInt := by
  have := a.toInt_lt
  rw [Int64.toInt_neg, Int.bmod_eq_of_le_mul_two] <;> omega
theorem rg_i (a : Int64) : -2 ^ 63 ≤ a.toInt ∧ a.toInt < 2 ^ 63 := ⟨Int64.le_toInt a, Int64.toInt_lt a⟩
theorem ab_li {a : Int64} (h1 : -2 ^ 63 < a.toInt) : (ab_l a).toInt = a.toInt.natAbs := by
  unfold ab_l
  have e0 : (0 : Int64).toInt = 0 := rfl
  split
  · rename_i h; rw [Int64.lt_iff_toInt_lt, e0] at h; omega
  · rename_i h; rw [Int64.lt_iff_toInt_lt, e0] at h; rw [ng_i h1]; omega
theorem on_i : ∀ k : Fin 63, ((1 : Int64) <<< ((nI k.val).toInt64 &&& 63)).toInt = 2 ^ k.val := by decide
theorem up_bi {a : Int64} {k : Nat} (hk : k < 63) (h0 : 0 ≤ a.toInt) (h1 : a.toInt + 2 ^ k ≤ 2 ^ 63) : (up_b a (nI k)).toInt = (a.toInt + 2 ^ k - 1) / 2 ^ k := by
  have e1 := on_i ⟨k, hk⟩
  dsimp only at e1
  have p1 : (0 : Int) < 2 ^ k := Int.pow_pos (by decide)
  have p2 : (2 : Int) ^ k ≤ 2 ^ 62 := by
    have := Nat.pow_le_pow_right (n := 2) (by decide) (show k ≤ 62 by omega)
    exact_mod_cast this
  have e2 : (1 : Int64).toInt = 1 := rfl
  unfold up_b
  rw [sr_i (by omega)]
  by_cases hb : a.toInt + 2 ^ k = 2 ^ 63
  · have : (a + (1 : Int64) <<< ((nI k).toInt64 &&& 63)).toInt = -2 ^ 63 := by
      rw [Int64.toInt_add, e1, hb]; decide
    rw [Int64.toInt_sub, this, e2, hb]
    congr 1
  · have e3 : (a + (1 : Int64) <<< ((nI k).toInt64 &&& 63)).toInt = a.toInt + 2 ^ k := by
      rw [ad_i] <;> rw [e1] <;> omega
    rw [sb_i, e3, e2] <;> rw [e3, e2] <;> omega
theorem sL_i {a : Int64} {k : Nat} (hk : k < 64) : a <<< ((nI k).toInt64 &&& 63) = a * (1 : Int64) <<< ((nI k).toInt64 &&& 63) := by
  have h := mk_63 ⟨k, hk⟩
  dsimp only at h
  rw [← Int64.toBitVec_inj, Int64.toBitVec_mul, Int64.toBitVec_shiftLeft, Int64.toBitVec_shiftLeft, h]
  rw [BitVec.shiftLeft_eq', BitVec.shiftLeft_eq', BitVec.toNat_ofNat, Nat.mod_eq_of_lt (by omega), BitVec.shiftLeft_eq_mul_twoPow, BitVec.shiftLeft_eq_mul_twoPow]
  show _ = a.toBitVec * (1#64 * BitVec.twoPow 64 k)
  rw [BitVec.one_mul]
theorem sh_li {a : Int64} {k : Nat} (hk : k < 63) (h1 : -2 ^ 63 ≤ a.toInt * 2 ^ k) (h2 : a.toInt * 2 ^ k < 2 ^ 63) : (a <<< ((nI k).toInt64 &&& 63)).toInt = a.toInt * 2 ^ k := by
  have e1 := on_i ⟨k, hk⟩
  dsimp only at e1
  rw [sL_i (by omega), mu_i, e1] <;> rw [e1] <;> assumption

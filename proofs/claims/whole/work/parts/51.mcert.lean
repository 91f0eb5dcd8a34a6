theorem nu_ab {v : Int32} (h : nu_i v = true) : v.toInt.natAbs ≤ 32767 := by
  unfold nu_i at h
  simp only [Bool.and_eq_true, Bool.not_eq_true', decide_eq_false_iff_not, Int32.lt_iff_toInt_lt] at h
  have e1 : (-32767 : Int32).toInt = -32767 := by decide
  have e2 : (nI 32767).toInt = 32767 := by decide
  rw [e1, e2] at h
  omega
theorem i32_0 : (0 : Int32).toInt = 0 := rfl
theorem ab_ii {v : Int32} (h : v.toInt.natAbs ≤ 32767) : (ab_i v).toInt = v.toInt.natAbs := by
  unfold ab_i
  split
  · rename_i h1; rw [Int32.le_iff_toInt_le, i32_0] at h1; omega
  · rename_i h1; rw [Int32.le_iff_toInt_le, i32_0] at h1
    rw [Int32.toInt_sub, i32_0, Int.bmod_eq_of_le_mul_two] <;> omega
theorem ab_l32 {v : Int32} (h : v.toInt.natAbs ≤ 32767) : (ab_l v.toInt64).toInt = v.toInt.natAbs := by
  rw [ab_li] <;> rw [Int32.toInt_toInt64]
  omega
theorem sa_i {c1 c2 : Int32} (h1 : c1.toInt.natAbs ≤ 32767) (h2 : c2.toInt.natAbs ≤ 32767) : ((ab_i c1 + ab_i c2).toInt64).toInt = c1.toInt.natAbs + c2.toInt.natAbs := by
  have e1 := ab_ii h1
  have e2 := ab_ii h2
  rw [Int32.toInt_toInt64, Int32.toInt_add, Int.bmod_eq_of_le_mul_two] <;> omega
theorem sb_3 {b0 b1 b2 : Int32} (h0 : b0.toInt.natAbs ≤ 32767) (h1 : b1.toInt.natAbs ≤ 32767) (h2 : b2.toInt.natAbs ≤ 32767) : ((ab_i b0 + ab_i b1 + ab_i b2).toInt64).toInt = b0.toInt.natAbs + b1.toInt.natAbs + b2.toInt.natAbs := by
  have e0 := ab_ii h0
  have e1 := ab_ii h1
  have e2 := ab_ii h2
  have e3 : (ab_i b0 + ab_i b1).toInt = b0.toInt.natAbs + b1.toInt.natAbs := by rw [Int32.toInt_add, Int.bmod_eq_of_le_mul_two] <;> omega
  rw [Int32.toInt_toInt64, Int32.toInt_add, Int.bmod_eq_of_le_mul_two] <;> omega
theorem sa_l {c1 c2 : Int32} (h1 : c1.toInt.natAbs ≤ 32767) (h2 : c2.toInt.natAbs ≤ 32767) : ab_l c1.toInt64 + ab_l c2.toInt64 = (ab_i c1 + ab_i c2).toInt64 := by
  have e1 := ab_l32 h1
  have e2 := ab_l32 h2
  rw [i64_eq, sa_i h1 h2, ad_i] <;> omega
theorem sb_l {b0 b1 b2 : Int32} (h0 : b0.toInt.natAbs ≤ 32767) (h1 : b1.toInt.natAbs ≤ 32767) (h2 : b2.toInt.natAbs ≤ 32767) : ab_l b0.toInt64 + ab_l b1.toInt64 + ab_l b2.toInt64 = (ab_i b0 + ab_i b1 + ab_i b2).toInt64 := by
  have e0 := ab_l32 h0
  have e1 := ab_l32 h1
  have e2 := ab_l32 h2
  have e3 : (ab_l b0.toInt64 + ab_l b1.toInt64).toInt = b0.toInt.natAbs + b1.toInt.natAbs := by rw [ad_i] <;> omega
  rw [i64_eq, sb_3 h0 h1 h2, ad_i] <;> omega
theorem dv_i {R : Int64} (h0 : 0 ≤ R.toInt) (h1 : R.toInt ≤ 2 ^ 31) : (dv_e R).toInt = (4294967296 - R.toInt) / 65536 := by
  have e0 : (4294967296 : Int64).toInt = 4294967296 := rfl
  unfold dv_e
  rw [sr_i (by omega), sb_i] <;> rw [e0]
  · rfl
  · omega
  · omega
theorem dv_q {R : Int64} (h0 : 0 ≤ R.toInt) (h1 : R.toInt ≤ 2 ^ 31) : (4294967296 - R) / 65536 = dv_e R := by
  have e0 : (4294967296 : Int64).toInt = 4294967296 := rfl
  have e1 : (65536 : Int64).toInt = 65536 := rfl
  have e2 : (4294967296 - R).toInt = 4294967296 - R.toInt := by rw [sb_i] <;> rw [e0] <;> omega
  rw [i64_eq, dv_i h0 h1, Int64.toInt_div, e2, e1, Int.tdiv_eq_ediv_of_nonneg (by omega), Int.bmod_eq_of_le_mul_two] <;> omega
theorem no_i {S R : Int64} (hS0 : 0 ≤ S.toInt) (hS1 : S.toInt ≤ 2 ^ 46) (h0 : 0 ≤ R.toInt) (h1 : R.toInt ≤ 2 ^ 31) : (no_e S R).toInt = (S.toInt * 65536 + (4294967296 - R.toInt) / 65536 - 1) / ((4294967296 - R.toInt) / 65536) := by
  have e1 := dv_i h0 h1
  have p : 0 < dv_e R := by rw [Int64.lt_iff_toInt_lt, e1, i64_0]; omega
  unfold no_e
  rw [if_pos p]
  have e2 : (S <<< ((nI 16).toInt64 &&& 63)).toInt = S.toInt * 65536 := by rw [sh_li] <;> omega
  generalize S <<< ((nI 16).toInt64 &&& 63) = T at e2 ⊢
  have e3 : (T + dv_e R).toInt = S.toInt * 65536 + (4294967296 - R.toInt) / 65536 := by rw [ad_i] <;> omega
  have e4 : (T + dv_e R - 1).toInt = S.toInt * 65536 + (4294967296 - R.toInt) / 65536 - 1 := by rw [sb_i] <;> rw [e3, i64_1] <;> omega
  have hq : (0 : Int) ≤ (S.toInt * 65536 + (4294967296 - R.toInt) / 65536 - 1) / ((4294967296 - R.toInt) / 65536) := Int.ediv_nonneg (by omega) (by omega)
  have hq2 : (S.toInt * 65536 + (4294967296 - R.toInt) / 65536 - 1) / ((4294967296 - R.toInt) / 65536) ≤ S.toInt * 65536 + (4294967296 - R.toInt) / 65536 - 1 := Int.ediv_le_self _ (by omega)
  rw [Int64.toInt_div, e4, e1, Int.tdiv_eq_ediv_of_nonneg (by omega), Int.bmod_eq_of_le_mul_two] <;> omega
theorem no_q {S R : Int64} (hS0 : 0 ≤ S.toInt) (hS1 : S.toInt ≤ 2 ^ 46) (h0 : 0 ≤ R.toInt) (h1 : R.toInt ≤ 2 ^ 31) : ru_p (S * 65536) (dv_e R) = no_e S R := by
  have e0 : (65536 : Int64).toInt = 65536 := rfl
  have e1 : (S * 65536).toInt = S.toInt * 65536 := by rw [mu_i] <;> rw [e0] <;> omega
  have e2 := dv_i h0 h1
  rw [i64_eq, no_i hS0 hS1 h0 h1, ru_i (by omega) (by omega), e1, e2]
theorem no_nn {S R : Int64} (hS0 : 0 ≤ S.toInt) (hS1 : S.toInt ≤ 2 ^ 46) (h0 : 0 ≤ R.toInt) (h1 : R.toInt ≤ 2 ^ 31) : 0 ≤ (no_e S R).toInt := by
  rw [no_i hS0 hS1 h0 h1]
  exact Int.ediv_nonneg (by omega) (by omega)
theorem ga_q {sb N : Int64} (h0 : 0 ≤ sb.toInt) (h1 : sb.toInt ≤ 98301) (h2 : 0 ≤ N.toInt) (h3 : N.toInt ≤ 2 ^ 44) : ru_p (sb * N) 16384 = up_b (sb * N) (nI 14) ∧ (sb * N).toInt = sb.toInt * N.toInt ∧ 0 ≤ sb.toInt * N.toInt ∧ sb.toInt * N.toInt ≤ 98301 * 2 ^ 44 := by
  have p0 : 0 ≤ sb.toInt * N.toInt := Int.mul_nonneg h0 h2
  have p1 : sb.toInt * N.toInt ≤ 98301 * 2 ^ 44 := by
    have := mb_i (x := sb.toInt) (y := N.toInt) (A := 98301) (B := 2 ^ 44) (by omega) (by omega)
    omega
  have e : (sb * N).toInt = sb.toInt * N.toInt := mu_i (by omega) (by omega)
  exact ⟨ru_b (by omega) (by omega) (by omega) rfl, e, p0, p1⟩
theorem mx_i (x y : Int64) : (mx_l x y).toInt = max x.toInt y.toInt := by
  unfold mx_l
  split
  · rename_i h; rw [Int64.lt_iff_toInt_lt] at h; omega
  · rename_i h; rw [Int64.lt_iff_toInt_lt] at h; omega
/-- what a certificate is: M and what comes of it -/
def oi_m (M : Option Nat) : Int32 := match M with
  | none => -1
  | some n => nI n
theorem ce_ok {a1 a2 : Int64} : ∀ k n M, ce_e a1 a2 k n = some M → (n ≤ M ∧ M < n + k) ∧ 2 ≤ M ∧ (∀ j, n ≤ j → j ≤ M → (en_e a1 a2 j).2.2.2.1 ≤ 70368744177664) ∧ mx_l (en_e a1 a2 M).2.2.2.2.2.1 (en_e a1 a2 M).2.2.2.2.2.2.1 ≤ 2147483648 := by
  intro k
  induction k with
  | zero => intro n M h; cases h
  | succ k ih =>
    intro n M h
    rw [ce_e] at h
    by_cases hc : (en_e a1 a2 n).2.2.2.1 ≤ 70368744177664
    · rw [if_pos hc] at h
      by_cases hM : 2 ≤ n ∧ mx_l (en_e a1 a2 n).2.2.2.2.2.1 (en_e a1 a2 n).2.2.2.2.2.2.1 ≤ 2147483648
      · rw [if_pos hM] at h
        cases h
        refine ⟨by omega, hM.1, fun j h1 h2 => ?_, hM.2⟩
        have : j = n := by omega
        rw [this]; exact hc
      · rw [if_neg hM] at h
        obtain ⟨h1, h2, h3, h4⟩ := ih (n + 1) M h
        refine ⟨by omega, h2, fun j g1 g2 => ?_, h4⟩
        by_cases hj : j = n
        · rw [hj]; exact hc
        · exact h3 j (by omega) g2
    · rw [if_neg hc] at h
      cases h

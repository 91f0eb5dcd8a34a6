/-- the value of limbs -/
def vz_i (a : Nat → Int) : Nat → Int
  | 0 => 0
  | n + 1 => vz_i a n + a n * 16384 ^ n
theorem vz_cg {a a' : Nat → Int} : ∀ n, (∀ i, i < n → a i = a' i) → vz_i a n = vz_i a' n
  | 0, _ => rfl
  | n + 1, h => by rw [vz_i, vz_i, vz_cg n (fun i hi => h i (by omega)), h n (by omega)]
theorem vz_ad {a b : Nat → Int} : ∀ n, vz_i (fun i => a i + b i) n = vz_i a n + vz_i b n
  | 0 => rfl
  | n + 1 => by simp only [vz_i]; rw [vz_ad n]; grind
theorem vz_mu {a : Nat → Int} {c : Int} : ∀ n, vz_i (fun i => c * a i) n = c * vz_i a n
  | 0 => by simp only [vz_i]; grind
  | n + 1 => by simp only [vz_i]; rw [vz_mu n]; grind
theorem d_pos (n : Nat) : (0 : Int) < 16384 ^ n := Int.pow_pos (by decide)
theorem d_suc (n : Nat) : (16384 : Int) ^ (n + 1) = 16384 ^ n * 16384 := Int.pow_succ 16384 n
/-- the carry into limb i is what lies below it -/
theorem cy_ed (a : Nat → Int) (i : Nat) : (a i + vz_i a i / 16384 ^ i) / 16384 = vz_i a (i + 1) / 16384 ^ (i + 1) := by
  have p := d_pos i
  rw [vz_i, d_suc, ← Int.ediv_ediv_of_nonneg (by omega)]
  congr 1
  rw [Int.add_mul_ediv_right _ _ (by omega)]
  omega
theorem cy_dg (a : Nat → Int) (i : Nat) : (a i + vz_i a i / 16384 ^ i) % 16384 = vz_i a (i + 1) / 16384 ^ i % 16384 := by
  have p := d_pos i
  rw [vz_i]
  congr 1
  rw [Int.add_mul_ediv_right _ _ (by omega)]
  omega
/-- the digit depends on what lies up to it alone -/
theorem dg_md {V X z : Int} {i : Nat} (h : V = X + 16384 ^ (i + 1) * z) : V / 16384 ^ i % 16384 = X / 16384 ^ i % 16384 := by
  have p := d_pos i
  have e : V = X + (16384 * z) * 16384 ^ i := by rw [h, d_suc]; grind
  rw [e, Int.add_mul_ediv_right _ _ (by omega), Int.add_mul_emod_self_left]
theorem vz_sp (a : Nat → Int) (i : Nat) : ∀ k, ∃ z, vz_i a (i + k) = vz_i a i + 16384 ^ i * z
  | 0 => ⟨0, by simp⟩
  | k + 1 => by
    obtain ⟨z, h⟩ := vz_sp a i k
    refine ⟨z + a (i + k) * 16384 ^ k, ?_⟩
    show vz_i a (i + k) + a (i + k) * 16384 ^ (i + k) = _
    rw [h, Int.pow_add]
    grind
/-- the digits of a number -/
theorem vz_dg (X : Int) : ∀ n, vz_i (fun i => X / 16384 ^ i % 16384) n = X % 16384 ^ n
  | 0 => by simp only [vz_i]; omega
  | n + 1 => by
    have p := d_pos n
    have q := d_pos (n + 1)
    rw [vz_i, vz_dg X n]
    have e1 := Int.mul_ediv_add_emod X (16384 ^ n)
    have e2 := Int.mul_ediv_add_emod (X / 16384 ^ n) 16384
    have h0 := Int.emod_nonneg X (show (16384 : Int) ^ n ≠ 0 by omega)
    have h1 := Int.emod_lt_of_pos X p
    have h2 := Int.emod_nonneg (X / 16384 ^ n) (show (16384 : Int) ≠ 0 by omega)
    have h3 := Int.emod_lt_of_pos (X / 16384 ^ n) (show (0 : Int) < 16384 by omega)
    generalize X / 16384 ^ n = Q at *
    generalize X % 16384 ^ n = R at *
    generalize Q % 16384 = d at *
    have hX : X = (R + d * 16384 ^ n) + 16384 ^ (n + 1) * (Q / 16384) := by
      rw [d_suc, ← e1, ← e2]
      have : (16384 * (Q / 16384) + d) / 16384 = Q / 16384 := by omega
      rw [this]
      grind
    rw [hX, Int.add_mul_emod_self_left]
    have hd : d * 16384 ^ n ≤ 16383 * 16384 ^ n := Int.mul_le_mul_of_nonneg_right (by omega) (by omega)
    have hd0 : 0 ≤ d * 16384 ^ n := Int.mul_nonneg h2 (by omega)
    rw [d_suc]
    rw [Int.emod_eq_of_lt (by omega) (by omega)]
/-- 66 limbs of a number: the last one bears the sign -/
def lz_i (X : Int) (i : Nat) : Int := if i < 65 then X / 16384 ^ i % 16384 else X / 16384 ^ 65
theorem vz_65 (a : Nat → Int) (E : Int) (h : (16384 : Int) ^ 65 = E) : vz_i a 66 = vz_i a 65 + a 65 * E := by rw [← h]; rfl
theorem vz_64 (a : Nat → Int) (E : Int) (h : (16384 : Int) ^ 64 = E) : vz_i a 65 = vz_i a 64 + a 64 * E := by rw [← h]; rfl
theorem vz_lz (X : Int) : vz_i (lz_i X) 66 = X := by
  have h1 : vz_i (lz_i X) 65 = vz_i (fun i => X / 16384 ^ i % 16384) 65 := vz_cg 65 (fun i hi => if_pos hi)
  have h2 : lz_i X 65 = X / 16384 ^ 65 := if_neg (by omega)
  have h3 := Int.mul_ediv_add_emod X (16384 ^ 65)
  rw [vz_dg] at h1
  generalize hE : (16384 : Int) ^ 65 = E at *
  rw [vz_65 _ E hE, h1, h2, Int.mul_comm]
  omega
/-- one limb higher -/
def sz_i (h : Nat → Int) (i : Nat) : Int := if i = 0 then 0 else if i < 65 then h (i - 1) else h 64 + 16384 * h 65
theorem vz_sz (h : Nat → Int) : vz_i (sz_i h) 66 = 16384 * vz_i h 66 := by
  have key : ∀ n, n ≤ 64 → vz_i (sz_i h) (n + 1) = 16384 * vz_i h n := by
    intro n
    induction n with
    | zero => intro _; simp only [vz_i, sz_i]; simp
    | succ n ih =>
      intro hn
      rw [vz_i, ih (by omega), vz_i]
      have : sz_i h (n + 1) = h n := by unfold sz_i; rw [if_neg (by omega), if_pos (by omega)]; rfl
      rw [this, d_suc]
      grind
  have k64 := key 64 (by omega)
  have h65 : sz_i h 65 = h 64 + 16384 * h 65 := by unfold sz_i; rw [if_neg (by omega), if_neg (by omega)]
  have hs := d_suc 64
  generalize hE : (16384 : Int) ^ 64 = E at hs
  rw [vz_65 _ _ hs, vz_65 _ _ hs, vz_64 h E hE, k64, h65]
  clear key hs hE k64
  grind
theorem lz_sg {X : Int} (h1 : -(16384 ^ 65) ≤ X) (h2 : X < 16384 ^ 65) : lz_i X 65 = if X < 0 then -1 else 0 := by
  have p := d_pos 65
  have : lz_i X 65 = X / 16384 ^ 65 := if_neg (by omega)
  rw [this]
  split
  · have e : X = (X + 16384 ^ 65) + (-1) * 16384 ^ 65 := by omega
    rw [e, Int.add_mul_ediv_right _ _ (by omega), Int.ediv_eq_zero_of_lt (by omega) (by omega)]
    rfl
  · exact Int.ediv_eq_zero_of_lt (by omega) h2
theorem lz_bd {X : Int} (h1 : -(16384 ^ 65) ≤ X) (h2 : X < 16384 ^ 65) {i : Nat} (hi : i < 66) : -1 ≤ lz_i X i ∧ lz_i X i ≤ 16383 := by
  by_cases h : i < 65
  · have e : lz_i X i = X / 16384 ^ i % 16384 := if_pos h
    omega
  · have : i = 65 := by omega
    subst this
    rw [lz_sg h1 h2]
    split <;> omega

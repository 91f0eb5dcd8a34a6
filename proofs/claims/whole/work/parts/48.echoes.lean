theorem mb_i {x y : Int} {A B : Nat} (hx : x.natAbs ≤ A) (hy : y.natAbs ≤ B) : (x * y).natAbs ≤ A * B := by rw [Int.natAbs_mul]; exact Nat.mul_le_mul hx hy
/-- how great the echoes are at n, while u is not too great -/
def eb_e (n : Nat) (x : E8) : Prop := x.1.toInt.natAbs ≤ 2 ^ 46 ∧ x.2.1.toInt.natAbs ≤ 2 ^ 46 ∧ (0 ≤ x.2.2.1.toInt ∧ x.2.2.1.toInt ≤ 2 ^ 46) ∧ (0 ≤ x.2.2.2.1.toInt ∧ x.2.2.2.1.toInt ≤ 2 ^ 46) ∧ (0 ≤ x.2.2.2.2.1.toInt ∧ x.2.2.2.2.1.toInt ≤ n * 2 ^ 46) ∧ (0 ≤ x.2.2.2.2.2.1.toInt ∧ x.2.2.2.2.2.1.toInt ≤ 2 ^ 48) ∧ (0 ≤ x.2.2.2.2.2.2.1.toInt ∧ x.2.2.2.2.2.2.1.toInt ≤ 2 ^ 48) ∧ (0 ≤ x.2.2.2.2.2.2.2.toInt ∧ x.2.2.2.2.2.2.2.toInt ≤ n * 2 ^ 48)
theorem go_i {a1 a2 : Int64} {x : E8} {n : Nat} (h1 : a1.toInt.natAbs ≤ 32767) (h2 : a2.toInt.natAbs ≤ 32767) (hn : n ≤ 1000) (h : eb_e n x) :
    (go_e a1 a2 x).1.toInt = (-a1.toInt * x.1.toInt - a2.toInt * x.2.1.toInt) / 16384 ∧ (-a1.toInt * x.1.toInt - a2.toInt * x.2.1.toInt).natAbs ≤ 2 ^ 62 ∧ (go_e a1 a2 x).2.1 = x.1 ∧ (go_e a1 a2 x).2.2.1.toInt = 1 + (x.2.2.2.2.1.toInt + x.2.2.2.1.toInt) / 4294967296 ∧ (go_e a1 a2 x).2.2.2.1.toInt = (go_e a1 a2 x).1.toInt.natAbs + (go_e a1 a2 x).2.2.1.toInt ∧
    (go_e a1 a2 x).2.2.2.2.1.toInt = x.2.2.2.2.1.toInt + x.2.2.2.1.toInt ∧ (go_e a1 a2 x).2.2.2.2.2.1.toInt = (go_e a1 a2 x).2.2.2.1.toInt + (a2.toInt.natAbs * x.2.2.2.1.toInt + 16383) / 16384 ∧ (go_e a1 a2 x).2.2.2.2.2.2.1 = x.2.2.2.2.2.1 ∧ (go_e a1 a2 x).2.2.2.2.2.2.2.toInt = x.2.2.2.2.2.2.2.toInt + x.2.2.2.2.2.1.toInt ∧ 0 ≤ (a2.toInt.natAbs : Int) * x.2.2.2.1.toInt ∧ (a2.toInt.natAbs : Int) * x.2.2.2.1.toInt ≤ 2 ^ 61 := by
  obtain ⟨e, eb, s, u, us, r, rb, rs⟩ := x
  obtain ⟨b1, b2, b3, b4, b5, b6, b7, b8⟩ := h
  dsimp only at b1 b2 b3 b4 b5 b6 b7 b8 ⊢
  unfold go_e
  dsimp only
  have p1 := mb_i h1 b1
  have p2 := mb_i h2 b2
  have q1 : (-a1 * e).toInt = -a1.toInt * e.toInt := by
    have := ng_i (a := a1) (by omega)
    rw [mu_i] <;> rw [this, Int.neg_mul] <;> omega
  have q2 : (a2 * eb).toInt = a2.toInt * eb.toInt := mu_i (by omega) (by omega)
  have hneg := Int.neg_mul a1.toInt e.toInt
  have q3 : (-a1 * e - a2 * eb).toInt = -a1.toInt * e.toInt - a2.toInt * eb.toInt := by rw [sb_i] <;> rw [q1, q2] <;> omega
  have q4 : ((-a1 * e - a2 * eb) >>> ((nI 14).toInt64 &&& 63)).toInt = (-a1.toInt * e.toInt - a2.toInt * eb.toInt) / 16384 := by rw [sr_i (by omega), q3]; rfl
  have q5 : (us + u).toInt = us.toInt + u.toInt := ad_i (by omega) (by omega)
  have q6 : ((us + u) >>> ((nI 32).toInt64 &&& 63)).toInt = (us.toInt + u.toInt) / 4294967296 := by rw [sr_i (by omega), q5]; rfl
  have q7 : (1 + (us + u) >>> ((nI 32).toInt64 &&& 63)).toInt = 1 + (us.toInt + u.toInt) / 4294967296 := by rw [ad_i] <;> rw [q6, i64_1] <;> omega
  generalize (-a1 * e - a2 * eb) >>> ((nI 14).toInt64 &&& 63) = E at q4 ⊢
  generalize 1 + (us + u) >>> ((nI 32).toInt64 &&& 63) = s' at q7 ⊢
  have q8 := ab_li (a := E) (by omega)
  have q9 : (ab_l E + s').toInt = E.toInt.natAbs + s'.toInt := by rw [ad_i] <;> rw [q8] <;> omega
  have q10 := ab_li (a := a2) (by omega)
  have p3 : a2.toInt.natAbs * u.toInt.natAbs ≤ 32767 * 2 ^ 46 := Nat.mul_le_mul h2 (by omega)
  have p4 : (a2.toInt.natAbs : Int) * u.toInt = ((a2.toInt.natAbs * u.toInt.natAbs : Nat) : Int) := by
    rw [Int.natCast_mul, Int.natAbs_of_nonneg b4.1]
  have q11 : (ab_l a2 * u).toInt = a2.toInt.natAbs * u.toInt := by rw [mu_i] <;> rw [q10, p4] <;> omega
  have q12 : (up_b (ab_l a2 * u) (nI 14)).toInt = (a2.toInt.natAbs * u.toInt + 16383) / 16384 := by
    rw [up_bi (by omega), q11]
    · show (a2.toInt.natAbs * u.toInt + 16384 - 1) / 16384 = _
      congr 1
      omega
    · rw [q11, p4]; omega
    · rw [q11, p4]; omega
  have q13 : (ab_l E + s' + up_b (ab_l a2 * u) (nI 14)).toInt = (ab_l E + s').toInt + (a2.toInt.natAbs * u.toInt + 16383) / 16384 := by rw [ad_i, q12] <;> rw [q12, q9, p4] <;> omega
  exact ⟨q4, by omega, rfl, q7, q9, q5, q13, rfl, ad_i (by omega) (by omega), by rw [p4]; omega, by rw [p4]; omega⟩
theorem en_b {a1 a2 : Int64} (h1 : a1.toInt.natAbs ≤ 32767) (h2 : a2.toInt.natAbs ≤ 32767) : ∀ n, n ≤ 1000 → (∀ j, j ≤ n → (en_e a1 a2 j).2.2.2.1 ≤ 70368744177664) → eb_e n (en_e a1 a2 n) := by
  intro n
  induction n with
  | zero => intro _ _; show eb_e 0 (4294967296, 0, 0, 4294967296, 0, 4294967296, 0, 0); exact ⟨by decide, by decide, by decide, by decide, by decide, by decide, by decide, by decide⟩
  | succ n ih =>
    intro hn hu
    have hi := ih (by omega) (fun j hj => hu j (by omega))
    have hg := go_i h1 h2 (by omega) hi
    have hu1 := hu (n + 1) (Nat.le_refl _)
    rw [Int64.le_iff_toInt_le] at hu1
    have e0 : (70368744177664 : Int64).toInt = 70368744177664 := rfl
    rw [e0] at hu1
    have hd : en_e a1 a2 (n + 1) = go_e a1 a2 (en_e a1 a2 n) := rfl
    rw [hd] at hu1 ⊢
    generalize en_e a1 a2 n = x at hi hg hu1
    generalize go_e a1 a2 x = y at hg hu1
    obtain ⟨e, eb, s, u, us, r, rb, rs⟩ := x
    obtain ⟨e', eb', s', u', us', r', rb', rs'⟩ := y
    obtain ⟨b1, b2, b3, b4, b5, b6, b7, b8⟩ := hi
    dsimp only at *
    obtain ⟨g1, g2, rfl, g4, g5, g6, g7, rfl, g9, g10, g11⟩ := hg
    refine ⟨?_, b1, ?_, ?_, ?_, ?_, b6, ?_⟩ <;> dsimp only <;> omega
/-- the first n at which u is too great, or all are well -/
def al_e (a1 a2 : Int64) (n : Nat) : Prop := ∀ j, j ≤ n → (en_e a1 a2 j).2.2.2.1 ≤ 70368744177664
theorem fn_al {a1 a2 : Int64} : ∀ k i, (∀ j, j < i → (en_e a1 a2 j).2.2.2.1 ≤ 70368744177664) → ((en_e a1 a2 (fn_e a1 a2 k i)).2.2.2.1 ≤ 70368744177664 ↔ al_e a1 a2 (i + k)) ∧ (al_e a1 a2 (i + k) → fn_e a1 a2 k i = i + k) := by
  intro k
  induction k with
  | zero =>
    intro i hi
    refine ⟨⟨fun h j hj => ?_, fun h => h i (by omega)⟩, fun _ => rfl⟩
    by_cases hji : j = i
    · rw [hji]; exact h
    · exact hi j (by omega)
  | succ k ih =>
    intro i hi
    rw [fn_e]
    by_cases hc : (en_e a1 a2 i).2.2.2.1 ≤ 70368744177664
    · rw [if_pos hc, show i + (k + 1) = (i + 1) + k by omega]
      refine ih (i + 1) (fun j hj => ?_)
      by_cases hji : j = i
      · rw [hji]; exact hc
      · exact hi j (by omega)
    · rw [if_neg hc]
      exact ⟨⟨fun h => absurd h hc, fun h => absurd (h i (by omega)) hc⟩, fun h => absurd (h i (by omega)) hc⟩

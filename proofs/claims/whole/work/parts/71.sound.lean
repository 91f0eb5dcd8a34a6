theorem q_16 : ((16384 : Int) : Rat) = 16384 := rfl
theorem q_32 : ((4294967296 : Int) : Rat) = 4294967296 := rfl
theorem q_31 : ((2147483648 : Int) : Rat) = 2147483648 := rfl
theorem q_0 : ((0 : Int) : Rat) = 0 := rfl
theorem hf_q {h1 h0 q u1 u0 r1 a : Rat} (k1 : h1 * 4294967296 ≤ u1) (k4 : q * (h0 * 4294967296) ≤ q * u0) (k3 : a * u0 ≤ 16384 * (r1 - u1)) (k2 : r1 ≤ 2147483648) (k5 : q * 16384 = a) : h1 + q * h0 ≤ 1 / 2 := by
  have e1 : a * u0 = 16384 * (q * u0) := by rw [← k5]; grind
  have e2 : q * (h0 * 4294967296) = 4294967296 * (q * h0) := by grind
  rw [e1] at k3
  rw [e2] at k4
  generalize q * u0 = v at *
  generalize q * h0 = w at *
  clear e1 e2 k5
  grind
theorem hg_q {a b c d : Rat} (h1 : a ≤ 2 * b) (h2 : b * 4294967296 ≤ c) (h3 : c ≤ d) : a * 4294967296 ≤ 2 * d := by grind
theorem ec_u {a1 a2 : Int} {e u s us : Nat → Int} {M : Nat} (he0 : e 0 = 4294967296) (hu0 : u 0 = 4294967296) (hus0 : us 0 = 0) (he1 : 0 < M → e 1 = (-a1 * e 0) / 16384) (he : ∀ n, n + 1 < M → e (n + 2) = (-a1 * e (n + 1) - a2 * e n) / 16384) (hus : ∀ n, n < M → us (n + 1) = us n + u n) (hs : ∀ n, n < M → s (n + 1) = 1 + us (n + 1) / 4294967296) (hu : ∀ n, n < M → u (n + 1) = (e (n + 1)).natAbs + s (n + 1)) :
    ∀ n, n ≤ M → (∀ j, j ≤ n → ra_q (hx_q (-(a1 : Rat) / 16384) (-(a2 : Rat) / 16384) j) * 4294967296 ≤ (u j : Rat)) ∧ sm_q (fun k => ra_q (hx_q (-(a1 : Rat) / 16384) (-(a2 : Rat) / 16384) k)) n * 4294967296 ≤ (us n : Rat) := by
  generalize hp : -(a1 : Rat) / 16384 = p
  generalize hq : -(a2 : Rat) / 16384 = q
  have hf1 : 0 < M → 0 ≤ p * (e 0 : Rat) - e 1 ∧ p * (e 0 : Rat) - e 1 ≤ 1 := by
    intro h
    have h1 := he1 h
    have k1 : 16384 * e 1 ≤ -a1 * e 0 := by omega
    have k2 : -a1 * e 0 ≤ 16384 * e 1 + 16384 := by omega
    have k1' : (16384 : Rat) * e 1 ≤ -(a1 : Rat) * e 0 := by have := Rat.intCast_le_intCast.mpr k1; simp only [Rat.intCast_mul, Rat.intCast_sub, Rat.intCast_neg, Rat.intCast_add, q_16] at this; exact this
    have k2' : -(a1 : Rat) * e 0 ≤ 16384 * e 1 + 16384 := by have := Rat.intCast_le_intCast.mpr k2; simp only [Rat.intCast_mul, Rat.intCast_sub, Rat.intCast_neg, Rat.intCast_add, q_16] at this; exact this
    rw [← hp]
    constructor <;> grind
  have hf2 : ∀ n, n + 1 < M → 0 ≤ p * (e (n + 1) : Rat) + q * e n - e (n + 2) ∧ p * (e (n + 1) : Rat) + q * e n - e (n + 2) ≤ 1 := by
    intro n h
    have h1 := he n h
    have k1 : 16384 * e (n + 2) ≤ -a1 * e (n + 1) - a2 * e n := by omega
    have k2 : -a1 * e (n + 1) - a2 * e n ≤ 16384 * e (n + 2) + 16384 := by omega
    have k1' : (16384 : Rat) * e (n + 2) ≤ -(a1 : Rat) * e (n + 1) - a2 * e n := by have := Rat.intCast_le_intCast.mpr k1; simp only [Rat.intCast_mul, Rat.intCast_sub, Rat.intCast_neg, Rat.intCast_add, q_16] at this; exact this
    have k2' : -(a1 : Rat) * e (n + 1) - a2 * e n ≤ 16384 * e (n + 2) + 16384 := by have := Rat.intCast_le_intCast.mpr k2; simp only [Rat.intCast_mul, Rat.intCast_sub, Rat.intCast_neg, Rat.intCast_add, q_16] at this; exact this
    rw [← hp, ← hq]
    constructor <;> grind
  intro n
  induction n with
  | zero =>
    intro _
    refine ⟨fun j hj => ?_, ?_⟩
    · have : j = 0 := by omega
      subst this
      rw [hx_q, ra_1, hu0]; grind
    · rw [hus0]; simp only [sm_q]; grind
  | succ n ih =>
    intro hn
    obtain ⟨i1, i2⟩ := ih (by omega)
    have hu' := hus n (by omega)
    have hS : sm_q (fun k => ra_q (hx_q p q k)) (n + 1) * 4294967296 ≤ (us (n + 1) : Rat) := by
      have := i1 n (Nat.le_refl _)
      rw [hu', Rat.intCast_add]
      simp only [sm_q]
      grind
    refine ⟨fun j hj => ?_, hS⟩
    by_cases hj1 : j ≤ n
    · exact i1 j hj1
    · have hj2 : j = n + 1 := by omega
      subst hj2
      have key := cn_eq (p := p) (q := q) (y := fun k => 4294967296 * hx_q p q k - (e k : Rat)) (f := fun k => match k with
        | 0 => 0
        | 1 => p * (e 0 : Rat) - e 1
        | k + 2 => p * (e (k + 1) : Rat) + q * e k - e (k + 2)) (by simp only [hx_q]; rw [he0]; grind) (by simp only [hx_q]; rw [he0]; grind) (by intro k; simp only [hx_q]; grind) (n + 1)
      have k1 := key.1
      rw [cn_q, sm_1] at k1
      have hle := cn_le (p := p) (q := q) (n := n) (B := 1) (f := fun k => match k with
        | 0 => p * (e 0 : Rat) - e 1
        | k + 1 => p * (e (k + 1) : Rat) + q * e k - e (k + 2)) (fun k hk => by
          cases k with
          | zero =>
            obtain ⟨z1, z2⟩ := hf1 (by omega)
            exact ra_lt z2 (by grind)
          | succ k =>
            obtain ⟨z1, z2⟩ := hf2 k (by omega)
            exact ra_lt z2 (by grind))
      have hsame : sm_q (fun k => hx_q p q (n + 1 - (k + 1)) * (match k + 1 with
        | 0 => 0
        | 1 => p * (e 0 : Rat) - e 1
        | k + 2 => p * (e (k + 1) : Rat) + q * e k - e (k + 2))) (n + 1) = cn_q p q (fun k => match k with
        | 0 => p * (e 0 : Rat) - e 1
        | k + 1 => p * (e (k + 1) : Rat) + q * e k - e (k + 2)) n := by
        rw [cn_q]
        refine sm_cg _ (fun k hk => ?_)
        rw [show n + 1 - (k + 1) = n - k by omega]
        cases k with
        | zero => rfl
        | succ k => rfl
      have hsame' := hsame
      generalize cn_q p q (fun k => match k with
        | 0 => p * (e 0 : Rat) - e 1
        | k + 1 => p * (e (k + 1) : Rat) + q * e k - e (k + 2)) n = C at hsame hle
      have k2 : 4294967296 * hx_q p q (n + 1) - (e (n + 1) : Rat) = C := by
        rw [← hsame]
        have : ∀ A B : Rat, hx_q p q (n + 1 - 0) * 0 + A = A := by intro A B; grind
        exact k1.trans (this _ 0)
      have hsn := hs n (by omega)
      have hs2 : us (n + 1) ≤ 4294967296 * s (n + 1) := by omega
      have hs3 : (us (n + 1) : Rat) ≤ 4294967296 * s (n + 1) := by have := Rat.intCast_le_intCast.mpr hs2; simp only [Rat.intCast_mul, q_32] at this; exact this
      have hun := hu n (by omega)
      have a1 : e (n + 1) ≤ u (n + 1) - s (n + 1) := by omega
      have a2 : -e (n + 1) ≤ u (n + 1) - s (n + 1) := by omega
      have a1' : (e (n + 1) : Rat) ≤ u (n + 1) - s (n + 1) := by have := Rat.intCast_le_intCast.mpr a1; simp only [Rat.intCast_sub, Rat.intCast_neg] at this; exact this
      have a2' : -(e (n + 1) : Rat) ≤ u (n + 1) - s (n + 1) := by have := Rat.intCast_le_intCast.mpr a2; simp only [Rat.intCast_sub, Rat.intCast_neg] at this; exact this
      have c1 := ra_le C
      have c2 := ra_ge C
      have hC : ra_q C ≤ s (n + 1) := by grind
      have : ra_q (4294967296 * hx_q p q (n + 1)) ≤ u (n + 1) := ra_lt (by grind) (by grind)
      have e4 : ra_q (4294967296 : Rat) = 4294967296 := by unfold ra_q; rw [if_pos (by grind)]
      rw [ra_mu, e4] at this
      grind
/-- the sizes of all echoes, by a certificate -/
theorem ec_al {a1 a2 : Int} {e u s us r rs : Nat → Int} {M : Nat} (hM : 1 ≤ M) (he0 : e 0 = 4294967296) (hu0 : u 0 = 4294967296) (hus0 : us 0 = 0) (hr0 : r 0 = 4294967296) (hrs0 : rs 0 = 0) (he1 : 0 < M → e 1 = (-a1 * e 0) / 16384) (he : ∀ n, n + 1 < M → e (n + 2) = (-a1 * e (n + 1) - a2 * e n) / 16384) (hus : ∀ n, n < M → us (n + 1) = us n + u n) (hs : ∀ n, n < M → s (n + 1) = 1 + us (n + 1) / 4294967296) (hu : ∀ n, n < M → u (n + 1) = (e (n + 1)).natAbs + s (n + 1)) (hr : ∀ n, n < M → r (n + 1) = u (n + 1) + (a2.natAbs * u n + 16383) / 16384 ∧ 0 ≤ a2.natAbs * u n) (hrs : ∀ n, n < M → rs (n + 1) = rs n + r n) (hrM : r M ≤ 2147483648) (N : Nat) :
    sm_q (fun k => ra_q (hx_q (-(a1 : Rat) / 16384) (-(a2 : Rat) / 16384) k)) N * 4294967296 ≤ 2 * (rs M : Rat) := by
  obtain ⟨k1, k2⟩ := ec_u he0 hu0 hus0 he1 he hus hs hu M (Nat.le_refl _)
  obtain ⟨m, rfl⟩ : ∃ m, M = m + 1 := ⟨M - 1, by omega⟩
  have h1 := k1 (m + 1) (Nat.le_refl _)
  have h2 := k1 m (by omega)
  obtain ⟨r1, r2⟩ := hr m (by omega)
  have h3 : a2.natAbs * u m ≤ 16384 * (r (m + 1) - u (m + 1)) := by omega
  have h3' : ((a2.natAbs : Int) : Rat) * u m ≤ 16384 * ((r (m + 1) : Rat) - u (m + 1)) := by have := Rat.intCast_le_intCast.mpr h3; simp only [Rat.intCast_mul, Rat.intCast_sub, q_16] at this; exact this
  have hrM' : (r (m + 1) : Rat) ≤ 2147483648 := by have := Rat.intCast_le_intCast.mpr hrM; simp only [q_31] at this; exact this
  have ha2 : ra_q (-(a2 : Rat) / 16384) * 16384 = ((a2.natAbs : Int) : Rat) := by
    unfold ra_q
    by_cases hz : 0 ≤ a2
    · have : ((a2.natAbs : Int)) = a2 := by omega
      rw [this]
      have hz' : (0 : Rat) ≤ a2 := by have := Rat.intCast_le_intCast.mpr hz; simp only [q_0] at this; exact this
      split <;> grind
    · have : ((a2.natAbs : Int)) = -a2 := by omega
      rw [this, Rat.intCast_neg]
      have hz' : (a2 : Rat) ≤ 0 := by have := Rat.intCast_le_intCast.mpr (show a2 ≤ 0 by omega); simp only [q_0] at this; exact this
      split <;> grind
  have hRU : ∀ n, n ≤ m + 1 → us n ≤ rs n := by
    intro n
    induction n with
    | zero => intro _; omega
    | succ n ih =>
      intro hn
      have := ih (by omega)
      have a := hus n (by omega)
      have b := hrs n (by omega)
      cases n with
      | zero => omega
      | succ n =>
        obtain ⟨c, d⟩ := hr n (by omega)
        omega
  have hru : (us (m + 1) : Rat) ≤ rs (m + 1) := Rat.intCast_le_intCast.mpr (hRU (m + 1) (Nat.le_refl _))
  generalize -(a1 : Rat) / 16384 = p at *
  generalize -(a2 : Rat) / 16384 = q at *
  have hh : ra_q (hx_q p q (m + 1)) + ra_q q * ra_q (hx_q p q m) ≤ 1 / 2 := by
    have h4 := Rat.mul_le_mul_of_nonneg_left h2 (ra_nn q)
    exact hf_q h1 h4 h3' hrM' ha2
  have := hx_hf hh N
  exact hg_q this k2 hru

theorem st_q {Y Sm bs B no ga w w1 sh mm m1 P : Rat} (hY : Y ≤ Sm * (bs * B / 16384)) (hS : Sm * 4294967296 ≤ 2 * no) (hbs : 0 ≤ bs) (hB : 0 ≤ B) (hga : bs * no ≤ 16384 * ga) (hw : w = w1 * sh) (hB2 : B * w ≤ P * mm) (hm : mm * ga ≤ m1 * sh * 4294967296) (hsh : 0 < sh) (hw1 : 0 < w1) (hga0 : 0 ≤ ga) (hP : 0 ≤ P) : Y * w1 ≤ 2 * P * m1 := by
  have k1 : 0 ≤ bs * B := Rat.mul_nonneg hbs hB
  have h1 := Rat.mul_le_mul_of_nonneg_left hS k1
  have h2 := Rat.mul_le_mul_of_nonneg_left hga hB
  have h3 : Y * 4294967296 ≤ 2 * ga * B := by
    have e1 : Sm * (bs * B / 16384) * 4294967296 * 16384 = bs * B * (Sm * 4294967296) := by grind
    have e2 : bs * B * (2 * no) = 2 * (B * (bs * no)) := by grind
    have e3 : B * (16384 * ga) = 16384 * (B * ga) := by grind
    rw [e2] at h1
    rw [e3] at h2
    generalize bs * B * (Sm * 4294967296) = z1 at *
    generalize B * (bs * no) = z2 at *
    have e4 : 2 * ga * B = 2 * (B * ga) := by grind
    rw [e4]
    generalize B * ga = z3 at *
    generalize Sm * (bs * B / 16384) = z4 at *
    clear e2 e3 e4 hS hga hm hB2 hw k1
    grind
  have hw0 : 0 ≤ w := by rw [hw]; exact Rat.mul_nonneg (by grind) (by grind)
  have h4 := Rat.mul_le_mul_of_nonneg_left h3 hw0
  have h5 := Rat.mul_le_mul_of_nonneg_left hB2 hga0
  have h6 := Rat.mul_le_mul_of_nonneg_left hm hP
  have h7 : Y * w1 * sh ≤ 2 * P * m1 * sh := by
    have e1 : w * (Y * 4294967296) = 4294967296 * (Y * w1 * sh) := by rw [hw]; grind
    have e2 : w * (2 * ga * B) = 2 * (ga * (B * w)) := by grind
    have e3 : ga * (P * mm) = P * (mm * ga) := by grind
    have e4 : P * (m1 * sh * 4294967296) = 4294967296 * (P * m1 * sh) := by grind
    have e5 : 2 * P * m1 * sh = 2 * (P * m1 * sh) := by grind
    rw [e1, e2] at h4
    rw [e3] at h5
    rw [e4] at h6
    rw [e5]
    generalize Y * w1 * sh = z1 at *
    generalize ga * (B * w) = z2 at *
    generalize P * (mm * ga) = z3 at *
    generalize P * m1 * sh = z4 at *
    clear e1 e2 e3 e4 e5 h1 h2 h3 hY hS hga hm hB2 hw k1
    grind
  by_cases hc : Y * w1 ≤ 2 * P * m1
  · exact hc
  · have hz : 0 < Y * w1 - 2 * P * m1 := by grind
    have := Rat.mul_pos hz hsh
    exfalso
    have e : (Y * w1 - 2 * P * m1) * sh = Y * w1 * sh - 2 * P * m1 * sh := by grind
    rw [e] at this
    clear e hz h1 h2 h3 h4 h5 h6 hY hS hga hm hB2 hw
    grind
def wt_q (sh : Nat → Nat) (n O j : Nat) : Rat := ((2 ^ (O + ss_n sh (n - j) j) : Int) : Rat)
theorem wt_pos {sh : Nat → Nat} {n O j : Nat} : 0 < wt_q sh n O j := by
  unfold wt_q
  have p : (0 : Int) < 2 ^ (O + ss_n sh (n - j) j) := Int.pow_pos (by decide)
  have := Rat.intCast_lt_intCast.mpr p
  exact this
theorem wt_s {sh : Nat → Nat} {n O j : Nat} (hj : j < n) : wt_q sh n O j = wt_q sh n O (j + 1) * ((2 ^ (sh j) : Int) : Rat) := by
  unfold wt_q
  rw [← Rat.intCast_mul, ← Int.pow_add, show n - j = (n - (j + 1)) + 1 by omega, ss_n]
  congr 2
  omega
theorem xr_0 {q : Nat → Sec} {xs : Nat → Int} {B : Int} (hB : ∀ t, (xs t).natAbs ≤ B) (hB0 : 0 ≤ B) (i : Nat) : ra_q (xr_q q xs 0 i) ≤ (B : Rat) := by
  have hB' : (0 : Rat) ≤ (B : Rat) := Rat.intCast_le_intCast.mpr hB0
  unfold xr_q
  by_cases h : i < 3
  · rw [eX_0 0 i h]
    have : ((0 : Int) : Rat) * 4398046511104 / sc_q (i + 0) = 0 := by rw [q_0]; grind
    rw [this, ra_0]; exact hB'
  · obtain ⟨t, rfl⟩ : ∃ t, i = t + 3 := ⟨i - 3, by omega⟩
    have e : eX_x q xs 0 (t + 3) = xs t * 16384 ^ t := by
      show (if t + 3 < 3 then 0 else xs (t + 3 - 3) * 16384 ^ (t + 3 - 3)) = _
      rw [if_neg (by omega)]; rfl
    have es : sc_q (t + 3 + 0) = sc_q t * 16384 * 16384 * 16384 := rfl
    have p := sc_pos t
    rw [e, Rat.intCast_mul, ← sc_pw, es]
    have : (xs t : Rat) * sc_q t * 4398046511104 / (sc_q t * 16384 * 16384 * 16384) = (xs t : Rat) := by
      generalize sc_q t = c at *
      generalize (xs t : Rat) = x
      have hc : c ≠ 0 := by grind
      clear es e
      grind
    rw [this]
    have := hB t
    exact ra_d (by omega) (by omega)
theorem xr_st {q : Nat → Sec} {xs : Nat → Int} {j : Nat} {B Sm : Rat} (hB : ∀ i, ra_q (xr_q q xs j i) ≤ B) (hB0 : 0 ≤ B) (hS : ∀ N, sm_q (fun k => ra_q (hx_q (-((q j).2.2.2.1.toInt : Rat) / 16384) (-((q j).2.2.2.2.1.toInt : Rat) / 16384) k)) N ≤ Sm) (i : Nat) : ra_q (xr_q q xs (j + 1) i) ≤ Sm * ((((q j).1.toInt.natAbs + (q j).2.1.toInt.natAbs + (q j).2.2.1.toInt.natAbs : Int) : Rat) * B / 16384) := by
  have hS0 : 0 ≤ Sm := by have := hS 0; simp only [sm_q] at this; exact this
  have hbs0 : (0 : Rat) ≤ (((q j).1.toInt.natAbs + (q j).2.1.toInt.natAbs + (q j).2.2.1.toInt.natAbs : Int) : Rat) := Rat.intCast_le_intCast.mpr (show (0 : Int) ≤ (q j).1.toInt.natAbs + (q j).2.1.toInt.natAbs + (q j).2.2.1.toInt.natAbs by omega)
  have hC0 : (0 : Rat) ≤ (((q j).1.toInt.natAbs + (q j).2.1.toInt.natAbs + (q j).2.2.1.toInt.natAbs : Int) : Rat) * B / 16384 := by
    have := Rat.mul_nonneg hbs0 hB0
    generalize (((q j).1.toInt.natAbs + (q j).2.1.toInt.natAbs + (q j).2.2.1.toInt.natAbs : Int) : Rat) * B = z at *
    grind
  have z0 : ∀ i, i < 3 → xr_q q xs (j + 1) i = 0 := by
    intro i hi
    unfold xr_q
    rw [eX_0 (j + 1) i hi, q_0]; grind
  cases i with
  | zero =>
    rw [z0 0 (by omega), ra_0]
    exact Rat.mul_nonneg hS0 hC0
  | succ n =>
    have key := cn_eq (p := -((q j).2.2.2.1.toInt : Rat) / 16384) (q := -((q j).2.2.2.2.1.toInt : Rat) / 16384) (y := fun k => xr_q q xs (j + 1) (k + 1)) (f := fun k => match k with
      | 0 => 0
      | 1 => 0
      | k + 2 => (((q j).1.toInt : Rat) * xr_q q xs j (k + 3) + ((q j).2.1.toInt : Rat) * xr_q q xs j (k + 2) + ((q j).2.2.1.toInt : Rat) * xr_q q xs j (k + 1)) / 16384) (z0 1 (by omega)) (by
        show xr_q q xs (j + 1) 2 = _ * xr_q q xs (j + 1) 1 + 0
        rw [z0 1 (by omega), z0 2 (by omega)]; grind) (fun n => xr_rc) n
    have k1 : xr_q q xs (j + 1) (n + 1) = _ := key.1
    rw [k1]
    refine Rat.le_trans (cn_le (B := (((q j).1.toInt.natAbs + (q j).2.1.toInt.natAbs + (q j).2.2.1.toInt.natAbs : Int) : Rat) * B / 16384) (fun k _ => ?_)) ?_
    · match k with
      | 0 => show ra_q 0 ≤ _; rw [ra_0]; exact hC0
      | 1 => show ra_q 0 ≤ _; rw [ra_0]; exact hC0
      | k + 2 =>
        show ra_q ((((q j).1.toInt : Rat) * xr_q q xs j (k + 3) + ((q j).2.1.toInt : Rat) * xr_q q xs j (k + 2) + ((q j).2.2.1.toInt : Rat) * xr_q q xs j (k + 1)) / 16384) ≤ _
        have a := ra_ad (((q j).1.toInt : Rat) * xr_q q xs j (k + 3) + ((q j).2.1.toInt : Rat) * xr_q q xs j (k + 2)) (((q j).2.2.1.toInt : Rat) * xr_q q xs j (k + 1))
        have b := ra_ad (((q j).1.toInt : Rat) * xr_q q xs j (k + 3)) (((q j).2.1.toInt : Rat) * xr_q q xs j (k + 2))
        have c1 := Rat.mul_le_mul_of_nonneg_left (hB (k + 3)) (ra_nn ((q j).1.toInt : Rat))
        have c2 := Rat.mul_le_mul_of_nonneg_left (hB (k + 2)) (ra_nn ((q j).2.1.toInt : Rat))
        have c3 := Rat.mul_le_mul_of_nonneg_left (hB (k + 1)) (ra_nn ((q j).2.2.1.toInt : Rat))
        rw [← ra_mu] at c1 c2 c3
        rw [ra_ab] at c1 c2 c3
        have e16 : ∀ x : Rat, ra_q (x / 16384) = ra_q x / 16384 := by
          intro x
          have e1 : x / 16384 = x * (1 / 16384) := by grind
          have e2 : ra_q (1 / 16384 : Rat) = 1 / 16384 := by unfold ra_q; rw [if_pos (by grind)]
          rw [e1, ra_mu, e2]; grind
        rw [e16, Rat.intCast_add, Rat.intCast_add]
        generalize (((q j).1.toInt.natAbs : Int) : Rat) = n0 at *
        generalize (((q j).2.1.toInt.natAbs : Int) : Rat) = n1 at *
        generalize (((q j).2.2.1.toInt.natAbs : Int) : Rat) = n2 at *
        generalize ra_q (((q j).1.toInt : Rat) * xr_q q xs j (k + 3) + ((q j).2.1.toInt : Rat) * xr_q q xs j (k + 2) + ((q j).2.2.1.toInt : Rat) * xr_q q xs j (k + 1)) = w0 at *
        generalize ra_q (((q j).1.toInt : Rat) * xr_q q xs j (k + 3) + ((q j).2.1.toInt : Rat) * xr_q q xs j (k + 2)) = w1 at *
        generalize ra_q (((q j).1.toInt : Rat) * xr_q q xs j (k + 3)) = w2 at *
        generalize ra_q (((q j).2.1.toInt : Rat) * xr_q q xs j (k + 2)) = w3 at *
        generalize ra_q (((q j).2.2.1.toInt : Rat) * xr_q q xs j (k + 1)) = w4 at *
        clear key k1 e16 hS hB z0 hC0 hbs0
        have e : (n0 + n1 + n2) * B = n0 * B + n1 * B + n2 * B := by grind
        rw [e]
        generalize n0 * B = m0 at *
        generalize n1 * B = m1 at *
        generalize n2 * B = m2 at *
        clear e
        grind
    · have := Rat.mul_le_mul_of_nonneg_left (hS (n + 1)) hC0
      rw [Rat.mul_comm] at this
      refine Rat.le_trans this ?_
      rw [Rat.mul_comm]
      exact Rat.le_refl
/-- the chain of bounds over all rows of the exact filter -/
theorem xr_ch {S : Nat → Sec} {od : Nat → Nat} {n K F O : Nat} {xs : Nat → Int} {mo : Nat → Int} {sh : Nat → Nat} (hK : 1 ≤ K) (h0 : mo 0 = 2 ^ (K - 1 + F)) (hmo : ∀ j, j < n → mo j * (S (od j)).2.2.2.2.2.2.2.2.2.2.2.2.toInt ≤ mo (j + 1) * 2 ^ (sh j) * 2 ^ 32 ∧ mo (j + 1) ≤ 2 ^ 46) (hO : O + ss_n sh n 0 = F) (hq : ∀ j, j < n → qs_ok (S (od j)) ∧ (S (od j)).2.2.2.2.2.2.2.1 = false) (hxs : ∀ t, ((xs t).natAbs : Int) ≤ 2 ^ (K - 1)) : ∀ j, j ≤ n → ∀ i, ra_q (xr_q (fun i => S (od i)) xs j i) * wt_q sh n O j ≤ ((2 ^ j : Int) : Rat) * (mo j : Rat) := by
  intro j
  induction j with
  | zero =>
    intro _ i
    have hb := xr_0 (q := fun i => S (od i)) (xs := xs) (B := 2 ^ (K - 1)) hxs (Int.le_of_lt (Int.pow_pos (by decide))) i
    have hw := wt_pos (sh := sh) (n := n) (O := O) (j := 0)
    have hw2 : wt_q sh n O 0 = ((2 ^ F : Int) : Rat) := by unfold wt_q; rw [Nat.sub_zero, hO]
    have e : ((2 ^ 0 : Int) : Rat) * (mo 0 : Rat) = wt_q sh n O 0 * ((2 ^ (K - 1) : Int) : Rat) := by
      rw [h0, hw2, ← Rat.intCast_mul, ← Rat.intCast_mul, Int.pow_add]
      congr 1
      generalize (2 : Int) ^ F = a
      generalize (2 : Int) ^ (K - 1) = b
      show 1 * (b * a) = a * b
      rw [Int.one_mul, Int.mul_comm]
    rw [e, Rat.mul_comm]
    exact Rat.mul_le_mul_of_nonneg_left hb (by grind)
  | succ j ih =>
    intro hj i
    have ihj := ih (by omega)
    obtain ⟨hq1, hq2⟩ := hq j (by omega)
    obtain ⟨⟨bn0, bn1⟩, ⟨bg0, bg1⟩, hgs, bs0, bsn, bb0⟩ := qs_bd hq1 hq2
    have hw := wt_pos (sh := sh) (n := n) (O := O) (j := j)
    have hw1 := wt_pos (sh := sh) (n := n) (O := O) (j := j + 1)
    have hS := fun N => qs_S hq1 hq2 N
    have sbi : (S (od j)).2.2.2.2.2.1.toInt = (S (od j)).1.toInt.natAbs + (S (od j)).2.1.toInt.natAbs + (S (od j)).2.2.1.toInt.natAbs := by
      obtain ⟨⟨q0, q1, q2, q3, q4⟩, qb, -⟩ := hq1
      rw [qb]; exact sb_3 q0 q1 q2
    have hm0 : (0 : Rat) ≤ ((2 ^ j : Int) : Rat) * (mo j : Rat) := Rat.le_trans (Rat.mul_nonneg (ra_nn (xr_q (fun i => S (od i)) xs j 0)) (by grind)) (ihj 0)
    have hB : ∀ i, ra_q (xr_q (fun i => S (od i)) xs j i) ≤ ((2 ^ j : Int) : Rat) * (mo j : Rat) / wt_q sh n O j := by
      intro i
      have := ihj i
      generalize ra_q (xr_q (fun i => S (od i)) xs j i) = a at *
      generalize ((2 ^ j : Int) : Rat) * (mo j : Rat) = b at *
      generalize wt_q sh n O j = c at *
      have hi : (0 : Rat) ≤ 1 / c := by
        by_cases hc : 0 ≤ 1 / c
        · exact hc
        · have := Rat.mul_pos (show 0 < -(1 / c) by grind) hw
          have e : -(1 / c) * c = -1 := by have : c ≠ 0 := by grind
                                           grind
          grind
      have h2 := Rat.mul_le_mul_of_nonneg_left this hi
      have e1 : 1 / c * (a * c) = a := by have : c ≠ 0 := by grind
                                          grind
      have e2 : 1 / c * b = b / c := by grind
      rw [e1, e2] at h2
      exact h2
    have hB0 : 0 ≤ ((2 ^ j : Int) : Rat) * (mo j : Rat) / wt_q sh n O j := Rat.le_trans (ra_nn _) (hB 0)
    have hst := xr_st (q := fun i => S (od i)) (xs := xs) (j := j) (Sm := 2 * ((S (od j)).2.2.2.2.2.2.2.2.2.2.2.1.toInt : Rat) / 4294967296) hB hB0 (fun N => by
      have := hS N
      generalize sm_q (fun k => ra_q (hx_q (-((S (od j)).2.2.2.1.toInt : Rat) / 16384) (-((S (od j)).2.2.2.2.1.toInt : Rat) / 16384) k)) N = z at *
      generalize ((S (od j)).2.2.2.2.2.2.2.2.2.2.2.1.toInt : Rat) = y at *
      grind) i
    have e2 : ((2 ^ (j + 1) : Int) : Rat) * (mo (j + 1) : Rat) = 2 * ((2 ^ j : Int) : Rat) * (mo (j + 1) : Rat) := by
      rw [Int.pow_succ, Rat.intCast_mul]
      have : ((2 : Int) : Rat) = 2 := rfl
      rw [this]; grind
    rw [e2]
    refine st_q (sh := ((2 ^ (sh j) : Int) : Rat)) (mm := (mo j : Rat)) hst ?_ ?_ hB0 ?_ (wt_s (by omega)) ?_ ?_ ?_ hw1 (ga := ((S (od j)).2.2.2.2.2.2.2.2.2.2.2.2.toInt : Rat)) (no := ((S (od j)).2.2.2.2.2.2.2.2.2.2.2.1.toInt : Rat)) ?_ ?_
    · generalize ((S (od j)).2.2.2.2.2.2.2.2.2.2.2.1.toInt : Rat) = y
      grind
    · exact Rat.intCast_le_intCast.mpr (show (0 : Int) ≤ (S (od j)).1.toInt.natAbs + (S (od j)).2.1.toInt.natAbs + (S (od j)).2.2.1.toInt.natAbs by omega)
    · rw [sbi] at hgs
      have := Rat.intCast_le_intCast.mpr hgs
      rw [Rat.intCast_mul, Rat.intCast_mul, q_16] at this
      exact this
    · generalize ((2 ^ j : Int) : Rat) * (mo j : Rat) = b
      generalize wt_q sh n O j = c at *
      have : c ≠ 0 := by grind
      have e : b / c * c = b := by grind
      rw [e]; exact Rat.le_refl
    · have := Rat.intCast_le_intCast.mpr (hmo j (by omega)).1
      rw [Rat.intCast_mul, Rat.intCast_mul, Rat.intCast_mul] at this
      exact this
    · have p : (0 : Int) < 2 ^ (sh j) := Int.pow_pos (by decide)
      exact Rat.intCast_lt_intCast.mpr p
    · exact Rat.intCast_le_intCast.mpr bg0
    · have p : (0 : Int) < 2 ^ j := Int.pow_pos (by decide)
      exact Rat.intCast_le_intCast.mpr (show (0 : Int) ≤ 2 ^ j by omega)

theorem eX_bd {S : Nat → Sec} {od : Nat → Nat} {n K F O : Nat} {xs : Nat → Int} (hn : n ≤ 6) (hK : 1 ≤ K) (hKF : K - 1 + F ≤ 46) (hpc : pc_r S od n K F O) (hq : ∀ j, j < n → qs_ok (S (od j)) ∧ (S (od j)).2.2.2.2.2.2.2.1 = false) (hxs : ∀ t, ((xs t).natAbs : Int) ≤ 2 ^ (K - 1)) {j : Nat} (hj : j ≤ n) (i : Nat) : ((eX_x (fun i => S (od i)) xs j i).natAbs : Int) * 2 ^ O ≤ 1024 * 16384 ^ (i + j) := by
  obtain ⟨mo, sh, h0, hmo, hO⟩ := hpc
  have hc := xr_ch hK h0 hmo hO hq hxs j hj i
  have hm46 : mo j ≤ 2 ^ 46 := by
    cases j with
    | zero =>
      rw [h0]
      have := Nat.pow_le_pow_right (n := 2) (by decide) hKF
      exact_mod_cast this
    | succ j => exact (hmo j (by omega)).2
  have p2 : (2 : Int) ^ j ≤ 64 := by
    have := Nat.pow_le_pow_right (n := 2) (by decide) (show j ≤ 6 by omega)
    exact_mod_cast this
  have p3 : (0 : Int) < 2 ^ j := Int.pow_pos (by decide)
  have p := sc_pos (i + j)
  unfold xr_q wt_q at hc
  generalize eX_x (fun i => S (od i)) xs j i = e at *
  have h1 : ra_q ((e : Rat) * 4398046511104 / sc_q (i + j)) * sc_q (i + j) = ((e.natAbs : Int) : Rat) * 4398046511104 := by
    have e1 : sc_q (i + j) = ra_q (sc_q (i + j)) := by unfold ra_q; rw [if_pos (by grind)]
    have e2 : (4398046511104 : Rat) = ra_q 4398046511104 := by unfold ra_q; rw [if_pos (by grind)]
    have e3 : ra_q ((e : Rat) * 4398046511104 / sc_q (i + j)) * sc_q (i + j) = ra_q ((e : Rat) * 4398046511104 / sc_q (i + j)) * ra_q (sc_q (i + j)) := by rw [← e1]
    have e4 : (e : Rat) * 4398046511104 / sc_q (i + j) * sc_q (i + j) = (e : Rat) * 4398046511104 := by
      generalize sc_q (i + j) = c at *
      have : c ≠ 0 := by grind
      generalize (e : Rat) = z
      clear e1 e2 e3
      grind
    rw [e3, ← ra_mu, e4, ra_mu, ← e2, ra_ab]
  have h2 := Rat.mul_le_mul_of_nonneg_left hc (show (0 : Rat) ≤ sc_q (i + j) by grind)
  have h3 : ((e.natAbs : Int) : Rat) * 4398046511104 * ((2 ^ (O + ss_n sh (n - j) j) : Int) : Rat) ≤ ((2 ^ j : Int) : Rat) * (mo j : Rat) * sc_q (i + j) := by
    rw [← h1]
    generalize ra_q ((e : Rat) * 4398046511104 / sc_q (i + j)) = z at *
    generalize ((2 ^ (O + ss_n sh (n - j) j) : Int) : Rat) = w at *
    generalize ((2 ^ j : Int) : Rat) * (mo j : Rat) = y at *
    generalize sc_q (i + j) = c at *
    have e1 : c * (z * w) = z * c * w := by grind
    have e2 : c * y = y * c := by grind
    rw [e1, e2] at h2
    exact h2
  rw [sc_pw] at h3
  have q42 : (4398046511104 : Rat) = ((4398046511104 : Int) : Rat) := rfl
  rw [q42, ← Rat.intCast_mul, ← Rat.intCast_mul, ← Rat.intCast_mul, ← Rat.intCast_mul] at h3
  have h4 := Rat.intCast_le_intCast.mp h3
  have d := d_pos (i + j)
  clear h1 h2 h3 hc q42 p
  rw [Int.pow_add] at h4
  generalize (16384 : Int) ^ (i + j) = D at *
  have w1 : (0 : Int) < 2 ^ (ss_n sh (n - j) j) := Int.pow_pos (by decide)
  have w2 : (0 : Int) < 2 ^ O := Int.pow_pos (by decide)
  generalize (2 : Int) ^ (ss_n sh (n - j) j) = w at *
  generalize (2 : Int) ^ O = o at *
  have a0 : (0 : Int) ≤ (e.natAbs : Int) := by omega
  generalize (e.natAbs : Int) = a at *
  have k1 : a * o ≤ a * o * w := by
    have := Int.mul_le_mul_of_nonneg_left (show 1 ≤ w by omega) (Int.mul_nonneg a0 (show 0 ≤ o by omega))
    omega
  have k2 : a * 4398046511104 * (o * w) = 4398046511104 * (a * o * w) := by grind
  rw [k2] at h4
  have k3 : (2 : Int) ^ j * mo j ≤ 64 * 2 ^ 46 := by
    by_cases hneg : 0 ≤ mo j
    · have x1 := Int.mul_le_mul_of_nonneg_right p2 hneg
      omega
    · have : 2 ^ j * mo j ≤ 0 := by
        have := Int.mul_le_mul_of_nonneg_left (show mo j ≤ 0 by omega) (show (0 : Int) ≤ 2 ^ j by omega)
        omega
      omega
  have k4 := Int.mul_le_mul_of_nonneg_right k3 (show 0 ≤ D by omega)
  generalize a * o * w = z1 at *
  generalize a * o = z2 at *
  generalize 2 ^ j * mo j * D = z3 at *
  omega
theorem eX_B {S : Nat → Sec} {od : Nat → Nat} {n K F O : Nat} {xs : Nat → Int} (hn : n ≤ 6) (hK : 1 ≤ K) (hKF : K - 1 + F ≤ 46) (hpc : pc_r S od n K F O) (hq : ∀ j, j < n → qs_ok (S (od j)) ∧ (S (od j)).2.2.2.2.2.2.2.1 = false) (hxs : ∀ t, ((xs t).natAbs : Int) ≤ 2 ^ (K - 1)) {j i : Nat} (hj : j ≤ n) (hi : i ≤ 35) : ((eX_x (fun i => S (od i)) xs j i).natAbs : Int) < 16384 ^ 45 := by
  have h := eX_bd hn hK hKF hpc hq hxs hj i
  have hm := d_mono (show i + j ≤ 41 by omega)
  have w2 : (0 : Int) < 2 ^ O := Int.pow_pos (by decide)
  generalize eX_x (fun i => S (od i)) xs j i = e at *
  have k1 : (e.natAbs : Int) ≤ e.natAbs * 2 ^ O := by
    have := Int.mul_le_mul_of_nonneg_left (show (1 : Int) ≤ 2 ^ O by omega) (show (0 : Int) ≤ e.natAbs by omega)
    omega
  have e45 : (16384 : Int) ^ 45 = 16384 ^ 41 * 16384 ^ 4 := rfl
  have e4 : (16384 : Int) ^ 4 = 72057594037927936 := rfl
  have d := d_pos 41
  rw [e45, e4]
  generalize (16384 : Int) ^ 41 = D at *
  generalize (16384 : Int) ^ (i + j) = D1 at *
  omega
theorem d_45 : (16384 : Int) ^ 45 ≤ 8192 * 16384 ^ 59 ∧ (16384 : Int) ^ 45 ≤ 16384 ^ 65 := by
  have a := d_mono (show 45 ≤ 59 by omega)
  have b := d_mono (show 45 ≤ 65 by omega)
  have d := d_pos 45
  exact ⟨by omega, b⟩
/-- the class's exact signals -/
def cx_r (q : Nat → Sec) (n : Nat) (xs : Nat → Int) (s : Nat) (t : XS) : Prop := ∀ j, j ≤ n → kr_r (t.1 j) (eX_x q xs j (s + 2)) ∧ kr_r (t.2.1 j) (eX_x q xs j (s + 1)) ∧ kr_r (t.2.2 j) (eX_x q xs j s)
theorem cx_cg {q : Nat → Sec} {n : Nat} {xs xs' : Nat → Int} {s : Nat} {t : XS} (h : ∀ u, u < s → xs u = xs' u) (hc : cx_r q n xs s t) : cx_r q n xs' s t := by
  intro j hj
  obtain ⟨a, b, c⟩ := hc j hj
  have e := eX_cg (q := q) (xs := xs) (xs' := xs') (n := s + 2) (fun u hu => h u (by omega)) j
  rw [e _ (by omega)] at a
  rw [e _ (by omega)] at b
  rw [e _ (by omega)] at c
  exact ⟨a, b, c⟩
theorem xg_k {q : Nat → Sec} {n : Nat} {xs : Nat → Int} {s : Nat} (hq : ∀ j, j < n → ((q j).1.toInt.natAbs ≤ 32767 ∧ (q j).2.1.toInt.natAbs ≤ 32767 ∧ (q j).2.2.1.toInt.natAbs ≤ 32767 ∧ (q j).2.2.2.1.toInt.natAbs ≤ 32767 ∧ (q j).2.2.2.2.1.toInt.natAbs ≤ 32767)) :
    ∀ (k j : Nat) (t : XS), j + k = n → (∀ i, i ≤ j → kr_r (t.1 i) (eX_x q xs i (s + 3)) ∧ kr_r (t.2.1 i) (eX_x q xs i (s + 2)) ∧ kr_r (t.2.2 i) (eX_x q xs i (s + 1))) → (∀ i, j < i → i ≤ n → kr_r (t.1 i) (eX_x q xs i (s + 2)) ∧ kr_r (t.2.1 i) (eX_x q xs i (s + 1)) ∧ kr_r (t.2.2 i) (eX_x q xs i s)) → ∀ i, i ≤ n → kr_r ((xg_s q k j t).1 i) (eX_x q xs i (s + 3)) ∧ kr_r ((xg_s q k j t).2.1 i) (eX_x q xs i (s + 2)) ∧ kr_r ((xg_s q k j t).2.2 i) (eX_x q xs i (s + 1)) := by
  intro k
  induction k with
  | zero => intro j t hj h1 h2 i hi; exact h1 i (by omega)
  | succ k ih =>
    intro j t hj h1 h2 i hi
    rw [xg_s]
    obtain ⟨b0, b1, b2, b3, b4⟩ := hq j (by omega)
    obtain ⟨x0, x1, x2⟩ := h1 j (by omega)
    obtain ⟨y0, y1, y2⟩ := h2 (j + 1) (by omega) (by omega)
    have hps := ps_k (f := t.2.2 (j + 1)) b0 b1 b2 b3 b4 x0 x1 x2 y0 y1
    refine ih (j + 1) _ (by omega) (fun i hi => ?_) (fun i hi1 hi2 => ?_) i hi
    · by_cases hij : i = j + 1
      · subst hij
        unfold xq_s
        simp only [va_up_self]
        exact ⟨hps, y0, y1⟩
      · unfold xq_s
        simp only [va_up_ne _ _ hij]
        exact h1 i (by omega)
    · unfold xq_s
      simp only [va_up_ne _ _ (show i ≠ j + 1 by omega)]
      exact h2 i (by omega) hi2
theorem cx_st {q : Nat → Sec} {n : Nat} {xs : Nat → Int} {s : Nat} {t : XS} {x : Int32} (hq : ∀ j, j < n → ((q j).1.toInt.natAbs ≤ 32767 ∧ (q j).2.1.toInt.natAbs ≤ 32767 ∧ (q j).2.2.1.toInt.natAbs ≤ 32767 ∧ (q j).2.2.2.1.toInt.natAbs ≤ 32767 ∧ (q j).2.2.2.2.1.toInt.natAbs ≤ 32767)) (hs : s < 32) (hx : xs s = x.toInt) (h : cx_r q n xs s t) : cx_r q n xs (s + 1) (xg_s q n 0 (xp_s x.toInt64 (nI s) t)) := by
  intro i hi
  refine xg_k hq n 0 _ (by omega) (fun i hi => ?_) (fun i h1 h2 => ?_) i hi
  · have : i = 0 := by omega
    subst this
    obtain ⟨a, b, c⟩ := h 0 (by omega)
    unfold xp_s
    simp only [va_up_self]
    refine ⟨?_, a, b⟩
    have hp := put_k (v := x.toInt64) (p := s) (f := t.2.2 0) (by omega)
    have e : eX_x q xs 0 (s + 3) = x.toInt64.toInt * 16384 ^ s := by
      show (if s + 3 < 3 then 0 else xs (s + 3 - 3) * 16384 ^ (s + 3 - 3)) = _
      rw [if_neg (by omega), show s + 3 - 3 = s by omega, hx, Int32.toInt_toInt64]
    rw [e]
    exact hp
  · unfold xp_s
    simp only [va_up_ne _ _ (show i ≠ 0 by omega)]
    exact h i h2
/-- the reference's exact signals -/
def mx_b (q : Nat → Sec) (xs : Nat → Int) (a : Nat) (fy : Nat → Int64) (j : Nat) : Prop := mr_r (fun i => fy (66 * (4 * j) + i)) (eX_x q xs j (a + 1)) ∧ mr_r (fun i => fy (66 * (4 * j + 1) + i)) (eX_x q xs j a) ∧ mr_r (fun i => fy (66 * (4 * j + 2) + i)) (eX_x q xs (j + 1) (a + 1)) ∧ mr_r (fun i => fy (66 * (4 * j + 3) + i)) (eX_x q xs (j + 1) a)
theorem hy_at {fy num nx : Nat → Int64} {j : Nat} : (∀ i, i < 66 → hy_f fy num nx j 66 (66 * (4 * j) + i) = num i) ∧ (∀ i, i < 66 → hy_f fy num nx j 66 (66 * (4 * j + 1) + i) = fy (66 * (4 * j) + i)) ∧ (∀ i, i < 66 → hy_f fy num nx j 66 (66 * (4 * j + 2) + i) = nx i) ∧ (∀ i, i < 66 → hy_f fy num nx j 66 (66 * (4 * j + 3) + i) = fy (66 * (4 * j + 2) + i)) := by
  refine ⟨fun i hi => ?_, fun i hi => ?_, fun i hi => ?_, fun i hi => ?_⟩ <;> unfold hy_f
  · rw [if_pos (by omega)]; congr 1; omega
  · rw [if_neg (by omega), if_pos (by omega)]; congr 1; omega
  · rw [if_neg (by omega), if_neg (by omega), if_pos (by omega)]
    rw [show 66 * (4 * j + 2) + i - 264 * j - 132 = i by omega]
  · rw [if_neg (by omega), if_neg (by omega), if_neg (by omega), if_pos (by omega)]; congr 1; omega
theorem hy_ou {fy num nx : Nat → Int64} {j x : Nat} (h : x < 264 * j ∨ 264 * j + 264 ≤ x) : hy_f fy num nx j 66 x = fy x := by
  unfold hy_f
  rw [if_neg (by omega), if_neg (by omega), if_neg (by omega), if_neg (by omega)]
theorem mr_cg {f g : Nat → Int64} {X : Int} (h : ∀ i, i < 66 → f i = g i) (hg : mr_r g X) : mr_r f X := fun i hi => by rw [h i hi]; exact hg i hi
theorem ng32 {c : Int32} (h : c.toInt.natAbs ≤ 32767) : ((-c).toInt64).toInt = -c.toInt := by
  rw [Int32.toInt_toInt64, Int32.toInt_neg, Int.bmod_eq_of_le_mul_two] <;> omega
theorem xe_m {fa hd : Nat → Int32} {fc : Nat → Int64} {S : Nat → Sec} {od : Nat → Nat} {n : Nat} {xs : Nat → Int} {a : Nat} (hn : n ≤ 6) (hS : ∀ j, j < n → qs_ok (S (od j)) ∧ rs_r (S (od j)) fa hd fc (od j)) (hB : ∀ j i, j ≤ n → i ≤ a + 2 → ((eX_x (fun i => S (od i)) xs j i).natAbs : Int) < 16384 ^ 45) :
    ∀ (k j : Nat) (t : HS), j + k = n → mr_r t.2.1 (eX_x (fun i => S (od i)) xs j (a + 2)) → (∀ i, i < j → mx_b (fun i => S (od i)) xs (a + 1) t.1 i) → (∀ i, j ≤ i → i < n → mx_b (fun i => S (od i)) xs a t.1 i) → (∀ i, i < n → mx_b (fun i => S (od i)) xs (a + 1) (xe_s fa od k j t).1 i) ∧ mr_r (xe_s fa od k j t).2.1 (eX_x (fun i => S (od i)) xs n (a + 2)) := by
  have B : ∀ j i, j ≤ n → i ≤ a + 2 → (-(16384 ^ 65) ≤ eX_x (fun i => S (od i)) xs j i ∧ eX_x (fun i => S (od i)) xs j i < 16384 ^ 65) := by
    intro j i hj hi
    have h := hB j i hj hi
    have d := d_45.2
    generalize (16384 : Int) ^ 65 = D65 at *
    generalize (16384 : Int) ^ 45 = D45 at *
    omega
  intro k
  induction k with
  | zero =>
    intro j t hj h1 h2 h3
    have : j = n := by omega
    subst this
    exact ⟨h2, h1⟩
  | succ k ih =>
    intro j t hj h1 h2 h3
    rw [xe_s]
    obtain ⟨⟨⟨b0, b1, b2, b3, b4⟩, -⟩, r0, r1, r2, r3, r4, -⟩ := hS j (by omega)
    obtain ⟨m0, m1, m2, m3⟩ := h3 j (Nat.le_refl _) (by omega)
    have hnx : mr_r (xn_g fa (od j) j t) (eX_x (fun i => S (od i)) xs (j + 1) (a + 2)) := by
      unfold xn_g
      rw [r0, r1, r2, r3, r4]
      have e3 := ng32 b3
      have e4 := ng32 b4
      have key := nx_m (b0 := (S (od j)).1.toInt64) (b1 := (S (od j)).2.1.toInt64) (b2 := (S (od j)).2.2.1.toInt64) (c1 := (-(S (od j)).2.2.2.1).toInt64) (c2 := (-(S (od j)).2.2.2.2.1).toInt64) (j := j) (fy := t.1) (num := t.2.1) (nx := t.2.2) (by rw [Int32.toInt_toInt64]; exact b0) (by rw [Int32.toInt_toInt64]; exact b1) (by rw [Int32.toInt_toInt64]; exact b2) (by rw [e3]; omega) (by rw [e4]; omega) h1 (B j _ (by omega) (by omega)) m0 (B j _ (by omega) (by omega)) m1 (B j _ (by omega) (by omega)) m2 (B (j + 1) _ (by omega) (by omega)) m3 (B (j + 1) _ (by omega) (by omega))
      rw [Int32.toInt_toInt64, Int32.toInt_toInt64, Int32.toInt_toInt64, e3, e4] at key
      cases a with
      | zero =>
        have z0 : eX_x (fun i => S (od i)) xs (j + 1) (0 + 2) = 0 := eX_0 _ _ (by omega)
        have z1 : eX_x (fun i => S (od i)) xs (j + 1) (0 + 1) = 0 := eX_0 _ _ (by omega)
        have z2 : eX_x (fun i => S (od i)) xs (j + 1) 0 = 0 := eX_0 _ _ (by omega)
        have z3 : eX_x (fun i => S (od i)) xs j (0 + 2) = 0 := eX_0 _ _ (by omega)
        have z4 : eX_x (fun i => S (od i)) xs j (0 + 1) = 0 := eX_0 _ _ (by omega)
        have z5 : eX_x (fun i => S (od i)) xs j 0 = 0 := eX_0 _ _ (by omega)
        rw [z0]
        rw [z1, z2, z3, z4, z5] at key
        simpa using key
      | succ a =>
        have e : eX_x (fun i => S (od i)) xs (j + 1) (a + 1 + 2) = (S (od j)).1.toInt * eX_x (fun i => S (od i)) xs j (a + 1 + 2) + (S (od j)).2.1.toInt * (16384 * eX_x (fun i => S (od i)) xs j (a + 1 + 1)) + (S (od j)).2.2.1.toInt * (16384 * (16384 * eX_x (fun i => S (od i)) xs j (a + 1))) + -(S (od j)).2.2.2.1.toInt * eX_x (fun i => S (od i)) xs (j + 1) (a + 1 + 1) + -(S (od j)).2.2.2.2.1.toInt * (16384 * eX_x (fun i => S (od i)) xs (j + 1) (a + 1)) := by
          have e0 : eX_x (fun i => S (od i)) xs (j + 1) (a + 3) = (S (od j)).1.toInt * eX_x (fun i => S (od i)) xs j (a + 3) + (S (od j)).2.1.toInt * (16384 * eX_x (fun i => S (od i)) xs j (a + 2)) + (S (od j)).2.2.1.toInt * (16384 * (16384 * eX_x (fun i => S (od i)) xs j (a + 1))) - (S (od j)).2.2.2.1.toInt * eX_x (fun i => S (od i)) xs (j + 1) (a + 2) - (S (od j)).2.2.2.2.1.toInt * (16384 * eX_x (fun i => S (od i)) xs (j + 1) (a + 1)) := rfl
          show eX_x (fun i => S (od i)) xs (j + 1) (a + 3) = _
          rw [e0, Int.neg_mul, Int.neg_mul]
          rfl
        rw [e]
        exact key
    generalize xn_g fa (od j) j t = nx at hnx
    obtain ⟨y0, y1, y2, y3⟩ := hy_at (fy := t.1) (num := t.2.1) (nx := nx) (j := j)
    refine ih (j + 1) _ (by omega) ?_ ?_ ?_
    · exact mr_cg (fun i hi => if_pos hi) hnx
    · intro i hi
      by_cases hij : i = j
      · subst hij
        exact ⟨mr_cg y0 h1, mr_cg y1 m0, mr_cg y2 hnx, mr_cg y3 m2⟩
      · obtain ⟨p0, p1, p2, p3⟩ := h2 i (by omega)
        exact ⟨mr_cg (fun x hx => hy_ou (by omega)) p0, mr_cg (fun x hx => hy_ou (by omega)) p1, mr_cg (fun x hx => hy_ou (by omega)) p2, mr_cg (fun x hx => hy_ou (by omega)) p3⟩
    · intro i hi1 hi2
      obtain ⟨p0, p1, p2, p3⟩ := h3 i (by omega) hi2
      exact ⟨mr_cg (fun x hx => hy_ou (by omega)) p0, mr_cg (fun x hx => hy_ou (by omega)) p1, mr_cg (fun x hx => hy_ou (by omega)) p2, mr_cg (fun x hx => hy_ou (by omega)) p3⟩

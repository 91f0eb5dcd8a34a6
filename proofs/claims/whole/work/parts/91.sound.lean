theorem qs_S {q : Sec} (h : qs_ok q) (hh : q.2.2.2.2.2.2.2.1 = false) (N : Nat) : sm_q (fun k => ra_q (hx_q (-(q.2.2.2.1.toInt : Rat) / 16384) (-(q.2.2.2.2.1.toInt : Rat) / 16384) k)) N * 4294967296 ≤ 2 * (q.2.2.2.2.2.2.2.2.2.2.2.1.toInt : Rat) := by
  obtain ⟨-, -, -, hs0, hsn, -⟩ := qs_bd h hh
  obtain ⟨⟨b0, b1, b2, b3, b4⟩, qb, qa, hM⟩ := h
  obtain ⟨M, hce, hm, hsum, hrest, hbf, hno, hga⟩ := hM hh
  obtain ⟨c1, c2, c3, c4⟩ := ce_ok 1000 1 M hce
  have hR := mx_i (en_e q.2.2.2.1.toInt64 q.2.2.2.2.1.toInt64 M).2.2.2.2.2.1 (en_e q.2.2.2.1.toInt64 q.2.2.2.2.1.toInt64 M).2.2.2.2.2.2.1
  have a1e : q.2.2.2.1.toInt64.toInt = q.2.2.2.1.toInt := Int32.toInt_toInt64 _
  have a2e : q.2.2.2.2.1.toInt64.toInt = q.2.2.2.2.1.toInt := Int32.toInt_toInt64 _
  have al : ∀ j, j ≤ M → (en_e q.2.2.2.1.toInt64 q.2.2.2.2.1.toInt64 j).2.2.2.1 ≤ 70368744177664 := fun j hj => by
    by_cases j0 : j = 0
    · subst j0; show (4294967296 : Int64) ≤ 70368744177664; decide
    · exact c3 j (by omega) hj
  rw [hsum] at hsn
  generalize q.2.2.2.2.2.2.2.2.2.2.2.1 = NO at *
  generalize q.2.2.2.1.toInt64 = A1 at *
  generalize q.2.2.2.2.1.toInt64 = A2 at *
  generalize q.2.2.2.1.toInt = a1 at *
  generalize q.2.2.2.2.1.toInt = a2 at *
  have gi : ∀ n, n < M → _ := fun n hn => go_i (a1 := A1) (a2 := A2) (x := en_e A1 A2 n) (n := n) (by omega) (by omega) (by omega) (en_b (by omega) (by omega) n (by omega) (fun j hj => al j (by omega)))
  have hs : ∀ n, en_e A1 A2 (n + 1) = go_e A1 A2 (en_e A1 A2 n) := fun n => rfl
  rw [a1e, a2e] at gi
  have hrM : (en_e A1 A2 M).2.2.2.2.2.1.toInt ≤ 2147483648 := by
    rw [Int64.le_iff_toInt_le, hR] at c4
    have e : (2147483648 : Int64).toInt = 2147483648 := rfl
    omega
  have key := ec_al (a1 := a1) (a2 := a2) (e := fun n => (en_e A1 A2 n).1.toInt) (u := fun n => (en_e A1 A2 n).2.2.2.1.toInt) (s := fun n => (en_e A1 A2 n).2.2.1.toInt) (us := fun n => (en_e A1 A2 n).2.2.2.2.1.toInt) (r := fun n => (en_e A1 A2 n).2.2.2.2.2.1.toInt) (rs := fun n => (en_e A1 A2 n).2.2.2.2.2.2.2.toInt) (M := M) (by omega) rfl rfl rfl rfl rfl
    (fun hM => by
      have := (gi 0 hM).1
      rw [← hs 0] at this
      have e0 : (en_e A1 A2 0).2.1.toInt = 0 := rfl
      rw [e0, Int.mul_zero, Int.sub_zero] at this
      exact this)
    (fun n hn => by
      have := (gi (n + 1) hn).1
      rw [← hs (n + 1)] at this
      have e0 : (en_e A1 A2 (n + 1)).2.1 = (en_e A1 A2 n).1 := by rw [hs n]; exact (gi n (by omega)).2.2.1
      rw [e0] at this
      exact this)
    (fun n hn => by have := (gi n hn).2.2.2.2.2.1; rw [← hs n] at this; exact this)
    (fun n hn => by
      have h1 := (gi n hn).2.2.2.1
      have h2 := (gi n hn).2.2.2.2.2.1
      rw [← hs n] at h1 h2
      rw [h2]; exact h1)
    (fun n hn => by have := (gi n hn).2.2.2.2.1; rw [← hs n] at this; exact this)
    (fun n hn => by
      have h1 := (gi n hn).2.2.2.2.2.2.1
      have h2 := (gi n hn).2.2.2.2.2.2.2.2.2.1
      rw [← hs n] at h1
      exact ⟨h1, h2⟩)
    (fun n hn => by have := (gi n hn).2.2.2.2.2.2.2.2.1; rw [← hs n] at this; exact this)
    hrM N
  have hfin : ((en_e A1 A2 M).2.2.2.2.2.2.2.toInt : Rat) ≤ (NO.toInt : Rat) := Rat.intCast_le_intCast.mpr hsn
  exact Rat.le_trans key (Rat.mul_le_mul_of_nonneg_left hfin (by grind))
/-- one place of the exact filter: what goes in is X -/
def er_x (b0 b1 b2 c1 c2 : Int) (X : Nat → Int) : Nat → Int
  | 0 => 0
  | 1 => 0
  | 2 => 0
  | i + 3 => b0 * X (i + 3) + b1 * (16384 * X (i + 2)) + b2 * (16384 * (16384 * X (i + 1))) - c1 * er_x b0 b1 b2 c1 c2 X (i + 2) - c2 * (16384 * er_x b0 b1 b2 c1 c2 X (i + 1))
/-- all rows of the exact filter; sample t stands at t + 3 -/
def eX_x (q : Nat → Sec) (xs : Nat → Int) : Nat → Nat → Int
  | 0 => fun i => if i < 3 then 0 else xs (i - 3) * 16384 ^ (i - 3)
  | j + 1 => er_x (q j).1.toInt (q j).2.1.toInt (q j).2.2.1.toInt (q j).2.2.2.1.toInt (q j).2.2.2.2.1.toInt (eX_x q xs j)
theorem er_cg {b0 b1 b2 c1 c2 : Int} {X X' : Nat → Int} {n : Nat} (h : ∀ i, i ≤ n → X i = X' i) : ∀ i, i ≤ n → er_x b0 b1 b2 c1 c2 X i = er_x b0 b1 b2 c1 c2 X' i
  | 0, _ => rfl
  | 1, _ => rfl
  | 2, _ => rfl
  | i + 3, hi => by
    rw [er_x, er_x, h (i + 3) hi, h (i + 2) (by omega), h (i + 1) (by omega), er_cg h (i + 2) (by omega), er_cg h (i + 1) (by omega)]
theorem eX_cg {q : Nat → Sec} {xs xs' : Nat → Int} {n : Nat} (h : ∀ t, t + 3 ≤ n → xs t = xs' t) : ∀ j i, i ≤ n → eX_x q xs j i = eX_x q xs' j i
  | 0, i, hi => by
    show (if i < 3 then 0 else xs (i - 3) * 16384 ^ (i - 3)) = (if i < 3 then 0 else xs' (i - 3) * 16384 ^ (i - 3))
    by_cases h3 : i < 3
    · rw [if_pos h3, if_pos h3]
    · rw [if_neg h3, if_neg h3, h (i - 3) (by omega)]
  | j + 1, i, hi => by
    rw [eX_x, eX_x]
    exact er_cg (fun i hi => eX_cg h j i hi) i hi
theorem eX_0 {q : Nat → Sec} {xs : Nat → Int} : ∀ j i, i < 3 → eX_x q xs j i = 0
  | 0, i, hi => if_pos hi
  | j + 1, i, hi => by
    rw [eX_x]
    rcases (show i = 0 ∨ i = 1 ∨ i = 2 by omega) with rfl | rfl | rfl <;> rfl
/-- the scale of row j at i -/
def sc_q : Nat → Rat
  | 0 => 1
  | k + 1 => sc_q k * 16384
theorem sc_pos : ∀ k, 0 < sc_q k
  | 0 => by rw [sc_q]; grind
  | k + 1 => by rw [sc_q]; have := sc_pos k; grind
theorem sc_pw : ∀ k : Nat, sc_q k = ((16384 ^ k : Int) : Rat)
  | 0 => rfl
  | k + 1 => by rw [sc_q, sc_pw k, d_suc, Rat.intCast_mul]; rfl
def xr_q (q : Nat → Sec) (xs : Nat → Int) (j i : Nat) : Rat := (eX_x q xs j i : Rat) * 4398046511104 / sc_q (i + j)
theorem ra_d {x : Int} {B : Int} (h1 : x ≤ B) (h2 : -B ≤ x) : ra_q (x : Rat) ≤ (B : Rat) := by
  refine ra_lt (Rat.intCast_le_intCast.mpr h1) ?_
  have := Rat.intCast_le_intCast.mpr (show -x ≤ B by omega)
  rw [Rat.intCast_neg] at this
  exact this
theorem ra_ab (x : Int) : ra_q (x : Rat) = ((x.natAbs : Int) : Rat) := by
  unfold ra_q
  by_cases hz : 0 ≤ x
  · have h : (0 : Rat) ≤ x := by have := Rat.intCast_le_intCast.mpr hz; simp only [q_0] at this; exact this
    rw [if_pos h, show ((x.natAbs : Int)) = x by omega]
  · have h : ¬ (0 : Rat) ≤ x := fun c => hz (by have : ((0 : Int) : Rat) ≤ x := c; exact Rat.intCast_le_intCast.mp this)
    rw [if_neg h, show ((x.natAbs : Int)) = -x by omega, Rat.intCast_neg]
/-- the recursion, in scale -/
theorem xr_rc {q : Nat → Sec} {xs : Nat → Int} {j i : Nat} : xr_q q xs (j + 1) (i + 3) = (-((q j).2.2.2.1.toInt : Rat) / 16384) * xr_q q xs (j + 1) (i + 2) + (-((q j).2.2.2.2.1.toInt : Rat) / 16384) * xr_q q xs (j + 1) (i + 1) + (((q j).1.toInt : Rat) * xr_q q xs j (i + 3) + ((q j).2.1.toInt : Rat) * xr_q q xs j (i + 2) + ((q j).2.2.1.toInt : Rat) * xr_q q xs j (i + 1)) / 16384 := by
  have e : eX_x q xs (j + 1) (i + 3) = (q j).1.toInt * eX_x q xs j (i + 3) + (q j).2.1.toInt * (16384 * eX_x q xs j (i + 2)) + (q j).2.2.1.toInt * (16384 * (16384 * eX_x q xs j (i + 1))) - (q j).2.2.2.1.toInt * eX_x q xs (j + 1) (i + 2) - (q j).2.2.2.2.1.toInt * (16384 * eX_x q xs (j + 1) (i + 1)) := rfl
  have p := sc_pos (i + 1 + j)
  unfold xr_q
  rw [e]
  simp only [Rat.intCast_mul, Rat.intCast_sub, Rat.intCast_add, q_16]
  have s1 : sc_q (i + 3 + (j + 1)) = sc_q (i + 1 + j) * 16384 * 16384 * 16384 := by rw [show i + 3 + (j + 1) = (i + 1 + j) + 1 + 1 + 1 by omega]; rfl
  have s2 : sc_q (i + 2 + (j + 1)) = sc_q (i + 1 + j) * 16384 * 16384 := by rw [show i + 2 + (j + 1) = (i + 1 + j) + 1 + 1 by omega]; rfl
  have s3 : sc_q (i + 1 + (j + 1)) = sc_q (i + 1 + j) * 16384 := by rw [show i + 1 + (j + 1) = (i + 1 + j) + 1 by omega]; rfl
  have s4 : sc_q (i + 3 + j) = sc_q (i + 1 + j) * 16384 * 16384 := by rw [show i + 3 + j = (i + 1 + j) + 1 + 1 by omega]; rfl
  have s5 : sc_q (i + 2 + j) = sc_q (i + 1 + j) * 16384 := by rw [show i + 2 + j = (i + 1 + j) + 1 by omega]; rfl
  rw [s1, s2, s3, s4, s5]
  generalize sc_q (i + 1 + j) = c at p
  have hc : c ≠ 0 := by grind
  generalize ((q j).1.toInt : Rat) = b0
  generalize ((q j).2.1.toInt : Rat) = b1
  generalize ((q j).2.2.1.toInt : Rat) = b2
  generalize ((q j).2.2.2.1.toInt : Rat) = c1
  generalize ((q j).2.2.2.2.1.toInt : Rat) = c2
  generalize (eX_x q xs j (i + 3) : Rat) = x3
  generalize (eX_x q xs j (i + 2) : Rat) = x2
  generalize (eX_x q xs j (i + 1) : Rat) = x1
  generalize (eX_x q xs (j + 1) (i + 2) : Rat) = y2
  generalize (eX_x q xs (j + 1) (i + 1) : Rat) = y1
  clear s1 s2 s3 s4 s5 e p
  grind

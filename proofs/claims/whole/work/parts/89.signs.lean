theorem pw_14 (k : Nat) : (2 : Int) ^ (14 * k) = 16384 ^ k := by rw [Int.pow_mul]; rfl
theorem d_mono {a b : Nat} (h : a ≤ b) : (16384 : Int) ^ a ≤ 16384 ^ b := by
  have e : (16384 : Int) ^ b = 16384 ^ a * 16384 ^ (b - a) := by rw [← Int.pow_add]; congr 1; omega
  have p := d_pos (b - a)
  have q := d_pos a
  rw [e]
  have := Int.mul_le_mul_of_nonneg_left (show (1 : Int) ≤ 16384 ^ (b - a) by omega) (show (0 : Int) ≤ 16384 ^ a by omega)
  omega
theorem hi_dv {v : Int} {k : Nat} (h1 : -2 ^ 63 ≤ v) (h2 : v < 2 ^ 63) (hk : 5 ≤ k) : v / 16384 ^ k = v / 2 ^ 63 := by
  have hm := d_mono hk
  have e5 : (16384 : Int) ^ 5 = 1180591620717411303424 := rfl
  generalize (16384 : Int) ^ k = E at *
  by_cases h0 : 0 ≤ v
  · rw [Int.ediv_eq_zero_of_lt h0 (by omega), Int.ediv_eq_zero_of_lt h0 h2]
  · have e1 : v / E = -1 := by
      have e : v = (v + E) + (-1) * E := by omega
      rw [e, Int.add_mul_ediv_right _ _ (by omega), Int.ediv_eq_zero_of_lt (by omega) (by omega)]
      rfl
    omega
theorem lb_k {v : Int64} {j p : Nat} (hj : j < 60) (hp : p < 60) : (lb_f v (nI j - nI p)).toInt = v.toInt * 16384 ^ p / 16384 ^ j % 16384 := by
  have hr := rg_i v
  unfold lb_f
  by_cases h : p ≤ j
  · rw [pk_sub h, if_pos (nI_pos' (by omega)), pk_mul, lo_i]
    have hq : v.toInt * 16384 ^ p / 16384 ^ j = v.toInt / 16384 ^ (j - p) := by
      have e : (16384 : Int) ^ j = 16384 ^ (j - p) * 16384 ^ p := by rw [← Int.pow_add]; congr 1; omega
      have pp := d_pos p
      rw [e, Int.mul_ediv_mul_of_pos_left _ _ pp]
    rw [hq]
    by_cases hk : 14 * (j - p) < 63
    · rw [if_pos (nI_lt hk (by omega)), sr_i (by omega), pw_14]
    · rw [if_neg (nI_nlt (by omega) (by omega)), sr_i (by omega), hi_dv hr.1 hr.2 (by omega)]
  · rw [if_neg (Int32.not_le.mpr (pk_sneg (by omega) (by omega)))]
    have e : v.toInt * 16384 ^ p = (v.toInt * 16384 ^ (p - j - 1) * 16384) * 16384 ^ j := by
      have e2 : (16384 : Int) ^ p = 16384 ^ (p - j - 1) * 16384 * 16384 ^ j := by
        rw [← Int.pow_succ, ← Int.pow_add]; congr 1; omega
      rw [e2]; grind
    have pj := d_pos j
    rw [e, Int.mul_ediv_cancel _ (by omega), Int.mul_emod_left]
    rfl
theorem put_k {v : Int64} {p : Nat} {f : Nat → Int32} (hp : p < 60) : kr_r (ff_f (fun j => lb_f v (nI j - nI p)) f 60) (v.toInt * 16384 ^ p) := by
  intro i hi
  have e : ff_f (fun j => lb_f v (nI j - nI p)) f 60 i = lb_f v (nI i - nI p) := if_pos hi
  rw [e]
  exact lb_k hi hp
theorem vz_on {v : Int} {p : Nat} : ∀ n, vz_i (fun i => if i = p then v else 0) n = if p < n then v * 16384 ^ p else 0
  | 0 => rfl
  | n + 1 => by
    rw [vz_i, vz_on n]
    by_cases h : n = p
    · subst h
      rw [if_pos rfl, if_neg (by omega), if_pos (by omega)]
      omega
    · rw [if_neg h]
      by_cases h2 : p < n
      · rw [if_pos h2, if_pos (by omega)]; omega
      · rw [if_neg h2, if_neg (by omega)]; omega
theorem xi_m {fn : Nat → Int64} {s : Nat} {x : Int32} (hs1 : 1 ≤ s) (hs2 : s ≤ 32) : mr_r (xi_g fn s x) (x.toInt * 16384 ^ (s - 1)) := by
  have hx1 := Int32.le_toInt x
  have hx2 := Int32.toInt_lt x
  have e : ∀ i, i < 66 → (vp_updL (fl_l (fun _ => 0) fn 66) (s - 1) x.toInt64 i).toInt = if i = s - 1 then x.toInt else 0 := by
    intro i hi
    by_cases h : i = s - 1
    · subst h; rw [vl_se, if_pos rfl, Int32.toInt_toInt64]
    · rw [vl_ne h, if_neg h]
      have : fl_l (fun _ => 0) fn 66 i = 0 := if_pos hi
      rw [this]; rfl
  have := cr_m (g := vp_updL (fl_l (fun _ => 0) fn 66) (s - 1) x.toInt64) (fun i hi => by
    rw [e i hi]; split <;> omega)
  rw [vz_cg 66 e, vz_on, if_pos (by omega)] at this
  exact this
/-- the sign -/
theorem sn_k {f : Nat → Int32} {X : Int} (h : kr_r f X) (h1 : -(8192 * 16384 ^ 59) ≤ X) (h2 : X < 8192 * 16384 ^ 59) : sn_f f = decide (X < 0) := by
  have e := h 59 (by omega)
  have p := d_pos 59
  have e8 : (8192 : Int64).toInt = 8192 := rfl
  have hd : X / 16384 ^ 59 % 16384 < 8192 ↔ 0 ≤ X := by
    generalize (16384 : Int) ^ 59 = E at *
    have q1 : -8192 ≤ X / E := by
      apply Int.le_ediv_of_mul_le p
      omega
    have q2 : X / E < 8192 := Int.ediv_lt_of_lt_mul p (by omega)
    have q3 : 0 ≤ X / E ↔ 0 ≤ X := by
      constructor
      · intro hq
        have := Int.mul_ediv_add_emod X E
        have h0 := Int.emod_nonneg X (show E ≠ 0 by omega)
        have : 0 ≤ E * (X / E) := Int.mul_nonneg (by omega) hq
        omega
      · intro hq; exact Int.ediv_nonneg hq (by omega)
    omega
  unfold sn_f
  rw [Bool.eq_iff_iff]
  simp only [Bool.not_eq_true', decide_eq_false_iff_not, decide_eq_true_eq, Int64.lt_iff_toInt_lt, Int32.toInt_toInt64, e, e8, hd]
  omega
theorem ds_k {f : Nat → Int32} {X : Int} (h : kr_r f X) (h1 : -(8192 * 16384 ^ 59) ≤ X) (h2 : X < 8192 * 16384 ^ 59) : kr_r (ds_f f) (X.natAbs : Int) := by
  have hs := sn_k h h1 h2
  unfold ds_f
  by_cases hx : X < 0
  · rw [decide_eq_true hx] at hs
    rw [if_pos hs]
    have e : (X.natAbs : Int) = -X := by omega
    rw [e]
    obtain ⟨z, hz⟩ := vz_k h (n := 60) (by omega)
    refine dg_k (a := fun i => (-1) * (f i).toInt) (z := -z) ?_ ?_ ?_
    · intro i hi
      have := kr_bd h hi
      omega
    · intro i hi c hc
      have := kr_bd h hi
      unfold ng_T
      rw [sb_i] <;> rw [Int32.toInt_toInt64] <;> omega
    · rw [vz_mu, hz]
      generalize (16384 : Int) ^ 60 = E
      grind
  · rw [decide_eq_false hx] at hs
    rw [if_neg (by rw [hs]; simp)]
    have e : (X.natAbs : Int) = X := by omega
    rw [e]
    exact h
theorem lz_nn {X : Int} : 0 ≤ lz_i X 65 ↔ 0 ≤ X := by
  have e : lz_i X 65 = X / 16384 ^ 65 := if_neg (by omega)
  rw [e]
  have p := d_pos 65
  generalize (16384 : Int) ^ 65 = E at *
  constructor
  · intro hq
    have := Int.mul_ediv_add_emod X E
    have h0 := Int.emod_nonneg X (show E ≠ 0 by omega)
    have : 0 ≤ E * (X / E) := Int.mul_nonneg (by omega) hq
    omega
  · intro hq; exact Int.ediv_nonneg hq (by omega)
theorem mr_vz {f : Nat → Int64} {X : Int} (hf : mr_r f X) : vz_i (fun i => (f i).toInt) 66 = X := by
  rw [vz_cg 66 (fun i hi => hf i hi)]
  exact vz_lz X
theorem mr_bd {f : Nat → Int64} {X : Int} (hf : mr_r f X) (h1 : -(16384 ^ 65) ≤ X) (h2 : X < 16384 ^ 65) {i : Nat} (hi : i < 66) : -1 ≤ (f i).toInt ∧ (f i).toInt ≤ 16383 := by
  rw [hf i hi]; exact lz_bd h1 h2 hi
theorem wo_m {g : Nat → Int64} {X : Int} (h : mr_r g X) (h1 : -(16384 ^ 65) ≤ X) (h2 : X < 16384 ^ 65) : mr_r (wo_f g) (X.natAbs : Int) ∧ (0 ≤ g 65 ↔ 0 ≤ X) := by
  have hn : 0 ≤ g 65 ↔ 0 ≤ X := by
    rw [Int64.le_iff_toInt_le, i64_0, h 65 (by omega)]; exact lz_nn
  refine ⟨?_, hn⟩
  unfold wo_f
  by_cases hx : 0 ≤ X
  · rw [if_pos (hn.mpr hx), show (X.natAbs : Int) = X by omega]
    have := cr_m (g := g) (fun i hi => by have := mr_bd h h1 h2 hi; omega)
    rw [mr_vz h] at this
    exact this
  · rw [if_neg (fun z => hx (hn.mp z)), show (X.natAbs : Int) = -X by omega]
    have e : ∀ i, i < 66 → (fl_l (fun x => -(g x)) g 66 i).toInt = (-1) * (g i).toInt := by
      intro i hi
      have e1 : fl_l (fun x => -(g x)) g 66 i = -(g i) := if_pos hi
      have := mr_bd h h1 h2 hi
      rw [e1, ng_i (by omega)]
      omega
    have := cr_m (g := fl_l (fun x => -(g x)) g 66) (fun i hi => by rw [e i hi]; have := mr_bd h h1 h2 hi; omega)
    rw [vz_cg 66 e, vz_mu, mr_vz h] at this
    rw [show -X = -1 * X by omega]
    exact this
/-- the distance, by 60 limbs -/
theorem di_k {v : Int64} {p out : Nat} {nw f : Nat → Int32} {N : Int} (hp : p < 60) (ho : out ≤ 24) (h : kr_r nw N) : kr_r (dg_c (di_T v (nI p) (nI out) nw) f 60) (v.toInt * 16384 ^ p - 2 ^ out * N) := by
  have p1 : (0 : Int) < 2 ^ out := Int.pow_pos (by decide)
  have p2 : (2 : Int) ^ out ≤ 2 ^ 24 := by
    have := Nat.pow_le_pow_right (n := 2) (by decide) ho
    exact_mod_cast this
  have hb : ∀ i, i < 60 → 0 ≤ (nw i).toInt * 2 ^ out ∧ (nw i).toInt * 2 ^ out ≤ 16383 * 2 ^ 24 := by
    intro i hi
    have := kr_bd h hi
    refine ⟨Int.mul_nonneg this.1 (by omega), ?_⟩
    have a := Int.mul_le_mul_of_nonneg_right this.2 (show (0 : Int) ≤ 2 ^ out by omega)
    have b := Int.mul_le_mul_of_nonneg_left p2 (show (0 : Int) ≤ 16383 by omega)
    omega
  have hv : kr_r (fun i => lb_f v (nI i - nI p)) (v.toInt * 16384 ^ p) := fun i hi => lb_k hi hp
  obtain ⟨z1, e1⟩ := vz_k hv (n := 60) (by omega)
  obtain ⟨z2, e2⟩ := vz_k h (n := 60) (by omega)
  refine dg_k (a := fun i => (lb_f v (nI i - nI p)).toInt + (-2 ^ out) * (nw i).toInt) (z := z1 - 2 ^ out * z2) ?_ ?_ ?_
  · intro i hi
    have a := kr_bd hv hi
    have b := hb i hi
    have c := Int.neg_mul (2 ^ out) (nw i).toInt
    have d := Int.mul_comm (2 ^ out) (nw i).toInt
    omega
  · intro i hi c hc
    have a := kr_bd hv hi
    have b := hb i hi
    have d := Int.neg_mul (2 ^ out) (nw i).toInt
    have d2 := Int.mul_comm (2 ^ out) (nw i).toInt
    unfold di_T
    have e3 : ((nw i).toInt64 <<< ((nI out).toInt64 &&& 63)).toInt = (nw i).toInt * 2 ^ out := by
      rw [sh_li (by omega)] <;> rw [Int32.toInt_toInt64] <;> omega
    have e4 : (c + (lb_f v (nI i - nI p)).toInt64).toInt = c.toInt + (lb_f v (nI i - nI p)).toInt := by
      rw [ad_i] <;> rw [Int32.toInt_toInt64] <;> omega
    rw [sb_i] <;> rw [e3, e4] <;> omega
  · rw [vz_ad, vz_mu, e1, e2]
    generalize (16384 : Int) ^ 60 = E
    generalize v.toInt * 16384 ^ p = A
    grind

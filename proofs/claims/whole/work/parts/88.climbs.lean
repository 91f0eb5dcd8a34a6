/-- 60 limbs of a number, without what lies above them -/
def kr_r (f : Nat → Int32) (X : Int) : Prop := ∀ i, i < 60 → (f i).toInt = X / 16384 ^ i % 16384
theorem lo_i {t : Int64} : ((t &&& 16383).toInt32).toInt = t.toInt % 16384 := by
  have e : (t &&& 16383).toInt = t.toInt % 16384 := an_i (k := 14) (by omega) rfl
  rw [Int64.toInt_toInt32, e, Int.bmod_eq_of_le_mul_two] <;> omega
theorem cy_i {T : Nat → Int64 → Int64} {a : Nat → Int} (ha : ∀ i, i < 60 → (a i).natAbs ≤ 2 ^ 60) (hT : ∀ i, i < 60 → ∀ c : Int64, c.toInt.natAbs ≤ 2 ^ 50 → (T i c).toInt = a i + c.toInt) : ∀ i, i ≤ 60 → (cy_c T i).toInt = vz_i a i / 16384 ^ i ∧ (cy_c T i).toInt.natAbs ≤ 2 ^ 50 := by
  intro i
  induction i with
  | zero => intro _; rw [cy_c, vz_i]; exact ⟨by simp, by decide⟩
  | succ i ih =>
    intro h
    obtain ⟨h1, h2⟩ := ih (by omega)
    have hb := ha i (by omega)
    have e1 : (cy_c T (i + 1)).toInt = (T i (cy_c T i)).toInt / 16384 := e14_i
    rw [hT i (by omega) _ h2, h1, cy_ed] at e1
    have e2 : (cy_c T (i + 1)).toInt = (T i (cy_c T i)).toInt / 16384 := e14_i
    rw [hT i (by omega) _ h2] at e2
    exact ⟨e1, by omega⟩
theorem dg_k {T : Nat → Int64 → Int64} {a : Nat → Int} {f : Nat → Int32} {X z : Int} (ha : ∀ i, i < 60 → (a i).natAbs ≤ 2 ^ 60) (hT : ∀ i, i < 60 → ∀ c : Int64, c.toInt.natAbs ≤ 2 ^ 50 → (T i c).toInt = a i + c.toInt) (hX : vz_i a 60 = X + 16384 ^ 60 * z) : kr_r (dg_c T f 60) X := by
  intro i hi
  obtain ⟨h1, h2⟩ := cy_i ha hT i (by omega)
  have e : dg_c T f 60 i = (T i (cy_c T i) &&& 16383).toInt32 := if_pos hi
  rw [e, lo_i, hT i hi _ h2, h1, cy_dg]
  obtain ⟨y, hy⟩ := vz_sp a (i + 1) (60 - (i + 1))
  rw [show i + 1 + (60 - (i + 1)) = 60 by omega, hX] at hy
  refine dg_md (z := 16384 ^ (60 - (i + 1)) * z - y) ?_
  have : (16384 : Int) ^ 60 = 16384 ^ (i + 1) * 16384 ^ (60 - (i + 1)) := by rw [← Int.pow_add]; congr 1; omega
  rw [this] at hy
  generalize vz_i a (i + 1) = V at *
  generalize (16384 : Int) ^ (i + 1) = D1 at *
  generalize (16384 : Int) ^ (60 - (i + 1)) = D2 at *
  grind
theorem vz_k {f : Nat → Int32} {X : Int} (h : kr_r f X) {n : Nat} (hn : n ≤ 60) : ∃ z, vz_i (fun i => (f i).toInt) n = X + 16384 ^ n * z := by
  refine ⟨-(X / 16384 ^ n), ?_⟩
  rw [vz_cg n (fun i hi => h i (by omega)), vz_dg]
  have := Int.mul_ediv_add_emod X (16384 ^ n)
  rw [Int.mul_neg]
  omega
theorem vz_s1 {h : Nat → Int} : ∀ n, vz_i (fun i => if 1 ≤ i then h (i - 1) else 0) (n + 1) = 16384 * vz_i h n
  | 0 => by simp [vz_i]
  | n + 1 => by
    rw [vz_i, vz_s1 n, vz_i, if_pos (by omega), d_suc]
    have : n + 1 - 1 = n := by omega
    rw [this]
    grind
theorem kr_bd {f : Nat → Int32} {X : Int} (h : kr_r f X) {i : Nat} (hi : i < 60) : 0 ≤ (f i).toInt ∧ (f i).toInt ≤ 16383 := by
  rw [h i hi]; omega
/-- a place of the exact filter, by 60 limbs -/
theorem ps_k {b0 b1 b2 c1 c2 : Int32} {n0 n1 n2 o1 o2 f : Nat → Int32} {X0 X1 X2 O1 O2 : Int} (hb0 : b0.toInt.natAbs ≤ 32767) (hb1 : b1.toInt.natAbs ≤ 32767) (hb2 : b2.toInt.natAbs ≤ 32767) (hc1 : c1.toInt.natAbs ≤ 32767) (hc2 : c2.toInt.natAbs ≤ 32767) (h0 : kr_r n0 X0) (h1 : kr_r n1 X1) (h2 : kr_r n2 X2) (h3 : kr_r o1 O1) (h4 : kr_r o2 O2) :
    kr_r (dg_c (ps_T b0 b1 b2 c1 c2 n0 n1 n2 o1 o2) f 60) (b0.toInt * X0 + b1.toInt * (16384 * X1) + b2.toInt * (16384 * (16384 * X2)) - c1.toInt * O1 - c2.toInt * (16384 * O2)) := by
  have pb : ∀ {b : Int32} {g : Nat → Int32} {X : Int} {i : Nat}, b.toInt.natAbs ≤ 32767 → kr_r g X → i < 60 → (b.toInt64 * (g i).toInt64).toInt = b.toInt * (g i).toInt ∧ (b.toInt * (g i).toInt).natAbs ≤ 2 ^ 30 := by
    intro b g X i hb hg hi
    have hgi := kr_bd hg hi
    have hm := mb_i hb (show (g i).toInt.natAbs ≤ 16383 by omega)
    refine ⟨?_, by omega⟩
    rw [mu_i] <;> rw [Int32.toInt_toInt64, Int32.toInt_toInt64] <;> omega
  obtain ⟨z0, e0⟩ := vz_k h0 (n := 60) (by omega)
  obtain ⟨z1, e1⟩ := vz_k h1 (n := 59) (by omega)
  obtain ⟨z2, e2⟩ := vz_k h2 (n := 58) (by omega)
  obtain ⟨z3, e3⟩ := vz_k h3 (n := 60) (by omega)
  obtain ⟨z4, e4⟩ := vz_k h4 (n := 59) (by omega)
  refine dg_k (a := fun i => b0.toInt * (n0 i).toInt + (-c1.toInt) * (o1 i).toInt + (if 1 ≤ i then b1.toInt * (n1 (i - 1)).toInt + (-c2.toInt) * (o2 (i - 1)).toInt else 0) + (if 1 ≤ i then (if 1 ≤ i - 1 then b2.toInt * (n2 (i - 1 - 1)).toInt else 0) else 0)) (z := b0.toInt * z0 + b1.toInt * z1 + b2.toInt * z2 - c1.toInt * z3 - c2.toInt * z4) ?_ ?_ ?_
  · intro i hi
    have a0 := (pb hb0 h0 hi).2
    have a3 := (pb hc1 h3 hi).2
    have ng := Int.neg_mul c1.toInt (o1 i).toInt
    by_cases i1 : 1 ≤ i
    · have a1 := (pb (i := i - 1) hb1 h1 (by omega)).2
      have a4 := (pb (i := i - 1) hc2 h4 (by omega)).2
      have ng2 := Int.neg_mul c2.toInt (o2 (i - 1)).toInt
      by_cases i2 : 1 ≤ i - 1
      · have a2 := (pb (i := i - 1 - 1) hb2 h2 (by omega)).2
        rw [if_pos i1, if_pos i1, if_pos i2]
        omega
      · rw [if_pos i1, if_pos i1, if_neg i2]
        omega
    · rw [if_neg i1, if_neg i1]
      omega
  · intro i hi c hc
    have a0 := pb hb0 h0 hi
    have a3 := pb hc1 h3 hi
    have ng := Int.neg_mul c1.toInt (o1 i).toInt
    unfold ps_T
    generalize b0.toInt64 * (n0 i).toInt64 = p0 at *
    generalize c1.toInt64 * (o1 i).toInt64 = p3 at *
    have s1 : (c + p0).toInt = c.toInt + p0.toInt := ad_i (by omega) (by omega)
    have s2 : (c + p0 - p3).toInt = (c + p0).toInt - p3.toInt := sb_i (by omega) (by omega)
    generalize c + p0 - p3 = q0 at *
    by_cases i1 : 1 ≤ i
    · have a1 := pb (i := i - 1) hb1 h1 (by omega)
      have a4 := pb (i := i - 1) hc2 h4 (by omega)
      have ng2 := Int.neg_mul c2.toInt (o2 (i - 1)).toInt
      rw [if_pos i1, if_pos i1, if_pos i1]
      generalize b1.toInt64 * (n1 (i - 1)).toInt64 = p1 at *
      generalize c2.toInt64 * (o2 (i - 1)).toInt64 = p4 at *
      have s3 : (p1 - p4).toInt = p1.toInt - p4.toInt := sb_i (by omega) (by omega)
      have s4 : (q0 + (p1 - p4)).toInt = q0.toInt + (p1 - p4).toInt := ad_i (by omega) (by omega)
      by_cases i2 : 2 ≤ i
      · have a2 := pb (i := i - 2) hb2 h2 (by omega)
        rw [if_pos i2, if_pos (by omega), show i - 1 - 1 = i - 2 by omega]
        generalize b2.toInt64 * (n2 (i - 2)).toInt64 = p2 at *
        rw [ad_i] <;> omega
      · rw [if_neg i2, if_neg (by omega)]
        rw [ad_i] <;> rw [i64_0] <;> omega
    · rw [if_neg i1, if_neg i1, if_neg i1, if_neg (by omega)]
      have s4 : (q0 + 0).toInt = q0.toInt := by rw [ad_i] <;> rw [i64_0] <;> omega
      rw [ad_i] <;> rw [i64_0] <;> omega
  · have v1 : vz_i (fun i => if 1 ≤ i then b1.toInt * (n1 (i - 1)).toInt + (-c2.toInt) * (o2 (i - 1)).toInt else 0) (59 + 1) = 16384 * vz_i (fun i => b1.toInt * (n1 i).toInt + (-c2.toInt) * (o2 i).toInt) 59 := vz_s1 (h := fun i => b1.toInt * (n1 i).toInt + (-c2.toInt) * (o2 i).toInt) 59
    have v2 : vz_i (fun i => if 1 ≤ i then (if 1 ≤ i - 1 then b2.toInt * (n2 (i - 1 - 1)).toInt else 0) else 0) (59 + 1) = 16384 * vz_i (fun i => if 1 ≤ i then b2.toInt * (n2 (i - 1)).toInt else 0) 59 := vz_s1 (h := fun i => if 1 ≤ i then b2.toInt * (n2 (i - 1)).toInt else 0) 59
    have v3 : vz_i (fun i => if 1 ≤ i then b2.toInt * (n2 (i - 1)).toInt else 0) (58 + 1) = 16384 * vz_i (fun i => b2.toInt * (n2 i).toInt) 58 := vz_s1 (h := fun i => b2.toInt * (n2 i).toInt) 58
    rw [vz_ad, vz_mu, vz_mu, e1, e4] at v1
    rw [vz_mu, e2] at v3
    rw [v3] at v2
    rw [vz_ad, vz_ad, vz_ad, vz_mu, vz_mu, e0, e3]
    have v1' : vz_i (fun i => if 1 ≤ i then b1.toInt * (n1 (i - 1)).toInt + (-c2.toInt) * (o2 (i - 1)).toInt else 0) 60 = 16384 * (b1.toInt * (X1 + 16384 ^ 59 * z1) + -c2.toInt * (O2 + 16384 ^ 59 * z4)) := v1
    have v2' : vz_i (fun i => if 1 ≤ i then (if 1 ≤ i - 1 then b2.toInt * (n2 (i - 1 - 1)).toInt else 0) else 0) 60 = 16384 * (16384 * (b2.toInt * (X2 + 16384 ^ 58 * z2))) := v2
    rw [v1', v2']
    have d1 := d_suc 59
    have d2 := d_suc 58
    have d1' : (16384 : Int) ^ 60 = 16384 ^ 59 * 16384 := d1
    have d2' : (16384 : Int) ^ 59 = 16384 ^ 58 * 16384 := d2
    rw [d1', d2']
    generalize (16384 : Int) ^ 58 = E
    clear v1 v2 v3 v1' v2' e0 e1 e2 e3 e4 d1 d2 d1' d2' pb
    grind

theorem vz_z {a : Nat → Int} : ∀ n, (∀ i, i < n → a i = 0) → vz_i a n = 0
  | 0, _ => rfl
  | n + 1, h => by rw [vz_i, vz_z n (fun i hi => h i (by omega)), h n (by omega)]; omega
theorem vz_sh {h : Nat → Int} {p : Nat} : ∀ n, vz_i (fun i => if p ≤ i then h (i - p) else 0) (p + n) = 16384 ^ p * vz_i h n
  | 0 => by
    rw [Nat.add_zero, vz_z p (fun i hi => if_neg (by omega)), vz_i]; omega
  | n + 1 => by
    have e : (if p ≤ p + n then h (p + n - p) else 0) = h n := by rw [if_pos (by omega), show p + n - p = n by omega]
    show vz_i (fun i => if p ≤ i then h (i - p) else 0) (p + n) + (if p ≤ p + n then h (p + n - p) else 0) * 16384 ^ (p + n) = _
    rw [vz_sh n, vz_i, e, Int.pow_add]
    grind
theorem vs_i {v : Int64} : ∀ d, d ≤ 4 → (vs_v v d).toInt = v.toInt / 16384 ^ d
  | 0, _ => by rw [vs_v]; simp
  | d + 1, h => by
    have p := d_pos d
    rw [vs_v, if_pos (by omega), e14_i, vs_i d (by omega), d_suc, Int.ediv_ediv_of_nonneg (by omega)]
def av_i (v : Int) (d : Nat) : Int := if d < 4 then v / 16384 ^ d % 16384 else if d = 4 then v / 16384 ^ 4 else 0
theorem av_e {v : Int64} {d : Nat} : (av_v v d).toInt = av_i v.toInt d ∧ (av_i v.toInt d).natAbs ≤ 2 ^ 14 := by
  have hr := rg_i v
  unfold av_v av_i
  by_cases h4 : d < 4
  · have n4 : ¬ d = 4 := by omega
    rw [if_pos (show d < 5 by omega), if_neg n4, if_pos h4]
    have e : (vs_v v d &&& 16383).toInt = (vs_v v d).toInt % 16384 := an_i (k := 14) (by omega) rfl
    rw [e, vs_i d (by omega)]
    exact ⟨rfl, by omega⟩
  · by_cases h5 : d = 4
    · subst h5
      rw [if_pos (by omega), if_pos rfl, if_neg (by omega), if_pos rfl, vs_i 4 (by omega)]
      have e4 : (16384 : Int) ^ 4 = 72057594037927936 := rfl
      rw [e4]
      exact ⟨rfl, by omega⟩
    · rw [if_neg (by omega), if_neg h4, if_neg h5]
      exact ⟨rfl, by omega⟩
theorem vz_av {v : Int} : ∀ k, vz_i (av_i v) (5 + k) = v
  | 0 => by
    show vz_i (av_i v) 4 + av_i v 4 * 16384 ^ 4 = v
    rw [vz_cg (a' := fun i => v / 16384 ^ i % 16384) 4 (fun i hi => by unfold av_i; rw [if_pos hi]), vz_dg]
    have : av_i v 4 = v / 16384 ^ 4 := by unfold av_i; rw [if_neg (by omega), if_pos rfl]
    rw [this]
    have := Int.mul_ediv_add_emod v (16384 ^ 4)
    generalize (16384 : Int) ^ 4 = E at *
    rw [Int.mul_comm]
    omega
  | k + 1 => by
    show vz_i (av_i v) (5 + k) + av_i v (5 + k) * 16384 ^ (5 + k) = v
    have : av_i v (5 + k) = 0 := by unfold av_i; rw [if_neg (by omega), if_neg (by omega)]
    rw [vz_av k, this]; omega
/-- the distance, by the reference's limbs -/
theorem dr_m {fn g : Nat → Int64} {late out : Nat} {v : Int64} {N : Int} (hl : late ≤ 40) (ho : out ≤ 24) (h : mr_r fn N) (h1 : -(16384 ^ 65) ≤ N) (h2 : N < 16384 ^ 65) : mr_r (cr_f (dr_f (fl_l (fun x => -(fn x <<< ((nI out).toInt64 &&& 63))) g 66) late v 66) 65) (v.toInt * 16384 ^ late - 2 ^ out * N) := by
  have p1 : (0 : Int) < 2 ^ out := Int.pow_pos (by decide)
  have p2 : (2 : Int) ^ out ≤ 2 ^ 24 := by
    have := Nat.pow_le_pow_right (n := 2) (by decide) ho
    exact_mod_cast this
  have hb : ∀ i, i < 66 → ((fn i).toInt * 2 ^ out).natAbs ≤ 2 ^ 14 * 2 ^ 24 := by
    intro i hi
    have := mr_bd h h1 h2 hi
    exact mb_i (by omega) (by omega)
  have e0 : ∀ i, i < 66 → (fl_l (fun x => -(fn x <<< ((nI out).toInt64 &&& 63))) g 66 i).toInt = (-2 ^ out) * (fn i).toInt := by
    intro i hi
    have hbi := hb i hi
    have e : fl_l (fun x => -(fn x <<< ((nI out).toInt64 &&& 63))) g 66 i = -(fn i <<< ((nI out).toInt64 &&& 63)) := if_pos hi
    have es : (fn i <<< ((nI out).toInt64 &&& 63)).toInt = (fn i).toInt * 2 ^ out := sh_li (by omega) (by omega) (by omega)
    rw [e, ng_i (by omega), es, Int.neg_mul, Int.mul_comm]
  have e1 : ∀ i, i < 66 → (dr_f (fl_l (fun x => -(fn x <<< ((nI out).toInt64 &&& 63))) g 66) late v 66 i).toInt = (-2 ^ out) * (fn i).toInt + (if late ≤ i then av_i v.toInt (i - late) else 0) := by
    intro i hi
    have hbi := hb i hi
    have e00 := e0 i hi
    have c1 := Int.neg_mul (2 ^ out) (fn i).toInt
    have c2 := Int.mul_comm (2 ^ out) (fn i).toInt
    by_cases hli : late ≤ i
    · have e : dr_f (fl_l (fun x => -(fn x <<< ((nI out).toInt64 &&& 63))) g 66) late v 66 i = fl_l (fun x => -(fn x <<< ((nI out).toInt64 &&& 63))) g 66 i + av_v v (i - late) := if_pos ⟨hli, hi⟩
      obtain ⟨a1, a2⟩ := av_e (v := v) (d := i - late)
      rw [e, if_pos hli, ad_i] <;> rw [e00, a1]
      · omega
      · omega
    · have e : dr_f (fl_l (fun x => -(fn x <<< ((nI out).toInt64 &&& 63))) g 66) late v 66 i = fl_l (fun x => -(fn x <<< ((nI out).toInt64 &&& 63))) g 66 i := if_neg (by omega)
      rw [e, if_neg hli, e00]; omega
  have hc := cr_m (g := dr_f (fl_l (fun x => -(fn x <<< ((nI out).toInt64 &&& 63))) g 66) late v 66) (fun i hi => by
    rw [e1 i hi]
    have hbi := hb i hi
    have c1 := Int.neg_mul (2 ^ out) (fn i).toInt
    have c2 := Int.mul_comm (2 ^ out) (fn i).toInt
    split
    · have := (av_e (v := v) (d := i - late)).2
      omega
    · omega)
  have hval : vz_i (fun i => (dr_f (fl_l (fun x => -(fn x <<< ((nI out).toInt64 &&& 63))) g 66) late v 66 i).toInt) 66 = v.toInt * 16384 ^ late - 2 ^ out * N := by
    rw [vz_cg 66 e1, vz_ad, vz_mu, mr_vz h]
    have hs := vz_sh (h := av_i v.toInt) (p := late) (5 + (61 - late))
    rw [show late + (5 + (61 - late)) = 66 by omega, vz_av] at hs
    rw [hs, Int.mul_comm (16384 ^ late), Int.neg_mul]
    omega
  rw [hval] at hc
  exact hc
theorem or_i {a d : Int64} (ha0 : 0 ≤ a.toInt) (ha1 : a.toInt < 2 ^ 49) (hd0 : 0 ≤ d.toInt) (hd1 : d.toInt < 2 ^ 14) : (a <<< ((nI 14).toInt64 &&& 63) ||| d).toInt = a.toInt * 16384 + d.toInt := by
  have e1 : (a <<< ((nI 14).toInt64 &&& 63)).toInt = a.toInt * 16384 := sh_li (k := 14) (by omega) (by omega) (by omega)
  generalize a <<< ((nI 14).toInt64 &&& 63) = b at e1 ⊢
  have nb : b.toBitVec.toNat = a.toInt.toNat * 2 ^ 14 := by
    have := BitVec.toInt_eq_toNat_cond b.toBitVec
    rw [Int64.toInt_toBitVec] at this
    have hlt := b.toBitVec.isLt
    split at this <;> omega
  have nd : d.toBitVec.toNat = d.toInt.toNat := by
    have := BitVec.toInt_eq_toNat_cond d.toBitVec
    rw [Int64.toInt_toBitVec] at this
    have hlt := d.toBitVec.isLt
    split at this <;> omega
  have hor : (b ||| d).toBitVec.toNat = a.toInt.toNat * 2 ^ 14 + d.toInt.toNat := by
    rw [Int64.toBitVec_or, BitVec.toNat_or, nb, nd]
    have := Nat.shiftLeft_add_eq_or_of_lt (a := a.toInt.toNat) (b := d.toInt.toNat) (i := 14) (by omega)
    rw [Nat.shiftLeft_eq] at this
    exact this.symm
  rw [← Int64.toInt_toBitVec, BitVec.toInt_eq_toNat_of_lt (by omega), hor]
  omega
theorem q_dg {A : Int} {P k : Nat} : A / 16384 ^ (P + k) = A / 16384 ^ P / 16384 ^ k := by
  have p := d_pos P
  rw [Int.pow_add, Int.ediv_ediv_of_nonneg (by omega)]
/-- the whole part, both ways -/
theorem so_m {g : Nat → Int64} {A : Int} {P : Nat} (hP : P ≤ 40) (h : mr_r g A) (h0 : 0 ≤ A) (h1 : A / 16384 ^ P < 2 ^ 56) : (so_v g P 5 0).toInt = A / 16384 ^ P := by
  have p := d_pos P
  have q0 : 0 ≤ A / 16384 ^ P := Int.ediv_nonneg h0 (by omega)
  have dk : ∀ k, k < 5 → (g (P + k)).toInt = A / 16384 ^ P / 16384 ^ k % 16384 := by
    intro k hk
    rw [h (P + k) (by omega)]
    have e : lz_i A (P + k) = A / 16384 ^ (P + k) % 16384 := if_pos (by omega)
    rw [e, q_dg]
  have d0 := dk 0 (by omega)
  have d1 := dk 1 (by omega)
  have d2 := dk 2 (by omega)
  have d3 := dk 3 (by omega)
  have d4 := dk 4 (by omega)
  generalize A / 16384 ^ P = Q at *
  have e1 : (16384 : Int) ^ 1 = 16384 := rfl
  have e2 : (16384 : Int) ^ 2 = 268435456 := rfl
  have e3 : (16384 : Int) ^ 3 = 4398046511104 := rfl
  have e4 : (16384 : Int) ^ 4 = 72057594037927936 := rfl
  have e0 : (16384 : Int) ^ 0 = 1 := rfl
  rw [e0] at d0
  rw [e1] at d1
  rw [e2] at d2
  rw [e3] at d3
  rw [e4] at d4
  simp only [so_v]
  generalize g (P + 4) = x4 at *
  generalize g (P + 3) = x3 at *
  generalize g (P + 2) = x2 at *
  generalize g (P + 1) = x1 at *
  generalize g (P + 0) = x0 at *
  have o4 := or_i (a := 0) (d := x4) (by decide) (by decide) (by omega) (by omega)
  rw [i64_0] at o4
  generalize (0 : Int64) <<< ((nI 14).toInt64 &&& 63) ||| x4 = y4 at *
  have o3 := or_i (a := y4) (d := x3) (by omega) (by omega) (by omega) (by omega)
  generalize y4 <<< ((nI 14).toInt64 &&& 63) ||| x3 = y3 at *
  have o2 := or_i (a := y3) (d := x2) (by omega) (by omega) (by omega) (by omega)
  generalize y3 <<< ((nI 14).toInt64 &&& 63) ||| x2 = y2 at *
  have o1 := or_i (a := y2) (d := x1) (by omega) (by omega) (by omega) (by omega)
  generalize y2 <<< ((nI 14).toInt64 &&& 63) ||| x1 = y1 at *
  have o0 := or_i (a := y1) (d := x0) (by omega) (by omega) (by omega) (by omega)
  rw [o0]
  omega
theorem wh_k {f : Nat → Int32} {A : Int} {P : Nat} (hP : P ≤ 40) (h : kr_r f A) (h0 : 0 ≤ A) (h1 : A / 16384 ^ P < 2 ^ 56) : (wh_f f P).toInt = A / 16384 ^ P := by
  have p := d_pos P
  have q0 : 0 ≤ A / 16384 ^ P := Int.ediv_nonneg h0 (by omega)
  have dk : ∀ k, k < 4 → (f (P + k)).toInt = A / 16384 ^ P / 16384 ^ k % 16384 := by
    intro k hk
    rw [h (P + k) (by omega), q_dg]
  have d0 := dk 0 (by omega)
  have d1 := dk 1 (by omega)
  have d2 := dk 2 (by omega)
  have d3 := dk 3 (by omega)
  generalize A / 16384 ^ P = Q at *
  have e1 : (16384 : Int) ^ 1 = 16384 := rfl
  have e2 : (16384 : Int) ^ 2 = 268435456 := rfl
  have e3 : (16384 : Int) ^ 3 = 4398046511104 := rfl
  have e0 : (16384 : Int) ^ 0 = 1 := rfl
  rw [e0, Nat.add_zero] at d0
  rw [e1] at d1
  rw [e2] at d2
  rw [e3] at d3
  unfold wh_f
  have t0 : ((f P).toInt64 <<< ((nI 0).toInt64 &&& 63)).toInt = (f P).toInt * 1 := by rw [sh_li (k := 0) (by omega)] <;> rw [Int32.toInt_toInt64] <;> omega
  have t1 : ((f (P + 1)).toInt64 <<< ((nI 14).toInt64 &&& 63)).toInt = (f (P + 1)).toInt * 16384 := by rw [sh_li (k := 14) (by omega)] <;> rw [Int32.toInt_toInt64] <;> omega
  have t2 : ((f (P + 2)).toInt64 <<< ((nI 28).toInt64 &&& 63)).toInt = (f (P + 2)).toInt * 268435456 := by rw [sh_li (k := 28) (by omega)] <;> rw [Int32.toInt_toInt64] <;> omega
  have t3 : ((f (P + 3)).toInt64 <<< ((nI 42).toInt64 &&& 63)).toInt = (f (P + 3)).toInt * 4398046511104 := by rw [sh_li (k := 42) (by omega)] <;> rw [Int32.toInt_toInt64] <;> omega
  generalize (f P).toInt64 <<< ((nI 0).toInt64 &&& 63) = y0 at *
  generalize (f (P + 1)).toInt64 <<< ((nI 14).toInt64 &&& 63) = y1 at *
  generalize (f (P + 2)).toInt64 <<< ((nI 28).toInt64 &&& 63) = y2 at *
  generalize (f (P + 3)).toInt64 <<< ((nI 42).toInt64 &&& 63) = y3 at *
  have s0 : (0 + y0).toInt = y0.toInt := by rw [ad_i] <;> rw [i64_0] <;> omega
  have s1 : (0 + y0 + y1).toInt = (0 + y0).toInt + y1.toInt := ad_i (by omega) (by omega)
  have s2 : (0 + y0 + y1 + y2).toInt = (0 + y0 + y1).toInt + y2.toInt := ad_i (by omega) (by omega)
  rw [ad_i (by omega) (by omega), s2, s1, s0]
  omega
theorem mk_31 : ∀ k : Fin 32, (nI k.val &&& 31).toBitVec.smod 32 = BitVec.ofNat 32 k.val := by decide
theorem sr_i32 {a : Int32} {k : Nat} (hk : k < 32) : (a >>> (nI k &&& 31)).toInt = a.toInt / 2 ^ k := by
  have h := mk_31 ⟨k, hk⟩
  dsimp only at h
  rw [← Int32.toInt_toBitVec, Int32.toBitVec_shiftRight, h, BitVec.sshiftRight', BitVec.toInt_sshiftRight, Int32.toInt_toBitVec, BitVec.toNat_ofNat, Nat.mod_eq_of_lt (by omega), Int.shiftRight_eq_div_pow]
  simp
/-- a bit of the size -/
theorem bt_e {g : Nat → Int64} {f : Nat → Int32} {A : Int} {i : Nat} (hi : i < 800) (hg : mr_r g A) (hf : kr_r f A) : (g (i / 14) >>> ((nI (i % 14)).toInt64 &&& 63)).toInt32 = f (i / 14) >>> (nI (i % 14) &&& 31) := by
  have e1 := hg (i / 14) (by omega)
  have e2 := hf (i / 14) (by omega)
  have e3 : lz_i A (i / 14) = A / 16384 ^ (i / 14) % 16384 := if_pos (by omega)
  rw [e3, ← e2] at e1
  have hb := kr_bd hf (show i / 14 < 60 by omega)
  have e4 := sr_i (a := g (i / 14)) (k := i % 14) (by omega)
  have e5 := sr_i32 (a := f (i / 14)) (k := i % 14) (by omega)
  have p1 : (0 : Int) < 2 ^ (i % 14) := Int.pow_pos (by decide)
  have q0 : 0 ≤ (f (i / 14)).toInt / 2 ^ (i % 14) := Int.ediv_nonneg hb.1 (by omega)
  have q1 : (f (i / 14)).toInt / 2 ^ (i % 14) ≤ (f (i / 14)).toInt := Int.ediv_le_self _ hb.1
  rw [← Int32.toInt_inj, Int64.toInt_toInt32, e4, e1, e5, Int.bmod_eq_of_le_mul_two] <;> omega

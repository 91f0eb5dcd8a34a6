theorem an_i {t c : Int64} {k : Nat} (hk : k ≤ 62) (hc : c.toBitVec.toNat = 2 ^ k - 1) : (t &&& c).toInt = t.toInt % 2 ^ k := by
  have h1 : (t &&& c).toBitVec.toNat = t.toBitVec.toNat % 2 ^ k := by
    rw [Int64.toBitVec_and, BitVec.toNat_and, hc, Nat.and_two_pow_sub_one_eq_mod]
  have p0 : 0 < 2 ^ k := Nat.pow_pos (by decide)
  have p1 : 2 ^ k ≤ 2 ^ 62 := Nat.pow_le_pow_right (by decide) hk
  have h2 : t.toBitVec.toNat % 2 ^ k < 2 ^ k := Nat.mod_lt _ p0
  have h3 : (t &&& c).toInt = ((t.toBitVec.toNat % 2 ^ k : Nat) : Int) := by
    rw [← Int64.toInt_toBitVec, BitVec.toInt_eq_toNat_of_lt (by omega), h1]
  rw [h3, ← Int64.toInt_toBitVec, BitVec.toInt_eq_toNat_bmod, Int.natCast_emod]
  have e : ((2 ^ k : Nat) : Int) = 2 ^ k := by simp
  rw [e]
  obtain ⟨q, hq⟩ : ∃ q : Int, (2 : Int) ^ 64 = 2 ^ k * q := ⟨2 ^ (64 - k), by rw [← Int.pow_add]; congr 1; omega⟩
  have hb : ∃ z : Int, (t.toBitVec.toNat : Int).bmod (2 ^ 64) = t.toBitVec.toNat + (2 ^ k * q) * z := by
    rw [← hq]
    rw [Int.bmod_def]
    split
    · exact ⟨-((t.toBitVec.toNat : Int) / (2 ^ 64)), by have := Int.mul_ediv_add_emod (t.toBitVec.toNat : Int) (2 ^ 64); omega⟩
    · exact ⟨-((t.toBitVec.toNat : Int) / (2 ^ 64)) - 1, by have := Int.mul_ediv_add_emod (t.toBitVec.toNat : Int) (2 ^ 64); omega⟩
  obtain ⟨z, hz⟩ := hb
  have e5 : ((2 ^ 64 : Nat) : Int) = 2 ^ 64 := by simp
  rw [hz, Int.mul_assoc, Int.add_mul_emod_self_left]
theorem cd_i {x d : Int} (hd : 0 < d) {z : Int} (h1 : x ≤ z * d) (h2 : (z - 1) * d < x) : (x + d - 1) / d = z := by
  have e : x + d - 1 = (x - 1 - (z - 1) * d) + z * d := by rw [Int.sub_mul]; omega
  rw [e, Int.add_mul_ediv_right _ _ (by omega), Int.ediv_eq_zero_of_lt (by omega) (by rw [Int.sub_mul] at *; omega)]
  omega
def tx_v (v t : Int64) : Int64 := v * (t >>> ((nI 16).toInt64 &&& 63)) + ru_p (v * (t &&& 65535)) 65536
theorem tx_i {v t : Int64} (hv0 : 0 ≤ v.toInt) (hv1 : v.toInt ≤ 2 ^ 46) (ht0 : 0 ≤ t.toInt) (ht1 : t.toInt ≤ 2 ^ 32) : (tx_v v t).toInt = (v.toInt * t.toInt + 65535) / 65536 ∧ 0 ≤ v.toInt * t.toInt ∧ v.toInt * t.toInt ≤ 2 ^ 78 := by
  have e1 : (t >>> ((nI 16).toInt64 &&& 63)).toInt = t.toInt / 65536 := sr_i (k := 16) (by omega)
  have e2 : (t &&& 65535).toInt = t.toInt % 65536 := an_i (k := 16) (by omega) rfl
  have e3 : (65536 : Int64).toInt = 65536 := rfl
  unfold tx_v
  generalize t >>> ((nI 16).toInt64 &&& 63) = A at e1 ⊢
  generalize t &&& 65535 = B at e2 ⊢
  have hA : A.toInt.natAbs ≤ 65536 := by omega
  have hB : B.toInt.natAbs ≤ 65535 := by omega
  have hv : v.toInt.natAbs ≤ 2 ^ 46 := by omega
  have m1 := mb_i hv hA
  have m2 := mb_i hv hB
  have n1 : 0 ≤ v.toInt * A.toInt := Int.mul_nonneg hv0 (by omega)
  have n2 : 0 ≤ v.toInt * B.toInt := Int.mul_nonneg hv0 (by omega)
  have e4 : (v * A).toInt = v.toInt * A.toInt := mu_i (by omega) (by omega)
  have e5 : (v * B).toInt = v.toInt * B.toInt := mu_i (by omega) (by omega)
  have e6 := ru_i (a := v * B) (d := 65536) (by omega) (by omega)
  rw [e5, e3] at e6
  have e7 : v.toInt * t.toInt = v.toInt * A.toInt * 65536 + v.toInt * B.toInt := by
    have : t.toInt = A.toInt * 65536 + B.toInt := by omega
    rw [this]; grind
  have m3 := mb_i hv (show t.toInt.natAbs ≤ 2 ^ 32 by omega)
  refine ⟨?_, Int.mul_nonneg hv0 ht0, ?_⟩
  · rw [ad_i] <;> omega
  · omega
/-- the two ways of v t / 65536 -/
theorem tm_i {v t : Int64} (hv0 : 0 ≤ v.toInt) (hv1 : v.toInt ≤ 2 ^ 46) (ht0 : 0 ≤ t.toInt) (ht1 : t.toInt ≤ 2 ^ 32) : (tm_b v t = tx_v v t ∧ 0 ≤ (tx_v v t).toInt ∧ (tx_v v t).toInt ≤ 2 ^ 46) ∨ ((tm_b v t).toInt = 2 ^ 46 + 1 ∧ 2 ^ 46 < (tx_v v t).toInt ∧ (tx_v v t).toInt ≤ 2 ^ 62) := by
  obtain ⟨e1, p1, p2⟩ := tx_i hv0 hv1 ht0 ht1
  have e0 : (4611686018427387904 : Int64).toInt = 2 ^ 62 := rfl
  unfold tm_b
  by_cases h0 : 0 < t
  · rw [if_pos h0]
    rw [Int64.lt_iff_toInt_lt, i64_0] at h0
    have e2 : (4611686018427387904 / t).toInt = 2 ^ 62 / t.toInt := by
      have q0 : (0 : Int) ≤ 2 ^ 62 / t.toInt := Int.ediv_nonneg (by omega) (by omega)
      have q1 : (2 : Int) ^ 62 / t.toInt ≤ 2 ^ 62 := Int.ediv_le_self _ (by omega)
      rw [Int64.toInt_div, e0, Int.tdiv_eq_ediv_of_nonneg (by omega), Int.bmod_eq_of_le_mul_two] <;> omega
    have dm := Int.mul_ediv_add_emod (2 ^ 62) t.toInt
    have m0 := Int.emod_nonneg (2 ^ 62) (show t.toInt ≠ 0 by omega)
    have m1 := Int.emod_lt_of_pos (2 ^ 62) h0
    by_cases h1 : v ≤ 4611686018427387904 / t
    · rw [if_pos h1]
      rw [Int64.le_iff_toInt_le, e2] at h1
      have h2 : v.toInt * t.toInt ≤ 2 ^ 62 := by
        have := Int.mul_le_mul_of_nonneg_right h1 ht0
        have := Int.mul_comm (2 ^ 62 / t.toInt) t.toInt
        omega
      have e3 : (v * t).toInt = v.toInt * t.toInt := mu_i (by omega) (by omega)
      left
      have e4 := up_bi (a := v * t) (k := 16) (by omega) (by omega) (by omega)
      refine ⟨?_, by omega, by omega⟩
      rw [i64_eq, e1, e4, e3]
      omega
    · rw [if_neg h1]
      rw [Int64.le_iff_toInt_le, e2] at h1
      right
      have h2 : 2 ^ 62 < v.toInt * t.toInt := by
        have h3 : 2 ^ 62 / t.toInt + 1 ≤ v.toInt := by omega
        have := Int.mul_le_mul_of_nonneg_right h3 ht0
        rw [Int.add_mul] at this
        have := Int.mul_comm (2 ^ 62 / t.toInt) t.toInt
        omega
      exact ⟨rfl, by omega, by omega⟩
  · rw [if_neg h0]
    rw [Int64.lt_iff_toInt_lt, i64_0] at h0
    have : t.toInt = 0 := by omega
    rw [this] at e1 p2
    left
    rw [Int.mul_zero] at e1
    refine ⟨?_, by omega, by omega⟩
    rw [i64_eq, e1]; rfl
theorem d_times (v t : Int64) (mem : Mem) : cl 94 [.long v, .long t] mem = some (some (.long (tx_v v t)), mem) := by
  have h1 := d_up (a := v * (t &&& 65535)) (d := 65536) (by decide) mem
  rw [cl_def]
  unfold tx_v
  simp (disch := omega) only [rn_def, ri_iconst, ri_bipush, ri_sipush, ri_lconst, ri_ldc2_w, ri_iload_n, ri_iload, ri_istore_n, ri_istore, ri_lload_n, ri_lload, ri_lstore_n, ri_lstore, ri_aload_n, ri_aload, ri_astore_n, ri_astore, ri_iinc, ri_iadd, ri_isub, ri_imul, ri_iand, ri_ior, ri_ishl, ri_ishr, ri_ladd, ri_lsub, ri_lmul, ri_land, ri_lor, ri_lshl, ri_lshr, ri_idiv, ri_irem, ri_ldiv, ri_lrem, ri_ineg, ri_lneg, ri_i2l, ri_l2i, ri_lcmp, ri_dup_int, ri_pop_int, ri_dup_ref, ri_pop_ref, ri_dup2, ri_if_eq, ri_ic_eq, ri_if_ne, ri_ic_ne, ri_if_lt, ri_ic_lt, ri_if_ge, ri_ic_ge, ri_if_gt, ri_ic_gt, ri_if_le, ri_ic_le, ri_goto, ri_switch, ri_getfield, ri_putfield, ri_iaload, ri_baload, ri_laload, ri_aaload, ri_iastore, ri_bastore, ri_lastore, ri_arraylength, ri_ireturn, ri_lreturn, ri_return, ri_virt, ri_stat, ri_abs, ri_labs, ri_lmax, ri_imin, li_ok, ll_ok, lr_ok, ob_ok, vl_ok, ai_ok, al_ok, ar_ok, le_ok, rf_ok, w1_r_ok, ix_ok, on_tt, up_self, up_up, ok_i, ok_l, ok_b0, ok_b1, ok_a, ok_o, b01_0, b01_1, cs_nil, cs_i, cs_l, cs_r, pad_0, pad_n, pad_1i, pad_1r, pad_i, pad_r, pad_l, pop_0, pop_n, kl_i, kl_r, kl_l, kl_n, s1_0, s1_1, s1_n, s2_0, s2_1, s2_n, lc_lt, lc_gt, lc_eq, lc_le, lc_ge, ca_v, tq_0_0, tq_0_1, tq_0_2, tq_1_0, tq_1_1, tq_1_2, tq_1_3, tq_1_4, tq_1_5, tq_1_6, tq_1_7, tq_1_8, tq_1_9, tq_2_0, tq_2_1, tq_3_0, tq_3_1, tq_3_2, tq_3_3, tq_3_4, tq_3_5, tq_3_6, tq_3_7, tq_4_0, tq_4_1, tq_4_2, tq_4_3, tq_4_4, tq_4_5, tq_4_6, tq_4_7, tq_4_8, tq_4_9, tq_4_10, tq_4_11, tq_4_12, tq_4_13, tq_5_0, tq_5_1, tq_5_2, tq_5_3, tq_5_4, tq_5_5, tq_5_6, tq_5_7, tq_5_8, tq_5_9, tq_5_10, tq_5_11, tq_5_12, tq_6_0, tq_6_1, tq_6_2, tq_7_0, tq_7_1, tq_7_2, tq_7_3, tq_7_4, tq_7_5, tq_7_6, tq_7_7, tq_7_8, tq_7_9, tq_7_10, tq_7_11, tq_7_12, tq_7_13, tq_7_14, tq_7_15, tq_7_16, tq_8_0, tq_8_1, tq_8_2, tq_8_3, tq_8_4, tq_8_5, tq_8_6, tq_8_7, tq_8_8, tq_8_9, tq_8_10, tq_8_11, tq_8_12, tq_8_13, tq_8_14, tq_8_15, tq_8_16, tq_8_17, tq_8_18, tq_8_19, tq_8_20, tq_8_21, tq_8_22, tq_8_23, tq_8_24, tq_8_25, tq_8_26, tq_8_27, tq_8_28, tq_8_29, tq_8_30, tq_8_31, tq_8_32, List.getElem?_cons_zero, List.getElem?_cons_succ, List.set_cons_zero, List.set_cons_succ, List.length_cons, List.length_nil, Option.bind_some, Option.toList_some, Option.toList_none, List.cons_append, List.nil_append, Nat.reduceAdd, Nat.reduceLT, Nat.reduceLeDiff, Nat.reduceEqDiff, Nat.reduceSub, ↓reduceIte, reduceCtorEq, decide_true, decide_false, Bool.and_self, Bool.and_true, Bool.true_and, if_true, if_false, Nat.zero_add, Nat.add_zero, true_and, and_true, and_self, Option.some.injEq, nI_add, pk_mul, pk_sub, nI_leI, nI_ltI, nI_eq, Nat.le_refl, Bool.not_true, Bool.not_false, Bool.false_and, Bool.and_false, not_true_eq_false, not_false_eq_true, mq_94, mt_94, ft_94_0, ft_94_1, ft_94_2, ft_94_4, ft_94_5, ft_94_6, ft_94_7, ft_94_8, ft_94_11, ft_94_12, ft_94_13, ft_94_16, ft_94_19, ft_94_20, h1, mq_80, mt_80]
theorem gn_i {gain : Int64} (h0 : 0 ≤ gain.toInt) (h1 : gain.toInt ≤ 2 ^ 48) : ru_p gain 65536 = up_b gain (nI 16) ∧ 0 ≤ (up_b gain (nI 16)).toInt ∧ (up_b gain (nI 16)).toInt ≤ 2 ^ 32 := by
  have e := up_bi (a := gain) (k := 16) (by omega) h0 (by omega)
  exact ⟨ru_b (by omega) h0 (by omega) rfl, by omega, by omega⟩
theorem nr_i {norm d : Int64} {b : Nat} (hb : b = 32 ∨ b = 33) (hd : d.toInt = 2 ^ b) (h0 : 0 ≤ norm.toInt) (h1 : norm.toInt ≤ 2 ^ 44) : ru_p norm d = up_b norm (nI b) ∧ 0 ≤ (up_b norm (nI b)).toInt ∧ (up_b norm (nI b)).toInt ≤ 2 ^ 12 := by
  rcases hb with rfl | rfl
  · have e := up_bi (a := norm) (k := 32) (by omega) h0 (by omega)
    exact ⟨ru_b (by omega) h0 (by omega) hd, by omega, by omega⟩
  · have e := up_bi (a := norm) (k := 33) (by omega) h0 (by omega)
    exact ⟨ru_b (by omega) h0 (by omega) hd, by omega, by omega⟩
def mg_b (sb sa gm gs mi si : Int64) : Bool := !decide (70368744177664 < gm) && (!decide (70368744177664 < gs) && (decide (gm + gs ≤ 70368744177664) && (!decide (4611686018427387904 < sb * (mi + si)) && (!decide (4611686018427387904 < sa * (gm + gs)) && !decide (4611686018427387904 - sa * (gm + gs) - 32768 < sb * (mi + si))))))
theorem mg_e {sb sa mi si t u : Int64} (hs0 : 0 ≤ sb.toInt) (hs1 : sb.toInt ≤ 98301) (ha0 : 0 ≤ sa.toInt) (ha1 : sa.toInt ≤ 65534) (hm0 : 0 ≤ mi.toInt) (hi0 : 0 ≤ si.toInt) (hms : mi.toInt + si.toInt ≤ 2 ^ 46) (ht0 : 0 ≤ t.toInt) (ht1 : t.toInt ≤ 2 ^ 32) (hu0 : 0 ≤ u.toInt) (hu1 : u.toInt ≤ 2 ^ 12) :
    mg_b sb sa (tx_v mi t) (tx_v si t + u) mi si = (decide (tm_b mi t + (tm_b si t + u) ≤ 70368744177664) && (decide (sb * (mi + si) ≤ 4611686018427387904) && decide (sb * (mi + si) + sa * (tm_b mi t + (tm_b si t + u)) + 32768 ≤ 4611686018427387904))) ∧ (mg_b sb sa (tx_v mi t) (tx_v si t + u) mi si = true → tx_v mi t = tm_b mi t ∧ tx_v si t + u = tm_b si t + u) := by
  have eT : (70368744177664 : Int64).toInt = 2 ^ 46 := rfl
  have eB : (4611686018427387904 : Int64).toInt = 2 ^ 62 := rfl
  have eS : (32768 : Int64).toInt = 32768 := rfl
  have M := tm_i hm0 (by omega) ht0 ht1
  have I := tm_i hi0 (by omega) ht0 ht1
  unfold mg_b
  generalize (70368744177664 : Int64) = T at eT ⊢
  generalize (4611686018427387904 : Int64) = B at eB ⊢
  generalize (32768 : Int64) = C at eS ⊢
  generalize tx_v mi t = X at M ⊢
  generalize tx_v si t = Z at I ⊢
  generalize tm_b mi t = x at M ⊢
  generalize tm_b si t = z at I ⊢
  have ms : (mi + si).toInt = mi.toInt + si.toInt := ad_i (by omega) (by omega)
  generalize mi + si = ss at ms ⊢
  have p1 := mb_i (x := sb.toInt) (y := ss.toInt) (A := 98301) (B := 2 ^ 46) (by omega) (by omega)
  have p0 : 0 ≤ sb.toInt * ss.toInt := Int.mul_nonneg hs0 (by omega)
  have fx : (sb * ss).toInt = sb.toInt * ss.toInt := mu_i (by omega) (by omega)
  generalize sb.toInt * ss.toInt = fxi at p1 p0 fx
  generalize sb * ss = fX at fx ⊢
  have hZ : (Z + u).toInt = Z.toInt + u.toInt := by rcases I with ⟨i1, i2, i3⟩ | ⟨i1, i2, i3⟩ <;> exact ad_i (a := Z) (b := u) (by omega) (by omega)
  have hzz : 0 ≤ z.toInt ∧ z.toInt ≤ 2 ^ 46 + 1 := by rcases I with ⟨i1, i2, i3⟩ | ⟨i1, i2, i3⟩ <;> (try rw [i1]) <;> omega
  have hz : (z + u).toInt = z.toInt + u.toInt := ad_i (a := z) (b := u) (by omega) (by omega)
  generalize Z + u = Zu at hZ ⊢
  generalize z + u = zu at hz ⊢
  have hx : 0 ≤ x.toInt ∧ x.toInt ≤ 2 ^ 46 + 1 := by rcases M with ⟨i1, i2, i3⟩ | ⟨i1, i2, i3⟩ <;> (try rw [i1]) <;> omega
  have hX0 : 0 ≤ X.toInt := by rcases M with ⟨i1, i2, i3⟩ | ⟨i1, i2, i3⟩ <;> omega
  have hZ0 : 0 ≤ Z.toInt := by rcases I with ⟨i1, i2, i3⟩ | ⟨i1, i2, i3⟩ <;> omega
  have hxz : (x + zu).toInt = x.toInt + zu.toInt := ad_i (a := x) (b := zu) (by omega) (by omega)
  have hXZ : X.toInt ≤ 2 ^ 46 → Zu.toInt ≤ 2 ^ 46 → (X + Zu).toInt = X.toInt + Zu.toInt := fun _ _ => ad_i (a := X) (b := Zu) (by omega) (by omega)
  by_cases h1 : X.toInt ≤ 2 ^ 46 ∧ Zu.toInt ≤ 2 ^ 46 ∧ X.toInt + Zu.toInt ≤ 2 ^ 46
  · have eX : x = X := by
      rcases M with ⟨i1, i2, i3⟩ | ⟨i1, i2, i3⟩
      · exact i1
      · omega
    have eZ : zu = Zu := by
      rcases I with ⟨i1, i2, i3⟩ | ⟨i1, i2, i3⟩
      · rw [i64_eq, hz, i1, hZ]
      · omega
    clear hXZ M I
    subst eX eZ
    refine ⟨?_, fun _ => ⟨rfl, rfl⟩⟩
    have n0 : 0 ≤ x.toInt + zu.toInt := by omega
    generalize x + zu = w at hxz ⊢
    have p2 := mb_i (x := sa.toInt) (y := w.toInt) (A := 65534) (B := 2 ^ 46) (by omega) (by omega)
    have p3 : 0 ≤ sa.toInt * w.toInt := Int.mul_nonneg ha0 (by omega)
    have fy : (sa * w).toInt = sa.toInt * w.toInt := mu_i (by omega) (by omega)
    generalize sa.toInt * w.toInt = fyi at p2 p3 fy
    generalize sa * w = fY at fy ⊢
    have g1 : ¬ T < x := by rw [Int64.lt_iff_toInt_lt, eT]; omega
    have g2 : ¬ T < zu := by rw [Int64.lt_iff_toInt_lt, eT]; omega
    have g3 : w ≤ T := by rw [Int64.le_iff_toInt_le, eT]; omega
    have g4 : ¬ B < fY := by rw [Int64.lt_iff_toInt_lt, eB]; omega
    have r1 : (B - fY).toInt = B.toInt - fY.toInt := sb_i (by omega) (by omega)
    have r2 : (B - fY - C).toInt = (B - fY).toInt - C.toInt := sb_i (by omega) (by omega)
    simp only [g1, g2, g3, g4, decide_true, decide_false, Bool.not_false, Bool.true_and]
    by_cases h2 : fX ≤ B
    · have h2' := Int64.not_lt.mpr h2
      simp only [h2, h2', decide_true, decide_false, Bool.not_false, Bool.true_and]
      rw [Int64.le_iff_toInt_le, eB] at h2
      have r3 : (fX + fY).toInt = fX.toInt + fY.toInt := ad_i (by omega) (by omega)
      have r4 : (fX + fY + C).toInt = (fX + fY).toInt + C.toInt := ad_i (by omega) (by omega)
      rw [Bool.eq_iff_iff]
      simp only [Bool.not_eq_true', decide_eq_false_iff_not, decide_eq_true_eq, Int64.lt_iff_toInt_lt, Int64.le_iff_toInt_le]
      omega
    · have h2' := Int64.not_le.mp h2
      simp [h2, h2']
  · have hc : ¬ x + zu ≤ T := by
      rw [Int64.le_iff_toInt_le, eT, hxz, hz]
      rcases M with ⟨i1, i2, i3⟩ | ⟨i1, i2, i3⟩ <;> rcases I with ⟨j1, j2, j3⟩ | ⟨j1, j2, j3⟩ <;> (try rw [i1]) <;> (try rw [j1]) <;> omega
    have hf2 : ∀ A D E : Bool, (!decide (T < X) && (!decide (T < Zu) && (decide (X + Zu ≤ T) && (A && (D && E))))) = false := by
      intro A D E
      by_cases a1 : T < X
      · simp [a1]
      · by_cases a2 : T < Zu
        · simp [a2]
        · have a1' := a1
          have a2' := a2
          rw [Int64.lt_iff_toInt_lt, eT] at a1' a2'
          have : ¬ X + Zu ≤ T := by rw [Int64.le_iff_toInt_le, eT, hXZ (by omega) (by omega)]; omega
          simp [this]
    rw [hf2]
    simp [hc]

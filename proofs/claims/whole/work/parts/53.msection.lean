section ME4
variable {mem mem' : Mem} {m n : Nat} {pt : Bool} {W K F s : Nat} {kn : Int32} {nm ns : Int64} {to : Int32} {G : Nat} {O : Int32} {Y : Nat} {cm : Int64} {a1 a2 : Int64} {k up : Nat} {fa : Nat → Int32}
theorem l_cert {hd : Nat → Int32} {fc : Nat → Int64} {L i : Nat} {z wh : Int32} (hk : k < 6) (hi2 : 2 ≤ i) (hi3 : i ≤ 1000) (hiL : i < L) (hal : al_e a1 a2 i) (ha1 : a1.toInt.natAbs ≤ 32767) (ha2 : a2.toInt.natAbs ≤ 32767) (hR : mx_l (en_e a1 a2 i).2.2.2.2.2.1 (en_e a1 a2 i).2.2.2.2.2.2.1 ≤ 2147483648) (hb0 : (fa (5 * k)).toInt.natAbs ≤ 32767) (hb1 : (fa (5 * k + 1)).toInt.natAbs ≤ 32767) (hb2 : (fa (5 * k + 2)).toInt.natAbs ≤ 32767) (h : mem m = some (mo_o m n pt W K F s kn nm ns to G O Y cm)) (hf : mem (m + 1) = some (ia_o 30 fa)) (hh : mem (m + 2) = some (ba_o 6 (upd hd k (nI 1)))) (hc : mem (m + 3) = some (la_o 30 fc)) (ha : ea_m mem m a1 a2 L) :
    ∃ mem', rn 76 66 [some (.ref m), some (.int (nI k)), some (.int wh), some (.int (nI i)), some (.int z), none, none, none] [] mem = some (none, mem') ∧ mem' (m + 2) = some (ba_o 6 (upd hd k (bo_i (hd_e a1 a2 (some i))))) ∧ mem' (m + 3) = some (la_o 30 (fm_e fc k a1 a2 (ab_i (fa (5 * k)) + ab_i (fa (5 * k + 1)) + ab_i (fa (5 * k + 2))).toInt64 (some i))) ∧ (∀ q, q ≠ m + 2 → q ≠ m + 3 → mem' q = mem q) := by
  have hb := en_b ha1 ha2 i hi3 hal
  have hall : ∀ e1 e2, (up_m (up_m mem (m + 2) e1) (m + 3) e2) m = some (mo_o m n pt W K F s kn nm ns to G O Y cm) ∧ (up_m (up_m mem (m + 2) e1) (m + 3) e2) (m + 1) = some (ia_o 30 fa) ∧ ea_m (up_m (up_m mem (m + 2) e1) (m + 3) e2) m a1 a2 L := fun e1 e2 => ⟨by rw [up_ne (by omega), up_ne (by omega)]; exact h, by rw [up_ne (by omega), up_ne (by omega)]; exact hf, ea_fr ha (fun q q1 q2 => by rw [up_ne (by omega), up_ne (by omega)])⟩
  have hr := d_rest (by omega) hiL hi3 h ha
  have hs := d_sum (show i ≤ L by omega) (by omega) h ha
  have hrM := fun e1 e2 => d_rest (by omega) hiL hi3 (hall e1 e2).1 (hall e1 e2).2.2
  have hsM := fun e1 e2 => d_sum (show i ≤ L by omega) (by omega) (hall e1 e2).1 (hall e1 e2).2.2
  have hbM := fun e1 e2 => d_bSizes hk (hall e1 e2).1 (hall e1 e2).2.1
  rw [sb_l hb0 hb1 hb2] at hbM
  have hsb := sb_3 hb0 hb1 hb2
  have hRn : 0 ≤ (mx_l (en_e a1 a2 i).2.2.2.2.2.1 (en_e a1 a2 i).2.2.2.2.2.2.1).toInt := by
    rw [mx_i]; have := hb.2.2.2.2.2.1; omega
  have hSn := hb.2.2.2.2.2.2.2.1
  clear hall hb
  rw [fm_e, hd_e, fc_e]
  generalize mx_l (en_e a1 a2 i).2.2.2.2.2.1 (en_e a1 a2 i).2.2.2.2.2.2.1 = R at hR hr hRn hrM ⊢
  generalize (en_e a1 a2 i).2.2.2.2.2.2.2 = Q at hs hSn hsM ⊢
  generalize (ab_i (fa (5 * k)) + ab_i (fa (5 * k + 1)) + ab_i (fa (5 * k + 2))).toInt64 = sb at hbM hsb ⊢
  have e31 : (2147483648 : Int64).toInt = 2147483648 := rfl
  have e44 : (17592186044416 : Int64).toInt = 17592186044416 := rfl
  have e46 : (70368744177664 : Int64).toInt = 70368744177664 := rfl
  have hR1 : R.toInt ≤ 2 ^ 31 := by rw [Int64.le_iff_toInt_le, e31] at hR; omega
  have hdv := dv_q hRn hR1
  have hd0 : dv_e R ≠ 0 := by
    intro e
    have := dv_i hRn hR1
    rw [e, i64_0] at this
    omega
  have h1 := l_cert1 (k := k) (wh := wh) (z := z) hi3 h hs hr (d_up (a := Q * 65536) hd0 mem) hdv
  rw [h1]
  by_cases c1 : Q ≤ 70368744177664
  · have hQ1 : Q.toInt ≤ 2 ^ 46 := by rw [Int64.le_iff_toInt_le, e46] at c1; omega
    have hno := no_q hSn hQ1 hRn hR1
    have hNn := no_nn hSn hQ1 hRn hR1
    rw [if_pos c1, hno]
    have hbf : bf_e Q R = decide (no_e Q R ≤ 17592186044416) := by rw [bf_e, decide_eq_true c1, Bool.true_and]
    rw [hbf]
    generalize no_e Q R = NO at hNn ⊢
    by_cases c2 : NO ≤ 17592186044416
    · have hN1 : NO.toInt ≤ 2 ^ 44 := by rw [Int64.le_iff_toInt_le, e44] at c2; omega
      have hga := (ga_q (sb := sb) (N := NO) (by omega) (by omega) hNn hN1).1
      have hz : ¬ (16384 : Int64) = 0 := by decide
      have hup2 := fun mem => d_up (a := sb * NO) (d := 16384) hz mem
      rw [hga] at hup2
      rw [if_pos c2, decide_eq_true c2, Bool.not_true, if_neg (by decide)]
      generalize up_b (sb * NO) (nI 14) = GA at hup2 ⊢
      exact ⟨_, l_cert2 hk hi3 h hh hc hrM hsM hbM hup2, by rw [up_ne (by omega)]; exact up_self, up_self, fun q q1 q2 => by rw [up_ne q2, up_ne q1]⟩
    · rw [if_neg c2, decide_eq_false c2, Bool.not_false, if_pos rfl]
      exact ⟨mem, rfl, hh, hc, fun _ _ _ => rfl⟩
  · have hbf : bf_e Q R = false := by rw [bf_e, decide_eq_false c1, Bool.false_and]
    rw [if_neg c1, hbf, Bool.not_false, if_pos rfl]
    exact ⟨mem, rfl, hh, hc, fun _ _ _ => rfl⟩
theorem d_certify {hd : Nat → Int32} {fc : Nat → Int64} (hk : k < 6) (hb0 : (fa (5 * k)).toInt.natAbs ≤ 32767) (hb1 : (fa (5 * k + 1)).toInt.natAbs ≤ 32767) (hb2 : (fa (5 * k + 2)).toInt.natAbs ≤ 32767) (hc1 : (fa (5 * k + 3)).toInt.natAbs ≤ 32767) (hc2 : (fa (5 * k + 4)).toInt.natAbs ≤ 32767) (h : mem m = some (mo_o m n pt W K F s kn nm ns to G O Y cm)) (hf : mem (m + 1) = some (ia_o 30 fa)) (hh : mem (m + 2) = some (ba_o 6 hd)) (hc : mem (m + 3) = some (la_o 30 fc)) (ha : ea_m mem m 0 0 0) :
    ∃ mem' kn', cl 76 [.ref m, .int (nI k)] mem = some (none, mem') ∧ mem' m = some (mo_o m n pt W K F s kn' nm ns to G O Y cm) ∧ ea_m mem' m 0 0 0 ∧ mem' (m + 2) = some (ba_o 6 (upd hd k (bo_i (hd_e (fa (5 * k + 3)).toInt64 (fa (5 * k + 4)).toInt64 (ce_e (fa (5 * k + 3)).toInt64 (fa (5 * k + 4)).toInt64 1000 1))))) ∧ mem' (m + 3) = some (la_o 30 (fm_e fc k (fa (5 * k + 3)).toInt64 (fa (5 * k + 4)).toInt64 (ab_i (fa (5 * k)) + ab_i (fa (5 * k + 1)) + ab_i (fa (5 * k + 2))).toInt64 (ce_e (fa (5 * k + 3)).toInt64 (fa (5 * k + 4)).toInt64 1000 1))) ∧ (∀ q, q ≠ m → q ≠ m + 2 → q ≠ m + 3 → (q < m + 9 ∨ m + 13 ≤ q) → mem' q = mem q) := by
  have ha1 : (fa (5 * k + 3)).toInt64.toInt.natAbs ≤ 32767 := by rw [Int32.toInt_toInt64]; exact hc1
  have ha2 : (fa (5 * k + 4)).toInt64.toInt.natAbs ≤ 32767 := by rw [Int32.toInt_toInt64]; exact hc2
  have hM := h
  unfold mo_o at hM
  have hh' := hh
  unfold ba_o at hh'
  obtain ⟨M2, L, c1, c2, c3, c4, c5, c6, c7⟩ := d_echoes (mem := up_m (up_m mem (m + 2) (ba_o 6 (upd hd k (nI 1)))) m (mo_o m n pt W K F s (-1) nm ns to G O Y cm)) (kn := -1) (fa := fa) (up := 1000) hk (by omega) hc1 hc2 up_self (by rw [up_ne (by omega), up_ne (by omega)]; exact hf) (ea_fr ha (fun q q1 q2 => by rw [up_ne (by omega), up_ne (by omega)]))
  have hrun : ∃ wh, cl 76 [.ref m, .int (nI k)] mem = rn 76 26 [some (.ref m), some (.int (nI k)), some (.int wh), some (.int (-1)), some (.int (nI 2)), none, none, none] [] M2 := by
    refine ⟨bo_i (decide (L = 1000 + 1)), ?_⟩
    generalize decide (L = 1000 + 1) = B at c1
    unfold ba_o mo_o at c1
    rw [cl_def]
    simp (disch := omega) only [rn_def, ri_iconst, ri_bipush, ri_sipush, ri_lconst, ri_ldc2_w, ri_iload_n, ri_iload, ri_istore_n, ri_istore, ri_lload_n, ri_lload, ri_lstore_n, ri_lstore, ri_aload_n, ri_aload, ri_astore_n, ri_astore, ri_iinc, ri_iadd, ri_isub, ri_imul, ri_iand, ri_ior, ri_ishl, ri_ishr, ri_ladd, ri_lsub, ri_lmul, ri_land, ri_lor, ri_lshl, ri_lshr, ri_idiv, ri_irem, ri_ldiv, ri_lrem, ri_ineg, ri_lneg, ri_i2l, ri_l2i, ri_lcmp, ri_dup_int, ri_pop_int, ri_dup_ref, ri_pop_ref, ri_dup2, ri_if_eq, ri_ic_eq, ri_if_ne, ri_ic_ne, ri_if_lt, ri_ic_lt, ri_if_ge, ri_ic_ge, ri_if_gt, ri_ic_gt, ri_if_le, ri_ic_le, ri_goto, ri_switch, ri_getfield, ri_putfield, ri_iaload, ri_baload, ri_laload, ri_aaload, ri_iastore, ri_bastore, ri_lastore, ri_arraylength, ri_ireturn, ri_lreturn, ri_return, ri_virt, ri_stat, ri_abs, ri_labs, ri_lmax, ri_imin, li_ok, ll_ok, lr_ok, ob_ok, vl_ok, ai_ok, al_ok, ar_ok, le_ok, rf_ok, w1_r_ok, ix_ok, on_tt, up_self, up_up, ok_i, ok_l, ok_b0, ok_b1, ok_a, ok_o, b01_0, b01_1, cs_nil, cs_i, cs_l, cs_r, pad_0, pad_n, pad_1i, pad_1r, pad_i, pad_r, pad_l, pop_0, pop_n, kl_i, kl_r, kl_l, kl_n, s1_0, s1_1, s1_n, s2_0, s2_1, s2_n, lc_lt, lc_gt, lc_eq, lc_le, lc_ge, ca_v, tq_0_0, tq_0_1, tq_0_2, tq_1_0, tq_1_1, tq_1_2, tq_1_3, tq_1_4, tq_1_5, tq_1_6, tq_1_7, tq_1_8, tq_1_9, tq_2_0, tq_2_1, tq_3_0, tq_3_1, tq_3_2, tq_3_3, tq_3_4, tq_3_5, tq_3_6, tq_3_7, tq_4_0, tq_4_1, tq_4_2, tq_4_3, tq_4_4, tq_4_5, tq_4_6, tq_4_7, tq_4_8, tq_4_9, tq_4_10, tq_4_11, tq_4_12, tq_4_13, tq_5_0, tq_5_1, tq_5_2, tq_5_3, tq_5_4, tq_5_5, tq_5_6, tq_5_7, tq_5_8, tq_5_9, tq_5_10, tq_5_11, tq_5_12, tq_6_0, tq_6_1, tq_6_2, tq_7_0, tq_7_1, tq_7_2, tq_7_3, tq_7_4, tq_7_5, tq_7_6, tq_7_7, tq_7_8, tq_7_9, tq_7_10, tq_7_11, tq_7_12, tq_7_13, tq_7_14, tq_7_15, tq_7_16, tq_8_0, tq_8_1, tq_8_2, tq_8_3, tq_8_4, tq_8_5, tq_8_6, tq_8_7, tq_8_8, tq_8_9, tq_8_10, tq_8_11, tq_8_12, tq_8_13, tq_8_14, tq_8_15, tq_8_16, tq_8_17, tq_8_18, tq_8_19, tq_8_20, tq_8_21, tq_8_22, tq_8_23, tq_8_24, tq_8_25, tq_8_26, tq_8_27, tq_8_28, tq_8_29, tq_8_30, tq_8_31, tq_8_32, List.getElem?_cons_zero, List.getElem?_cons_succ, List.set_cons_zero, List.set_cons_succ, List.length_cons, List.length_nil, Option.bind_some, Option.toList_some, Option.toList_none, List.cons_append, List.nil_append, Nat.reduceAdd, Nat.reduceLT, Nat.reduceLeDiff, Nat.reduceEqDiff, Nat.reduceSub, ↓reduceIte, reduceCtorEq, decide_true, decide_false, Bool.and_self, Bool.and_true, Bool.true_and, if_true, if_false, Nat.zero_add, Nat.add_zero, true_and, and_true, and_self, Option.some.injEq, nI_add, pk_mul, pk_sub, nI_leI, nI_ltI, nI_eq, Nat.le_refl, Bool.not_true, Bool.not_false, Bool.false_and, Bool.and_false, not_true_eq_false, not_false_eq_true, mq_76, mt_76, ft_76_0, ft_76_1, ft_76_4, ft_76_5, ft_76_6, ft_76_7, ft_76_8, ft_76_9, ft_76_12, ft_76_13, ft_76_14, ft_76_17, ft_76_20, ft_76_21, ft_76_22, ft_76_23, ft_76_24, hM, hh', up_ne, c1, bo_ok, mq_77, mt_77]
  obtain ⟨wh, hrun⟩ := hrun
  rw [hrun]
  clear hrun c1
  have hM2h : M2 (m + 2) = some (ba_o 6 (upd hd k (nI 1))) := by rw [c7 _ (by omega) (by omega), up_ne (by omega)]; exact up_self
  have hM2c : M2 (m + 3) = some (la_o 30 fc) := by rw [c7 _ (by omega) (by omega), up_ne (by omega), up_ne (by omega)]; exact hc
  have hM2f : M2 (m + 1) = some (ia_o 30 fa) := by rw [c7 _ (by omega) (by omega), up_ne (by omega), up_ne (by omega)]; exact hf
  have hfr : ∀ q, q ≠ m → q ≠ m + 2 → q ≠ m + 3 → (q < m + 9 ∨ m + 13 ≤ q) → M2 q = mem q := fun q q1 q2 q3 q4 => by rw [c7 q q1 q4, up_ne q1, up_ne q2]
  generalize (fa (5 * k + 3)).toInt64 = a1 at ha1 c3 c4 c6 ⊢
  generalize (fa (5 * k + 4)).toInt64 = a2 at ha2 c3 c4 c6 ⊢
  have hce : ce_e a1 a2 1000 1 = if L = 1 then none else ce_e a1 a2 999 2 := by
    rw [show (1000 : Nat) = 999 + 1 from rfl, ce_e]
    by_cases hL1 : L = 1
    · rw [if_pos hL1, if_neg (by have := c4 (by omega); rw [hL1] at this; exact this)]
    · rw [if_neg hL1, if_pos (c3 1 (by omega)), if_neg (by omega)]
  by_cases hL1 : L = 1
  · rw [hce, if_pos hL1, hd_e, fm_e]
    refine ⟨M2, nI (L - 1), ?_, c5, ea_0 c6, hM2h, hM2c, hfr⟩
    have hgt : L - 1 < 2 := by omega
    have c5' := c5
    unfold mo_o at c5'
    rw [rn_def, ft_76_26]
    simp (disch := omega) only [rn_def, ri_iconst, ri_bipush, ri_sipush, ri_lconst, ri_ldc2_w, ri_iload_n, ri_iload, ri_istore_n, ri_istore, ri_lload_n, ri_lload, ri_lstore_n, ri_lstore, ri_aload_n, ri_aload, ri_astore_n, ri_astore, ri_iinc, ri_iadd, ri_isub, ri_imul, ri_iand, ri_ior, ri_ishl, ri_ishr, ri_ladd, ri_lsub, ri_lmul, ri_land, ri_lor, ri_lshl, ri_lshr, ri_idiv, ri_irem, ri_ldiv, ri_lrem, ri_ineg, ri_lneg, ri_i2l, ri_l2i, ri_lcmp, ri_dup_int, ri_pop_int, ri_dup_ref, ri_pop_ref, ri_dup2, ri_if_eq, ri_ic_eq, ri_if_ne, ri_ic_ne, ri_if_lt, ri_ic_lt, ri_if_ge, ri_ic_ge, ri_if_gt, ri_ic_gt, ri_if_le, ri_ic_le, ri_goto, ri_switch, ri_getfield, ri_putfield, ri_iaload, ri_baload, ri_laload, ri_aaload, ri_iastore, ri_bastore, ri_lastore, ri_arraylength, ri_ireturn, ri_lreturn, ri_return, ri_virt, ri_stat, ri_abs, ri_labs, ri_lmax, ri_imin, li_ok, ll_ok, lr_ok, ob_ok, vl_ok, ai_ok, al_ok, ar_ok, le_ok, rf_ok, w1_r_ok, ix_ok, on_tt, up_self, up_up, ok_i, ok_l, ok_b0, ok_b1, ok_a, ok_o, b01_0, b01_1, cs_nil, cs_i, cs_l, cs_r, pad_0, pad_n, pad_1i, pad_1r, pad_i, pad_r, pad_l, pop_0, pop_n, kl_i, kl_r, kl_l, kl_n, s1_0, s1_1, s1_n, s2_0, s2_1, s2_n, lc_lt, lc_gt, lc_eq, lc_le, lc_ge, ca_v, tq_0_0, tq_0_1, tq_0_2, tq_1_0, tq_1_1, tq_1_2, tq_1_3, tq_1_4, tq_1_5, tq_1_6, tq_1_7, tq_1_8, tq_1_9, tq_2_0, tq_2_1, tq_3_0, tq_3_1, tq_3_2, tq_3_3, tq_3_4, tq_3_5, tq_3_6, tq_3_7, tq_4_0, tq_4_1, tq_4_2, tq_4_3, tq_4_4, tq_4_5, tq_4_6, tq_4_7, tq_4_8, tq_4_9, tq_4_10, tq_4_11, tq_4_12, tq_4_13, tq_5_0, tq_5_1, tq_5_2, tq_5_3, tq_5_4, tq_5_5, tq_5_6, tq_5_7, tq_5_8, tq_5_9, tq_5_10, tq_5_11, tq_5_12, tq_6_0, tq_6_1, tq_6_2, tq_7_0, tq_7_1, tq_7_2, tq_7_3, tq_7_4, tq_7_5, tq_7_6, tq_7_7, tq_7_8, tq_7_9, tq_7_10, tq_7_11, tq_7_12, tq_7_13, tq_7_14, tq_7_15, tq_7_16, tq_8_0, tq_8_1, tq_8_2, tq_8_3, tq_8_4, tq_8_5, tq_8_6, tq_8_7, tq_8_8, tq_8_9, tq_8_10, tq_8_11, tq_8_12, tq_8_13, tq_8_14, tq_8_15, tq_8_16, tq_8_17, tq_8_18, tq_8_19, tq_8_20, tq_8_21, tq_8_22, tq_8_23, tq_8_24, tq_8_25, tq_8_26, tq_8_27, tq_8_28, tq_8_29, tq_8_30, tq_8_31, tq_8_32, List.getElem?_cons_zero, List.getElem?_cons_succ, List.set_cons_zero, List.set_cons_succ, List.length_cons, List.length_nil, Option.bind_some, Option.toList_some, Option.toList_none, List.cons_append, List.nil_append, Nat.reduceAdd, Nat.reduceLT, Nat.reduceLeDiff, Nat.reduceEqDiff, Nat.reduceSub, ↓reduceIte, reduceCtorEq, decide_true, decide_false, Bool.and_self, Bool.and_true, Bool.true_and, if_true, if_false, Nat.zero_add, Nat.add_zero, true_and, and_true, and_self, Option.some.injEq, nI_add, pk_mul, pk_sub, nI_leI, nI_ltI, nI_eq, Nat.le_refl, Bool.not_true, Bool.not_false, Bool.false_and, Bool.and_false, not_true_eq_false, not_false_eq_true, mq_76, mt_76, ft_76_28, ft_76_29, ft_76_32, ft_76_66, ft_76_67, ft_76_68, ft_76_83, c5', hgt]
  · rw [hce, if_neg hL1]
    obtain ⟨z, hz⟩ := l_ce (k := k) (wh := wh) c2.2 c3 (fun q => c4 q) 999 2 M2 (by omega) (by omega) (by omega) c5 c6
    rw [hz]
    cases hM' : ce_e a1 a2 999 2 with
    | none =>
      rw [hd_e, fm_e, oi_m]
      refine ⟨M2, nI (L - 1), ?_, c5, ea_0 c6, hM2h, hM2c, hfr⟩
      simp (disch := omega) only [rn_def, ri_iconst, ri_bipush, ri_sipush, ri_lconst, ri_ldc2_w, ri_iload_n, ri_iload, ri_istore_n, ri_istore, ri_lload_n, ri_lload, ri_lstore_n, ri_lstore, ri_aload_n, ri_aload, ri_astore_n, ri_astore, ri_iinc, ri_iadd, ri_isub, ri_imul, ri_iand, ri_ior, ri_ishl, ri_ishr, ri_ladd, ri_lsub, ri_lmul, ri_land, ri_lor, ri_lshl, ri_lshr, ri_idiv, ri_irem, ri_ldiv, ri_lrem, ri_ineg, ri_lneg, ri_i2l, ri_l2i, ri_lcmp, ri_dup_int, ri_pop_int, ri_dup_ref, ri_pop_ref, ri_dup2, ri_if_eq, ri_ic_eq, ri_if_ne, ri_ic_ne, ri_if_lt, ri_ic_lt, ri_if_ge, ri_ic_ge, ri_if_gt, ri_ic_gt, ri_if_le, ri_ic_le, ri_goto, ri_switch, ri_getfield, ri_putfield, ri_iaload, ri_baload, ri_laload, ri_aaload, ri_iastore, ri_bastore, ri_lastore, ri_arraylength, ri_ireturn, ri_lreturn, ri_return, ri_virt, ri_stat, ri_abs, ri_labs, ri_lmax, ri_imin, li_ok, ll_ok, lr_ok, ob_ok, vl_ok, ai_ok, al_ok, ar_ok, le_ok, rf_ok, w1_r_ok, ix_ok, on_tt, up_self, up_up, ok_i, ok_l, ok_b0, ok_b1, ok_a, ok_o, b01_0, b01_1, cs_nil, cs_i, cs_l, cs_r, pad_0, pad_n, pad_1i, pad_1r, pad_i, pad_r, pad_l, pop_0, pop_n, kl_i, kl_r, kl_l, kl_n, s1_0, s1_1, s1_n, s2_0, s2_1, s2_n, lc_lt, lc_gt, lc_eq, lc_le, lc_ge, ca_v, tq_0_0, tq_0_1, tq_0_2, tq_1_0, tq_1_1, tq_1_2, tq_1_3, tq_1_4, tq_1_5, tq_1_6, tq_1_7, tq_1_8, tq_1_9, tq_2_0, tq_2_1, tq_3_0, tq_3_1, tq_3_2, tq_3_3, tq_3_4, tq_3_5, tq_3_6, tq_3_7, tq_4_0, tq_4_1, tq_4_2, tq_4_3, tq_4_4, tq_4_5, tq_4_6, tq_4_7, tq_4_8, tq_4_9, tq_4_10, tq_4_11, tq_4_12, tq_4_13, tq_5_0, tq_5_1, tq_5_2, tq_5_3, tq_5_4, tq_5_5, tq_5_6, tq_5_7, tq_5_8, tq_5_9, tq_5_10, tq_5_11, tq_5_12, tq_6_0, tq_6_1, tq_6_2, tq_7_0, tq_7_1, tq_7_2, tq_7_3, tq_7_4, tq_7_5, tq_7_6, tq_7_7, tq_7_8, tq_7_9, tq_7_10, tq_7_11, tq_7_12, tq_7_13, tq_7_14, tq_7_15, tq_7_16, tq_8_0, tq_8_1, tq_8_2, tq_8_3, tq_8_4, tq_8_5, tq_8_6, tq_8_7, tq_8_8, tq_8_9, tq_8_10, tq_8_11, tq_8_12, tq_8_13, tq_8_14, tq_8_15, tq_8_16, tq_8_17, tq_8_18, tq_8_19, tq_8_20, tq_8_21, tq_8_22, tq_8_23, tq_8_24, tq_8_25, tq_8_26, tq_8_27, tq_8_28, tq_8_29, tq_8_30, tq_8_31, tq_8_32, List.getElem?_cons_zero, List.getElem?_cons_succ, List.set_cons_zero, List.set_cons_succ, List.length_cons, List.length_nil, Option.bind_some, Option.toList_some, Option.toList_none, List.cons_append, List.nil_append, Nat.reduceAdd, Nat.reduceLT, Nat.reduceLeDiff, Nat.reduceEqDiff, Nat.reduceSub, ↓reduceIte, reduceCtorEq, decide_true, decide_false, Bool.and_self, Bool.and_true, Bool.true_and, if_true, if_false, Nat.zero_add, Nat.add_zero, true_and, and_true, and_self, Option.some.injEq, nI_add, pk_mul, pk_sub, nI_leI, nI_ltI, nI_eq, Nat.le_refl, Bool.not_true, Bool.not_false, Bool.false_and, Bool.and_false, not_true_eq_false, not_false_eq_true, mq_76, mt_76, ft_76_66, ft_76_67, ft_76_68, ft_76_83]
    | some i =>
      obtain ⟨i1, i2, i3, i4⟩ := ce_ok 999 2 i hM'
      have hiL : i < L := by
        apply Nat.not_le.mp
        intro hle
        exact c4 (by omega) (i3 L (by omega) hle)
      rw [oi_m]
      obtain ⟨M3, d1, d2, d3, d4⟩ := l_cert (wh := wh) (z := z) hk i2 (by omega) hiL (fun j hj => c3 j (by omega)) ha1 ha2 i4 hb0 hb1 hb2 c5 hM2f hM2h hM2c c6
      exact ⟨M3, nI (L - 1), d1, (d4 _ (by omega) (by omega)).trans c5, ea_0 (ea_fr c6 (fun q q1 q2 => d4 q (by omega) (by omega))), d2, d3, fun q q1 q2 q3 q4 => (d4 q q2 q3).trans (hfr q q1 q2 q3 q4)⟩
end ME4

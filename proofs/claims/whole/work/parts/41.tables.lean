section TB
variable {W K : Nat}
/-- how many FINE there are -/
def lf_n (W K : Nat) : Nat := if W < K + 1 then 0 else if W - 1 - K < 24 then W - K else 25
def tf_v (W K : Nat) : Int32 := if nI W - nI 1 - nI K < nI 24 then nI W - nI 1 - nI K else nI 24
theorem lf_le : lf_n W K ≤ 25 := by unfold lf_n; split; omega; split <;> omega
theorem tf_at (hW : 1 ≤ W) (hW2 : W ≤ 47) (hK : K ≤ 24) : at_n (lf_n W K) (tf_v W K) := by
  unfold lf_n tf_v
  rw [pk_sub hW]
  by_cases h : W < K + 1
  · rw [if_pos h]
    have h1 : nI (W - 1) - nI K < 0 := pk_sneg (by omega) (by omega)
    have h2 : nI (W - 1) - nI K < nI 24 := Int32.lt_trans h1 (by decide)
    rw [if_pos h2]
    exact Or.inl ⟨rfl, h1⟩
  · rw [if_neg h, pk_sub (by omega)]
    by_cases h3 : W - 1 - K < 24
    · rw [if_pos h3, if_pos (nI_lt h3 (by omega))]
      exact Or.inr ⟨W - 1 - K, by omega, rfl⟩
    · rw [if_neg h3, if_neg (nI_nlt (by omega) (by omega))]
      exact Or.inr ⟨24, rfl, rfl⟩
theorem at_lt {L : Nat} {tf : Int32} (h : at_n L tf) (hL : L ≤ 25) : ∀ i, i ≤ 25 → (tf < nI i ↔ L ≤ i) := by
  intro i hi
  rcases h with ⟨rfl, h⟩ | ⟨T, rfl, rfl⟩
  · exact ⟨fun _ => Nat.zero_le _, fun _ => by
      cases i with
      | zero => exact h
      | succ i => exact Int32.lt_trans h (by rw [← nI_0]; exact nI_lt (by omega) (by omega))⟩
  · exact ⟨fun q => by have := (nI_ltI (by omega) (by omega)).mp q; omega, fun q => nI_lt (by omega) (by omega)⟩
end TB
/-- the search's tables -/
def sm_m (mem : Mem) (e : Nat) (o b : Nat → Int32) (mo sl : Nat → Nat → Int64) (sh : Nat → Nat → Int32) : Prop := mem (e + 1) = some (ia_o 6 o) ∧ mem (e + 2) = some (ia_o 6 b) ∧ mem (e + 3) = some (ra_o 6 7 (gt_f (e + 4))) ∧ mem (e + 11) = some (ra_o 6 7 (gt_f (e + 12))) ∧ mem (e + 19) = some (ra_o 7 7 (gt_f (e + 20))) ∧ (∃ mo sl sh, mem (e + 27) = some (bo_o mo sl sh)) ∧ ∀ j, j < 7 → mem (e + 4 + j) = some (la_o 25 (mo j)) ∧ mem (e + 12 + j) = some (la_o 25 (sl j)) ∧ mem (e + 20 + j) = some (ia_o 25 (sh j))
section SE4
variable {mem mem' : Mem} {e n gd : Nat} {w way tf bout bf : Int32} {bs : Int64} {o b : Nat → Int32} {mo sl : Nat → Nat → Int64} {sh : Nat → Nat → Int32}
theorem l_start1 {W K Y : Int32} (hn : n ≤ 6) : ∀ (k i : Nat) (mem : Mem), i + k = n → mem e = some (sw_o e n w way tf gd bout bf bs) → mem (e + 1) = some (ia_o 6 (ff_f (fun j => nI j) o i)) → rn 24 53 [some (.ref e), some (.int (nI n)), some (.int W), some (.int K), some (.int Y), some (.int (nI i))] [] mem = rn 24 74 [some (.ref e), some (.int (nI n)), some (.int W), some (.int K), some (.int Y), some (.int (nI n))] [] (up_m mem (e + 1) (ia_o 6 (ff_f (fun j => nI j) o n))) := by
  intro k
  induction k with
  | zero =>
    intro i mem hi h ho
    have hin : i = n := by omega
    subst hin
    rw [up_id ho, rn_def, ft_24_53]
    simp (disch := omega) only [rn_def, ri_iconst, ri_bipush, ri_sipush, ri_lconst, ri_ldc2_w, ri_iload_n, ri_iload, ri_istore_n, ri_istore, ri_lload_n, ri_lload, ri_lstore_n, ri_lstore, ri_aload_n, ri_aload, ri_astore_n, ri_astore, ri_iinc, ri_iadd, ri_isub, ri_imul, ri_iand, ri_ior, ri_ishl, ri_ishr, ri_ladd, ri_lsub, ri_lmul, ri_land, ri_lor, ri_lshl, ri_lshr, ri_idiv, ri_irem, ri_ldiv, ri_lrem, ri_ineg, ri_lneg, ri_i2l, ri_l2i, ri_lcmp, ri_dup_int, ri_pop_int, ri_dup_ref, ri_pop_ref, ri_dup2, ri_if_eq, ri_ic_eq, ri_if_ne, ri_ic_ne, ri_if_lt, ri_ic_lt, ri_if_ge, ri_ic_ge, ri_if_gt, ri_ic_gt, ri_if_le, ri_ic_le, ri_goto, ri_switch, ri_getfield, ri_putfield, ri_iaload, ri_baload, ri_laload, ri_aaload, ri_iastore, ri_bastore, ri_lastore, ri_arraylength, ri_ireturn, ri_lreturn, ri_return, ri_virt, ri_stat, ri_abs, ri_labs, ri_lmax, ri_imin, li_ok, ll_ok, lr_ok, ob_ok, vl_ok, ai_ok, al_ok, ar_ok, le_ok, rf_ok, w1_r_ok, ix_ok, on_tt, up_self, up_up, ok_i, ok_l, ok_b0, ok_b1, ok_a, ok_o, b01_0, b01_1, cs_nil, cs_i, cs_l, cs_r, pad_0, pad_n, pad_1i, pad_1r, pad_i, pad_r, pad_l, pop_0, pop_n, kl_i, kl_r, kl_l, kl_n, s1_0, s1_1, s1_n, s2_0, s2_1, s2_n, lc_lt, lc_gt, lc_eq, lc_le, lc_ge, ca_v, tq_0_0, tq_0_1, tq_0_2, tq_1_0, tq_1_1, tq_1_2, tq_1_3, tq_1_4, tq_1_5, tq_1_6, tq_1_7, tq_1_8, tq_1_9, tq_2_0, tq_2_1, tq_3_0, tq_3_1, tq_3_2, tq_3_3, tq_3_4, tq_3_5, tq_3_6, tq_3_7, tq_4_0, tq_4_1, tq_4_2, tq_4_3, tq_4_4, tq_4_5, tq_4_6, tq_4_7, tq_4_8, tq_4_9, tq_4_10, tq_4_11, tq_4_12, tq_4_13, tq_5_0, tq_5_1, tq_5_2, tq_5_3, tq_5_4, tq_5_5, tq_5_6, tq_5_7, tq_5_8, tq_5_9, tq_5_10, tq_5_11, tq_5_12, tq_6_0, tq_6_1, tq_6_2, tq_7_0, tq_7_1, tq_7_2, tq_7_3, tq_7_4, tq_7_5, tq_7_6, tq_7_7, tq_7_8, tq_7_9, tq_7_10, tq_7_11, tq_7_12, tq_7_13, tq_7_14, tq_7_15, tq_7_16, tq_8_0, tq_8_1, tq_8_2, tq_8_3, tq_8_4, tq_8_5, tq_8_6, tq_8_7, tq_8_8, tq_8_9, tq_8_10, tq_8_11, tq_8_12, tq_8_13, tq_8_14, tq_8_15, tq_8_16, tq_8_17, tq_8_18, tq_8_19, tq_8_20, tq_8_21, tq_8_22, tq_8_23, tq_8_24, tq_8_25, tq_8_26, tq_8_27, tq_8_28, tq_8_29, tq_8_30, tq_8_31, tq_8_32, List.getElem?_cons_zero, List.getElem?_cons_succ, List.set_cons_zero, List.set_cons_succ, List.length_cons, List.length_nil, Option.bind_some, Option.toList_some, Option.toList_none, List.cons_append, List.nil_append, Nat.reduceAdd, Nat.reduceLT, Nat.reduceLeDiff, Nat.reduceEqDiff, Nat.reduceSub, ↓reduceIte, reduceCtorEq, decide_true, decide_false, Bool.and_self, Bool.and_true, Bool.true_and, if_true, if_false, Nat.zero_add, Nat.add_zero, true_and, and_true, and_self, Option.some.injEq, nI_add, pk_mul, pk_sub, nI_leI, nI_ltI, nI_eq, Nat.le_refl, Bool.not_true, Bool.not_false, Bool.false_and, Bool.and_false, not_true_eq_false, not_false_eq_true, mq_24, mt_24, ft_24_55, ft_24_56]
  | succ k ih =>
    intro i mem hi h ho
    have hni : ¬ n ≤ i := by omega
    have := ih (i + 1) (up_m mem (e + 1) (ia_o 6 (ff_f (fun j => nI j) o (i + 1)))) (by omega) (by rw [up_ne (by omega)]; exact h) up_self
    rw [up_up] at this
    have hz : upd (ff_f (fun j => nI j) o i) i (nI i) = ff_f (fun j => nI j) o (i + 1) := ff_s (g := fun j => nI j)
    unfold sw_o at h
    have ho' : mem (e + 1) = some (.inr (0, 6, .inl (ff_f (fun j => nI j) o i))) := ho
    rw [← this, rn_def, ft_24_53]
    simp (disch := omega) only [rn_def, ri_iconst, ri_bipush, ri_sipush, ri_lconst, ri_ldc2_w, ri_iload_n, ri_iload, ri_istore_n, ri_istore, ri_lload_n, ri_lload, ri_lstore_n, ri_lstore, ri_aload_n, ri_aload, ri_astore_n, ri_astore, ri_iinc, ri_iadd, ri_isub, ri_imul, ri_iand, ri_ior, ri_ishl, ri_ishr, ri_ladd, ri_lsub, ri_lmul, ri_land, ri_lor, ri_lshl, ri_lshr, ri_idiv, ri_irem, ri_ldiv, ri_lrem, ri_ineg, ri_lneg, ri_i2l, ri_l2i, ri_lcmp, ri_dup_int, ri_pop_int, ri_dup_ref, ri_pop_ref, ri_dup2, ri_if_eq, ri_ic_eq, ri_if_ne, ri_ic_ne, ri_if_lt, ri_ic_lt, ri_if_ge, ri_ic_ge, ri_if_gt, ri_ic_gt, ri_if_le, ri_ic_le, ri_goto, ri_switch, ri_getfield, ri_putfield, ri_iaload, ri_baload, ri_laload, ri_aaload, ri_iastore, ri_bastore, ri_lastore, ri_arraylength, ri_ireturn, ri_lreturn, ri_return, ri_virt, ri_stat, ri_abs, ri_labs, ri_lmax, ri_imin, li_ok, ll_ok, lr_ok, ob_ok, vl_ok, ai_ok, al_ok, ar_ok, le_ok, rf_ok, w1_r_ok, ix_ok, on_tt, up_self, up_up, ok_i, ok_l, ok_b0, ok_b1, ok_a, ok_o, b01_0, b01_1, cs_nil, cs_i, cs_l, cs_r, pad_0, pad_n, pad_1i, pad_1r, pad_i, pad_r, pad_l, pop_0, pop_n, kl_i, kl_r, kl_l, kl_n, s1_0, s1_1, s1_n, s2_0, s2_1, s2_n, lc_lt, lc_gt, lc_eq, lc_le, lc_ge, ca_v, tq_0_0, tq_0_1, tq_0_2, tq_1_0, tq_1_1, tq_1_2, tq_1_3, tq_1_4, tq_1_5, tq_1_6, tq_1_7, tq_1_8, tq_1_9, tq_2_0, tq_2_1, tq_3_0, tq_3_1, tq_3_2, tq_3_3, tq_3_4, tq_3_5, tq_3_6, tq_3_7, tq_4_0, tq_4_1, tq_4_2, tq_4_3, tq_4_4, tq_4_5, tq_4_6, tq_4_7, tq_4_8, tq_4_9, tq_4_10, tq_4_11, tq_4_12, tq_4_13, tq_5_0, tq_5_1, tq_5_2, tq_5_3, tq_5_4, tq_5_5, tq_5_6, tq_5_7, tq_5_8, tq_5_9, tq_5_10, tq_5_11, tq_5_12, tq_6_0, tq_6_1, tq_6_2, tq_7_0, tq_7_1, tq_7_2, tq_7_3, tq_7_4, tq_7_5, tq_7_6, tq_7_7, tq_7_8, tq_7_9, tq_7_10, tq_7_11, tq_7_12, tq_7_13, tq_7_14, tq_7_15, tq_7_16, tq_8_0, tq_8_1, tq_8_2, tq_8_3, tq_8_4, tq_8_5, tq_8_6, tq_8_7, tq_8_8, tq_8_9, tq_8_10, tq_8_11, tq_8_12, tq_8_13, tq_8_14, tq_8_15, tq_8_16, tq_8_17, tq_8_18, tq_8_19, tq_8_20, tq_8_21, tq_8_22, tq_8_23, tq_8_24, tq_8_25, tq_8_26, tq_8_27, tq_8_28, tq_8_29, tq_8_30, tq_8_31, tq_8_32, List.getElem?_cons_zero, List.getElem?_cons_succ, List.set_cons_zero, List.set_cons_succ, List.length_cons, List.length_nil, Option.bind_some, Option.toList_some, Option.toList_none, List.cons_append, List.nil_append, Nat.reduceAdd, Nat.reduceLT, Nat.reduceLeDiff, Nat.reduceEqDiff, Nat.reduceSub, ↓reduceIte, reduceCtorEq, decide_true, decide_false, Bool.and_self, Bool.and_true, Bool.true_and, if_true, if_false, Nat.zero_add, Nat.add_zero, true_and, and_true, and_self, Option.some.injEq, nI_add, pk_mul, pk_sub, nI_leI, nI_ltI, nI_eq, Nat.le_refl, Bool.not_true, Bool.not_false, Bool.false_and, Bool.and_false, not_true_eq_false, not_false_eq_true, mq_24, mt_24, ft_24_55, ft_24_56, ft_24_59, ft_24_60, ft_24_63, ft_24_65, ft_24_67, ft_24_68, ft_24_71, h, ho', hni, hz]
    rfl
def fl_l (g f : Nat → Int64) (i : Nat) : Nat → Int64 := fun j => if j < i then g j else f j
theorem fl_l0 {g f : Nat → Int64} : fl_l g f 0 = f := by funext j; simp [fl_l]
theorem fl_ls {g f : Nat → Int64} {i : Nat} : vp_updL (fl_l g f i) i (g i) = fl_l g f (i + 1) := by
  funext j
  unfold vp_updL fl_l
  by_cases h : j = i
  · subst h; simp
  · by_cases h2 : j < i
    · have : j < i + 1 := by omega
      simp [h, h2, this]
    · have : ¬ j < i + 1 := by omega
      simp [h, h2, this]
def m0_f (K : Nat) : Nat → Int64 := fun i => (1 : Int64) <<< ((nI (K - 1 + i)).toInt64 &&& 63)
theorem l_start2 {K L : Nat} {W Y : Int32} {m0 s0 : Nat → Int64} {h0 : Nat → Int32} (hK : 1 ≤ K) (hL : L ≤ 25) (htf : ∀ i, i ≤ 25 → (tf < nI i ↔ L ≤ i)) : ∀ (k i : Nat) (mem : Mem), i + k = L → mem e = some (sw_o e n w way tf gd bout bf bs) → mem (e + 3) = some (ra_o 6 7 (gt_f (e + 4))) → mem (e + 11) = some (ra_o 6 7 (gt_f (e + 12))) → mem (e + 19) = some (ra_o 7 7 (gt_f (e + 20))) → mem (e + 4) = some (la_o 25 (fl_l (m0_f K) m0 i)) → mem (e + 12) = some (la_o 25 (fl_l (fun _ => 0) s0 i)) → mem (e + 20) = some (ia_o 25 (ff_f (fun _ => nI 0) h0 i)) →
    rn 24 77 [some (.ref e), some (.int (nI n)), some (.int W), some (.int (nI K)), some (.int Y), some (.int (nI i))] [] mem = some (none, up_m (up_m (up_m mem (e + 4) (la_o 25 (fl_l (m0_f K) m0 L))) (e + 12) (la_o 25 (fl_l (fun _ => 0) s0 L))) (e + 20) (ia_o 25 (ff_f (fun _ => nI 0) h0 L))) := by
  intro k
  induction k with
  | zero =>
    intro i mem hi h t1 t2 t3 a1 a2 a3
    have hin : i = L := by omega
    subst hin
    unfold sw_o at h
    have c1 : tf < nI i := (htf i (by omega)).mpr (Nat.le_refl _)
    rw [up_id a1, up_id a2, up_id a3, rn_def, ft_24_77]
    simp (disch := omega) only [rn_def, ri_iconst, ri_bipush, ri_sipush, ri_lconst, ri_ldc2_w, ri_iload_n, ri_iload, ri_istore_n, ri_istore, ri_lload_n, ri_lload, ri_lstore_n, ri_lstore, ri_aload_n, ri_aload, ri_astore_n, ri_astore, ri_iinc, ri_iadd, ri_isub, ri_imul, ri_iand, ri_ior, ri_ishl, ri_ishr, ri_ladd, ri_lsub, ri_lmul, ri_land, ri_lor, ri_lshl, ri_lshr, ri_idiv, ri_irem, ri_ldiv, ri_lrem, ri_ineg, ri_lneg, ri_i2l, ri_l2i, ri_lcmp, ri_dup_int, ri_pop_int, ri_dup_ref, ri_pop_ref, ri_dup2, ri_if_eq, ri_ic_eq, ri_if_ne, ri_ic_ne, ri_if_lt, ri_ic_lt, ri_if_ge, ri_ic_ge, ri_if_gt, ri_ic_gt, ri_if_le, ri_ic_le, ri_goto, ri_switch, ri_getfield, ri_putfield, ri_iaload, ri_baload, ri_laload, ri_aaload, ri_iastore, ri_bastore, ri_lastore, ri_arraylength, ri_ireturn, ri_lreturn, ri_return, ri_virt, ri_stat, ri_abs, ri_labs, ri_lmax, ri_imin, li_ok, ll_ok, lr_ok, ob_ok, vl_ok, ai_ok, al_ok, ar_ok, le_ok, rf_ok, w1_r_ok, ix_ok, on_tt, up_self, up_up, ok_i, ok_l, ok_b0, ok_b1, ok_a, ok_o, b01_0, b01_1, cs_nil, cs_i, cs_l, cs_r, pad_0, pad_n, pad_1i, pad_1r, pad_i, pad_r, pad_l, pop_0, pop_n, kl_i, kl_r, kl_l, kl_n, s1_0, s1_1, s1_n, s2_0, s2_1, s2_n, lc_lt, lc_gt, lc_eq, lc_le, lc_ge, ca_v, tq_0_0, tq_0_1, tq_0_2, tq_1_0, tq_1_1, tq_1_2, tq_1_3, tq_1_4, tq_1_5, tq_1_6, tq_1_7, tq_1_8, tq_1_9, tq_2_0, tq_2_1, tq_3_0, tq_3_1, tq_3_2, tq_3_3, tq_3_4, tq_3_5, tq_3_6, tq_3_7, tq_4_0, tq_4_1, tq_4_2, tq_4_3, tq_4_4, tq_4_5, tq_4_6, tq_4_7, tq_4_8, tq_4_9, tq_4_10, tq_4_11, tq_4_12, tq_4_13, tq_5_0, tq_5_1, tq_5_2, tq_5_3, tq_5_4, tq_5_5, tq_5_6, tq_5_7, tq_5_8, tq_5_9, tq_5_10, tq_5_11, tq_5_12, tq_6_0, tq_6_1, tq_6_2, tq_7_0, tq_7_1, tq_7_2, tq_7_3, tq_7_4, tq_7_5, tq_7_6, tq_7_7, tq_7_8, tq_7_9, tq_7_10, tq_7_11, tq_7_12, tq_7_13, tq_7_14, tq_7_15, tq_7_16, tq_8_0, tq_8_1, tq_8_2, tq_8_3, tq_8_4, tq_8_5, tq_8_6, tq_8_7, tq_8_8, tq_8_9, tq_8_10, tq_8_11, tq_8_12, tq_8_13, tq_8_14, tq_8_15, tq_8_16, tq_8_17, tq_8_18, tq_8_19, tq_8_20, tq_8_21, tq_8_22, tq_8_23, tq_8_24, tq_8_25, tq_8_26, tq_8_27, tq_8_28, tq_8_29, tq_8_30, tq_8_31, tq_8_32, List.getElem?_cons_zero, List.getElem?_cons_succ, List.set_cons_zero, List.set_cons_succ, List.length_cons, List.length_nil, Option.bind_some, Option.toList_some, Option.toList_none, List.cons_append, List.nil_append, Nat.reduceAdd, Nat.reduceLT, Nat.reduceLeDiff, Nat.reduceEqDiff, Nat.reduceSub, ↓reduceIte, reduceCtorEq, decide_true, decide_false, Bool.and_self, Bool.and_true, Bool.true_and, if_true, if_false, Nat.zero_add, Nat.add_zero, true_and, and_true, and_self, Option.some.injEq, nI_add, pk_mul, pk_sub, nI_leI, nI_ltI, nI_eq, Nat.le_refl, Bool.not_true, Bool.not_false, Bool.false_and, Bool.and_false, not_true_eq_false, not_false_eq_true, mq_24, mt_24, ft_24_79, ft_24_80, ft_24_83, ft_24_129, h, c1]
  | succ k ih =>
    intro i mem hi h t1 t2 t3 a1 a2 a3
    have c1 : ¬ tf < nI i := fun z => absurd ((htf i (by omega)).mp z) (by omega)
    have g1 : gt_f (e + 4) 0 = some (e + 4) := rfl
    have g2 : gt_f (e + 12) 0 = some (e + 12) := rfl
    have g3 : gt_f (e + 20) 0 = some (e + 20) := rfl
    have z1 : vp_updL (fl_l (m0_f K) m0 i) i ((1 : Int64) <<< ((nI (K - 1 + i)).toInt64 &&& 63)) = fl_l (m0_f K) m0 (i + 1) := fl_ls
    have z2 : vp_updL (fl_l (fun _ => 0) s0 i) i 0 = fl_l (fun _ => 0) s0 (i + 1) := fl_ls (g := fun _ => 0)
    have z3 : upd (ff_f (fun _ => nI 0) h0 i) i (nI 0) = ff_f (fun _ => nI 0) h0 (i + 1) := ff_s (g := fun _ => nI 0)
    have := ih (i + 1) (up_m (up_m (up_m mem (e + 4) (la_o 25 (fl_l (m0_f K) m0 (i + 1)))) (e + 12) (la_o 25 (fl_l (fun _ => 0) s0 (i + 1)))) (e + 20) (ia_o 25 (ff_f (fun _ => nI 0) h0 (i + 1)))) (by omega) (by rw [up_ne (by omega), up_ne (by omega), up_ne (by omega)]; exact h) (by rw [up_ne (by omega), up_ne (by omega), up_ne (by omega)]; exact t1) (by rw [up_ne (by omega), up_ne (by omega), up_ne (by omega)]; exact t2) (by rw [up_ne (by omega), up_ne (by omega), up_ne (by omega)]; exact t3) (by rw [up_ne (by omega), up_ne (by omega)]; exact up_self) (by rw [up_ne (by omega)]; exact up_self) up_self
    have em : ∀ (a1 a2 b1 b2 c1 c2 : mE), up_m (up_m (up_m (up_m (up_m (up_m mem (e + 4) a1) (e + 12) b1) (e + 20) c1) (e + 4) a2) (e + 12) b2) (e + 20) c2 = up_m (up_m (up_m mem (e + 4) a2) (e + 12) b2) (e + 20) c2 := by
      intro a1 a2 b1 b2 c1 c2
      funext r
      unfold up_m
      by_cases r1 : r = e + 20
      · simp [r1]
      · by_cases r2 : r = e + 12
        · simp [r1, r2]
        · by_cases r3 : r = e + 4
          · simp [r1, r2, r3]
          · simp [r1, r2, r3]
    rw [em] at this
    unfold sw_o at h
    unfold ra_o at t1 t2 t3
    unfold la_o at a1 a2
    unfold ia_o at a3
    rw [← this, rn_def, ft_24_77]
    unfold la_o ia_o
    simp (disch := omega) only [rn_def, ri_iconst, ri_bipush, ri_sipush, ri_lconst, ri_ldc2_w, ri_iload_n, ri_iload, ri_istore_n, ri_istore, ri_lload_n, ri_lload, ri_lstore_n, ri_lstore, ri_aload_n, ri_aload, ri_astore_n, ri_astore, ri_iinc, ri_iadd, ri_isub, ri_imul, ri_iand, ri_ior, ri_ishl, ri_ishr, ri_ladd, ri_lsub, ri_lmul, ri_land, ri_lor, ri_lshl, ri_lshr, ri_idiv, ri_irem, ri_ldiv, ri_lrem, ri_ineg, ri_lneg, ri_i2l, ri_l2i, ri_lcmp, ri_dup_int, ri_pop_int, ri_dup_ref, ri_pop_ref, ri_dup2, ri_if_eq, ri_ic_eq, ri_if_ne, ri_ic_ne, ri_if_lt, ri_ic_lt, ri_if_ge, ri_ic_ge, ri_if_gt, ri_ic_gt, ri_if_le, ri_ic_le, ri_goto, ri_switch, ri_getfield, ri_putfield, ri_iaload, ri_baload, ri_laload, ri_aaload, ri_iastore, ri_bastore, ri_lastore, ri_arraylength, ri_ireturn, ri_lreturn, ri_return, ri_virt, ri_stat, ri_abs, ri_labs, ri_lmax, ri_imin, li_ok, ll_ok, lr_ok, ob_ok, vl_ok, ai_ok, al_ok, ar_ok, le_ok, rf_ok, w1_r_ok, ix_ok, on_tt, up_self, up_up, ok_i, ok_l, ok_b0, ok_b1, ok_a, ok_o, b01_0, b01_1, cs_nil, cs_i, cs_l, cs_r, pad_0, pad_n, pad_1i, pad_1r, pad_i, pad_r, pad_l, pop_0, pop_n, kl_i, kl_r, kl_l, kl_n, s1_0, s1_1, s1_n, s2_0, s2_1, s2_n, lc_lt, lc_gt, lc_eq, lc_le, lc_ge, ca_v, tq_0_0, tq_0_1, tq_0_2, tq_1_0, tq_1_1, tq_1_2, tq_1_3, tq_1_4, tq_1_5, tq_1_6, tq_1_7, tq_1_8, tq_1_9, tq_2_0, tq_2_1, tq_3_0, tq_3_1, tq_3_2, tq_3_3, tq_3_4, tq_3_5, tq_3_6, tq_3_7, tq_4_0, tq_4_1, tq_4_2, tq_4_3, tq_4_4, tq_4_5, tq_4_6, tq_4_7, tq_4_8, tq_4_9, tq_4_10, tq_4_11, tq_4_12, tq_4_13, tq_5_0, tq_5_1, tq_5_2, tq_5_3, tq_5_4, tq_5_5, tq_5_6, tq_5_7, tq_5_8, tq_5_9, tq_5_10, tq_5_11, tq_5_12, tq_6_0, tq_6_1, tq_6_2, tq_7_0, tq_7_1, tq_7_2, tq_7_3, tq_7_4, tq_7_5, tq_7_6, tq_7_7, tq_7_8, tq_7_9, tq_7_10, tq_7_11, tq_7_12, tq_7_13, tq_7_14, tq_7_15, tq_7_16, tq_8_0, tq_8_1, tq_8_2, tq_8_3, tq_8_4, tq_8_5, tq_8_6, tq_8_7, tq_8_8, tq_8_9, tq_8_10, tq_8_11, tq_8_12, tq_8_13, tq_8_14, tq_8_15, tq_8_16, tq_8_17, tq_8_18, tq_8_19, tq_8_20, tq_8_21, tq_8_22, tq_8_23, tq_8_24, tq_8_25, tq_8_26, tq_8_27, tq_8_28, tq_8_29, tq_8_30, tq_8_31, tq_8_32, List.getElem?_cons_zero, List.getElem?_cons_succ, List.set_cons_zero, List.set_cons_succ, List.length_cons, List.length_nil, Option.bind_some, Option.toList_some, Option.toList_none, List.cons_append, List.nil_append, Nat.reduceAdd, Nat.reduceLT, Nat.reduceLeDiff, Nat.reduceEqDiff, Nat.reduceSub, ↓reduceIte, reduceCtorEq, decide_true, decide_false, Bool.and_self, Bool.and_true, Bool.true_and, if_true, if_false, Nat.zero_add, Nat.add_zero, true_and, and_true, and_self, Option.some.injEq, nI_add, pk_mul, pk_sub, nI_leI, nI_ltI, nI_eq, Nat.le_refl, Bool.not_true, Bool.not_false, Bool.false_and, Bool.and_false, not_true_eq_false, not_false_eq_true, mq_24, mt_24, ft_24_79, ft_24_80, ft_24_83, ft_24_86, ft_24_87, ft_24_90, ft_24_91, ft_24_92, ft_24_94, ft_24_95, ft_24_96, ft_24_97, ft_24_98, ft_24_100, ft_24_101, ft_24_102, ft_24_103, ft_24_104, ft_24_107, ft_24_108, ft_24_109, ft_24_111, ft_24_112, ft_24_113, ft_24_114, ft_24_117, ft_24_118, ft_24_119, ft_24_121, ft_24_122, ft_24_123, ft_24_126, h, t1, t2, t3, g1, g2, g3, a1, a2, a3, c1, up_ne, z1, z2, z3]
end SE4

theorem fw_ran {n : Nat} {N : Nat → Nat → Int64} {S : Nat → Sec} {W K Y F O j : Nat} : ∃ w, w ≤ 7 ∧ fw_v n N S W K Y F O j = nI w := by
  unfold fw_v fq_v
  split
  · split
    · split
      · split
        · split
          · split
            · split
              · split
                · exact ⟨0, by omega, rfl⟩
                · exact ⟨7, by omega, rfl⟩
              · exact ⟨0, by omega, rfl⟩
            · exact ⟨6, by omega, rfl⟩
          · exact ⟨5, by omega, rfl⟩
        · exact ⟨4, by omega, rfl⟩
      · exact ⟨3, by omega, rfl⟩
    · exact ⟨2, by omega, rfl⟩
  · exact ⟨1, by omega, rfl⟩
theorem fw_0 {n : Nat} {N : Nat → Nat → Int64} {S : Nat → Sec} {W K Y F O j : Nat} (h : fw_v n N S W K Y F O j = 0) : N j 7 + N j 8 < lW_v W := by
  unfold fw_v fq_v at h
  have ne : ∀ k : Fin 7, ¬ nI (k.val + 1) = 0 := by decide
  split at h
  · split at h
    · split at h
      · split at h
        · split at h
          · split at h
            · rename_i hs
              unfold sq_b at hs
              simp only [Bool.and_eq_true, Bool.not_eq_true', decide_eq_false_iff_not, decide_eq_true_eq] at hs
              exact Int64.not_le.mp hs.2.2.2
            · exact absurd h (ne ⟨5, by omega⟩)
          · exact absurd h (ne ⟨4, by omega⟩)
        · exact absurd h (ne ⟨3, by omega⟩)
      · exact absurd h (ne ⟨2, by omega⟩)
    · exact absurd h (ne ⟨1, by omega⟩)
  · exact absurd h (ne ⟨0, by omega⟩)
theorem lW_i {W : Nat} (h1 : 16 ≤ W) (h2 : W ≤ 47) : (lW_v W).toInt ≤ 2 ^ 46 := by
  have e := on_i ⟨W - 1, by omega⟩
  dsimp only at e
  unfold lW_v
  rw [e]
  have := Nat.pow_le_pow_right (n := 2) (by decide) (show W - 1 ≤ 46 by omega)
  exact_mod_cast this
section MC
variable {m n : Nat} {pt : Bool} {W K F s G : Nat} {to : Int32} {o2 : Nat} {Y : Nat} {cm : Int64} {fa hd : Nat → Int32} {fc fp : Nat → Int64} {N : Nat → Nat → Int64} {S : Nat → Sec}
theorem d_wrongAt {mem : Mem} {kn : Int32} {nm ns : Int64} {j : Nat} (hn : n ≤ 6) (hj : j < n) (hW1 : 16 ≤ W) (hW2 : W ≤ 47) (hK : 1 ≤ K) (hS : ∀ j, j < n → qs_ok (S j) ∧ rs_r (S j) fa hd fc j) (hN : ∀ j, j < n → ∀ i, i < 9 → fp (9 * j + i) = N j i) (hN0 : ∀ i, i < 9 → 0 ≤ (N j i).toInt) (hm0 : 0 ≤ (mi_v N K F j).toInt) (hi0 : 0 ≤ (si_v N j).toInt) (hms : (mi_v N K F j).toInt + (si_v N j).toInt ≤ 2 ^ 46) (h : mem m = some (mo_o m n pt W K F s kn nm ns to G (nI o2) Y cm)) (h1 : mem (m + 1) = some (ia_o 30 fa)) (h4 : mem (m + 4) = some (la_o 54 fp)) (ha : ea_m mem m 0 0 0) :
    ∃ mem' kn' nm' ns', cl 103 [.ref m, .int (nI j)] mem = some (some (.int (fw_v n N S W K Y F o2 j)), mem') ∧ mem' m = some (mo_o m n pt W K F s kn' nm' ns' to G (nI o2) Y cm) ∧ ea_m mem' m 0 0 0 ∧ (∀ q, q ≠ m → (q < m + 9 ∨ m + 13 ≤ q) → mem' q = mem q) := by
  obtain ⟨A1, A2⟩ := l_wA hn hj hN h h4
  unfold fw_v
  by_cases hsr : sr_b N n j = true
  · rw [if_pos hsr]
    obtain ⟨c, hc, ec, ec2⟩ := sr_of hn hsr
    rw [ec2]
    obtain ⟨hq, hr⟩ := hS c hc
    have hA := A2 false hsr rfl
    obtain ⟨M1, kn1, b1, b2, b3, b4⟩ := l_wB (z4 := bo_i false) (z5 := nI j) hn hj (by omega) ec (hN j hj) hq hr h h1 h4 ha
    have g4 : M1 (m + 4) = some (la_o 54 fp) := (b3 _ (by omega) (by omega)).trans h4
    have g1 : M1 (m + 1) = some (ia_o 30 fa) := (b3 _ (by omega) (by omega)).trans h1
    rw [hA]
    generalize bo_i false = z4 at b4 ⊢
    unfold fq_v
    by_cases hB : ms_b (N j) (S c).2.2.2.1.toInt64 (S c).2.2.2.2.1.toInt64 = true
    · rw [if_pos hB] at b4 ⊢
      have h31 : (N j 3).toInt ≤ 2 ^ 31 := by
        unfold ms_b sm_b at hB
        simp only [Bool.and_eq_true, Bool.not_eq_true', decide_eq_false_iff_not, decide_eq_true_eq] at hB
        have := hB.2.2.2.2.2.2
        rw [Int64.lt_iff_toInt_lt] at this
        have e : (2147483648 : Int64).toInt = 2 ^ 31 := rfl
        omega
      have C := l_wC (z4 := z4) (z5 := nI c) (c0 := N j 0) (g1 := N j 1) hn hj (hN j hj) (hN0 3 (by omega)) h31 b1 g4
      rw [b4, C]
      by_cases hC : nr_b (N j) = true
      · rw [if_pos hC, if_pos hC]
        have h44 : (N j 4).toInt ≤ 2 ^ 44 := by
          rw [nr_bi] at hC
          simp only [Bool.and_eq_true, Bool.not_eq_true', decide_eq_false_iff_not, decide_eq_true_eq] at hC
          have := hC.1
          rw [Int64.lt_iff_toInt_lt] at this
          have e : (17592186044416 : Int64).toInt = 2 ^ 44 := rfl
          omega
        have hb := d_bSizes (k := c) (by omega) b1 g1
        have hbv : ab_l (fa (5 * c)).toInt64 + ab_l (fa (5 * c + 1)).toInt64 + ab_l (fa (5 * c + 2)).toInt64 = (S c).2.2.2.2.2.1 := by
          obtain ⟨⟨q0, q1, q2, -, -⟩, qb, -⟩ := hq
          obtain ⟨r0, r1, r2, -⟩ := hr
          rw [r0, r1, r2, qb, sb_l q0 q1 q2]
        rw [hbv] at hb
        have D := l_wD (z4 := z4) (c := c) (c0 := N j 0) (g1 := N j 1) (g2 := N j 2) (g3 := N j 3) hn hj (hN j hj) hb b1 g4
        rw [D]
        by_cases hD : gi_b (N j) (S c).2.2.2.2.2.1 = true
        · rw [if_pos hD, if_pos hD]
          have h48 : (N j 5).toInt ≤ 2 ^ 48 := by
            unfold gi_b at hD
            simp only [Bool.and_eq_true, Bool.not_eq_true', decide_eq_false_iff_not, decide_eq_true_eq] at hD
            have := hD.1
            rw [Int64.lt_iff_toInt_lt] at this
            have e : (281474976710656 : Int64).toInt = 2 ^ 48 := rfl
            omega
          have E1 := l_wE1 (z4 := z4) (c := c) (c0 := N j 0) (g1 := N j 1) (g2 := N j 2) (g3 := N j 3) (g4 := N j 4) (g5 := N j 5) hn hj hK hN b1 g4
          rw [E1]
          obtain ⟨nm', ns', k1, k2⟩ := l_wE2 (z4 := z4) (j := j) (c0 := N j 0) (g1 := N j 1) (g2 := N j 2) (g3 := N j 3) (g4 := N j 4) (g5 := N j 5) hn hj (show c < 6 by omega) hq hr hm0 hi0 hms (hN0 5 (by omega)) h48 (hN0 4 (by omega)) h44 b1 g1
          rw [k2]
          by_cases hE : gg_b (S c).2.2.2.2.2.1 (S c).2.2.2.2.2.2.1 (N j 4) (N j 5) (mi_v N K F j) (si_v N j) (nI Y) = true
          · rw [if_pos hE, if_pos hE]
            obtain ⟨e1, e2⟩ := k1 hE
            rw [e1, e2]
            obtain ⟨f1, f2, f3, -⟩ := gg_bd hm0 hi0 hms (hN0 5 (by omega)) h48 (hN0 4 (by omega)) h44 hE
            have p1 : (up_m M1 m (mo_o m n pt W K F s kn1 (gm_b (N j 5) (mi_v N K F j)) (gs_b (N j 4) (N j 5) (si_v N j) (nI Y)) to G (nI o2) Y cm)) m = some (mo_o m n pt W K F s kn1 (gm_b (N j 5) (mi_v N K F j)) (gs_b (N j 4) (N j 5) (si_v N j) (nI Y)) to G (nI o2) Y cm) := up_self
            have p4 : (up_m M1 m (mo_o m n pt W K F s kn1 (gm_b (N j 5) (mi_v N K F j)) (gs_b (N j 4) (N j 5) (si_v N j) (nI Y)) to G (nI o2) Y cm)) (m + 4) = some (la_o 54 fp) := (up_ne (by omega)).trans g4
            have pq : ∀ q, q ≠ m → (up_m M1 m (mo_o m n pt W K F s kn1 (gm_b (N j 5) (mi_v N K F j)) (gs_b (N j 4) (N j 5) (si_v N j) (nI Y)) to G (nI o2) Y cm)) q = M1 q := fun q q1 => up_ne q1
            generalize up_m M1 m (mo_o m n pt W K F s kn1 (gm_b (N j 5) (mi_v N K F j)) (gs_b (N j 4) (N j 5) (si_v N j) (nI Y)) to G (nI o2) Y cm) = M2 at p1 p4 pq ⊢
            obtain ⟨nm2, ns2, Fq⟩ := l_wF (z4 := z4) (z5 := nI c) (c0 := N j 0) (g1 := N j 1) (g2 := N j 2) (g3 := N j 3) (g4 := N j 4) (g5 := N j 5) (mi := mi_v N K F j) (si := si_v N j) hn hj (by omega) (hN j hj) (hN0 6 (by omega)) f1 (by omega) f2 (by omega) p1 p4
            rw [Fq]
            have ea2 : ea_m (up_m M2 m (mo_o m n pt W K F s kn1 nm2 ns2 to G (nI o2) Y cm)) m 0 0 0 := ea_fr b2 (fun q q1 q2 => by rw [up_ne (by omega), pq q (by omega)])
            have fr2 : ∀ q, q ≠ m → (q < m + 9 ∨ m + 13 ≤ q) → (up_m M2 m (mo_o m n pt W K F s kn1 nm2 ns2 to G (nI o2) Y cm)) q = mem q := fun q q1 q2 => by rw [up_ne q1, pq q q1, b3 q q1 q2]
            have r1 : (up_m M2 m (mo_o m n pt W K F s kn1 nm2 ns2 to G (nI o2) Y cm)) m = some (mo_o m n pt W K F s kn1 nm2 ns2 to G (nI o2) Y cm) := up_self
            have r4 : (up_m M2 m (mo_o m n pt W K F s kn1 nm2 ns2 to G (nI o2) Y cm)) (m + 4) = some (la_o 54 fp) := (up_ne (by omega)).trans p4
            generalize up_m M2 m (mo_o m n pt W K F s kn1 nm2 ns2 to G (nI o2) Y cm) = M3 at ea2 fr2 r1 r4 ⊢
            by_cases hF : sq_b (N j) (gm_b (N j 5) (mi_v N K F j)) (gs_b (N j 4) (N j 5) (si_v N j) (nI Y)) (lW_v W) = true
            · rw [if_pos hF, if_pos hF]
              refine ⟨M3, kn1, nm2, ns2, ?_, r1, ea2, fr2⟩
              have Gq := l_wG (z4 := z4) (z5 := nI c) (c0 := N j 0) (g1 := N j 1) (g2 := N j 2) (g3 := N j 3) (g4 := N j 4) (g5 := N j 5) (mi := mi_v N K F j) (si := si_v N j) (g6 := N j 6) (g7 := N j 7) (g8 := N j 8) hn hj hN r1 r4 n 0 0 (by omega)
              rw [← Gq]
              have h0 : (nI F).toInt64 - 0 = (nI F).toInt64 := by simp
              rw [h0]
              unfold mo_o at r1
              simp (disch := omega) only [rn_def, ri_iconst, ri_bipush, ri_sipush, ri_lconst, ri_ldc2_w, ri_iload_n, ri_iload, ri_istore_n, ri_istore, ri_lload_n, ri_lload, ri_lstore_n, ri_lstore, ri_aload_n, ri_aload, ri_astore_n, ri_astore, ri_iinc, ri_iadd, ri_isub, ri_imul, ri_iand, ri_ior, ri_ishl, ri_ishr, ri_ladd, ri_lsub, ri_lmul, ri_land, ri_lor, ri_lshl, ri_lshr, ri_idiv, ri_irem, ri_ldiv, ri_lrem, ri_ineg, ri_lneg, ri_i2l, ri_l2i, ri_lcmp, ri_dup_int, ri_pop_int, ri_dup_ref, ri_pop_ref, ri_dup2, ri_if_eq, ri_ic_eq, ri_if_ne, ri_ic_ne, ri_if_lt, ri_ic_lt, ri_if_ge, ri_ic_ge, ri_if_gt, ri_ic_gt, ri_if_le, ri_ic_le, ri_goto, ri_switch, ri_getfield, ri_putfield, ri_iaload, ri_baload, ri_laload, ri_aaload, ri_iastore, ri_bastore, ri_lastore, ri_arraylength, ri_ireturn, ri_lreturn, ri_return, ri_virt, ri_stat, ri_abs, ri_labs, ri_lmax, ri_imin, li_ok, ll_ok, lr_ok, ob_ok, vl_ok, ai_ok, al_ok, ar_ok, le_ok, rf_ok, w1_r_ok, ix_ok, on_tt, up_self, up_up, ok_i, ok_l, ok_b0, ok_b1, ok_a, ok_o, b01_0, b01_1, cs_nil, cs_i, cs_l, cs_r, pad_0, pad_n, pad_1i, pad_1r, pad_i, pad_r, pad_l, pop_0, pop_n, kl_i, kl_r, kl_l, kl_n, s1_0, s1_1, s1_n, s2_0, s2_1, s2_n, lc_lt, lc_gt, lc_eq, lc_le, lc_ge, ca_v, tq_0_0, tq_0_1, tq_0_2, tq_1_0, tq_1_1, tq_1_2, tq_1_3, tq_1_4, tq_1_5, tq_1_6, tq_1_7, tq_1_8, tq_1_9, tq_2_0, tq_2_1, tq_3_0, tq_3_1, tq_3_2, tq_3_3, tq_3_4, tq_3_5, tq_3_6, tq_3_7, tq_4_0, tq_4_1, tq_4_2, tq_4_3, tq_4_4, tq_4_5, tq_4_6, tq_4_7, tq_4_8, tq_4_9, tq_4_10, tq_4_11, tq_4_12, tq_4_13, tq_5_0, tq_5_1, tq_5_2, tq_5_3, tq_5_4, tq_5_5, tq_5_6, tq_5_7, tq_5_8, tq_5_9, tq_5_10, tq_5_11, tq_5_12, tq_6_0, tq_6_1, tq_6_2, tq_7_0, tq_7_1, tq_7_2, tq_7_3, tq_7_4, tq_7_5, tq_7_6, tq_7_7, tq_7_8, tq_7_9, tq_7_10, tq_7_11, tq_7_12, tq_7_13, tq_7_14, tq_7_15, tq_7_16, tq_8_0, tq_8_1, tq_8_2, tq_8_3, tq_8_4, tq_8_5, tq_8_6, tq_8_7, tq_8_8, tq_8_9, tq_8_10, tq_8_11, tq_8_12, tq_8_13, tq_8_14, tq_8_15, tq_8_16, tq_8_17, tq_8_18, tq_8_19, tq_8_20, tq_8_21, tq_8_22, tq_8_23, tq_8_24, tq_8_25, tq_8_26, tq_8_27, tq_8_28, tq_8_29, tq_8_30, tq_8_31, tq_8_32, List.getElem?_cons_zero, List.getElem?_cons_succ, List.set_cons_zero, List.set_cons_succ, List.length_cons, List.length_nil, Option.bind_some, Option.toList_some, Option.toList_none, List.cons_append, List.nil_append, Nat.reduceAdd, Nat.reduceLT, Nat.reduceLeDiff, Nat.reduceEqDiff, Nat.reduceSub, ↓reduceIte, reduceCtorEq, decide_true, decide_false, Bool.and_self, Bool.and_true, Bool.true_and, if_true, if_false, Nat.zero_add, Nat.add_zero, true_and, and_true, and_self, Option.some.injEq, nI_add, pk_mul, pk_sub, nI_leI, nI_ltI, nI_eq, Nat.le_refl, Bool.not_true, Bool.not_false, Bool.false_and, Bool.and_false, not_true_eq_false, not_false_eq_true, mq_103, mt_103, ft_103_470, ft_103_471, ft_103_474, ft_103_475, ft_103_477, ft_103_478, r1]
            · rw [if_neg hF, if_neg hF]
              exact ⟨M3, kn1, nm2, ns2, rfl, r1, ea2, fr2⟩
          · rw [if_neg hE, if_neg hE]
            exact ⟨_, kn1, nm', ns', rfl, up_self, ea_fr b2 (fun q q1 q2 => up_ne (by omega)), fun q q1 q2 => by rw [up_ne q1, b3 q q1 q2]⟩
        · rw [if_neg hD, if_neg hD]
          exact ⟨M1, kn1, nm, ns, rfl, b1, b2, b3⟩
      · rw [if_neg hC, if_neg hC]
        exact ⟨M1, kn1, nm, ns, rfl, b1, b2, b3⟩
    · rw [if_neg hB] at b4 ⊢
      exact ⟨M1, kn1, nm, ns, b4, b1, b2, b3⟩
  · rw [if_neg hsr]
    exact ⟨mem, kn, nm, ns, A1 (by simpa using hsr), h, ha, fun _ _ _ => rfl⟩
theorem l_mck (hn : n ≤ 6) (hW1 : 16 ≤ W) (hW2 : W ≤ 47) (hK : 1 ≤ K) (hS : ∀ j, j < n → qs_ok (S j) ∧ rs_r (S j) fa hd fc j) (hN : ∀ j, j < n → ∀ i, i < 9 → fp (9 * j + i) = N j i) (hN0 : ∀ j, j < n → ∀ i, i < 9 → 0 ≤ (N j i).toInt ∧ (N j i).toInt ≤ 2 ^ 50) :
    ∀ (k j : Nat) (mem : Mem) (kn : Int32) (nm ns : Int64) (z : Option Value), j + k = n → 0 ≤ (mi_v N K F j).toInt → 0 ≤ (si_v N j).toInt → (mi_v N K F j).toInt + (si_v N j).toInt ≤ 2 ^ 46 → mem m = some (mo_o m n pt W K F s kn nm ns to G (nI o2) Y cm) → mem (m + 1) = some (ia_o 30 fa) → mem (m + 4) = some (la_o 54 fp) → ea_m mem m 0 0 0 →
    ∃ mem' kn' nm' ns', rn 102 11 [some (.ref m), some (.int (nI j)), z] [] mem = some (some (.int (ck_v n N S W K Y F o2 k j)), mem') ∧ mem' m = some (mo_o m n pt W K F s kn' nm' ns' to G (nI o2) Y cm) ∧ ea_m mem' m 0 0 0 ∧ (∀ q, q ≠ m → (q < m + 9 ∨ m + 13 ≤ q) → mem' q = mem q) := by
  intro k
  induction k with
  | zero =>
    intro j mem kn nm ns z hj hm0 hi0 hms h h1 h4 ha
    have hin : j = n := by omega
    subst hin
    refine ⟨mem, kn, nm, ns, ?_, h, ha, fun _ _ _ => rfl⟩
    unfold mo_o at h
    rw [ck_v, rn_def, ft_102_11]
    simp (disch := omega) only [rn_def, ri_iconst, ri_bipush, ri_sipush, ri_lconst, ri_ldc2_w, ri_iload_n, ri_iload, ri_istore_n, ri_istore, ri_lload_n, ri_lload, ri_lstore_n, ri_lstore, ri_aload_n, ri_aload, ri_astore_n, ri_astore, ri_iinc, ri_iadd, ri_isub, ri_imul, ri_iand, ri_ior, ri_ishl, ri_ishr, ri_ladd, ri_lsub, ri_lmul, ri_land, ri_lor, ri_lshl, ri_lshr, ri_idiv, ri_irem, ri_ldiv, ri_lrem, ri_ineg, ri_lneg, ri_i2l, ri_l2i, ri_lcmp, ri_dup_int, ri_pop_int, ri_dup_ref, ri_pop_ref, ri_dup2, ri_if_eq, ri_ic_eq, ri_if_ne, ri_ic_ne, ri_if_lt, ri_ic_lt, ri_if_ge, ri_ic_ge, ri_if_gt, ri_ic_gt, ri_if_le, ri_ic_le, ri_goto, ri_switch, ri_getfield, ri_putfield, ri_iaload, ri_baload, ri_laload, ri_aaload, ri_iastore, ri_bastore, ri_lastore, ri_arraylength, ri_ireturn, ri_lreturn, ri_return, ri_virt, ri_stat, ri_abs, ri_labs, ri_lmax, ri_imin, li_ok, ll_ok, lr_ok, ob_ok, vl_ok, ai_ok, al_ok, ar_ok, le_ok, rf_ok, w1_r_ok, ix_ok, on_tt, up_self, up_up, ok_i, ok_l, ok_b0, ok_b1, ok_a, ok_o, b01_0, b01_1, cs_nil, cs_i, cs_l, cs_r, pad_0, pad_n, pad_1i, pad_1r, pad_i, pad_r, pad_l, pop_0, pop_n, kl_i, kl_r, kl_l, kl_n, s1_0, s1_1, s1_n, s2_0, s2_1, s2_n, lc_lt, lc_gt, lc_eq, lc_le, lc_ge, ca_v, tq_0_0, tq_0_1, tq_0_2, tq_1_0, tq_1_1, tq_1_2, tq_1_3, tq_1_4, tq_1_5, tq_1_6, tq_1_7, tq_1_8, tq_1_9, tq_2_0, tq_2_1, tq_3_0, tq_3_1, tq_3_2, tq_3_3, tq_3_4, tq_3_5, tq_3_6, tq_3_7, tq_4_0, tq_4_1, tq_4_2, tq_4_3, tq_4_4, tq_4_5, tq_4_6, tq_4_7, tq_4_8, tq_4_9, tq_4_10, tq_4_11, tq_4_12, tq_4_13, tq_5_0, tq_5_1, tq_5_2, tq_5_3, tq_5_4, tq_5_5, tq_5_6, tq_5_7, tq_5_8, tq_5_9, tq_5_10, tq_5_11, tq_5_12, tq_6_0, tq_6_1, tq_6_2, tq_7_0, tq_7_1, tq_7_2, tq_7_3, tq_7_4, tq_7_5, tq_7_6, tq_7_7, tq_7_8, tq_7_9, tq_7_10, tq_7_11, tq_7_12, tq_7_13, tq_7_14, tq_7_15, tq_7_16, tq_8_0, tq_8_1, tq_8_2, tq_8_3, tq_8_4, tq_8_5, tq_8_6, tq_8_7, tq_8_8, tq_8_9, tq_8_10, tq_8_11, tq_8_12, tq_8_13, tq_8_14, tq_8_15, tq_8_16, tq_8_17, tq_8_18, tq_8_19, tq_8_20, tq_8_21, tq_8_22, tq_8_23, tq_8_24, tq_8_25, tq_8_26, tq_8_27, tq_8_28, tq_8_29, tq_8_30, tq_8_31, tq_8_32, List.getElem?_cons_zero, List.getElem?_cons_succ, List.set_cons_zero, List.set_cons_succ, List.length_cons, List.length_nil, Option.bind_some, Option.toList_some, Option.toList_none, List.cons_append, List.nil_append, Nat.reduceAdd, Nat.reduceLT, Nat.reduceLeDiff, Nat.reduceEqDiff, Nat.reduceSub, ↓reduceIte, reduceCtorEq, decide_true, decide_false, Bool.and_self, Bool.and_true, Bool.true_and, if_true, if_false, Nat.zero_add, Nat.add_zero, true_and, and_true, and_self, Option.some.injEq, nI_add, pk_mul, pk_sub, nI_leI, nI_ltI, nI_eq, Nat.le_refl, Bool.not_true, Bool.not_false, Bool.false_and, Bool.and_false, not_true_eq_false, not_false_eq_true, mq_102, mt_102, ft_102_12, ft_102_13, ft_102_16, ft_102_44, ft_102_45, h]
  | succ k ih =>
    intro j mem kn nm ns z hj hm0 hi0 hms h h1 h4 ha
    have hni : ¬ n ≤ j := by omega
    obtain ⟨M1, kn1, nm1, ns1, a1, a2, a3, a4⟩ := d_wrongAt (S := S) (Y := Y) hn (show j < n by omega) hW1 hW2 hK hS hN (fun i hi => (hN0 j (by omega) i hi).1) hm0 hi0 hms h h1 h4 ha
    have h' := h
    unfold mo_o at h'
    obtain ⟨w, hw, ew⟩ := fw_ran (n := n) (N := N) (S := S) (W := W) (K := K) (Y := Y) (F := F) (O := o2) (j := j)
    rw [ck_v]
    by_cases hz : fw_v n N S W K Y F o2 j = 0
    · rw [if_pos hz]
      have hlt := fw_0 hz
      have hl := lW_i hW1 hW2
      have e1 : mi_v N K F (j + 1) = N j 7 := by unfold mi_v; rw [if_neg (by omega)]; rfl
      have e2 : si_v N (j + 1) = N j 8 := by unfold si_v; rw [if_neg (by omega)]; rfl
      obtain ⟨x1, x2⟩ := hN0 j (by omega) 7 (by omega)
      obtain ⟨y1, y2⟩ := hN0 j (by omega) 8 (by omega)
      rw [Int64.lt_iff_toInt_lt, ad_i (by omega) (by omega)] at hlt
      obtain ⟨mem', kn', nm', ns', b1, b2, b3, b4⟩ := ih (j + 1) M1 kn1 nm1 ns1 (some (.int (fw_v n N S W K Y F o2 j))) (by omega) (by rw [e1]; exact x1) (by rw [e2]; exact y1) (by rw [e1, e2]; omega) a2 ((a4 _ (by omega) (by omega)).trans h1) ((a4 _ (by omega) (by omega)).trans h4) a3
      refine ⟨mem', kn', nm', ns', ?_, b2, b3, fun q q1 q2 => (b4 q q1 q2).trans (a4 q q1 q2)⟩
      rw [hz] at a1 b1
      have hle : ((0 : Int32) ≤ 0) = True := eq_true (by decide)
      rw [← b1, rn_def, ft_102_11]
      simp (disch := omega) only [rn_def, ri_iconst, ri_bipush, ri_sipush, ri_lconst, ri_ldc2_w, ri_iload_n, ri_iload, ri_istore_n, ri_istore, ri_lload_n, ri_lload, ri_lstore_n, ri_lstore, ri_aload_n, ri_aload, ri_astore_n, ri_astore, ri_iinc, ri_iadd, ri_isub, ri_imul, ri_iand, ri_ior, ri_ishl, ri_ishr, ri_ladd, ri_lsub, ri_lmul, ri_land, ri_lor, ri_lshl, ri_lshr, ri_idiv, ri_irem, ri_ldiv, ri_lrem, ri_ineg, ri_lneg, ri_i2l, ri_l2i, ri_lcmp, ri_dup_int, ri_pop_int, ri_dup_ref, ri_pop_ref, ri_dup2, ri_if_eq, ri_ic_eq, ri_if_ne, ri_ic_ne, ri_if_lt, ri_ic_lt, ri_if_ge, ri_ic_ge, ri_if_gt, ri_ic_gt, ri_if_le, ri_ic_le, ri_goto, ri_switch, ri_getfield, ri_putfield, ri_iaload, ri_baload, ri_laload, ri_aaload, ri_iastore, ri_bastore, ri_lastore, ri_arraylength, ri_ireturn, ri_lreturn, ri_return, ri_virt, ri_stat, ri_abs, ri_labs, ri_lmax, ri_imin, li_ok, ll_ok, lr_ok, ob_ok, vl_ok, ai_ok, al_ok, ar_ok, le_ok, rf_ok, w1_r_ok, ix_ok, on_tt, up_self, up_up, ok_i, ok_l, ok_b0, ok_b1, ok_a, ok_o, b01_0, b01_1, cs_nil, cs_i, cs_l, cs_r, pad_0, pad_n, pad_1i, pad_1r, pad_i, pad_r, pad_l, pop_0, pop_n, kl_i, kl_r, kl_l, kl_n, s1_0, s1_1, s1_n, s2_0, s2_1, s2_n, lc_lt, lc_gt, lc_eq, lc_le, lc_ge, ca_v, tq_0_0, tq_0_1, tq_0_2, tq_1_0, tq_1_1, tq_1_2, tq_1_3, tq_1_4, tq_1_5, tq_1_6, tq_1_7, tq_1_8, tq_1_9, tq_2_0, tq_2_1, tq_3_0, tq_3_1, tq_3_2, tq_3_3, tq_3_4, tq_3_5, tq_3_6, tq_3_7, tq_4_0, tq_4_1, tq_4_2, tq_4_3, tq_4_4, tq_4_5, tq_4_6, tq_4_7, tq_4_8, tq_4_9, tq_4_10, tq_4_11, tq_4_12, tq_4_13, tq_5_0, tq_5_1, tq_5_2, tq_5_3, tq_5_4, tq_5_5, tq_5_6, tq_5_7, tq_5_8, tq_5_9, tq_5_10, tq_5_11, tq_5_12, tq_6_0, tq_6_1, tq_6_2, tq_7_0, tq_7_1, tq_7_2, tq_7_3, tq_7_4, tq_7_5, tq_7_6, tq_7_7, tq_7_8, tq_7_9, tq_7_10, tq_7_11, tq_7_12, tq_7_13, tq_7_14, tq_7_15, tq_7_16, tq_8_0, tq_8_1, tq_8_2, tq_8_3, tq_8_4, tq_8_5, tq_8_6, tq_8_7, tq_8_8, tq_8_9, tq_8_10, tq_8_11, tq_8_12, tq_8_13, tq_8_14, tq_8_15, tq_8_16, tq_8_17, tq_8_18, tq_8_19, tq_8_20, tq_8_21, tq_8_22, tq_8_23, tq_8_24, tq_8_25, tq_8_26, tq_8_27, tq_8_28, tq_8_29, tq_8_30, tq_8_31, tq_8_32, List.getElem?_cons_zero, List.getElem?_cons_succ, List.set_cons_zero, List.set_cons_succ, List.length_cons, List.length_nil, Option.bind_some, Option.toList_some, Option.toList_none, List.cons_append, List.nil_append, Nat.reduceAdd, Nat.reduceLT, Nat.reduceLeDiff, Nat.reduceEqDiff, Nat.reduceSub, ↓reduceIte, reduceCtorEq, decide_true, decide_false, Bool.and_self, Bool.and_true, Bool.true_and, if_true, if_false, Nat.zero_add, Nat.add_zero, true_and, and_true, and_self, Option.some.injEq, nI_add, pk_mul, pk_sub, nI_leI, nI_ltI, nI_eq, Nat.le_refl, Bool.not_true, Bool.not_false, Bool.false_and, Bool.and_false, not_true_eq_false, not_false_eq_true, mq_102, mt_102, ft_102_12, ft_102_13, ft_102_16, ft_102_19, ft_102_20, ft_102_21, ft_102_24, ft_102_25, ft_102_26, ft_102_29, ft_102_31, ft_102_32, ft_102_33, ft_102_34, ft_102_35, ft_102_36, ft_102_37, ft_102_38, ft_102_41, h', hni, a1, hle, mq_103, mt_103]
    · rw [if_neg hz]
      refine ⟨M1, kn1, nm1, ns1, ?_, a2, a3, a4⟩
      rw [ew] at a1 hz ⊢
      have hw0 : 0 < w := Nat.pos_of_ne_zero (fun z => hz (by rw [z]; rfl))
      have hle : ¬ nI w ≤ 0 := nI_nle hw0 (by omega)
      rw [rn_def, ft_102_11]
      simp (disch := omega) only [rn_def, ri_iconst, ri_bipush, ri_sipush, ri_lconst, ri_ldc2_w, ri_iload_n, ri_iload, ri_istore_n, ri_istore, ri_lload_n, ri_lload, ri_lstore_n, ri_lstore, ri_aload_n, ri_aload, ri_astore_n, ri_astore, ri_iinc, ri_iadd, ri_isub, ri_imul, ri_iand, ri_ior, ri_ishl, ri_ishr, ri_ladd, ri_lsub, ri_lmul, ri_land, ri_lor, ri_lshl, ri_lshr, ri_idiv, ri_irem, ri_ldiv, ri_lrem, ri_ineg, ri_lneg, ri_i2l, ri_l2i, ri_lcmp, ri_dup_int, ri_pop_int, ri_dup_ref, ri_pop_ref, ri_dup2, ri_if_eq, ri_ic_eq, ri_if_ne, ri_ic_ne, ri_if_lt, ri_ic_lt, ri_if_ge, ri_ic_ge, ri_if_gt, ri_ic_gt, ri_if_le, ri_ic_le, ri_goto, ri_switch, ri_getfield, ri_putfield, ri_iaload, ri_baload, ri_laload, ri_aaload, ri_iastore, ri_bastore, ri_lastore, ri_arraylength, ri_ireturn, ri_lreturn, ri_return, ri_virt, ri_stat, ri_abs, ri_labs, ri_lmax, ri_imin, li_ok, ll_ok, lr_ok, ob_ok, vl_ok, ai_ok, al_ok, ar_ok, le_ok, rf_ok, w1_r_ok, ix_ok, on_tt, up_self, up_up, ok_i, ok_l, ok_b0, ok_b1, ok_a, ok_o, b01_0, b01_1, cs_nil, cs_i, cs_l, cs_r, pad_0, pad_n, pad_1i, pad_1r, pad_i, pad_r, pad_l, pop_0, pop_n, kl_i, kl_r, kl_l, kl_n, s1_0, s1_1, s1_n, s2_0, s2_1, s2_n, lc_lt, lc_gt, lc_eq, lc_le, lc_ge, ca_v, tq_0_0, tq_0_1, tq_0_2, tq_1_0, tq_1_1, tq_1_2, tq_1_3, tq_1_4, tq_1_5, tq_1_6, tq_1_7, tq_1_8, tq_1_9, tq_2_0, tq_2_1, tq_3_0, tq_3_1, tq_3_2, tq_3_3, tq_3_4, tq_3_5, tq_3_6, tq_3_7, tq_4_0, tq_4_1, tq_4_2, tq_4_3, tq_4_4, tq_4_5, tq_4_6, tq_4_7, tq_4_8, tq_4_9, tq_4_10, tq_4_11, tq_4_12, tq_4_13, tq_5_0, tq_5_1, tq_5_2, tq_5_3, tq_5_4, tq_5_5, tq_5_6, tq_5_7, tq_5_8, tq_5_9, tq_5_10, tq_5_11, tq_5_12, tq_6_0, tq_6_1, tq_6_2, tq_7_0, tq_7_1, tq_7_2, tq_7_3, tq_7_4, tq_7_5, tq_7_6, tq_7_7, tq_7_8, tq_7_9, tq_7_10, tq_7_11, tq_7_12, tq_7_13, tq_7_14, tq_7_15, tq_7_16, tq_8_0, tq_8_1, tq_8_2, tq_8_3, tq_8_4, tq_8_5, tq_8_6, tq_8_7, tq_8_8, tq_8_9, tq_8_10, tq_8_11, tq_8_12, tq_8_13, tq_8_14, tq_8_15, tq_8_16, tq_8_17, tq_8_18, tq_8_19, tq_8_20, tq_8_21, tq_8_22, tq_8_23, tq_8_24, tq_8_25, tq_8_26, tq_8_27, tq_8_28, tq_8_29, tq_8_30, tq_8_31, tq_8_32, List.getElem?_cons_zero, List.getElem?_cons_succ, List.set_cons_zero, List.set_cons_succ, List.length_cons, List.length_nil, Option.bind_some, Option.toList_some, Option.toList_none, List.cons_append, List.nil_append, Nat.reduceAdd, Nat.reduceLT, Nat.reduceLeDiff, Nat.reduceEqDiff, Nat.reduceSub, ↓reduceIte, reduceCtorEq, decide_true, decide_false, Bool.and_self, Bool.and_true, Bool.true_and, if_true, if_false, Nat.zero_add, Nat.add_zero, true_and, and_true, and_self, Option.some.injEq, nI_add, pk_mul, pk_sub, nI_leI, nI_ltI, nI_eq, Nat.le_refl, Bool.not_true, Bool.not_false, Bool.false_and, Bool.and_false, not_true_eq_false, not_false_eq_true, mq_102, mt_102, ft_102_12, ft_102_13, ft_102_16, ft_102_19, ft_102_20, ft_102_21, ft_102_24, ft_102_25, ft_102_26, ft_102_29, ft_102_31, ft_102_32, ft_102_33, ft_102_34, ft_102_35, ft_102_36, ft_102_37, h', hni, a1, hle, mq_103, mt_103]
theorem d_check {mem : Mem} {kn : Int32} {nm ns : Int64} (hn : n ≤ 6) (hW1 : 16 ≤ W) (hW2 : W ≤ 47) (hK : 1 ≤ K) (hKF : K + F < W) (hS : ∀ j, j < n → qs_ok (S j) ∧ rs_r (S j) fa hd fc j) (hN : ∀ j, j < n → ∀ i, i < 9 → fp (9 * j + i) = N j i) (hN0 : ∀ j, j < n → ∀ i, i < 9 → 0 ≤ (N j i).toInt ∧ (N j i).toInt ≤ 2 ^ 50) (h : mem m = some (mo_o m n true W K F s kn nm ns to G (nI o2) Y cm)) (h1 : mem (m + 1) = some (ia_o 30 fa)) (h4 : mem (m + 4) = some (la_o 54 fp)) (ha : ea_m mem m 0 0 0) :
    ∃ mem' kn' nm' ns', cl 102 [.ref m] mem = some (some (.int (ck_v n N S W K Y F o2 n 0)), mem') ∧ mem' m = some (mo_o m n true W K F s kn' nm' ns' to G (nI o2) Y cm) ∧ ea_m mem' m 0 0 0 ∧ (∀ q, q ≠ m → (q < m + 9 ∨ m + 13 ≤ q) → mem' q = mem q) := by
  have e := on_i ⟨K - 1 + F, by omega⟩
  dsimp only at e
  have em : mi_v N K F 0 = (1 : Int64) <<< ((nI (K - 1 + F)).toInt64 &&& 63) := rfl
  rw [← em] at e
  have es : (si_v N 0).toInt = 0 := rfl
  have p1 : (0 : Int) < 2 ^ (K - 1 + F) := Int.pow_pos (by decide)
  have p2 : (2 : Int) ^ (K - 1 + F) ≤ 2 ^ 46 := by
    have := Nat.pow_le_pow_right (n := 2) (by decide) (show K - 1 + F ≤ 46 by omega)
    exact_mod_cast this
  obtain ⟨mem', kn', nm', ns', a1, a2, a3, a4⟩ := l_mck (S := S) (Y := Y) hn hW1 hW2 hK hS hN hN0 n 0 mem kn nm ns none (by omega) (by omega) (by omega) (by omega) h h1 h4 ha
  refine ⟨mem', kn', nm', ns', ?_, a2, a3, a4⟩
  unfold mo_o at h
  have n1 : ¬ nI 1 = 0 := by decide
  rw [← a1, cl_def]
  simp (disch := omega) only [rn_def, ri_iconst, ri_bipush, ri_sipush, ri_lconst, ri_ldc2_w, ri_iload_n, ri_iload, ri_istore_n, ri_istore, ri_lload_n, ri_lload, ri_lstore_n, ri_lstore, ri_aload_n, ri_aload, ri_astore_n, ri_astore, ri_iinc, ri_iadd, ri_isub, ri_imul, ri_iand, ri_ior, ri_ishl, ri_ishr, ri_ladd, ri_lsub, ri_lmul, ri_land, ri_lor, ri_lshl, ri_lshr, ri_idiv, ri_irem, ri_ldiv, ri_lrem, ri_ineg, ri_lneg, ri_i2l, ri_l2i, ri_lcmp, ri_dup_int, ri_pop_int, ri_dup_ref, ri_pop_ref, ri_dup2, ri_if_eq, ri_ic_eq, ri_if_ne, ri_ic_ne, ri_if_lt, ri_ic_lt, ri_if_ge, ri_ic_ge, ri_if_gt, ri_ic_gt, ri_if_le, ri_ic_le, ri_goto, ri_switch, ri_getfield, ri_putfield, ri_iaload, ri_baload, ri_laload, ri_aaload, ri_iastore, ri_bastore, ri_lastore, ri_arraylength, ri_ireturn, ri_lreturn, ri_return, ri_virt, ri_stat, ri_abs, ri_labs, ri_lmax, ri_imin, li_ok, ll_ok, lr_ok, ob_ok, vl_ok, ai_ok, al_ok, ar_ok, le_ok, rf_ok, w1_r_ok, ix_ok, on_tt, up_self, up_up, ok_i, ok_l, ok_b0, ok_b1, ok_a, ok_o, b01_0, b01_1, cs_nil, cs_i, cs_l, cs_r, pad_0, pad_n, pad_1i, pad_1r, pad_i, pad_r, pad_l, pop_0, pop_n, kl_i, kl_r, kl_l, kl_n, s1_0, s1_1, s1_n, s2_0, s2_1, s2_n, lc_lt, lc_gt, lc_eq, lc_le, lc_ge, ca_v, tq_0_0, tq_0_1, tq_0_2, tq_1_0, tq_1_1, tq_1_2, tq_1_3, tq_1_4, tq_1_5, tq_1_6, tq_1_7, tq_1_8, tq_1_9, tq_2_0, tq_2_1, tq_3_0, tq_3_1, tq_3_2, tq_3_3, tq_3_4, tq_3_5, tq_3_6, tq_3_7, tq_4_0, tq_4_1, tq_4_2, tq_4_3, tq_4_4, tq_4_5, tq_4_6, tq_4_7, tq_4_8, tq_4_9, tq_4_10, tq_4_11, tq_4_12, tq_4_13, tq_5_0, tq_5_1, tq_5_2, tq_5_3, tq_5_4, tq_5_5, tq_5_6, tq_5_7, tq_5_8, tq_5_9, tq_5_10, tq_5_11, tq_5_12, tq_6_0, tq_6_1, tq_6_2, tq_7_0, tq_7_1, tq_7_2, tq_7_3, tq_7_4, tq_7_5, tq_7_6, tq_7_7, tq_7_8, tq_7_9, tq_7_10, tq_7_11, tq_7_12, tq_7_13, tq_7_14, tq_7_15, tq_7_16, tq_8_0, tq_8_1, tq_8_2, tq_8_3, tq_8_4, tq_8_5, tq_8_6, tq_8_7, tq_8_8, tq_8_9, tq_8_10, tq_8_11, tq_8_12, tq_8_13, tq_8_14, tq_8_15, tq_8_16, tq_8_17, tq_8_18, tq_8_19, tq_8_20, tq_8_21, tq_8_22, tq_8_23, tq_8_24, tq_8_25, tq_8_26, tq_8_27, tq_8_28, tq_8_29, tq_8_30, tq_8_31, tq_8_32, List.getElem?_cons_zero, List.getElem?_cons_succ, List.set_cons_zero, List.set_cons_succ, List.length_cons, List.length_nil, Option.bind_some, Option.toList_some, Option.toList_none, List.cons_append, List.nil_append, Nat.reduceAdd, Nat.reduceLT, Nat.reduceLeDiff, Nat.reduceEqDiff, Nat.reduceSub, ↓reduceIte, reduceCtorEq, decide_true, decide_false, Bool.and_self, Bool.and_true, Bool.true_and, if_true, if_false, Nat.zero_add, Nat.add_zero, true_and, and_true, and_self, Option.some.injEq, nI_add, pk_mul, pk_sub, nI_leI, nI_ltI, nI_eq, Nat.le_refl, Bool.not_true, Bool.not_false, Bool.false_and, Bool.and_false, not_true_eq_false, not_false_eq_true, mq_102, mt_102, ft_102_0, ft_102_1, ft_102_4, ft_102_7, ft_102_8, ft_102_9, ft_102_10, h, bo_0]
theorem d_check_no {mem : Mem} {kn : Int32} {nm ns : Int64} {O : Int32} (h : mem m = some (mo_o m n false W K F s kn nm ns to G O Y cm)) : cl 102 [.ref m] mem = some (some (.int (-1)), mem) := by
  unfold mo_o at h
  rw [cl_def]
  simp (disch := omega) only [rn_def, ri_iconst, ri_bipush, ri_sipush, ri_lconst, ri_ldc2_w, ri_iload_n, ri_iload, ri_istore_n, ri_istore, ri_lload_n, ri_lload, ri_lstore_n, ri_lstore, ri_aload_n, ri_aload, ri_astore_n, ri_astore, ri_iinc, ri_iadd, ri_isub, ri_imul, ri_iand, ri_ior, ri_ishl, ri_ishr, ri_ladd, ri_lsub, ri_lmul, ri_land, ri_lor, ri_lshl, ri_lshr, ri_idiv, ri_irem, ri_ldiv, ri_lrem, ri_ineg, ri_lneg, ri_i2l, ri_l2i, ri_lcmp, ri_dup_int, ri_pop_int, ri_dup_ref, ri_pop_ref, ri_dup2, ri_if_eq, ri_ic_eq, ri_if_ne, ri_ic_ne, ri_if_lt, ri_ic_lt, ri_if_ge, ri_ic_ge, ri_if_gt, ri_ic_gt, ri_if_le, ri_ic_le, ri_goto, ri_switch, ri_getfield, ri_putfield, ri_iaload, ri_baload, ri_laload, ri_aaload, ri_iastore, ri_bastore, ri_lastore, ri_arraylength, ri_ireturn, ri_lreturn, ri_return, ri_virt, ri_stat, ri_abs, ri_labs, ri_lmax, ri_imin, li_ok, ll_ok, lr_ok, ob_ok, vl_ok, ai_ok, al_ok, ar_ok, le_ok, rf_ok, w1_r_ok, ix_ok, on_tt, up_self, up_up, ok_i, ok_l, ok_b0, ok_b1, ok_a, ok_o, b01_0, b01_1, cs_nil, cs_i, cs_l, cs_r, pad_0, pad_n, pad_1i, pad_1r, pad_i, pad_r, pad_l, pop_0, pop_n, kl_i, kl_r, kl_l, kl_n, s1_0, s1_1, s1_n, s2_0, s2_1, s2_n, lc_lt, lc_gt, lc_eq, lc_le, lc_ge, ca_v, tq_0_0, tq_0_1, tq_0_2, tq_1_0, tq_1_1, tq_1_2, tq_1_3, tq_1_4, tq_1_5, tq_1_6, tq_1_7, tq_1_8, tq_1_9, tq_2_0, tq_2_1, tq_3_0, tq_3_1, tq_3_2, tq_3_3, tq_3_4, tq_3_5, tq_3_6, tq_3_7, tq_4_0, tq_4_1, tq_4_2, tq_4_3, tq_4_4, tq_4_5, tq_4_6, tq_4_7, tq_4_8, tq_4_9, tq_4_10, tq_4_11, tq_4_12, tq_4_13, tq_5_0, tq_5_1, tq_5_2, tq_5_3, tq_5_4, tq_5_5, tq_5_6, tq_5_7, tq_5_8, tq_5_9, tq_5_10, tq_5_11, tq_5_12, tq_6_0, tq_6_1, tq_6_2, tq_7_0, tq_7_1, tq_7_2, tq_7_3, tq_7_4, tq_7_5, tq_7_6, tq_7_7, tq_7_8, tq_7_9, tq_7_10, tq_7_11, tq_7_12, tq_7_13, tq_7_14, tq_7_15, tq_7_16, tq_8_0, tq_8_1, tq_8_2, tq_8_3, tq_8_4, tq_8_5, tq_8_6, tq_8_7, tq_8_8, tq_8_9, tq_8_10, tq_8_11, tq_8_12, tq_8_13, tq_8_14, tq_8_15, tq_8_16, tq_8_17, tq_8_18, tq_8_19, tq_8_20, tq_8_21, tq_8_22, tq_8_23, tq_8_24, tq_8_25, tq_8_26, tq_8_27, tq_8_28, tq_8_29, tq_8_30, tq_8_31, tq_8_32, List.getElem?_cons_zero, List.getElem?_cons_succ, List.set_cons_zero, List.set_cons_succ, List.length_cons, List.length_nil, Option.bind_some, Option.toList_some, Option.toList_none, List.cons_append, List.nil_append, Nat.reduceAdd, Nat.reduceLT, Nat.reduceLeDiff, Nat.reduceEqDiff, Nat.reduceSub, ↓reduceIte, reduceCtorEq, decide_true, decide_false, Bool.and_self, Bool.and_true, Bool.true_and, if_true, if_false, Nat.zero_add, Nat.add_zero, true_and, and_true, and_self, Option.some.injEq, nI_add, pk_mul, pk_sub, nI_leI, nI_ltI, nI_eq, Nat.le_refl, Bool.not_true, Bool.not_false, Bool.false_and, Bool.and_false, not_true_eq_false, not_false_eq_true, mq_102, mt_102, ft_102_0, ft_102_1, ft_102_4, ft_102_7, ft_102_8, h, bo_0]
end MC

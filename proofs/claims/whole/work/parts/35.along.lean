/-- the exact filter's cells -/
def ev_m (mem : Mem) (x : Nat) (na ba ea : Nat → Nat) (fn fb fe : Nat → Nat → Int32) (fz : Nat → Int32) : Prop :=
  mem x = some (.inl (2, [.ref (x + 1), .ref (x + 2)])) ∧ mem (x + 1) = some (ra_o 5 7 (sr_f x)) ∧ mem (x + 2) = some (ia_o 60 fz) ∧ ∀ j, j < 7 → (x + 3 + 4 * j < na j ∧ na j < x + 7 + 4 * j) ∧ (x + 3 + 4 * j < ba j ∧ ba j < x + 7 + 4 * j) ∧ (x + 3 + 4 * j < ea j ∧ ea j < x + 7 + 4 * j) ∧ (na j ≠ ba j ∧ na j ≠ ea j ∧ ba j ≠ ea j) ∧ mem (x + 3 + 4 * j) = some (sg_o (na j) (ba j) (ea j)) ∧ mem (na j) = some (ia_o 60 (fn j)) ∧ mem (ba j) = some (ia_o 60 (fb j)) ∧ mem (ea j) = some (ia_o 60 (fe j))
/-- nothing outside has changed -/
def fr_m (lo hi : Nat) (mem mem' : Mem) : Prop := ∀ q, q < lo ∨ hi ≤ q → mem' q = mem q
theorem fr_rf {lo hi : Nat} {mem : Mem} : fr_m lo hi mem mem := fun _ _ => rfl
theorem fr_tr {lo hi : Nat} {a b c : Mem} (h1 : fr_m lo hi a b) (h2 : fr_m lo hi b c) : fr_m lo hi a c := fun q hq => (h2 q hq).trans (h1 q hq)
theorem fr_up {lo hi t : Nat} {mem : Mem} {e : mE} (h1 : lo ≤ t) (h2 : t < hi) : fr_m lo hi mem (up_m mem t e) := fun q hq => up_ne (by omega)
theorem fr_wd {lo hi lo' hi' : Nat} {a b : Mem} (h : fr_m lo hi a b) (h1 : lo' ≤ lo) (h2 : hi ≤ hi') : fr_m lo' hi' a b := fun q hq => h q (by omega)
section EV
variable {mem mem' : Mem} {x : Nat} {na ba ea : Nat → Nat} {fn fb fe : Nat → Nat → Int32} {fz : Nat → Int32}
theorem ev_set {i a b c : Nat} {f1 f2 f3 : Nat → Int32} (h : ev_m mem x na ba ea fn fb fe fz) (ha1 : x + 3 + 4 * i < a ∧ a < x + 7 + 4 * i) (hb1 : x + 3 + 4 * i < b ∧ b < x + 7 + 4 * i) (hc1 : x + 3 + 4 * i < c ∧ c < x + 7 + 4 * i) (hd : a ≠ b ∧ a ≠ c ∧ b ≠ c) (hs : mem' (x + 3 + 4 * i) = some (sg_o a b c)) (ha : mem' a = some (ia_o 60 f1)) (hb : mem' b = some (ia_o 60 f2)) (hc : mem' c = some (ia_o 60 f3)) (hfr : fr_m (x + 3 + 4 * i) (x + 7 + 4 * i) mem mem') :
    ev_m mem' x (va_up na i a) (va_up ba i b) (va_up ea i c) (va_up fn i f1) (va_up fb i f2) (va_up fe i f3) fz := by
  obtain ⟨h1, h2, h3, h4⟩ := h
  refine ⟨by rw [hfr x (by omega)]; exact h1, by rw [hfr (x + 1) (by omega)]; exact h2, by rw [hfr (x + 2) (by omega)]; exact h3, fun j hj => ?_⟩
  by_cases hji : j = i
  · subst hji
    simp only [va_up_self]
    exact ⟨ha1, hb1, hc1, hd, hs, ha, hb, hc⟩
  · simp only [va_up_ne _ _ hji]
    obtain ⟨k1, k2, k3, k4, k5, k6, k7, k8⟩ := h4 j hj
    refine ⟨k1, k2, k3, k4, ?_, ?_, ?_, ?_⟩
    · rw [hfr _ (by omega)]; exact k5
    · rw [hfr _ (by omega)]; exact k6
    · rw [hfr _ (by omega)]; exact k7
    · rw [hfr _ (by omega)]; exact k8
theorem ev_fr (h : ev_m mem x na ba ea fn fb fe fz) (hfr : ∀ q, x ≤ q → q < x + 31 → mem' q = mem q) : ev_m mem' x na ba ea fn fb fe fz := by
  obtain ⟨h1, h2, h3, h4⟩ := h
  refine ⟨by rw [hfr _ (by omega) (by omega)]; exact h1, by rw [hfr _ (by omega) (by omega)]; exact h2, by rw [hfr _ (by omega) (by omega)]; exact h3, fun j hj => ?_⟩
  obtain ⟨k1, k2, k3, k4, k5, k6, k7, k8⟩ := h4 j hj
  exact ⟨k1, k2, k3, k4, by rw [hfr _ (by omega) (by omega)]; exact k5, by rw [hfr _ (by omega) (by omega)]; exact k6, by rw [hfr _ (by omega) (by omega)]; exact k7, by rw [hfr _ (by omega) (by omega)]; exact k8⟩
theorem ev_z {g : Nat → Int32} (h : ev_m mem x na ba ea fn fb fe fz) : ev_m (up_m mem (x + 2) (ia_o 60 g)) x na ba ea fn fb fe g := by
  obtain ⟨h1, h2, h3, h4⟩ := h
  refine ⟨by rw [up_ne (by omega)]; exact h1, by rw [up_ne (by omega)]; exact h2, up_self, fun j hj => ?_⟩
  obtain ⟨k1, k2, k3, k4, k5, k6, k7, k8⟩ := h4 j hj
  exact ⟨k1, k2, k3, k4, by rw [up_ne (by omega)]; exact k5, by rw [up_ne (by omega)]; exact k6, by rw [up_ne (by omega)]; exact k7, by rw [up_ne (by omega)]; exact k8⟩
/-- a sample goes in -/
theorem e_put {v : Int64} {pt : Int32} (h : ev_m mem x na ba ea fn fb fe fz) : ∃ mem' na' ba' ea', cl 59 [.ref x, .long v, .int pt] mem = some (none, mem') ∧ ev_m mem' x na' ba' ea' (va_up fn 0 (ff_f (fun j => lb_f v (nI j - pt)) (fe 0) 60)) (va_up fb 0 (fn 0)) (va_up fe 0 (fb 0)) fz ∧ fr_m (x + 3) (x + 31) mem mem' := by
  obtain ⟨h1, h2, h3, h4⟩ := id h
  obtain ⟨k1, k2, k3, k4, k5, k6, k7, k8⟩ := h4 0 (by omega)
  have hc := c_put (v := v) (pt := pt) h1 h2 k5 k8
  refine ⟨_, va_up na 0 (ea 0), va_up ba 0 (na 0), va_up ea 0 (ba 0), hc, ?_, ?_⟩
  · refine ev_set h k3 k1 k2 ⟨by omega, by omega, by omega⟩ ?_ up_self ?_ ?_ ?_
    · rw [up_ne (by omega)]; exact up_self
    · rw [up_ne (by omega), up_ne (by omega)]; exact k6
    · rw [up_ne (by omega), up_ne (by omega)]; exact k7
    · exact fr_tr (fr_up (by omega) (by omega)) (fr_up (by omega) (by omega))
  · exact fr_tr (fr_up (by omega) (by omega)) (fr_up (by omega) (by omega))
/-- a section's turn -/
theorem e_pass {j q : Nat} {b0 b1 b2 c1 c2 : Int32} {sb sa : Int64} {hd m : Int32} {sum rest norm gain : Int64} (hj : j < 6) (h : ev_m mem x na ba ea fn fb fe fz) (hq : mem q = some (se_o b0 b1 b2 c1 c2 sb sa hd m sum rest norm gain)) : ∃ mem' na' ba' ea', cl 62 [.ref x, .int (nI j), .ref q] mem = some (none, mem') ∧ ev_m mem' x na' ba' ea' (va_up fn (j + 1) (dg_c (ps_T b0 b1 b2 c1 c2 (fn j) (fb j) (fe j) (fn (j + 1)) (fb (j + 1))) (fe (j + 1)) 60)) (va_up fb (j + 1) (fn (j + 1))) (va_up fe (j + 1) (fb (j + 1))) fz ∧ fr_m (x + 3) (x + 31) mem mem' := by
  obtain ⟨h1, h2, h3, h4⟩ := id h
  obtain ⟨k1, k2, k3, k4, k5, k6, k7, k8⟩ := h4 j (by omega)
  obtain ⟨l1, l2, l3, l4, l5, l6, l7, l8⟩ := h4 (j + 1) (by omega)
  have hc := c_xpass hj h1 h2 hq k5 l5 k6 k7 k8 l6 l7 l8 (by omega) (by omega) (by omega) (by omega) (by omega)
  refine ⟨_, va_up na (j + 1) (ea (j + 1)), va_up ba (j + 1) (na (j + 1)), va_up ea (j + 1) (ba (j + 1)), hc, ?_, ?_⟩
  · refine ev_set h l3 l1 l2 ⟨by omega, by omega, by omega⟩ ?_ up_self ?_ ?_ ?_
    · rw [up_ne (by omega)]; exact up_self
    · rw [up_ne (by omega), up_ne (by omega)]; exact l6
    · rw [up_ne (by omega), up_ne (by omega)]; exact l7
    · exact fr_tr (fr_up (by omega) (by omega)) (fr_up (by omega) (by omega))
  · exact fr_tr (fr_up (by omega) (by omega)) (fr_up (by omega) (by omega))
theorem fl_at {f : Nat → Int32} {p : Nat} (h : p < 60) : fl_f f (nI 0) 60 p = nI 0 := if_pos h
end EV
theorem e_hush_l {x : Nat} {na ba ea : Nat → Nat} {fz : Nat → Int32} : ∀ (k i : Nat) (mem : Mem) (fn fb fe : Nat → Nat → Int32), i + k = 7 → ev_m mem x na ba ea fn fb fe fz → ∃ mem' fn' fb' fe', rn 41 2 [some (.ref x), some (.int (nI i))] [] mem = some (none, mem') ∧ ev_m mem' x na ba ea fn' fb' fe' fz ∧ fr_m (x + 3) (x + 31) mem mem' ∧ (∀ j, i ≤ j → j < 7 → ∀ p, p < 60 → fn' j p = nI 0 ∧ fb' j p = nI 0 ∧ fe' j p = nI 0) ∧ ∀ j, j < i → fn' j = fn j ∧ fb' j = fb j ∧ fe' j = fe j := by
  intro k
  induction k with
  | zero =>
    intro i mem fn fb fe hi h
    have hin : i = 7 := by omega
    subst hin
    refine ⟨mem, fn, fb, fe, ?_, h, fr_rf, fun j h1 h2 => by omega, fun j _ => ⟨rfl, rfl, rfl⟩⟩
    rw [rn_def, ft_41_2]
    simp (disch := omega) only [rn_def, ri_iconst, ri_bipush, ri_sipush, ri_lconst, ri_ldc2_w, ri_iload_n, ri_iload, ri_istore_n, ri_istore, ri_lload_n, ri_lload, ri_lstore_n, ri_lstore, ri_aload_n, ri_aload, ri_astore_n, ri_astore, ri_iinc, ri_iadd, ri_isub, ri_imul, ri_iand, ri_ior, ri_ishl, ri_ishr, ri_ladd, ri_lsub, ri_lmul, ri_land, ri_lor, ri_lshl, ri_lshr, ri_idiv, ri_irem, ri_ldiv, ri_lrem, ri_ineg, ri_lneg, ri_i2l, ri_l2i, ri_lcmp, ri_dup_int, ri_pop_int, ri_dup_ref, ri_pop_ref, ri_dup2, ri_if_eq, ri_ic_eq, ri_if_ne, ri_ic_ne, ri_if_lt, ri_ic_lt, ri_if_ge, ri_ic_ge, ri_if_gt, ri_ic_gt, ri_if_le, ri_ic_le, ri_goto, ri_switch, ri_getfield, ri_putfield, ri_iaload, ri_baload, ri_laload, ri_aaload, ri_iastore, ri_bastore, ri_lastore, ri_arraylength, ri_ireturn, ri_lreturn, ri_return, ri_virt, ri_stat, ri_abs, ri_labs, ri_lmax, ri_imin, li_ok, ll_ok, lr_ok, ob_ok, vl_ok, ai_ok, al_ok, ar_ok, le_ok, rf_ok, w1_r_ok, ix_ok, on_tt, up_self, up_up, ok_i, ok_l, ok_b0, ok_b1, ok_a, ok_o, b01_0, b01_1, cs_nil, cs_i, cs_l, cs_r, pad_0, pad_n, pad_1i, pad_1r, pad_i, pad_r, pad_l, pop_0, pop_n, kl_i, kl_r, kl_l, kl_n, s1_0, s1_1, s1_n, s2_0, s2_1, s2_n, lc_lt, lc_gt, lc_eq, lc_le, lc_ge, ca_v, tq_0_0, tq_0_1, tq_0_2, tq_1_0, tq_1_1, tq_1_2, tq_1_3, tq_1_4, tq_1_5, tq_1_6, tq_1_7, tq_1_8, tq_1_9, tq_2_0, tq_2_1, tq_3_0, tq_3_1, tq_3_2, tq_3_3, tq_3_4, tq_3_5, tq_3_6, tq_3_7, tq_4_0, tq_4_1, tq_4_2, tq_4_3, tq_4_4, tq_4_5, tq_4_6, tq_4_7, tq_4_8, tq_4_9, tq_4_10, tq_4_11, tq_4_12, tq_4_13, tq_5_0, tq_5_1, tq_5_2, tq_5_3, tq_5_4, tq_5_5, tq_5_6, tq_5_7, tq_5_8, tq_5_9, tq_5_10, tq_5_11, tq_5_12, tq_6_0, tq_6_1, tq_6_2, tq_7_0, tq_7_1, tq_7_2, tq_7_3, tq_7_4, tq_7_5, tq_7_6, tq_7_7, tq_7_8, tq_7_9, tq_7_10, tq_7_11, tq_7_12, tq_7_13, tq_7_14, tq_7_15, tq_7_16, tq_8_0, tq_8_1, tq_8_2, tq_8_3, tq_8_4, tq_8_5, tq_8_6, tq_8_7, tq_8_8, tq_8_9, tq_8_10, tq_8_11, tq_8_12, tq_8_13, tq_8_14, tq_8_15, tq_8_16, tq_8_17, tq_8_18, tq_8_19, tq_8_20, tq_8_21, tq_8_22, tq_8_23, tq_8_24, tq_8_25, tq_8_26, tq_8_27, tq_8_28, tq_8_29, tq_8_30, tq_8_31, tq_8_32, List.getElem?_cons_zero, List.getElem?_cons_succ, List.set_cons_zero, List.set_cons_succ, List.length_cons, List.length_nil, Option.bind_some, Option.toList_some, Option.toList_none, List.cons_append, List.nil_append, Nat.reduceAdd, Nat.reduceLT, Nat.reduceLeDiff, Nat.reduceEqDiff, Nat.reduceSub, ↓reduceIte, reduceCtorEq, decide_true, decide_false, Bool.and_self, Bool.and_true, Bool.true_and, if_true, if_false, Nat.zero_add, Nat.add_zero, true_and, and_true, and_self, Option.some.injEq, nI_add, pk_mul, pk_sub, nI_leI, nI_ltI, nI_eq, Nat.le_refl, Bool.not_true, Bool.not_false, Bool.false_and, Bool.and_false, not_true_eq_false, not_false_eq_true, mq_41, mt_41, ft_41_3, ft_41_5, ft_41_23]
  | succ k ih =>
    intro i mem fn fb fe hi h
    obtain ⟨h1, h2, h3, h4⟩ := id h
    obtain ⟨k1, k2, k3, k4, k5, k6, k7, k8⟩ := h4 i (by omega)
    have hsh := c_shush k5 k6 k7 k8 k4.1 k4.2.1 k4.2.2
    have hev : ev_m (up_m (up_m (up_m mem (na i) (ia_o 60 (fl_f (fn i) (nI 0) 60))) (ba i) (ia_o 60 (fl_f (fb i) (nI 0) 60))) (ea i) (ia_o 60 (fl_f (fe i) (nI 0) 60))) x (va_up na i (na i)) (va_up ba i (ba i)) (va_up ea i (ea i)) (va_up fn i (fl_f (fn i) (nI 0) 60)) (va_up fb i (fl_f (fb i) (nI 0) 60)) (va_up fe i (fl_f (fe i) (nI 0) 60)) fz := by
      refine ev_set h k1 k2 k3 k4 ?_ ?_ ?_ up_self ?_
      · rw [up_ne (by omega), up_ne (by omega), up_ne (by omega)]; exact k5
      · rw [up_ne (by omega), up_ne (by omega)]; exact up_self
      · rw [up_ne (by omega)]; exact up_self
      · exact fr_tr (fr_up (by omega) (by omega)) (fr_tr (fr_up (by omega) (by omega)) (fr_up (by omega) (by omega)))
    have hfr : fr_m (x + 3) (x + 31) mem (up_m (up_m (up_m mem (na i) (ia_o 60 (fl_f (fn i) (nI 0) 60))) (ba i) (ia_o 60 (fl_f (fb i) (nI 0) 60))) (ea i) (ia_o 60 (fl_f (fe i) (nI 0) 60))) := fr_tr (fr_up (by omega) (by omega)) (fr_tr (fr_up (by omega) (by omega)) (fr_up (by omega) (by omega)))
    have vid : ∀ (g : Nat → Nat), va_up g i (g i) = g := fun g => by
      funext j
      by_cases hj : j = i
      · subst hj; rw [va_up_self]
      · rw [va_up_ne _ _ hj]
    rw [vid, vid, vid] at hev
    obtain ⟨mem', fn', fb', fe', e1, e2, e3, e4, e5⟩ := ih (i + 1) _ _ _ _ (by omega) hev
    refine ⟨mem', fn', fb', fe', ?_, e2, fr_tr hfr e3, ?_, ?_⟩
    · have hr := sr_at (x := x) (j := i) (by omega)
      have hi6 : ¬ 6 < i := by omega
      have k5' : mem (x + 3 + 4 * i) = some (.inl (6, [.ref (na i), .ref (ba i), .ref (ea i)])) := k5
      unfold ra_o at h2
      rw [← e1, rn_def, ft_41_2]
      generalize up_m (up_m (up_m mem (na i) (ia_o 60 (fl_f (fn i) (nI 0) 60))) (ba i) (ia_o 60 (fl_f (fb i) (nI 0) 60))) (ea i) (ia_o 60 (fl_f (fe i) (nI 0) 60)) = M1 at hsh ⊢
      simp (disch := omega) only [rn_def, ri_iconst, ri_bipush, ri_sipush, ri_lconst, ri_ldc2_w, ri_iload_n, ri_iload, ri_istore_n, ri_istore, ri_lload_n, ri_lload, ri_lstore_n, ri_lstore, ri_aload_n, ri_aload, ri_astore_n, ri_astore, ri_iinc, ri_iadd, ri_isub, ri_imul, ri_iand, ri_ior, ri_ishl, ri_ishr, ri_ladd, ri_lsub, ri_lmul, ri_land, ri_lor, ri_lshl, ri_lshr, ri_idiv, ri_irem, ri_ldiv, ri_lrem, ri_ineg, ri_lneg, ri_i2l, ri_l2i, ri_lcmp, ri_dup_int, ri_pop_int, ri_dup_ref, ri_pop_ref, ri_dup2, ri_if_eq, ri_ic_eq, ri_if_ne, ri_ic_ne, ri_if_lt, ri_ic_lt, ri_if_ge, ri_ic_ge, ri_if_gt, ri_ic_gt, ri_if_le, ri_ic_le, ri_goto, ri_switch, ri_getfield, ri_putfield, ri_iaload, ri_baload, ri_laload, ri_aaload, ri_iastore, ri_bastore, ri_lastore, ri_arraylength, ri_ireturn, ri_lreturn, ri_return, ri_virt, ri_stat, ri_abs, ri_labs, ri_lmax, ri_imin, li_ok, ll_ok, lr_ok, ob_ok, vl_ok, ai_ok, al_ok, ar_ok, le_ok, rf_ok, w1_r_ok, ix_ok, on_tt, up_self, up_up, ok_i, ok_l, ok_b0, ok_b1, ok_a, ok_o, b01_0, b01_1, cs_nil, cs_i, cs_l, cs_r, pad_0, pad_n, pad_1i, pad_1r, pad_i, pad_r, pad_l, pop_0, pop_n, kl_i, kl_r, kl_l, kl_n, s1_0, s1_1, s1_n, s2_0, s2_1, s2_n, lc_lt, lc_gt, lc_eq, lc_le, lc_ge, ca_v, tq_0_0, tq_0_1, tq_0_2, tq_1_0, tq_1_1, tq_1_2, tq_1_3, tq_1_4, tq_1_5, tq_1_6, tq_1_7, tq_1_8, tq_1_9, tq_2_0, tq_2_1, tq_3_0, tq_3_1, tq_3_2, tq_3_3, tq_3_4, tq_3_5, tq_3_6, tq_3_7, tq_4_0, tq_4_1, tq_4_2, tq_4_3, tq_4_4, tq_4_5, tq_4_6, tq_4_7, tq_4_8, tq_4_9, tq_4_10, tq_4_11, tq_4_12, tq_4_13, tq_5_0, tq_5_1, tq_5_2, tq_5_3, tq_5_4, tq_5_5, tq_5_6, tq_5_7, tq_5_8, tq_5_9, tq_5_10, tq_5_11, tq_5_12, tq_6_0, tq_6_1, tq_6_2, tq_7_0, tq_7_1, tq_7_2, tq_7_3, tq_7_4, tq_7_5, tq_7_6, tq_7_7, tq_7_8, tq_7_9, tq_7_10, tq_7_11, tq_7_12, tq_7_13, tq_7_14, tq_7_15, tq_7_16, tq_8_0, tq_8_1, tq_8_2, tq_8_3, tq_8_4, tq_8_5, tq_8_6, tq_8_7, tq_8_8, tq_8_9, tq_8_10, tq_8_11, tq_8_12, tq_8_13, tq_8_14, tq_8_15, tq_8_16, tq_8_17, tq_8_18, tq_8_19, tq_8_20, tq_8_21, tq_8_22, tq_8_23, tq_8_24, tq_8_25, tq_8_26, tq_8_27, tq_8_28, tq_8_29, tq_8_30, tq_8_31, tq_8_32, List.getElem?_cons_zero, List.getElem?_cons_succ, List.set_cons_zero, List.set_cons_succ, List.length_cons, List.length_nil, Option.bind_some, Option.toList_some, Option.toList_none, List.cons_append, List.nil_append, Nat.reduceAdd, Nat.reduceLT, Nat.reduceLeDiff, Nat.reduceEqDiff, Nat.reduceSub, ↓reduceIte, reduceCtorEq, decide_true, decide_false, Bool.and_self, Bool.and_true, Bool.true_and, if_true, if_false, Nat.zero_add, Nat.add_zero, true_and, and_true, and_self, Option.some.injEq, nI_add, pk_mul, pk_sub, nI_leI, nI_ltI, nI_eq, Nat.le_refl, Bool.not_true, Bool.not_false, Bool.false_and, Bool.and_false, not_true_eq_false, not_false_eq_true, mq_41, mt_41, ft_41_3, ft_41_5, ft_41_8, ft_41_9, ft_41_12, ft_41_13, ft_41_14, ft_41_17, ft_41_20, h1, h2, hr, hi6, k5', hsh, mq_42, mt_42]
    · intro j hj1 hj2 p hp
      by_cases hji : j = i
      · subst hji
        obtain ⟨g1, g2, g3⟩ := e5 j (by omega)
        rw [g1, g2, g3]
        simp only [va_up_self]
        exact ⟨fl_at hp, fl_at hp, fl_at hp⟩
      · exact e4 j (by omega) hj2 p hp
    · intro j hj
      obtain ⟨g1, g2, g3⟩ := e5 j (by omega)
      rw [g1, g2, g3]
      have hji : j ≠ i := by omega
      simp only [va_up_ne _ _ hji]
      exact ⟨trivial, trivial, trivial⟩
theorem e_hush {mem : Mem} {x : Nat} {na ba ea : Nat → Nat} {fn fb fe : Nat → Nat → Int32} {fz : Nat → Int32} (h : ev_m mem x na ba ea fn fb fe fz) : ∃ mem' fn' fb' fe', cl 41 [.ref x] mem = some (none, mem') ∧ ev_m mem' x na ba ea fn' fb' fe' fz ∧ fr_m (x + 3) (x + 31) mem mem' ∧ ∀ j, j < 7 → ∀ p, p < 60 → fn' j p = nI 0 ∧ fb' j p = nI 0 ∧ fe' j p = nI 0 := by
  obtain ⟨mem', fn', fb', fe', e1, e2, e3, e4, -⟩ := e_hush_l 7 0 mem fn fb fe (by omega) h
  refine ⟨mem', fn', fb', fe', ?_, e2, e3, fun j hj => e4 j (by omega) hj⟩
  rw [← e1, cl_def]
  simp (disch := omega) only [rn_def, ri_iconst, ri_bipush, ri_sipush, ri_lconst, ri_ldc2_w, ri_iload_n, ri_iload, ri_istore_n, ri_istore, ri_lload_n, ri_lload, ri_lstore_n, ri_lstore, ri_aload_n, ri_aload, ri_astore_n, ri_astore, ri_iinc, ri_iadd, ri_isub, ri_imul, ri_iand, ri_ior, ri_ishl, ri_ishr, ri_ladd, ri_lsub, ri_lmul, ri_land, ri_lor, ri_lshl, ri_lshr, ri_idiv, ri_irem, ri_ldiv, ri_lrem, ri_ineg, ri_lneg, ri_i2l, ri_l2i, ri_lcmp, ri_dup_int, ri_pop_int, ri_dup_ref, ri_pop_ref, ri_dup2, ri_if_eq, ri_ic_eq, ri_if_ne, ri_ic_ne, ri_if_lt, ri_ic_lt, ri_if_ge, ri_ic_ge, ri_if_gt, ri_ic_gt, ri_if_le, ri_ic_le, ri_goto, ri_switch, ri_getfield, ri_putfield, ri_iaload, ri_baload, ri_laload, ri_aaload, ri_iastore, ri_bastore, ri_lastore, ri_arraylength, ri_ireturn, ri_lreturn, ri_return, ri_virt, ri_stat, ri_abs, ri_labs, ri_lmax, ri_imin, li_ok, ll_ok, lr_ok, ob_ok, vl_ok, ai_ok, al_ok, ar_ok, le_ok, rf_ok, w1_r_ok, ix_ok, on_tt, up_self, up_up, ok_i, ok_l, ok_b0, ok_b1, ok_a, ok_o, b01_0, b01_1, cs_nil, cs_i, cs_l, cs_r, pad_0, pad_n, pad_1i, pad_1r, pad_i, pad_r, pad_l, pop_0, pop_n, kl_i, kl_r, kl_l, kl_n, s1_0, s1_1, s1_n, s2_0, s2_1, s2_n, lc_lt, lc_gt, lc_eq, lc_le, lc_ge, ca_v, tq_0_0, tq_0_1, tq_0_2, tq_1_0, tq_1_1, tq_1_2, tq_1_3, tq_1_4, tq_1_5, tq_1_6, tq_1_7, tq_1_8, tq_1_9, tq_2_0, tq_2_1, tq_3_0, tq_3_1, tq_3_2, tq_3_3, tq_3_4, tq_3_5, tq_3_6, tq_3_7, tq_4_0, tq_4_1, tq_4_2, tq_4_3, tq_4_4, tq_4_5, tq_4_6, tq_4_7, tq_4_8, tq_4_9, tq_4_10, tq_4_11, tq_4_12, tq_4_13, tq_5_0, tq_5_1, tq_5_2, tq_5_3, tq_5_4, tq_5_5, tq_5_6, tq_5_7, tq_5_8, tq_5_9, tq_5_10, tq_5_11, tq_5_12, tq_6_0, tq_6_1, tq_6_2, tq_7_0, tq_7_1, tq_7_2, tq_7_3, tq_7_4, tq_7_5, tq_7_6, tq_7_7, tq_7_8, tq_7_9, tq_7_10, tq_7_11, tq_7_12, tq_7_13, tq_7_14, tq_7_15, tq_7_16, tq_8_0, tq_8_1, tq_8_2, tq_8_3, tq_8_4, tq_8_5, tq_8_6, tq_8_7, tq_8_8, tq_8_9, tq_8_10, tq_8_11, tq_8_12, tq_8_13, tq_8_14, tq_8_15, tq_8_16, tq_8_17, tq_8_18, tq_8_19, tq_8_20, tq_8_21, tq_8_22, tq_8_23, tq_8_24, tq_8_25, tq_8_26, tq_8_27, tq_8_28, tq_8_29, tq_8_30, tq_8_31, tq_8_32, List.getElem?_cons_zero, List.getElem?_cons_succ, List.set_cons_zero, List.set_cons_succ, List.length_cons, List.length_nil, Option.bind_some, Option.toList_some, Option.toList_none, List.cons_append, List.nil_append, Nat.reduceAdd, Nat.reduceLT, Nat.reduceLeDiff, Nat.reduceEqDiff, Nat.reduceSub, ↓reduceIte, reduceCtorEq, decide_true, decide_false, Bool.and_self, Bool.and_true, Bool.true_and, if_true, if_false, Nat.zero_add, Nat.add_zero, true_and, and_true, and_self, Option.some.injEq, nI_add, pk_mul, pk_sub, nI_leI, nI_ltI, nI_eq, Nat.le_refl, Bool.not_true, Bool.not_false, Bool.false_and, Bool.and_false, not_true_eq_false, not_false_eq_true, mq_41, mt_41, ft_41_0, ft_41_1]

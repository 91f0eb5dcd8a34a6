/-- what is the same on both sides of a plan -/
def pl_r (n W K Y F O s : Nat) (lat cm : Int64) (S : Nat → Sec) (P : Nat → Plc) (N : Nat → Nat → Int64) (t : XS) (fp : Nat → Int64) (fo : Nat → Int32) (fs : Nat → Int64) (fh : Nat → Int32) (fy fn : Nat → Int64) : Prop :=
  ∃ od : Nat → Nat, (1 ≤ n ∧ 16 ≤ W ∧ W ≤ 47 ∧ 2 ≤ K ∧ K ≤ 24 ∧ Y ≤ 2 ∧ F < 25 ∧ K + F < W ∧ O ≤ 24) ∧ (∀ j, j < n → ∀ i, i < 9 → fp (9 * j + i) = N j i ∧ 0 ≤ (N j i).toInt ∧ (N j i).toInt ≤ 2 ^ 50) ∧ (∀ j, j < n → od j < n ∧ fo j = nI (od j) ∧ (P j).1 = nI (od j) ∧ fh j = (P j).2.1 ∧ ∃ h, h ≤ 13 ∧ (P j).2.1 = nI h) ∧ (∀ j, j < n → (S j).2.2.2.2.2.2.2.1 = false) ∧ pc_r S od n K F O ∧ ps_r P fs n ∧
  (s ≤ 32 → ∃ xs : Nat → Int, (∀ u, ((xs u).natAbs : Int) ≤ 2 ^ (K - 1)) ∧ cx_r (fun i => S (od i)) n xs s t ∧ (∀ j, j < n → mx_b (fun i => S (od i)) xs (s + 1) fy j) ∧ (1 ≤ s → mr_r fn (eX_x (fun i => S (od i)) xs n (s + 2)) ∧ cm = lat ∧ lat.toInt.natAbs ≤ 2 ^ 49))
/-- the class's memory at f and the reference's at m, after c calls -/
def RR_r (mem : Mem) (f m c : Nat) : Prop :=
  ∃ (n : Nat) (pt : Bool) (W K Y F O G s : Nat) (lat : Int64) (S : Nat → Sec) (P : Nat → Plc) (N : Nat → Nat → Int64) (t : XS) (W' K' F' s' G' : Nat) (O' : Int32) (Y' : Nat) (cm : Int64) (fa hd : Nat → Int32) (fc fp : Nat → Int64) (fo : Nat → Int32) (fs : Nat → Int64) (fh : Nat → Int32) (fy fn : Nat → Int64),
    cv_m mem f n pt W K Y F O G s lat S P N t ∧ mv_m mem m n pt W' K' F' s' G' O' Y' cm fa hd fc fp fo fs fh fy fn ∧ n ≤ 6 ∧ s ≤ c ∧ s' ≤ c ∧ (∀ j, j < n → qs_ok (S j) ∧ rs_r (S j) fa hd fc j) ∧ (pt = true → W' = W ∧ K' = K ∧ F' = F ∧ s' = s ∧ G' = G ∧ O' = nI O ∧ Y' = Y ∧ pl_r n W K Y F O s lat cm S P N t fp fo fs fh fy fn)
/-- one call on both sides, with one answer -/
def SI_r (jc jm : Nat) (as : List Value) (mem : Mem) (f m c : Nat) : Prop := ∃ (v : Int32) (mem1 mem2 : Mem), cl jc (.ref f :: as) mem = some (some (.int v), mem1) ∧ cl jm (.ref m :: as) mem1 = some (some (.int v), mem2) ∧ RR_r mem2 f m (c + 1) ∧ (∀ q, q < f ∨ f + 83 ≤ q → mem1 q = mem q) ∧ (∀ q, q < f ∨ f + 83 ≤ q → q < m ∨ m + 19 ≤ q → mem2 q = mem q)
def SL_r (jc jm : Nat) (as : List Value) (mem : Mem) (f m c : Nat) : Prop := ∃ (v : Int64) (mem1 mem2 : Mem), cl jc (.ref f :: as) mem = some (some (.long v), mem1) ∧ cl jm (.ref m :: as) mem1 = some (some (.long v), mem2) ∧ RR_r mem2 f m (c + 1) ∧ (∀ q, q < f ∨ f + 83 ≤ q → mem1 q = mem q) ∧ (∀ q, q < f ∨ f + 83 ≤ q → q < m ∨ m + 19 ≤ q → mem2 q = mem q)
theorem mk_SI {jc jm f m c : Nat} {as : List Value} {mem mem1 mem2 : Mem} {v : Int32} (h1 : cl jc (.ref f :: as) mem = some (some (.int v), mem1)) (hf1 : fr_m f (f + 83) mem mem1) (h2 : cl jm (.ref m :: as) mem1 = some (some (.int v), mem2)) (hf2 : fr_m m (m + 19) mem1 mem2) (hR : RR_r mem2 f m (c + 1)) : SI_r jc jm as mem f m c := ⟨v, mem1, mem2, h1, h2, hR, hf1, fun q q1 q2 => (hf2 q q2).trans (hf1 q q1)⟩
theorem mk_SL {jc jm f m c : Nat} {as : List Value} {mem mem1 mem2 : Mem} {v : Int64} (h1 : cl jc (.ref f :: as) mem = some (some (.long v), mem1)) (hf1 : fr_m f (f + 83) mem mem1) (h2 : cl jm (.ref m :: as) mem1 = some (some (.long v), mem2)) (hf2 : fr_m m (m + 19) mem1 mem2) (hR : RR_r mem2 f m (c + 1)) : SL_r jc jm as mem f m c := ⟨v, mem1, mem2, h1, h2, hR, hf1, fun q q1 q2 => (hf2 q q2).trans (hf1 q q1)⟩
theorem RR_mo {mem : Mem} {f m c : Nat} (h : RR_r mem f m c) : RR_r mem f m (c + 1) := by
  obtain ⟨n, pt, W, K, Y, F, O, G, s, lat, S, P, N, t, W', K', F', s', G', O', Y', cm, fa, hd, fc, fp, fo, fs, fh, fy, fn, h1, h2, h3, h4, h5, h6, h7⟩ := h
  exact ⟨n, pt, W, K, Y, F, O, G, s, lat, S, P, N, t, W', K', F', s', G', O', Y', cm, fa, hd, fc, fp, fo, fs, fh, fy, fn, h1, h2, h3, by omega, by omega, h6, h7⟩
section ST
variable {mem : Mem} {f m c : Nat}
theorem st_sections (h : RR_r mem f m c) : SI_r 13 85 [] mem f m c := by
  have h0 := h
  obtain ⟨n, pt, W, K, Y, F, O, G, s, lat, S, P, N, t, W', K', F', s', G', O', Y', cm, fa, hd, fc, fp, fo, fs, fh, fy, fn, h1, h2, h3, h4, h5, h6, h7⟩ := h
  obtain ⟨⟨kn, nm, ns, to, k1⟩, -⟩ := h2
  exact mk_SI (c_sections h1.1) fr_rf (d_sections k1) fr_rf (RR_mo h0)
theorem st_told {w : Int32} (h : RR_r mem f m c) : SI_r 55 104 [.int w] mem f m c := by
  have h0 := h
  obtain ⟨n, pt, W, K, Y, F, O, G, s, lat, S, P, N, t, W', K', F', s', G', O', Y', cm, fa, hd, fc, fp, fo, fs, fh, fy, fn, h1, h2, h3, h4, h5, h6, h7⟩ := h
  obtain ⟨⟨kn, nm, ns, to, k1⟩, -⟩ := h2
  have e1 := c_told (what := w) h1.1
  cases pt with
  | false =>
    have e2 : cl 104 [.ref m, .int w] mem = some (some (.int (-1)), mem) := by
      unfold mo_o at k1
      rw [cl_def]
      simp (disch := omega) only [rn_def, ri_iconst, ri_bipush, ri_sipush, ri_lconst, ri_ldc2_w, ri_iload_n, ri_iload, ri_istore_n, ri_istore, ri_lload_n, ri_lload, ri_lstore_n, ri_lstore, ri_aload_n, ri_aload, ri_astore_n, ri_astore, ri_iinc, ri_iadd, ri_isub, ri_imul, ri_iand, ri_ior, ri_ishl, ri_ishr, ri_ladd, ri_lsub, ri_lmul, ri_land, ri_lor, ri_lshl, ri_lshr, ri_idiv, ri_irem, ri_ldiv, ri_lrem, ri_ineg, ri_lneg, ri_i2l, ri_l2i, ri_lcmp, ri_dup_int, ri_pop_int, ri_dup_ref, ri_pop_ref, ri_dup2, ri_if_eq, ri_ic_eq, ri_if_ne, ri_ic_ne, ri_if_lt, ri_ic_lt, ri_if_ge, ri_ic_ge, ri_if_gt, ri_ic_gt, ri_if_le, ri_ic_le, ri_goto, ri_switch, ri_getfield, ri_putfield, ri_iaload, ri_baload, ri_laload, ri_aaload, ri_iastore, ri_bastore, ri_lastore, ri_arraylength, ri_ireturn, ri_lreturn, ri_return, ri_virt, ri_stat, ri_abs, ri_labs, ri_lmax, ri_imin, li_ok, ll_ok, lr_ok, ob_ok, vl_ok, ai_ok, al_ok, ar_ok, le_ok, rf_ok, w1_r_ok, ix_ok, on_tt, up_self, up_up, ok_i, ok_l, ok_b0, ok_b1, ok_a, ok_o, b01_0, b01_1, cs_nil, cs_i, cs_l, cs_r, pad_0, pad_n, pad_1i, pad_1r, pad_i, pad_r, pad_l, pop_0, pop_n, kl_i, kl_r, kl_l, kl_n, s1_0, s1_1, s1_n, s2_0, s2_1, s2_n, lc_lt, lc_gt, lc_eq, lc_le, lc_ge, ca_v, tq_0_0, tq_0_1, tq_0_2, tq_1_0, tq_1_1, tq_1_2, tq_1_3, tq_1_4, tq_1_5, tq_1_6, tq_1_7, tq_1_8, tq_1_9, tq_2_0, tq_2_1, tq_3_0, tq_3_1, tq_3_2, tq_3_3, tq_3_4, tq_3_5, tq_3_6, tq_3_7, tq_4_0, tq_4_1, tq_4_2, tq_4_3, tq_4_4, tq_4_5, tq_4_6, tq_4_7, tq_4_8, tq_4_9, tq_4_10, tq_4_11, tq_4_12, tq_4_13, tq_5_0, tq_5_1, tq_5_2, tq_5_3, tq_5_4, tq_5_5, tq_5_6, tq_5_7, tq_5_8, tq_5_9, tq_5_10, tq_5_11, tq_5_12, tq_6_0, tq_6_1, tq_6_2, tq_7_0, tq_7_1, tq_7_2, tq_7_3, tq_7_4, tq_7_5, tq_7_6, tq_7_7, tq_7_8, tq_7_9, tq_7_10, tq_7_11, tq_7_12, tq_7_13, tq_7_14, tq_7_15, tq_7_16, tq_8_0, tq_8_1, tq_8_2, tq_8_3, tq_8_4, tq_8_5, tq_8_6, tq_8_7, tq_8_8, tq_8_9, tq_8_10, tq_8_11, tq_8_12, tq_8_13, tq_8_14, tq_8_15, tq_8_16, tq_8_17, tq_8_18, tq_8_19, tq_8_20, tq_8_21, tq_8_22, tq_8_23, tq_8_24, tq_8_25, tq_8_26, tq_8_27, tq_8_28, tq_8_29, tq_8_30, tq_8_31, tq_8_32, List.getElem?_cons_zero, List.getElem?_cons_succ, List.set_cons_zero, List.set_cons_succ, List.length_cons, List.length_nil, Option.bind_some, Option.toList_some, Option.toList_none, List.cons_append, List.nil_append, Nat.reduceAdd, Nat.reduceLT, Nat.reduceLeDiff, Nat.reduceEqDiff, Nat.reduceSub, ↓reduceIte, reduceCtorEq, decide_true, decide_false, Bool.and_self, Bool.and_true, Bool.true_and, if_true, if_false, Nat.zero_add, Nat.add_zero, true_and, and_true, and_self, Option.some.injEq, nI_add, pk_mul, pk_sub, nI_leI, nI_ltI, nI_eq, Nat.le_refl, Bool.not_true, Bool.not_false, Bool.false_and, Bool.and_false, not_true_eq_false, not_false_eq_true, mq_104, mt_104, ft_104_0, ft_104_1, ft_104_4, ft_104_7, ft_104_8, k1, bo_0]
    exact mk_SI e1 fr_rf e2 fr_rf (RR_mo h0)
  | true =>
    obtain ⟨rfl, rfl, rfl, rfl, rfl, rfl, rfl, -⟩ := h7 rfl
    exact mk_SI e1 fr_rf (d_told k1) fr_rf (RR_mo h0)
theorem st_clear (hfm : f + 83 ≤ m ∨ m + 19 ≤ f) (h : RR_r mem f m c) : SI_r 12 84 [] mem f m c := by
  obtain ⟨n, pt, W, K, Y, F, O, G, s, lat, S, P, N, t, W', K', F', s', G', O', Y', cm, fa, hd, fc, fp, fo, fs, fh, fy, fn, h1, h2, h3, h4, h5, h6, h7⟩ := h
  have hc := cv_fb (n2 := 0) (pt2 := false) (W2 := W) (K2 := K) (Y2 := Y) (F2 := F) (O2 := O) (G2 := G) (s2 := s) (lat2 := lat) h1
  have e1 := c_clear h1.1
  have hf1 : fr_m f (f + 83) mem (up_m mem f (fb_o f 0 false W K Y F O G s lat)) := fr_up (by omega) (by omega)
  generalize up_m mem f (fb_o f 0 false W K Y F O G s lat) = M1 at hc e1 hf1
  have hm := mv_fr h2 (fun q q1 q2 => hf1 q (by omega))
  obtain ⟨⟨kn, nm, ns, to, k1⟩, k2, k3, k4, k5, k6, k7, ⟨g8, k8⟩, ⟨g9, k9⟩, k10, ⟨g11, k11⟩, ⟨g12, k12⟩, k13, k14, k15, ⟨g16, k16⟩⟩ := hm
  refine mk_SI e1 hf1 (d_clear k1) (fr_up (by omega) (by omega)) ⟨0, false, W, K, Y, F, O, G, s, lat, S, P, N, t, W', K', F', s', G', O', Y', cm, fa, hd, fc, fp, fo, fs, fh, fy, fn, cv_fr hc (fun q q1 q2 => up_ne (by omega)), ?_, by omega, by omega, by omega, fun j hj => by omega, fun z => by cases z⟩
  exact ⟨⟨kn, nm, ns, to, up_self⟩, (up_ne (by omega)).trans k2, (up_ne (by omega)).trans k3, (up_ne (by omega)).trans k4, (up_ne (by omega)).trans k5, (up_ne (by omega)).trans k6, (up_ne (by omega)).trans k7, ⟨g8, (up_ne (by omega)).trans k8⟩, ⟨g9, (up_ne (by omega)).trans k9⟩, ea_fr k10 (fun q q1 q2 => up_ne (by omega)), ⟨g11, (up_ne (by omega)).trans k11⟩, ⟨g12, (up_ne (by omega)).trans k12⟩, (up_ne (by omega)).trans k13, (up_ne (by omega)).trans k14, (up_ne (by omega)).trans k15, ⟨g16, (up_ne (by omega)).trans k16⟩⟩
theorem st_section {b0 b1 b2 c1 c2 : Int32} (hfm : f + 83 ≤ m ∨ m + 19 ≤ f) (h : RR_r mem f m c) : SI_r 0 74 [.int b0, .int b1, .int b2, .int c1, .int c2] mem f m c := by
  have h0 := h
  obtain ⟨n, pt, W, K, Y, F, O, G, s, lat, S, P, N, t, W', K', F', s', G', O', Y', cm, fa, hd, fc, fp, fo, fs, fh, fy, fn, h1, h2, h3, h4, h5, h6, h7⟩ := h
  cases hu : (nu_i b0 && (nu_i b1 && (nu_i b2 && (nu_i c1 && nu_i c2)))) with
  | false => exact mk_SI (c_section_no hu) fr_rf (d_section_no hu) fr_rf (RR_mo h0)
  | true =>
    obtain ⟨a1, a2, x, hE⟩ := h1.2.2.2.2.1
    obtain ⟨y, e1⟩ := c_section (a1 := (0 : Int32)) (a2 := (0 : Int32)) h3 hu h1.1 h1.2.1 hE
    by_cases hn : n < 6
    · rw [if_pos hn] at e1
      have hc := cv_se (b0 := b0) (b1 := b1) (b2 := b2) (c1 := c1) (c2 := c2) (y := y) (q := ct_s b0 b1 b2 c1 c2 (S n)) hn h1
      have hf1 : fr_m f (f + 83) mem (up_m (up_m (up_m mem (f + 4) (eo_e c1.toInt64 c2.toInt64 y)) (f + 65 + 3 * n) (sx_o (ct_s b0 b1 b2 c1 c2 (S n)))) f (fb_o f (n + 1) false W K Y F O G s lat)) := fr_tr (fr_up (by omega) (by omega)) (fr_tr (fr_up (by omega) (by omega)) (fr_up (by omega) (by omega)))
      generalize up_m (up_m (up_m mem (f + 4) (eo_e c1.toInt64 c2.toInt64 y)) (f + 65 + 3 * n) (sx_o (ct_s b0 b1 b2 c1 c2 (S n)))) f (fb_o f (n + 1) false W K Y F O G s lat) = M1 at hc e1 hf1
      have hm := mv_fr h2 (fun q q1 q2 => hf1 q (by omega))
      obtain ⟨M2, e2, hm2, hf2⟩ := d_section hn hu hm
      refine mk_SI e1 hf1 e2 hf2 ⟨n + 1, false, W, K, Y, F, O, G, s, lat, _, P, N, t, W', K', F', s', G', O', Y', cm, _, _, _, fp, fo, fs, fh, fy, fn, cv_fr hc (fun q q1 q2 => hf2 q (by omega)), hm2, by omega, by omega, by omega, fun j hj => ?_, fun z => by cases z⟩
      by_cases hjn : j = n
      · subst hjn
        rw [va_up_self]
        exact ⟨ct_ok hu, ct_rs⟩
      · rw [va_up_ne _ _ hjn]
        exact ⟨(h6 j (by omega)).1, rs_old (by omega) (h6 j (by omega)).2⟩
    · rw [if_neg hn] at e1
      have : n = 6 := by omega
      subst this
      exact mk_SI e1 fr_rf (d_section_full hu h2) fr_rf (RR_mo h0)
end ST

theorem qs_b2 {q : Sec} (h : qs_ok q) (hh : q.2.2.2.2.2.2.2.1 = false) : (0 ≤ q.2.2.2.2.2.2.2.2.2.2.1.toInt ∧ q.2.2.2.2.2.2.2.2.2.2.1.toInt ≤ 2 ^ 31) ∧ (0 ≤ q.2.2.2.2.2.2.2.2.1.toInt ∧ q.2.2.2.2.2.2.2.2.1.toInt ≤ 1000) ∧ q.2.2.2.2.2.2.2.2.2.1.toInt ≤ 2 ^ 46 := by
  obtain ⟨⟨b0, b1, b2, b3, b4⟩, qb, qa, hM⟩ := h
  obtain ⟨M, hce, hm, hsum, hrest, hbf, hno, hga⟩ := hM hh
  obtain ⟨c1, c2, c3, c4⟩ := ce_ok 1000 1 M hce
  have eb := en_b (a1 := q.2.2.2.1.toInt64) (a2 := q.2.2.2.2.1.toInt64) (by rw [Int32.toInt_toInt64]; exact b3) (by rw [Int32.toInt_toInt64]; exact b4) M (by omega) (fun j hj => by
    by_cases j0 : j = 0
    · subst j0; show (4294967296 : Int64) ≤ 70368744177664; decide
    · exact c3 j (by omega) hj)
  obtain ⟨-, -, -, -, -, e6, e7, e8⟩ := eb
  have hR := mx_i (en_e q.2.2.2.1.toInt64 q.2.2.2.2.1.toInt64 M).2.2.2.2.2.1 (en_e q.2.2.2.1.toInt64 q.2.2.2.2.1.toInt64 M).2.2.2.2.2.2.1
  rw [← hrest] at hR c4
  unfold bf_e at hbf
  simp only [Bool.and_eq_true, decide_eq_true_eq, Int64.le_iff_toInt_le] at hbf
  have hc4 : q.2.2.2.2.2.2.2.2.2.2.1.toInt ≤ 2 ^ 31 := by rw [Int64.le_iff_toInt_le] at c4; exact c4
  have hMi : q.2.2.2.2.2.2.2.2.1.toInt = M := by rw [hm]; exact nI_toInt (by omega)
  exact ⟨⟨by omega, hc4⟩, ⟨by omega, by omega⟩, hbf.1⟩
theorem l32 {k : Nat} (h : k < 2 ^ 31) : (nI k).toInt64.toInt = k := by rw [Int32.toInt_toInt64]; exact nI_toInt h
/-- what a plan's numbers keep to -/
theorem tv_bd {S : Nat → Sec} {fa hd : Nat → Int32} {fc : Nat → Int64} {o : Nat → Nat} {way : Int32} {W : Nat} (hW1 : 16 ≤ W) (hW2 : W ≤ 47) : ∀ (k j : Nat) (t r : Int64 × Int64 × Nat) (tr : Nat → Int64), (∀ i, j ≤ i → i < j + k → o i < 6 ∧ qs_ok (S (o i)) ∧ rs_r (S (o i)) fa hd fc (o i) ∧ (S (o i)).2.2.2.2.2.2.2.1 = false) → 0 ≤ t.1.toInt → 0 ≤ t.2.1.toInt → t.1.toInt + t.2.1.toInt ≤ 2 ^ 46 → tz_s S o (nI W) way k j t = some r → ∀ x, 9 * j ≤ x → x < 9 * (j + k) → 0 ≤ (tv_f S fc o (nI W) way k j t.1 t.2.1 tr x).toInt ∧ (tv_f S fc o (nI W) way k j t.1 t.2.1 tr x).toInt ≤ 2 ^ 50 := by
  intro k
  induction k with
  | zero => intro j t r tr _ _ _ _ _ x h1 h2; omega
  | succ k ih =>
    intro j t r tr hS h0 h1 h2 h x hx1 hx2
    rw [tz_s] at h
    by_cases hx : xq_b (S (o j)) (nI W) way t.1 t.2.1 = true
    · rw [if_pos hx] at h
      obtain ⟨q0, q1, q2, q3⟩ := hS j (by omega) (by omega)
      obtain ⟨b1, b2, -, b4, b5⟩ := xq_bd hW1 hW2 q1 q3 h0 h1 h2 hx
      obtain ⟨⟨n0, n1⟩, ⟨g0, g1⟩, -, s0, -⟩ := qs_bd q1 q3
      obtain ⟨⟨r0, r1⟩, ⟨m0, m1⟩, s1⟩ := qs_b2 q1 q3
      have h12 : xq_n (S (o j)) (nI W) way t.1 t.2.1 ≤ 12 := by
        unfold xq_b at hx
        simp only [Bool.and_eq_true, decide_eq_true_eq] at hx
        exact hx.2
      rw [tv_f]
      by_cases hlo : x < 9 * (j + 1)
      · rw [tv_lo _ _ _ _ _ _ hlo]
        obtain ⟨i, hi, rfl⟩ : ∃ i, i < 9 ∧ x = 9 * j + i := ⟨x - 9 * j, by omega, by omega⟩
        rw [tw_wr (f := fun _ => 0) hi q2 q3]
        have hm' : up_b (gm_b (S (o j)).2.2.2.2.2.2.2.2.2.2.2.2 t.1) (nI (xq_n (S (o j)) (nI W) way t.1 t.2.1)) = xq_m (S (o j)) (nI W) way t.1 t.2.1 := rfl
        have hl' : sl_b (gs_b (S (o j)).2.2.2.2.2.2.2.2.2.2.2.1 (S (o j)).2.2.2.2.2.2.2.2.2.2.2.2 t.2.1 way) (nI (xq_n (S (o j)) (nI W) way t.1 t.2.1)) = xq_l (S (o j)) (nI W) way t.1 t.2.1 := rfl
        unfold wr_n
        rw [hm', hl']
        generalize xq_m (S (o j)) (nI W) way t.1 t.2.1 = vm at *
        generalize xq_l (S (o j)) (nI W) way t.1 t.2.1 = vl at *
        generalize xq_n (S (o j)) (nI W) way t.1 t.2.1 = vn at *
        have c0 := l32 (k := o j) (by omega)
        have c6 := l32 (k := vn) (by omega)
        have c1 : (S (o j)).2.2.2.2.2.2.2.2.1.toInt64.toInt = (S (o j)).2.2.2.2.2.2.2.2.1.toInt := Int32.toInt_toInt64 _
        rcases (show i = 0 ∨ i = 1 ∨ i = 2 ∨ i = 3 ∨ i = 4 ∨ i = 5 ∨ i = 6 ∨ i = 7 ∨ i = 8 by omega) with rfl | rfl | rfl | rfl | rfl | rfl | rfl | rfl | rfl
        · rw [vl_ne (by omega), vl_ne (by omega), vl_ne (by omega), vl_ne (by omega), vl_ne (by omega), vl_ne (by omega), vl_ne (by omega), vl_ne (by omega), vl_se]; omega
        · rw [vl_ne (by omega), vl_ne (by omega), vl_ne (by omega), vl_ne (by omega), vl_ne (by omega), vl_ne (by omega), vl_ne (by omega), vl_se]; omega
        · rw [vl_ne (by omega), vl_ne (by omega), vl_ne (by omega), vl_ne (by omega), vl_ne (by omega), vl_ne (by omega), vl_se]; omega
        · rw [vl_ne (by omega), vl_ne (by omega), vl_ne (by omega), vl_ne (by omega), vl_ne (by omega), vl_se]; omega
        · rw [vl_ne (by omega), vl_ne (by omega), vl_ne (by omega), vl_ne (by omega), vl_se]; omega
        · rw [vl_ne (by omega), vl_ne (by omega), vl_ne (by omega), vl_se]; omega
        · rw [vl_ne (by omega), vl_ne (by omega), vl_se]; omega
        · rw [vl_ne (by omega), vl_se]; omega
        · rw [vl_se]; omega
      · exact ih (j + 1) (xq_m (S (o j)) (nI W) way t.1 t.2.1, xq_l (S (o j)) (nI W) way t.1 t.2.1, t.2.2 + xq_n (S (o j)) (nI W) way t.1 t.2.1) r _ (fun i h3 h4 => hS i (by omega) (by omega)) b1 b2 b4 h x (by omega) (by omega)
    · rw [if_neg hx] at h
      cases h
theorem tv_c {S : Nat → Sec} {fc : Nat → Int64} {o : Nat → Nat} {w way : Int32} : ∀ (k j : Nat) (mi si : Int64) (tr : Nat → Int64) (x : Nat), j ≤ x → x < j + k → tv_f S fc o w way k j mi si tr (9 * x) = (nI (o x)).toInt64 := by
  intro k
  induction k with
  | zero => intro j mi si tr x h1 h2; omega
  | succ k ih =>
    intro j mi si tr x h1 h2
    rw [tv_f]
    by_cases hx : x = j
    · subst hx
      rw [tv_lo _ _ _ _ _ _ (by omega), tw_9, vl_ne (by omega), vl_ne (by omega), vl_ne (by omega), cf_l, if_neg (by omega), vl_se]
    · exact ih (j + 1) _ _ _ x (by omega) (by omega)
theorem ah_no {S : Nat → Sec} : ∀ k i, ah_f S k i = false → ∀ j, i ≤ j → j < i + k → (S j).2.2.2.2.2.2.2.1 = false
  | 0, _, _, j, h1, h2 => by omega
  | k + 1, i, h, j, h1, h2 => by
    rw [ah_f] at h
    by_cases hc : (S i).2.2.2.2.2.2.2.1 = true
    · rw [if_pos hc] at h; cases h
    · rw [if_neg hc] at h
      by_cases hj : j = i
      · subst hj; simpa using hc
      · exact ah_no k (i + 1) h j (by omega) (by omega)
section ST6
variable {mem : Mem} {f m c : Nat}
theorem st_plan {w k way : Int32} (hfm : f + 83 ≤ m ∨ m + 19 ≤ f) (h : RR_r mem f m c) : SI_r 22 91 [.int w, .int k, .int way] mem f m c := by
  have h0 := h
  obtain ⟨n, pt, W, K, Y, F, O, G, s, lat, S, P, N, t, W', K', F', s', G', O', Y', cm, fa, hd, fc, fp, fo, fs, fh, fy, fn, h1, h2, h3, h4, h5, h6, h7⟩ := h
  by_cases hout : w < nI 16 ∨ nI 47 < w ∨ k < nI 2 ∨ nI 24 < k ∨ way < 0 ∨ ¬ way ≤ nI 2
  · exact mk_SI (c_plan_out hout) fr_rf (d_plan_out hout) fr_rf (RR_mo h0)
  · have o1 : ¬ w < nI 16 := fun z => hout (Or.inl z)
    have o2 : ¬ nI 47 < w := fun z => hout (Or.inr (Or.inl z))
    have o3 : ¬ k < nI 2 := fun z => hout (Or.inr (Or.inr (Or.inl z)))
    have o4 : ¬ nI 24 < k := fun z => hout (Or.inr (Or.inr (Or.inr (Or.inl z))))
    have o5 : ¬ way < 0 := fun z => hout (Or.inr (Or.inr (Or.inr (Or.inr (Or.inl z)))))
    have o6 : way ≤ nI 2 := Classical.byContradiction fun z => hout (Or.inr (Or.inr (Or.inr (Or.inr (Or.inr z)))))
    have rg : ∀ {x : Int32} {a b : Nat}, a < 1000 → b < 1000 → ¬ x < nI a → ¬ nI b < x → ∃ y, a ≤ y ∧ y ≤ b ∧ x = nI y := by
      intro x a b ha hb hx1 hx2
      rw [Int32.lt_iff_toInt_lt, nI_toInt (by omega)] at hx1 hx2
      obtain ⟨y, hy, e⟩ := nI_of (x := x) (by rw [Int32.lt_iff_toInt_lt, i32_0]; omega)
      rw [e, nI_toInt hy] at hx1 hx2
      exact ⟨y, by omega, by omega, e⟩
    obtain ⟨W2, w1, w2, rfl⟩ := rg (by omega) (by omega) o1 o2
    obtain ⟨K2, k1, k2, rfl⟩ := rg (by omega) (by omega) o3 o4
    obtain ⟨Y2, y1, y2, rfl⟩ := rg (x := way) (a := 0) (b := 2) (by omega) (by omega) o5 (Int32.not_lt.mpr o6)
    by_cases hnone : n = 0 ∨ ah_f S n 0 = true
    · have e1 := c_plan_none h3 w1 w2 k1 k2 y2 h1 hnone
      have hc := cv_fb (n2 := n) (pt2 := false) (W2 := W) (K2 := K) (Y2 := Y) (F2 := F) (O2 := O) (G2 := G) (s2 := s) (lat2 := lat) h1
      have hf1 : fr_m f (f + 83) mem (up_m mem f (fb_o f n false W K Y F O G s lat)) := fr_up (by omega) (by omega)
      generalize up_m mem f (fb_o f n false W K Y F O G s lat) = M1 at hc e1 hf1
      have hm := mv_fr h2 (fun q q1 q2 => hf1 q (by omega))
      obtain ⟨M2, e2, hm2, hf2⟩ := d_plan_none h3 w1 w2 k1 k2 y2 (fun j hj => (h6 j hj).2.2.2.2.2.2.1) hm hnone
      exact mk_SI e1 hf1 e2 hf2 ⟨n, false, W, K, Y, F, O, G, s, lat, S, P, N, t, W', K', F', s', G', O', Y', cm, fa, hd, fc, fp, fo, fs, fh, fy, fn, cv_fr hc (fun q q1 q2 => hf2 q (by omega)), hm2, h3, by omega, by omega, h6, fun z => by cases z⟩
    · have hn1 : 1 ≤ n := by
        have : ¬ n = 0 := fun z => hnone (Or.inl z)
        omega
      have hah : ah_f S n 0 = false := by
        cases hq : ah_f S n 0 with
        | false => rfl
        | true => exact absurd (Or.inr hq) hnone
      have hnh : ∀ j, j < n → (S j).2.2.2.2.2.2.2.1 = false := fun j hj => ah_no n 0 hah j (by omega) (by omega)
      obtain ⟨o, b, ts, u, hu, hjs, hcase⟩ := c_plan h3 hn1 w1 w2 k1 k2 y2 h1 hah
      have hta := ta_jo (S := S) (W := W2) (K := K2) (way := nI Y2) h3 hn1 720 1 (ff_f (fun j => nI j) o n) (va_up ts.1 0 (fl_l (m0_f K2) (ts.1 0) (lf_n W2 K2)), va_up ts.2.1 0 (fl_l (fun _ => 0) (ts.2.1 0) (lf_n W2 K2)), va_up ts.2.2 0 (ff_f (fun _ => nI 0) (ts.2.2 0) (lf_n W2 K2))) (0, -1, nI 0, 0, b) (by omega) hn1 (fun i hi => by
        have : i = 0 := by omega
        subst this
        intro f hf
        show _ ∧ _ ∧ _
        dsimp only
        rw [va_up_self, va_up_self, va_up_self]
        exact ⟨if_pos hf, if_pos hf, if_pos hf⟩)
      rw [← hu, jo_cg hn1 720 (ff_f (fun j => nI j) o n) (fun j => nI j) _ (fun i hi => if_pos hi)] at hta
      have noneg : ∀ {O2 : Nat}, O2 < 2 ^ 31 → u.2.1 = nI O2 → ¬ u.2.1 < 0 := fun hO e z => nI_pos hO (by rw [← e]; exact z)
      rcases hcase with ⟨hneg, M1, e1, hc, hf1⟩ | ⟨F2, O2, M1, t', c1, c2, c3, c4, c5, e1, hc, ct, hf1⟩
      · have hm := mv_fr h2 (fun q q1 q2 => hf1 q (by omega))
        obtain ⟨Gq, Fq, Oq, fpq, M2, hpr, hf2, hres⟩ := d_plan (b := b) h3 hn1 w1 w2 k1 k2 y2 h6 hm hah hnh
        rw [← hta] at hpr
        rcases hres with ⟨g0, e2, hm2⟩ | ⟨g0, -⟩
        · exact mk_SI e1 hf1 e2 hf2 ⟨n, false, W, K, Y, F, O, G, s, lat, S, P, N, t, W', K', Fq, s', 0, Oq, Y', cm, fa, hd, fc, fpq, fo, fs, fh, fy, fn, cv_fr hc (fun q q1 q2 => hf2 q (by omega)), hm2, h3, by omega, by omega, h6, fun z => by cases z⟩
        · obtain ⟨u1, -, -, bo, tt, tr0, -, -, u6, u7, -⟩ := hpr.2.2 g0
          exact absurd hneg (noneg (O2 := Fq - tt.2.2) (by obtain ⟨-, -, v, -⟩ := hpr.2.2 g0; omega) (u1.trans u7))
      · have hm := mv_fr h2 (fun q q1 q2 => hf1 q (by omega))
        obtain ⟨Gq, Fq, Oq, fpq, M2, hpr, hf2, hres⟩ := d_plan (b := b) h3 hn1 w1 w2 k1 k2 y2 h6 hm hah hnh
        rw [← hta] at hpr
        rcases hres with ⟨g0, -⟩ | ⟨g0, g1, e2, hm2⟩
        · have := hpr.2.1 g0
          exact absurd (show u.2.1 < 0 by rw [this]; decide) (noneg c3 c4)
        · obtain ⟨u1, u2, u3, bo, tt, tr0, u4, u5, u6, u7, u8, u9⟩ := hpr.2.2 g0
          have hF : Fq = F2 := (nI_eq (by omega) (by omega)).mp (u2.symm.trans c2)
          have hO : Oq = nI O2 := u1.symm.trans c4
          have hO2 : O2 = Fq - tt.2.2 := (nI_eq (by omega) (by omega)).mp (hO.symm.trans u7)
          have hG : u.1 = Gq := hpr.1
          subst hF
          subst hG
          rw [hO] at e2 hm2
          have hKF : K2 + Fq < W2 := by
            unfold tf_z at u5
            by_cases hh : K2 + Fq < W2
            · exact hh
            · rw [if_neg hh] at u5; cases u5
          have htz : tz_s S bo (nI W2) (nI Y2) n 0 (m0_f K2 Fq, 0, 0) = some tt := by
            unfold tf_z at u5
            rw [if_pos hKF] at u5
            exact u5
          have hbo : ∀ i, 0 ≤ i → i < 0 + n → u.2.2.2.2 i = nI (bo i) ∧ bo i < 6 ∧ rs_r (S (bo i)) fa hd fc (bo i) ∧ (S (bo i)).2.2.2.2.2.2.2.1 = false := fun i _ hi => ⟨(u4 i (by omega)).1, by have := (u4 i (by omega)).2; omega, (h6 _ (u4 i (by omega)).2).2, hnh _ (u4 i (by omega)).2⟩
          have em := on_i ⟨K2 - 1 + Fq, by omega⟩
          dsimp only at em
          have hm0 : m0_f K2 Fq = (1 : Int64) <<< ((nI (K2 - 1 + Fq)).toInt64 &&& 63) := rfl
          rw [← hm0] at em
          have p1 : (0 : Int) < 2 ^ (K2 - 1 + Fq) := Int.pow_pos (by decide)
          have p2 : (2 : Int) ^ (K2 - 1 + Fq) ≤ 2 ^ 46 := by
            have := Nat.pow_le_pow_right (n := 2) (by decide) (show K2 - 1 + Fq ≤ 46 by omega)
            exact_mod_cast this
          have z0 : 0 ≤ (m0_f K2 Fq, (0 : Int64), 0).1.toInt := by show 0 ≤ (m0_f K2 Fq).toInt; omega
          have z1 : 0 ≤ (m0_f K2 Fq, (0 : Int64), (0 : Nat)).2.1.toInt := by show 0 ≤ (0 : Int64).toInt; decide
          have z2 : (m0_f K2 Fq, (0 : Int64), (0 : Nat)).1.toInt + (m0_f K2 Fq, (0 : Int64), (0 : Nat)).2.1.toInt ≤ 2 ^ 46 := by show (m0_f K2 Fq).toInt + (0 : Int64).toInt ≤ 2 ^ 46; rw [i64_0]; omega
          have hbd := tv_bd (fa := fa) (hd := hd) (fc := fc) (o := bo) (way := nI Y2) w1 w2 n 0 (m0_f K2 Fq, 0, 0) tt tr0 (fun i _ hi => ⟨(hbo i (by omega) hi).2.1, (h6 _ (u4 i (by omega)).2).1, (hbo i (by omega) hi).2.2⟩) z0 z1 z2 htz
          obtain ⟨mo, sh, pc1, pc2, pc3⟩ := tz_pc (bo := bo) (way := nI Y2) w1 w2 n 0 (m0_f K2 Fq, 0, 0) tt (fun i _ hi => ⟨(h6 _ (u4 i (by omega)).2).1, hnh _ (u4 i (by omega)).2⟩) z0 z1 z2 htz
          rw [← hm0] at hc
          have hwp := fun x (hx : x < n) => wp_tv (S := S) (fa := fa) (hd := hd) (fc := fc) (b := u.2.2.2.2) (bo := bo) (w := nI W2) (way := nI Y2) n 0 (m0_f K2 Fq, 0, P, N) tr0 (by omega) hbo x (by omega) (by omega)
          refine mk_SI e1 hf1 e2 hf2 ⟨n, true, W2, K2, Y2, Fq, O2, u.1, 0, 0, S, _, _, t', W2, K2, Fq, 0, u.1, nI O2, Y2, cm, fa, hd, fc, fpq, _, _, _, _, fn, cv_fr hc (fun q q1 q2 => hf2 q (by omega)), hm2, h3, by omega, by omega, h6, fun _ => ⟨rfl, rfl, rfl, rfl, rfl, rfl, rfl, bo, ⟨hn1, w1, w2, k1, k2, y2, u3, hKF, by omega⟩, fun j hj i hi => ?_, fun j hj => ?_, hnh, ⟨mo, sh, pc1.trans em, fun j hj => pc2 j (by omega) (by omega), ?_⟩, z_ps h3, fun _ => ⟨fun _ => 0, fun u => ?_, z_cx h3 ct, fun j hj => z_mx (by omega), fun z => by omega⟩⟩⟩
          · obtain ⟨a1, -⟩ := hwp j hj
            have a2 := u9 (9 * j + i) (by omega)
            have a3 := hbd (9 * j + i) (by omega) (by omega)
            have a4 := a1 i hi
            refine ⟨a2.trans a4, ?_⟩
            rw [← a4]
            exact a3
          · obtain ⟨a1, a2, hh, a3, a4, a5⟩ := hwp j hj
            have e : hp_f (wp_s S u.2.2.2.2 (nI W2) (nI Y2) n 0 (m0_f K2 Fq, 0, P, N)).2.2.1 n j = (((wp_s S u.2.2.2.2 (nI W2) (nI Y2) n 0 (m0_f K2 Fq, 0, P, N)).2.2.1 j).1, ((wp_s S u.2.2.2.2 (nI W2) (nI Y2) n 0 (m0_f K2 Fq, 0, P, N)).2.2.1 j).2.1, 0, 0, 0, 0, 0) := if_pos hj
            have f1 : ff_f (fun j => (fpq (9 * j)).toInt32) fo n j = (fpq (9 * j)).toInt32 := if_pos hj
            have f2 : ff_f (fun j => (fpq (9 * j + 6)).toInt32) fh n j = (fpq (9 * j + 6)).toInt32 := if_pos hj
            rw [e, f1, f2]
            have g6 : fpq (9 * j + 6) = (nI hh).toInt64 := (u9 _ (by omega)).trans a5
            have g0' : fpq (9 * j) = (nI (bo j)).toInt64 := by
              have v1 := u9 (9 * j + 0) (by omega)
              have v2 := a1 0 (by omega)
              rw [Nat.add_zero] at v1 v2
              rw [v1]
              exact tv_c n 0 _ _ tr0 j (by omega) (by omega)
            have t32 : ∀ y : Int32, y.toInt64.toInt32 = y := fun y => Int32.toInt32_toInt64 y
            refine ⟨(u4 j hj).2, by rw [g0', t32], a2.trans (u4 j hj).1, ?_, hh, a3, a4⟩
            dsimp only
            rw [g6, t32, a4]
          · have : tt.2.2 = 0 + ss_n sh n 0 := pc3
            omega
          · have : (0 : Int) < 2 ^ (K2 - 1) := Int.pow_pos (by decide)
            show ((0 : Int).natAbs : Int) ≤ 2 ^ (K2 - 1)
            omega
end ST6

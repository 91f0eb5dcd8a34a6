theorem sp_bd {q : Nat → Sec} {way : Int32} : ∀ (k j : Nat) (v : Int64) (P : Nat → Plc), (∀ i, j ≤ i → i < j + k → ∃ h, h ≤ 13 ∧ (P i).2.1 = nI h) → 1 ≤ k → (sp_v q way k j v P).1.toInt.natAbs ≤ 2 ^ 49 := by
  intro k
  induction k with
  | zero => intro j v P _ h; omega
  | succ k ih =>
    intro j v P hP _
    rw [sp_v]
    by_cases k0 : k = 0
    · subst k0
      rw [sp_v]
      obtain ⟨h, hh, e⟩ := hP j (by omega) (by omega)
      rw [e]
      generalize pa_a (q j).1 (q j).2.1 (q j).2.2.1 (q j).2.2.2.1 (q j).2.2.2.2.1 (P j).2.2.1 (P j).2.2.2.1 (P j).2.2.2.2.1 (P j).2.2.2.2.2.1 (P j).2.2.2.2.2.2 v way = B
      have hr := rg_i B
      have e1 : (s14 B).toInt = B.toInt / 16384 := e14_i
      have e2 := sr_i (a := s14 B) (k := h) (by omega)
      have p1 : (0 : Int) < 2 ^ h := Int.pow_pos (by decide)
      dsimp only
      rw [e2]
      generalize (s14 B).toInt = b at *
      have b1 : -2 ^ 49 ≤ b := by omega
      have b2 : b < 2 ^ 49 := by omega
      have q1 : -2 ^ 49 ≤ b / 2 ^ h := by
        apply Int.le_ediv_of_mul_le p1
        have h1 := Int.mul_le_mul_of_nonneg_left (show (1 : Int) ≤ 2 ^ h by omega) (show (0 : Int) ≤ 2 ^ 49 by omega)
        have h2 := Int.neg_mul (2 ^ 49) (2 ^ h)
        omega
      have q2 : b / 2 ^ h ≤ 2 ^ 49 := by
        have : b / 2 ^ h < 2 ^ 49 + 1 := by
          apply Int.ediv_lt_of_lt_mul p1
          have := Int.mul_le_mul_of_nonneg_left (show (1 : Int) ≤ 2 ^ h by omega) (show (0 : Int) ≤ 2 ^ 49 + 1 by omega)
          omega
        omega
      omega
    · refine ih (j + 1) _ _ (fun i h1 h2 => ?_) (by omega)
      rw [va_up_ne _ _ (by omega)]
      exact hP i (by omega) (by omega)
section ST5
variable {mem : Mem} {f m c : Nat}
theorem sz_i2 {K : Nat} {x : Int32} (hK1 : 2 ≤ K) (hK2 : K ≤ 24) (h : sz_b K x = true) : ((x.toInt.natAbs : Int)) ≤ 2 ^ (K - 1) := by
  have e := on_i ⟨K - 1, by omega⟩
  dsimp only at e
  have h' : ab_l x.toInt64 ≤ (1 : Int64) <<< ((nI (K - 1)).toInt64 &&& 63) := by simpa [sz_b] using h
  rw [Int64.le_iff_toInt_le, e] at h'
  have hx1 := Int32.le_toInt x
  have e2 : x.toInt64.toInt = x.toInt := Int32.toInt_toInt64 x
  rw [ab_li (by rw [e2]; omega), e2] at h'
  exact h'
theorem st_sample {x : Int32} (hc9 : c < 90000) (hfm : f + 83 ≤ m ∨ m + 19 ≤ f) (h : RR_r mem f m c) : SL_r 56 105 [.int x] mem f m c := by
  have h0 := h
  obtain ⟨n, pt, W, K, Y, F, O, G, s, lat, S, P, N, t, W', K', F', s', G', O', Y', cm, fa, hd, fc, fp, fo, fs, fh, fy, fn, h1, h2, h3, h4, h5, h6, h7⟩ := h
  cases pt with
  | false =>
    obtain ⟨kn, nm, ns, to, k1⟩ := h2.1
    exact mk_SL (c_sample_no h1.1) fr_rf (d_sample_no k1) fr_rf (RR_mo h0)
  | true =>
    obtain ⟨rfl, rfl, rfl, rfl, rfl, rfl, rfl, hp⟩ := h7 rfl
    obtain ⟨od, ⟨p1, p2, p3, p4, p5, p6, p7, p8, p9⟩, hNN, hod, hnh, hpc, hps, hex⟩ := hp
    cases hsz : sz_b K' x with
    | false =>
      obtain ⟨kn, nm, ns, to, k1⟩ := h2.1
      exact mk_SL (c_sample_out (by omega) h1.1 hsz) fr_rf (d_sample_out (by omega) k1 hsz) fr_rf (RR_mo h0)
    | true =>
      obtain ⟨x1, x2, x3, ⟨g, x4⟩, ⟨a1, a2, xx, x5⟩, ⟨mo, sl, sh, x6⟩, ⟨z1, z2, z3, z4, z5, z6, z7, z8, x7⟩, ⟨o, b, ts, x8⟩, ⟨na, ba, ea, fz, x9⟩⟩ := h1
      obtain ⟨M1, na', ba', ea', e1, q1, q2, q3, q4, q5, q6⟩ := c_sample (od := od) (xv := x) h3 (by omega) (by omega) (fun j hj => by have := (hod j hj).1; omega) (fun i hi => (hod i hi).2.2.1) hsz x1 x3 x2 x9
      have hf1 : fr_m f (f + 83) mem M1 := fun q hq => q6 q (by omega) (by omega)
      have hc : cv_m M1 f n true W' K' Y' F' O G' (s' + 1) (sv_v S od Y' F' n x P).1 S (sv_v S od Y' F' n x P).2 N (sx_v S od n (s' + 1) x t) := ⟨q1, q3, q2, ⟨g, (q6 _ (by omega) (by omega)).trans x4⟩, ⟨a1, a2, xx, (q6 _ (by omega) (by omega)).trans x5⟩, ⟨mo, sl, sh, (q6 _ (by omega) (by omega)).trans x6⟩, ⟨z1, z2, z3, z4, z5, z6, z7, z8, (q6 _ (by omega) (by omega)).trans x7⟩, ⟨o, b, ts, sm_fr x8 (fun q q1 q2 => q6 q (by omega) (by omega))⟩, ⟨na', ba', ea', fz, q4⟩⟩
      have hm := mv_fr h2 (fun q q1 q2 => hf1 q (by omega))
      obtain ⟨⟨kn, nm, ns, to, k1⟩, k2, k3, k4, k5, k6, k7, ⟨g8, k8⟩, ⟨g9, k9⟩, k10, ⟨g11, k11⟩, ⟨g12, k12⟩, k13, k14, k15, ⟨g16, k16⟩⟩ := hm
      obtain ⟨M2, fs', t', e2, r1, r2, r3, r4, r5, r6, r7, r8⟩ := d_sample (x := x) (S := S) (od := od) (P := P) h3 (by omega) (by omega) p6 (by omega) (fun j hj => ⟨(hod j hj).2.1, by have := (hod j hj).1; omega, (h6 _ (hod j hj).1).2⟩) hps (fun i hi => (hod i hi).2.2.2.1) hsz k1 k2 k6 k7 k13 k14 k15 k16
      have hf2 : fr_m m (m + 19) M1 M2 := fun q hq => r8 q (by omega) (by omega) (by omega) (by omega) (by omega)
      have hlat : (sv_v S od Y' F' n x P).1.toInt.natAbs ≤ 2 ^ 49 := sp_bd n 0 _ P (fun i _ hi => (hod i (by omega)).2.2.2.2) p1
      refine mk_SL e1 hf1 e2 hf2 ⟨n, true, W', K', Y', F', O, G', s' + 1, (sv_v S od Y' F' n x P).1, S, (sv_v S od Y' F' n x P).2, N, sx_v S od n (s' + 1) x t, W', K', F', s' + 1, G', nI O, Y', (sv_v S od Y' F' n x P).1, fa, hd, fc, fp, fo, fs', fh, t'.1, t'.2.1, cv_fr hc (fun q q1 q2 => hf2 q (by omega)), ?_, h3, by omega, by omega, h6, fun _ => ⟨rfl, rfl, rfl, rfl, rfl, rfl, rfl, ?_⟩⟩
      · exact ⟨⟨kn, nm, ns, to, r1⟩, (r8 _ (by omega) (by omega) (by omega) (by omega) (by omega)).trans k2, (r8 _ (by omega) (by omega) (by omega) (by omega) (by omega)).trans k3, (r8 _ (by omega) (by omega) (by omega) (by omega) (by omega)).trans k4, (r8 _ (by omega) (by omega) (by omega) (by omega) (by omega)).trans k5, (r8 _ (by omega) (by omega) (by omega) (by omega) (by omega)).trans k6, r2, ⟨g8, (r8 _ (by omega) (by omega) (by omega) (by omega) (by omega)).trans k8⟩, ⟨g9, (r8 _ (by omega) (by omega) (by omega) (by omega) (by omega)).trans k9⟩, ea_fr k10 (fun q q1 q2 => r8 q (by omega) (by omega) (by omega) (by omega) (by omega)), ⟨g11, (r8 _ (by omega) (by omega) (by omega) (by omega) (by omega)).trans k11⟩, ⟨g12, (r8 _ (by omega) (by omega) (by omega) (by omega) (by omega)).trans k12⟩, (r8 _ (by omega) (by omega) (by omega) (by omega) (by omega)).trans k13, r5, r6, ⟨_, r7⟩⟩
      · refine ⟨od, ⟨p1, p2, p3, p4, p5, p6, p7, p8, p9⟩, hNN, fun j hj => ?_, hnh, hpc, r3, fun hs => ?_⟩
        · obtain ⟨u1, u2, u3, u4, u5⟩ := hod j hj
          obtain ⟨w1, w2⟩ := q5 j
          exact ⟨u1, u2, w1.trans u3, u4.trans w2.symm, by rw [w2]; exact u5⟩
        · obtain ⟨xs, hxs, hcx, hmx, hlast⟩ := hex (by omega)
          have hxx := sz_i2 p4 p5 hsz
          have hag : ∀ u, u < s' → xs u = (fun u => if u = s' then x.toInt else xs u) u := fun u hu => (if_neg (by omega)).symm
          have hxs' : ∀ u, (((fun u => if u = s' then x.toInt else xs u) u).natAbs : Int) ≤ 2 ^ (K' - 1) := by
            intro u
            dsimp only
            split
            · exact hxx
            · exact hxs u
          have hcx' := cx_cg hag hcx
          have hecg := fun j i (hi : i ≤ s' + 2) => eX_cg (q := fun i => S (od i)) (xs := xs) (xs' := fun u => if u = s' then x.toInt else xs u) (n := s' + 2) (fun u hu => hag u (by omega)) j i hi
          have hxe : (fun u => if u = s' then x.toInt else xs u) s' = x.toInt := if_pos rfl
          generalize (fun u => if u = s' then x.toInt else xs u) = ys at *
          have hsx : sx_v S od n (s' + 1) x t = xg_s (fun i => S (od i)) n 0 (xp_s x.toInt64 (nI s') t) := if_pos hs
          have hq : ∀ j, j < n → qs_ok (S (od j)) ∧ (S (od j)).2.2.2.2.2.2.2.1 = false := fun j hj => ⟨(h6 _ (hod j hj).1).1, hnh _ (hod j hj).1⟩
          have ht' : t' = xe_s fa od n 0 (fy, xi_g fn (s' + 1) x, g16) := by rw [r4, if_pos (by omega)]
          have hmx' : ∀ j, j < n → mx_b (fun i => S (od i)) ys (s' + 1) fy j := by
            intro j hj
            obtain ⟨m0, m1, m2, m3⟩ := hmx j hj
            rw [hecg j (s' + 1 + 1) (by omega)] at m0
            rw [hecg j (s' + 1) (by omega)] at m1
            rw [hecg (j + 1) (s' + 1 + 1) (by omega)] at m2
            rw [hecg (j + 1) (s' + 1) (by omega)] at m3
            exact ⟨m0, m1, m2, m3⟩
          have hnum : mr_r (xi_g fn (s' + 1) x) (eX_x (fun i => S (od i)) ys 0 (s' + 1 + 2)) := by
            have e : eX_x (fun i => S (od i)) ys 0 (s' + 1 + 2) = x.toInt * 16384 ^ (s' + 1 - 1) := by
              show (if s' + 1 + 2 < 3 then 0 else ys (s' + 1 + 2 - 3) * 16384 ^ (s' + 1 + 2 - 3)) = _
              rw [if_neg (by omega), show s' + 1 + 2 - 3 = s' by omega, hxe]
              rfl
            rw [e]
            exact xi_m (by omega) hs
          have hres := xe_m (fa := fa) (hd := hd) (fc := fc) (S := S) (od := od) (xs := ys) (a := s' + 1) h3 (fun j hj => ⟨(h6 _ (hod j hj).1).1, (h6 _ (hod j hj).1).2⟩) (fun j i hj hi => eX_B (O := O) h3 (show 1 ≤ K' by omega) (show K' - 1 + F' ≤ 46 by omega) hpc hq hxs' hj (by omega)) n 0 (fy, xi_g fn (s' + 1) x, g16) (by omega) hnum (fun i hi => by omega) (fun i _ hi => hmx' i hi)
          rw [← ht'] at hres
          refine ⟨ys, hxs', ?_, hres.1, fun _ => ⟨hres.2, rfl, hlat⟩⟩
          rw [hsx]
          exact cx_st (fun j hj => (h6 _ (hod j hj).1).1.1) (by omega) hxe hcx'
end ST5

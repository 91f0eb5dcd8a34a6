section ST4
variable {mem : Mem} {f m c : Nat}
theorem ix_i {pt : Bool} {s : Nat} (h : in_x pt s = true) : pt = true ∧ 1 ≤ s ∧ s ≤ 32 := by
  unfold in_x at h
  simp only [Bool.and_eq_true, decide_eq_true_eq] at h
  exact ⟨h.1, h.2.1, h.2.2⟩
theorem mv_18 {M1 : Mem} {m n : Nat} {pt : Bool} {W K F s G : Nat} {O : Int32} {Y : Nat} {cm : Int64} {fa hd : Nat → Int32} {fc fp : Nat → Int64} {fo : Nat → Int32} {fs : Nat → Int64} {fh : Nat → Int32} {fy fn : Nat → Int64} {g' : Nat → Int64} (h : mv_m M1 m n pt W K F s G O Y cm fa hd fc fp fo fs fh fy fn) : mv_m (up_m M1 (m + 18) (la_o 66 g')) m n pt W K F s G O Y cm fa hd fc fp fo fs fh fy fn := by
  obtain ⟨⟨kn, nm, ns, to, k1⟩, k2, k3, k4, k5, k6, k7, ⟨g8, k8⟩, ⟨g9, k9⟩, k10, ⟨g11, k11⟩, ⟨g12, k12⟩, k13, k14, k15, ⟨g16, k16⟩⟩ := h
  exact ⟨⟨kn, nm, ns, to, (up_ne (by omega)).trans k1⟩, (up_ne (by omega)).trans k2, (up_ne (by omega)).trans k3, (up_ne (by omega)).trans k4, (up_ne (by omega)).trans k5, (up_ne (by omega)).trans k6, (up_ne (by omega)).trans k7, ⟨g8, (up_ne (by omega)).trans k8⟩, ⟨g9, (up_ne (by omega)).trans k9⟩, ea_fr k10 (fun q q1 q2 => up_ne (by omega)), ⟨g11, (up_ne (by omega)).trans k11⟩, ⟨g12, (up_ne (by omega)).trans k12⟩, (up_ne (by omega)).trans k13, (up_ne (by omega)).trans k14, (up_ne (by omega)).trans k15, ⟨g', up_self⟩⟩
/-- the distance is small -/
theorem dr_bd {v N E : Int} {s n O : Nat} (hv : v.natAbs ≤ 2 ^ 49) (hN : (N.natAbs : Int) * 2 ^ O ≤ 1024 * 16384 ^ (s + 2 + n)) (hs : 1 ≤ s) (hE : (16384 : Int) ^ (s + n - 1) = E) : (v * E - 2 ^ O * N).natAbs ≤ 2 ^ 53 * E := by
  have e3 : (16384 : Int) ^ (s + 2 + n) = 16384 ^ (s + n - 1) * 16384 ^ 3 := by rw [← Int.pow_add]; congr 1; omega
  have e33 : (16384 : Int) ^ 3 = 4398046511104 := rfl
  have p := d_pos (s + n - 1)
  have w : (0 : Int) < 2 ^ O := Int.pow_pos (by decide)
  rw [e3, e33, hE] at hN
  rw [hE] at p
  have k1 : ((2 ^ O * N).natAbs : Int) = N.natAbs * 2 ^ O := by
    rw [Int.natAbs_mul, Int.natCast_mul, Int.mul_comm]
    congr 1
  have k2 : ((v * E).natAbs : Int) ≤ 2 ^ 49 * E := by
    rw [Int.natAbs_mul, Int.natCast_mul]
    have : (E.natAbs : Int) = E := by omega
    rw [this]
    exact Int.mul_le_mul_of_nonneg_right (by omega) (by omega)
  generalize v * E = a at *
  generalize 2 ^ O * N = b at *
  omega
theorem st_drift (hc9 : c < 90000) (hfm : f + 83 ≤ m ∨ m + 19 ≤ f) (h : RR_r mem f m c) : SL_r 64 110 [] mem f m c := by
  have h0 := h
  obtain ⟨n, pt, W, K, Y, F, O, G, s, lat, S, P, N, t, W', K', F', s', G', O', Y', cm, fa, hd, fc, fp, fo, fs, fh, fy, fn, h1, h2, h3, h4, h5, h6, h7⟩ := h
  cases hx : in_x pt s with
  | false =>
    obtain ⟨kn, nm, ns, to, k1⟩ := h2.1
    have hx' : in_x pt s' = false := by
      cases pt with
      | false => rfl
      | true => obtain ⟨-, -, -, e, -⟩ := h7 rfl; rw [e]; exact hx
    exact mk_SL (c_drift_no (by omega) hx h1.1) fr_rf (d_drift_no (by omega) k1 hx') fr_rf (RR_mo h0)
  | true =>
    obtain ⟨rfl, hs1, hs2⟩ := ix_i hx
    obtain ⟨rfl, rfl, rfl, rfl, rfl, rfl, rfl, hp⟩ := h7 rfl
    have hp' := hp
    obtain ⟨od, ⟨p1, p2, p3, p4, p5, p6, p7, p8, p9⟩, -, hod, hnh, hpc, -, hex⟩ := hp
    obtain ⟨xs, hxs, hcx, hmx, hlast⟩ := hex hs2
    obtain ⟨hfn, rfl, hlat⟩ := hlast hs1
    obtain ⟨na, ba, ea, fz, x9⟩ := h1.2.2.2.2.2.2.2.2
    have e1 := c_drift h3 p1 hx h1.1 x9
    have hc := cv_36 (fz' := ds_f (dg_c (di_T cm (nI (s' + n - 1)) (nI O) (t.1 n)) fz 60)) h1
    have hf1 : fr_m f (f + 83) mem (up_m mem (f + 34 + 2) (ia_o 60 (ds_f (dg_c (di_T cm (nI (s' + n - 1)) (nI O) (t.1 n)) fz 60)))) := fr_up (by omega) (by omega)
    generalize up_m mem (f + 34 + 2) (ia_o 60 (ds_f (dg_c (di_T cm (nI (s' + n - 1)) (nI O) (t.1 n)) fz 60))) = M1 at e1 hc hf1
    have hm := mv_fr h2 (fun q q1 q2 => hf1 q (by omega))
    obtain ⟨kn, nm, ns, to, k1⟩ := hm.1
    obtain ⟨g16, k16⟩ := hm.2.2.2.2.2.2.2.2.2.2.2.2.2.2.2
    have e2 := d_drift h3 p1 hs1 hs2 k1 hm.2.2.2.2.2.2.2.2.2.2.2.2.2.2.1 k16
    have hq : ∀ j, j < n → qs_ok (S (od j)) ∧ (S (od j)).2.2.2.2.2.2.2.1 = false := fun j hj => ⟨(h6 _ (hod j hj).1).1, hnh _ (hod j hj).1⟩
    have hNb := eX_bd (O := O) h3 (show 1 ≤ K' by omega) (show K' - 1 + F' ≤ 46 by omega) hpc hq hxs (Nat.le_refl n) (s' + 2)
    have hNB := eX_B (O := O) h3 (show 1 ≤ K' by omega) (show K' - 1 + F' ≤ 46 by omega) hpc hq hxs (Nat.le_refl n) (show s' + 2 ≤ 35 by omega)
    have hk := (hcx n (Nat.le_refl n)).1
    generalize eX_x (fun i => S (od i)) xs n (s' + 2) = NN at *
    have hdk := di_k (v := cm) (p := s' + n - 1) (out := O) (f := fz) (by omega) p9 hk
    have d45 := d_45
    have hdm := dr_m (g := g16) (late := s' + n - 1) (out := O) (v := cm) (by omega) p9 hfn (by
      generalize (16384 : Int) ^ 65 = D65 at *
      generalize (16384 : Int) ^ 45 = D45 at *
      omega) (by
      generalize (16384 : Int) ^ 65 = D65 at *
      generalize (16384 : Int) ^ 45 = D45 at *
      omega)
    have hsm := d_mono (show s' + n - 1 ≤ 40 by omega)
    have hps := d_pos (s' + n - 1)
    have hzb := dr_bd (v := cm.toInt) (N := NN) (s := s') (n := n) (O := O) hlat hNb hs1 rfl
    have e45 : (16384 : Int) ^ 45 = 16384 ^ 40 * 16384 ^ 5 := rfl
    have e5 : (16384 : Int) ^ 5 = 1180591620717411303424 := rfl
    have hZ : ((cm.toInt * 16384 ^ (s' + n - 1) - 2 ^ O * NN).natAbs : Int) < 16384 ^ 45 := by
      rw [e45, e5]
      generalize (16384 : Int) ^ 40 = D40 at *
      generalize (16384 : Int) ^ (s' + n - 1) = D0 at *
      omega
    have hqt : ((cm.toInt * 16384 ^ (s' + n - 1) - 2 ^ O * NN).natAbs : Int) / 16384 ^ (s' + n - 1) < 2 ^ 56 := by
      refine Int.ediv_lt_of_lt_mul hps ?_
      generalize (16384 : Int) ^ (s' + n - 1) = D0 at *
      omega
    generalize cm.toInt * 16384 ^ (s' + n - 1) - 2 ^ O * NN = Z at *
    have a1 := ds_k hdk (by generalize (16384 : Int) ^ 59 = D59 at *; generalize (16384 : Int) ^ 45 = D45 at *; omega) (by generalize (16384 : Int) ^ 59 = D59 at *; generalize (16384 : Int) ^ 45 = D45 at *; omega)
    have a2 := (wo_m hdm (by generalize (16384 : Int) ^ 65 = D65 at *; generalize (16384 : Int) ^ 45 = D45 at *; omega) (by generalize (16384 : Int) ^ 65 = D65 at *; generalize (16384 : Int) ^ 45 = D45 at *; omega)).1
    have b1 := wh_k (show s' + n - 1 ≤ 40 by omega) a1 (by omega) hqt
    have b2 := so_m (show s' + n - 1 ≤ 40 by omega) a2 (by omega) hqt
    have heq : so_v (wo_f (cr_f (dr_f (fl_l (fun x => -(fn x <<< ((nI O).toInt64 &&& 63))) g16 66) (s' + n - 1) cm 66) 65)) (s' + n - 1) 5 0 = wh_f (ds_f (dg_c (di_T cm (nI (s' + n - 1)) (nI O) (t.1 n)) fz 60)) (s' + n - 1) := by rw [i64_eq, b1, b2]
    rw [heq] at e2
    have hm2 := mv_18 (g' := wo_f (cr_f (dr_f (fl_l (fun x => -(fn x <<< ((nI O).toInt64 &&& 63))) g16 66) (s' + n - 1) cm 66) 65)) hm
    have hf2 : fr_m m (m + 19) M1 (up_m M1 (m + 18) (la_o 66 (wo_f (cr_f (dr_f (fl_l (fun x => -(fn x <<< ((nI O).toInt64 &&& 63))) g16 66) (s' + n - 1) cm 66) 65)))) := fr_up (by omega) (by omega)
    exact mk_SL e1 hf1 e2 hf2 ⟨n, true, W', K', Y', F', O, G', s', cm, S, P, N, t, W', K', F', s', G', nI O, Y', cm, fa, hd, fc, fp, fo, fs, fh, fy, fn, cv_fr hc (fun q q1 q2 => hf2 q (by omega)), hm2, h3, by omega, by omega, h6, fun _ => ⟨rfl, rfl, rfl, rfl, rfl, rfl, rfl, hp'⟩⟩
theorem st_exact {i : Int32} (hc9 : c < 90000) (hfm : f + 83 ≤ m ∨ m + 19 ≤ f) (h : RR_r mem f m c) : SI_r 70 113 [.int i] mem f m c := by
  have h0 := h
  obtain ⟨n, pt, W, K, Y, F, O, G, s, lat, S, P, N, t, W', K', F', s', G', O', Y', cm, fa, hd, fc, fp, fo, fs, fh, fy, fn, h1, h2, h3, h4, h5, h6, h7⟩ := h
  have e800 : (nI 800).toInt = 800 := nI_toInt (by omega)
  have e799 : (nI 799).toInt = 799 := nI_toInt (by omega)
  have em1 : (-1 : Int32).toInt = -1 := by decide
  cases hb : (in_x pt s && (!decide (i < -1) && decide (i < nI 800))) with
  | false =>
    obtain ⟨kn, nm, ns, to, k1⟩ := h2.1
    refine mk_SI (c_exact_no (by omega) hb h1.1) fr_rf (d_exact_no (by omega) k1 ?_) fr_rf (RR_mo h0)
    cases hx : in_x pt s with
    | false =>
      refine Or.inl ?_
      cases pt with
      | false => rfl
      | true => obtain ⟨-, -, -, e, -⟩ := h7 rfl; rw [e]; exact hx
    | true =>
      refine Or.inr ?_
      rw [hx, Bool.true_and] at hb
      intro hi
      rw [Int32.le_iff_toInt_le, Int32.le_iff_toInt_le, e799, em1] at hi
      have : ¬ i < -1 := by rw [Int32.lt_iff_toInt_lt, em1]; omega
      have h8 : i < nI 800 := by rw [Int32.lt_iff_toInt_lt, e800]; omega
      rw [decide_eq_false this, decide_eq_true h8] at hb
      simp at hb
  | true =>
    simp only [Bool.and_eq_true, Bool.not_eq_true', decide_eq_false_iff_not, decide_eq_true_eq] at hb
    obtain ⟨hx, hi1, hi2⟩ := hb
    obtain ⟨rfl, hs1, hs2⟩ := ix_i hx
    obtain ⟨rfl, rfl, rfl, rfl, rfl, rfl, rfl, hp⟩ := h7 rfl
    have hp' := hp
    obtain ⟨od, ⟨p1, p2, p3, p4, p5, p6, p7, p8, p9⟩, -, hod, hnh, hpc, -, hex⟩ := hp
    obtain ⟨xs, hxs, hcx, hmx, hlast⟩ := hex hs2
    obtain ⟨hfn, rfl, hlat⟩ := hlast hs1
    obtain ⟨na, ba, ea, fz, x9⟩ := h1.2.2.2.2.2.2.2.2
    have hq : ∀ j, j < n → qs_ok (S (od j)) ∧ (S (od j)).2.2.2.2.2.2.2.1 = false := fun j hj => ⟨(h6 _ (hod j hj).1).1, hnh _ (hod j hj).1⟩
    have hNB := eX_B (O := O) h3 (show 1 ≤ K' by omega) (show K' - 1 + F' ≤ 46 by omega) hpc hq hxs (Nat.le_refl n) (show s' + 2 ≤ 35 by omega)
    have hk := (hcx n (Nat.le_refl n)).1
    generalize eX_x (fun i => S (od i)) xs n (s' + 2) = NN at *
    have d45 := d_45
    have hsn := sn_k hk (by generalize (16384 : Int) ^ 59 = D59 at *; generalize (16384 : Int) ^ 45 = D45 at *; omega) (by generalize (16384 : Int) ^ 59 = D59 at *; generalize (16384 : Int) ^ 45 = D45 at *; omega)
    have fnm : ∀ g : Nat → Int64, mr_r (fl_l fn g 66) NN := fun g => mr_cg (fun i hi => if_pos hi) hfn
    have fw : ∀ g : Nat → Int64, _ := fun g => wo_m (fnm g) (by generalize (16384 : Int) ^ 65 = D65 at *; generalize (16384 : Int) ^ 45 = D45 at *; omega) (by generalize (16384 : Int) ^ 65 = D65 at *; generalize (16384 : Int) ^ 45 = D45 at *; omega)
    by_cases him : i = -1
    · subst him
      have e1 := c_exact_sign h3 hx h1.1 x9
      obtain ⟨kn, nm, ns, to, k1⟩ := h2.1
      obtain ⟨g16, k16⟩ := h2.2.2.2.2.2.2.2.2.2.2.2.2.2.2.2
      have e2 := d_exact_m hs1 hs2 k1 h2.2.2.2.2.2.2.2.2.2.2.2.2.2.2.1 k16
      have heq : (!decide (0 ≤ fl_l fn g16 66 65)) = sn_f (t.1 n) := by
        rw [hsn]
        by_cases hN : 0 ≤ NN
        · rw [decide_eq_true ((fw g16).2.mpr hN), decide_eq_false (by omega)]; rfl
        · rw [decide_eq_false (fun z => hN ((fw g16).2.mp z)), decide_eq_true (by omega)]; rfl
      rw [heq] at e2
      have hm2 := mv_18 (g' := wo_f (fl_l fn g16 66)) h2
      have hf2 : fr_m m (m + 19) mem (up_m mem (m + 18) (la_o 66 (wo_f (fl_l fn g16 66)))) := fr_up (by omega) (by omega)
      exact mk_SI e1 fr_rf e2 hf2 ⟨n, true, W', K', Y', F', O, G', s', cm, S, P, N, t, W', K', F', s', G', nI O, Y', cm, fa, hd, fc, fp, fo, fs, fh, fy, fn, cv_fr h1 (fun q q1 q2 => hf2 q (by omega)), hm2, h3, by omega, by omega, h6, fun _ => ⟨rfl, rfl, rfl, rfl, rfl, rfl, rfl, hp'⟩⟩
    · have hi0 : ¬ i < 0 := by
        rw [Int32.lt_iff_toInt_lt, i32_0]
        rw [Int32.lt_iff_toInt_lt, em1] at hi1
        have : ¬ i.toInt = -1 := fun z => him (by rw [← Int32.toInt_inj, em1]; exact z)
        omega
      obtain ⟨k, hk9, rfl⟩ := nI_of hi0
      have hk8 : k < 800 := by
        rw [Int32.lt_iff_toInt_lt, e800, nI_toInt hk9] at hi2
        omega
      have e1 := c_exact hk8 h3 hx h1.1 x9
      have hc := cv_36 (fz' := ds_f (cpy0 (t.1 n) fz 60)) h1
      have hf1 : fr_m f (f + 83) mem (up_m mem (f + 34 + 2) (ia_o 60 (ds_f (cpy0 (t.1 n) fz 60)))) := fr_up (by omega) (by omega)
      generalize up_m mem (f + 34 + 2) (ia_o 60 (ds_f (cpy0 (t.1 n) fz 60))) = M1 at e1 hc hf1
      have hm := mv_fr h2 (fun q q1 q2 => hf1 q (by omega))
      obtain ⟨kn, nm, ns, to, k1⟩ := hm.1
      obtain ⟨g16, k16⟩ := hm.2.2.2.2.2.2.2.2.2.2.2.2.2.2.2
      have e2 := d_exact_p hs1 hs2 hk8 k1 hm.2.2.2.2.2.2.2.2.2.2.2.2.2.2.1 k16
      have hkc : kr_r (cpy0 (t.1 n) fz 60) NN := fun i hi => by
        have : cpy0 (t.1 n) fz 60 i = t.1 n i := if_pos hi
        rw [this]; exact hk i hi
      have hds := ds_k hkc (by generalize (16384 : Int) ^ 59 = D59 at *; generalize (16384 : Int) ^ 45 = D45 at *; omega) (by generalize (16384 : Int) ^ 59 = D59 at *; generalize (16384 : Int) ^ 45 = D45 at *; omega)
      rw [bt_e hk8 (fw g16).1 hds] at e2
      have hm2 := mv_18 (g' := wo_f (fl_l fn g16 66)) hm
      have hf2 : fr_m m (m + 19) M1 (up_m M1 (m + 18) (la_o 66 (wo_f (fl_l fn g16 66)))) := fr_up (by omega) (by omega)
      exact mk_SI e1 hf1 e2 hf2 ⟨n, true, W', K', Y', F', O, G', s', cm, S, P, N, t, W', K', F', s', G', nI O, Y', cm, fa, hd, fc, fp, fo, fs, fh, fy, fn, cv_fr hc (fun q q1 q2 => hf2 q (by omega)), hm2, h3, by omega, by omega, h6, fun _ => ⟨rfl, rfl, rfl, rfl, rfl, rfl, rfl, hp'⟩⟩
end ST4

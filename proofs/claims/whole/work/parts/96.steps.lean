theorem in_of {n : Nat} {k : Int32} (hn : n < 2000) (h : in_s n k = true) : ∃ j, j < n ∧ k = nI j ∧ k.toNatClampNeg = j := by
  unfold in_s at h
  simp only [Bool.and_eq_true, Bool.not_eq_true', decide_eq_false_iff_not] at h
  obtain ⟨j, hj, e⟩ := nI_of h.1
  rw [e] at h
  have hjn : j < n := by
    by_cases hc : j < n
    · exact hc
    · exact absurd (nI_le (by omega) hj) h.2
  exact ⟨j, hjn, e, by rw [e]; exact nI_clamp (by omega)⟩
theorem in_no {n j : Nat} {k : Int32} (hj : j < n) (hn : n < 2000) (h : in_s n k = false) : ¬ k = nI j := by
  intro e
  rw [e] at h
  have b1 : ¬ nI j < 0 := nI_pos (by omega)
  have b2 : ¬ nI n ≤ nI j := nI_ge hj (by omega)
  simp [in_s, b1, b2] at h
section ST2
variable {mem : Mem} {f m c : Nat}
theorem st_planned {j w : Int32} (h : RR_r mem f m c) : SL_r 44 99 [.int j, .int w] mem f m c := by
  have h0 := h
  obtain ⟨n, pt, W, K, Y, F, O, G, s, lat, S, P, N, t, W', K', F', s', G', O', Y', cm, fa, hd, fc, fp, fo, fs, fh, fy, fn, h1, h2, h3, h4, h5, h6, h7⟩ := h
  obtain ⟨⟨kn, nm, ns, to, k1⟩, -, -, -, k5, -⟩ := h2
  have e1 := c_planned (k := j) (what := w) h3 h1.1 h1.2.2.1
  have e2 := d_planned (j := j) (what := w) h3 k1 k5
  have h9 : in_9 w = in_s 9 w := rfl
  rw [h9] at e1
  cases hb : (pt && in_s n j && in_s 9 w) with
  | false =>
    rw [hb, if_neg (by simp)] at e1 e2
    exact mk_SL e1 fr_rf e2 fr_rf (RR_mo h0)
  | true =>
    rw [hb, if_pos rfl] at e1 e2
    simp only [Bool.and_eq_true] at hb
    obtain ⟨-, -, -, -, -, -, -, od, -, p2, -⟩ := h7 hb.1.1
    obtain ⟨a, ha, -, ea⟩ := in_of (by omega) hb.1.2
    obtain ⟨b, hb', -, eb⟩ := in_of (by omega) hb.2
    rw [ea, eb] at e1 e2
    rw [(p2 a ha b hb').1] at e2
    exact mk_SL e1 fr_rf e2 fr_rf (RR_mo h0)
theorem st_kept {j w : Int32} (h : RR_r mem f m c) : SL_r 63 109 [.int j, .int w] mem f m c := by
  have h0 := h
  obtain ⟨n, pt, W, K, Y, F, O, G, s, lat, S, P, N, t, W', K', F', s', G', O', Y', cm, fa, hd, fc, fp, fo, fs, fh, fy, fn, h1, h2, h3, h4, h5, h6, h7⟩ := h
  obtain ⟨⟨kn, nm, ns, to, k1⟩, -, -, -, -, -, k7, -⟩ := h2
  have e1 := c_kept (k := j) (what := w) h3 h1.1 h1.2.2.1
  have e2 := d_kept (j := j) (what := w) h3 k1 k7
  cases hb : (pt && in_s n j) with
  | false =>
    rw [hb, if_neg (by simp)] at e1
    rw [hb, Bool.false_and, if_neg (by simp)] at e2
    exact mk_SL e1 fr_rf e2 fr_rf (RR_mo h0)
  | true =>
    rw [hb, if_pos rfl] at e1
    rw [hb, Bool.true_and] at e2
    simp only [Bool.and_eq_true] at hb
    obtain ⟨-, -, -, -, -, -, -, od, -, -, -, -, -, p6, -⟩ := h7 hb.1
    obtain ⟨a, ha, -, ea⟩ := in_of (by omega) hb.2
    rw [ea] at e1 e2
    obtain ⟨q0, q1, q2, q3, q4⟩ := p6 a ha
    cases hw : in_s 5 w with
    | false =>
      rw [hw, if_neg (by simp)] at e2
      have : kp_f (P a) w = 0 := by
        unfold kp_f
        rw [if_neg (in_no (show 0 < 5 by omega) (by omega) hw), if_neg (in_no (show 1 < 5 by omega) (by omega) hw), if_neg (in_no (show 2 < 5 by omega) (by omega) hw), if_neg (in_no (show 3 < 5 by omega) (by omega) hw), if_neg (in_no (show 4 < 5 by omega) (by omega) hw)]
      rw [this] at e1
      exact mk_SL e1 fr_rf e2 fr_rf (RR_mo h0)
    | true =>
      rw [hw, if_pos rfl] at e2
      obtain ⟨b, hb', ew, eb⟩ := in_of (by omega) hw
      rw [eb] at e2
      have : kp_f (P a) w = fs (5 * a + b) := by
        rw [ew]
        unfold kp_f
        rcases (show b = 0 ∨ b = 1 ∨ b = 2 ∨ b = 3 ∨ b = 4 by omega) with rfl | rfl | rfl | rfl | rfl
        · rw [if_pos rfl]; exact q0.symm
        · rw [if_neg (by decide), if_pos rfl]; exact q1.symm
        · rw [if_neg (by decide), if_neg (by decide), if_pos rfl]; exact q2.symm
        · rw [if_neg (by decide), if_neg (by decide), if_neg (by decide), if_pos rfl]; exact q3.symm
        · rw [if_neg (by decide), if_neg (by decide), if_neg (by decide), if_neg (by decide), if_pos rfl]; exact q4.symm
      rw [this] at e1
      exact mk_SL e1 fr_rf e2 fr_rf (RR_mo h0)
theorem st_about {j w : Int32} (hfm : f + 83 ≤ m ∨ m + 19 ≤ f) (h : RR_r mem f m c) : SL_r 18 88 [.int j, .int w] mem f m c := by
  have h0 := h
  obtain ⟨n, pt, W, K, Y, F, O, G, s, lat, S, P, N, t, W', K', F', s', G', O', Y', cm, fa, hd, fc, fp, fo, fs, fh, fy, fn, h1, h2, h3, h4, h5, h6, h7⟩ := h
  have h2' := h2
  obtain ⟨⟨kn, nm, ns, to, k1⟩, k2, k3, k4, k5, k6, k7, ⟨g8, k8⟩, ⟨g9, k9⟩, k10, ⟨g11, k11⟩, ⟨g12, k12⟩, k13, k14, k15, ⟨g16, k16⟩⟩ := h2
  have e1 := c_about (k := j) (what := w) h3 h1.1 h1.2.1
  cases hj : in_s n j with
  | false =>
    rw [hj, if_neg (by simp)] at e1
    exact mk_SL e1 fr_rf (d_about_no h3 k1 (by rw [hj]; rfl)) fr_rf (RR_mo h0)
  | true =>
    rw [hj, if_pos rfl] at e1
    obtain ⟨a, ha, ej, ea⟩ := in_of (by omega) hj
    rw [ea] at e1
    cases hw : in_s 7 w with
    | false =>
      have : ao_f (S a) w = -1 := by
        unfold ao_f
        rw [if_neg (in_no (show 0 < 7 by omega) (by omega) hw), if_neg (in_no (show 1 < 7 by omega) (by omega) hw), if_neg (in_no (show 2 < 7 by omega) (by omega) hw), if_neg (in_no (show 3 < 7 by omega) (by omega) hw), if_neg (in_no (show 4 < 7 by omega) (by omega) hw), if_neg (in_no (show 5 < 7 by omega) (by omega) hw), if_neg (in_no (show 6 < 7 by omega) (by omega) hw)]
      rw [this] at e1
      exact mk_SL e1 fr_rf (d_about_no h3 k1 (by rw [hj, hw]; rfl)) fr_rf (RR_mo h0)
    | true =>
      obtain ⟨b, hb, ew, -⟩ := in_of (by omega) hw
      obtain ⟨M2, g', l', a1, a2, a3, a4⟩ := d_about h3 ha hb (h6 a ha).2 k1 k2 k3 k4 k8 k9
      rw [ej, ew] at e1 ⊢
      have hf2 : fr_m m (m + 19) mem M2 := fun q hq => a4 q (by omega) (by omega)
      refine mk_SL e1 fr_rf a1 hf2 ⟨n, pt, W, K, Y, F, O, G, s, lat, S, P, N, t, W', K', F', s', G', O', Y', cm, fa, hd, fc, fp, fo, fs, fh, fy, fn, cv_fr h1 (fun q q1 q2 => hf2 q (by omega)), ?_, h3, by omega, by omega, h6, h7⟩
      exact ⟨⟨kn, nm, ns, to, (a4 _ (by omega) (by omega)).trans k1⟩, (a4 _ (by omega) (by omega)).trans k2, (a4 _ (by omega) (by omega)).trans k3, (a4 _ (by omega) (by omega)).trans k4, (a4 _ (by omega) (by omega)).trans k5, (a4 _ (by omega) (by omega)).trans k6, (a4 _ (by omega) (by omega)).trans k7, ⟨g', a2⟩, ⟨l', a3⟩, ea_fr k10 (fun q q1 q2 => a4 q (by omega) (by omega)), ⟨g11, (a4 _ (by omega) (by omega)).trans k11⟩, ⟨g12, (a4 _ (by omega) (by omega)).trans k12⟩, (a4 _ (by omega) (by omega)).trans k13, (a4 _ (by omega) (by omega)).trans k14, (a4 _ (by omega) (by omega)).trans k15, ⟨g16, (a4 _ (by omega) (by omega)).trans k16⟩⟩
theorem in_1001 {k : Int32} : (!decide (k < 0) && decide (k ≤ nI 1000)) = in_s 1001 k := by
  have e1 : (nI 1000).toInt = 1000 := nI_toInt (by omega)
  have e2 : (nI 1001).toInt = 1001 := nI_toInt (by omega)
  unfold in_s
  rw [Bool.eq_iff_iff]
  simp only [Bool.and_eq_true, Bool.not_eq_true', decide_eq_false_iff_not, decide_eq_true_eq, Int32.lt_iff_toInt_lt, Int32.le_iff_toInt_le, e1, e2]
  omega
/-- a reference's memory in which only what it knows and its rows have changed -/
theorem mv_kn {M1 M2 : Mem} {m n : Nat} {pt : Bool} {W K F s G : Nat} {O : Int32} {Y : Nat} {cm : Int64} {fa hd : Nat → Int32} {fc fp : Nat → Int64} {fo : Nat → Int32} {fs : Nat → Int64} {fh : Nat → Int32} {fy fn : Nat → Int64} {kn' : Int32} {nm' ns' : Int64} {to' : Int32} (h : mv_m M1 m n pt W K F s G O Y cm fa hd fc fp fo fs fh fy fn) (h1 : M2 m = some (mo_o m n pt W K F s kn' nm' ns' to' G O Y cm)) (h2 : ea_m M2 m 0 0 0) (hf : ∀ q, q ≠ m → (q < m + 9 ∨ m + 13 ≤ q) → M2 q = M1 q) : mv_m M2 m n pt W K F s G O Y cm fa hd fc fp fo fs fh fy fn := by
  obtain ⟨⟨kn, nm, ns, to, k1⟩, k2, k3, k4, k5, k6, k7, ⟨g8, k8⟩, ⟨g9, k9⟩, k10, ⟨g11, k11⟩, ⟨g12, k12⟩, k13, k14, k15, ⟨g16, k16⟩⟩ := h
  exact ⟨⟨kn', nm', ns', to', h1⟩, (hf _ (by omega) (by omega)).trans k2, (hf _ (by omega) (by omega)).trans k3, (hf _ (by omega) (by omega)).trans k4, (hf _ (by omega) (by omega)).trans k5, (hf _ (by omega) (by omega)).trans k6, (hf _ (by omega) (by omega)).trans k7, ⟨g8, (hf _ (by omega) (by omega)).trans k8⟩, ⟨g9, (hf _ (by omega) (by omega)).trans k9⟩, h2, ⟨g11, (hf _ (by omega) (by omega)).trans k11⟩, ⟨g12, (hf _ (by omega) (by omega)).trans k12⟩, (hf _ (by omega) (by omega)).trans k13, (hf _ (by omega) (by omega)).trans k14, (hf _ (by omega) (by omega)).trans k15, ⟨g16, (hf _ (by omega) (by omega)).trans k16⟩⟩
theorem st_echo {j nn w : Int32} (hfm : f + 83 ≤ m ∨ m + 19 ≤ f) (h : RR_r mem f m c) : SL_r 20 90 [.int j, .int nn, .int w] mem f m c := by
  have h0 := h
  obtain ⟨n, pt, W, K, Y, F, O, G, s, lat, S, P, N, t, W', K', F', s', G', O', Y', cm, fa, hd, fc, fp, fo, fs, fh, fy, fn, h1, h2, h3, h4, h5, h6, h7⟩ := h
  have k1 := h2.1
  obtain ⟨kn, nm, ns, to, k1⟩ := k1
  cases hb : (in_s n j && in_s 1001 nn) with
  | false =>
    refine mk_SL (c_echo_no h1.1 (by rw [in_1001]; exact hb)) fr_rf (d_echo_no h3 k1 ?_) fr_rf (RR_mo h0)
    cases e1 : in_s n j with
    | false => rfl
    | true => rw [e1, Bool.true_and] at hb; rw [hb]; simp
  | true =>
    simp only [Bool.and_eq_true] at hb
    obtain ⟨a, ha, ej, -⟩ := in_of (by omega) hb.1
    obtain ⟨M, hM, en, -⟩ := in_of (by omega) hb.2
    obtain ⟨a1, a2, x, hE⟩ := h1.2.2.2.2.1
    have e1 := c_echo (what := w) (N := M) h3 ha (by omega) h1.1 h1.2.1 hE
    have hc := cv_4 (c1 := (S a).2.2.2.1.toInt64) (c2 := (S a).2.2.2.2.1.toInt64) (y := en_e (S a).2.2.2.1.toInt64 (S a).2.2.2.2.1.toInt64 (fn_e (S a).2.2.2.1.toInt64 (S a).2.2.2.2.1.toInt64 M 0)) h1
    have hf1 : fr_m f (f + 83) mem (up_m mem (f + 4) (eo_e (S a).2.2.2.1.toInt64 (S a).2.2.2.2.1.toInt64 (en_e (S a).2.2.2.1.toInt64 (S a).2.2.2.2.1.toInt64 (fn_e (S a).2.2.2.1.toInt64 (S a).2.2.2.2.1.toInt64 M 0)))) := fr_up (by omega) (by omega)
    generalize up_m mem (f + 4) (eo_e (S a).2.2.2.1.toInt64 (S a).2.2.2.2.1.toInt64 (en_e (S a).2.2.2.1.toInt64 (S a).2.2.2.2.1.toInt64 (fn_e (S a).2.2.2.1.toInt64 (S a).2.2.2.2.1.toInt64 M 0))) = M1 at e1 hc hf1
    have hm := mv_fr h2 (fun q q1 q2 => hf1 q (by omega))
    obtain ⟨kn1, nm1, ns1, to1, m1⟩ := hm.1
    obtain ⟨⟨⟨-, -, -, b3, b4⟩, -⟩, -, -, -, r3, r4, -⟩ := h6 a ha
    cases hw : in_s 4 w with
    | false =>
      have : ec_v (S a).2.2.2.1.toInt64 (S a).2.2.2.2.1.toInt64 M w = -1 := by
        unfold ec_v
        rw [if_neg (in_no (show 0 < 4 by omega) (by omega) hw), if_neg (in_no (show 1 < 4 by omega) (by omega) hw), if_neg (in_no (show 2 < 4 by omega) (by omega) hw), if_neg (in_no (show 3 < 4 by omega) (by omega) hw)]
        split <;> rfl
      rw [this] at e1
      rw [ej, en]
      rw [ej] at hb
      exact mk_SL e1 hf1 (d_echo_no h3 m1 (by rw [hw]; simp)) fr_rf ⟨n, pt, W, K, Y, F, O, G, s, lat, S, P, N, t, W', K', F', s', G', O', Y', cm, fa, hd, fc, fp, fo, fs, fh, fy, fn, hc, hm, h3, by omega, by omega, h6, h7⟩
    | true =>
      obtain ⟨M2, kn', a1', a2', a3', a4'⟩ := d_echo (what := w) (N := M) h3 ha (by omega) hw (by rw [r3]; exact b3) (by rw [r4]; exact b4) m1 hm.2.1 hm.2.2.2.2.2.2.2.2.2.1
      rw [r3, r4] at a1'
      rw [ej, en]
      have hf2 : fr_m m (m + 19) M1 M2 := fun q hq => a4' q (by omega) (by omega)
      exact mk_SL e1 hf1 a1' hf2 ⟨n, pt, W, K, Y, F, O, G, s, lat, S, P, N, t, W', K', F', s', G', O', Y', cm, fa, hd, fc, fp, fo, fs, fh, fy, fn, cv_fr hc (fun q q1 q2 => hf2 q (by omega)), mv_kn hm a2' a3' a4', h3, by omega, by omega, h6, h7⟩
theorem st_check (hfm : f + 83 ≤ m ∨ m + 19 ≤ f) (h : RR_r mem f m c) : SI_r 48 102 [] mem f m c := by
  have h0 := h
  obtain ⟨n, pt, W, K, Y, F, O, G, s, lat, S, P, N, t, W', K', F', s', G', O', Y', cm, fa, hd, fc, fp, fo, fs, fh, fy, fn, h1, h2, h3, h4, h5, h6, h7⟩ := h
  cases pt with
  | false =>
    obtain ⟨kn, nm, ns, to, k1⟩ := h2.1
    exact mk_SI (c_check_no h1.1) fr_rf (d_check_no k1) fr_rf (RR_mo h0)
  | true =>
    obtain ⟨rfl, rfl, rfl, rfl, rfl, rfl, rfl, hp⟩ := h7 rfl
    have hp' := hp
    obtain ⟨od, ⟨p1, p2, p3, p4, p5, p6, p7, p8, p9⟩, hN, -⟩ := hp
    obtain ⟨a1, a2, x, hE⟩ := h1.2.2.2.2.1
    obtain ⟨mo, sl, sh, hB⟩ := h1.2.2.2.2.2.1
    obtain ⟨a1', a2', x', mo', sl', e1⟩ := c_check h3 (by omega) (by omega) h1.1 h1.2.2.1 h1.2.1 hE hB
    have hc := cv_5 (mo' := mo') (sl' := sl') (sh' := sh) (cv_4 (c1 := a1') (c2 := a2') (y := x') h1)
    have hf1 : fr_m f (f + 83) mem (up_m (up_m mem (f + 4) (eo_e a1' a2' x')) (f + 5) (bo_o mo' sl' sh)) := fr_tr (fr_up (by omega) (by omega)) (fr_up (by omega) (by omega))
    generalize up_m (up_m mem (f + 4) (eo_e a1' a2' x')) (f + 5) (bo_o mo' sl' sh) = M1 at e1 hc hf1
    have hm := mv_fr h2 (fun q q1 q2 => hf1 q (by omega))
    obtain ⟨kn1, nm1, ns1, to1, m1⟩ := hm.1
    obtain ⟨M2, kn', nm', ns', b1, b2, b3, b4⟩ := d_check (S := S) (N := N) h3 p2 p3 (by omega) p8 h6 (fun j hj i hi => (hN j hj i hi).1) (fun j hj i hi => (hN j hj i hi).2) m1 hm.2.1 hm.2.2.2.2.1 hm.2.2.2.2.2.2.2.2.2.1
    have hf2 : fr_m m (m + 19) M1 M2 := fun q hq => b4 q (by omega) (by omega)
    exact mk_SI e1 hf1 b1 hf2 ⟨n, true, W', K', Y', F', O, G', s', lat, S, P, N, t, W', K', F', s', G', nI O, Y', cm, fa, hd, fc, fp, fo, fs, fh, fy, fn, cv_fr hc (fun q q1 q2 => hf2 q (by omega)), mv_kn hm b2 b3 b4, h3, by omega, by omega, h6, fun _ => ⟨rfl, rfl, rfl, rfl, rfl, rfl, rfl, hp'⟩⟩
end ST2

section ST3
variable {mem : Mem} {f m c : Nat}
theorem st_stable {d c0 c1 c2 c3 c4 : Int32} (hfm : f + 83 ≤ m ∨ m + 19 ≤ f) (h : RR_r mem f m c) : SI_r 14 86 [.int d, .int c0, .int c1, .int c2, .int c3, .int c4] mem f m c := by
  have h0 := h
  obtain ⟨n, pt, W, K, Y, F, O, G, s, lat, S, P, N, t, W', K', F', s', G', O', Y', cm, fa, hd, fc, fp, fo, fs, fh, fy, fn, h1, h2, h3, h4, h5, h6, h7⟩ := h
  have mvup : ∀ {M1 M2 : Mem} {g' l' : Nat → Int64}, mv_m M1 m n pt W' K' F' s' G' O' Y' cm fa hd fc fp fo fs fh fy fn → M2 (m + 7) = some (la_o 5 g') → M2 (m + 8) = some (la_o 5 l') → (∀ q, q ≠ m + 7 → q ≠ m + 8 → M2 q = M1 q) → mv_m M2 m n pt W' K' F' s' G' O' Y' cm fa hd fc fp fo fs fh fy fn := by
    intro M1 M2 g' l' hm a2 a3 a4
    obtain ⟨⟨kn, nm, ns, to, k1⟩, k2, k3, k4, k5, k6, k7, ⟨g8, k8⟩, ⟨g9, k9⟩, k10, ⟨g11, k11⟩, ⟨g12, k12⟩, k13, k14, k15, ⟨g16, k16⟩⟩ := hm
    exact ⟨⟨kn, nm, ns, to, (a4 _ (by omega) (by omega)).trans k1⟩, (a4 _ (by omega) (by omega)).trans k2, (a4 _ (by omega) (by omega)).trans k3, (a4 _ (by omega) (by omega)).trans k4, (a4 _ (by omega) (by omega)).trans k5, (a4 _ (by omega) (by omega)).trans k6, (a4 _ (by omega) (by omega)).trans k7, ⟨g', a2⟩, ⟨l', a3⟩, ea_fr k10 (fun q q1 q2 => a4 q (by omega) (by omega)), ⟨g11, (a4 _ (by omega) (by omega)).trans k11⟩, ⟨g12, (a4 _ (by omega) (by omega)).trans k12⟩, (a4 _ (by omega) (by omega)).trans k13, (a4 _ (by omega) (by omega)).trans k14, (a4 _ (by omega) (by omega)).trans k15, ⟨g16, (a4 _ (by omega) (by omega)).trans k16⟩⟩
  cases hd5 : in_s 5 d with
  | false =>
    have hdd : d < 0 ∨ nI 4 < d ∨ c0 = 0 := by
      unfold in_s at hd5
      by_cases a : d < 0
      · exact Or.inl a
      · rw [decide_eq_false a] at hd5
        have b : nI 5 ≤ d := by simpa using hd5
        exact Or.inr (Or.inl (Int32.lt_of_lt_of_le (by decide) b))
    exact mk_SI (c_stable_no hdd) fr_rf (d_isStable_no hd5) fr_rf (RR_mo h0)
  | true =>
    obtain ⟨D, hD, ed, -⟩ := in_of (by omega) hd5
    subst ed
    by_cases hc0 : c0 = 0
    · obtain ⟨kn, nm, ns, to, k1⟩ := h2.1
      obtain ⟨g8, k8⟩ := h2.2.2.2.2.2.2.2.1
      obtain ⟨g9, k9⟩ := h2.2.2.2.2.2.2.2.2.1
      obtain ⟨M2, g', l', a1, a2, a3, a4⟩ := d_isStable (c0 := c0) (c1 := c1) (c2 := c2) (c3 := c3) (c4 := c4) (show D ≤ 4 by omega) k1 k8 k9
      rw [if_pos hc0] at a1
      have a1' : cl 86 [.ref m, .int (nI D), .int c0, .int c1, .int c2, .int c3, .int c4] mem = some (some (.int (-1)), M2) := by rw [a1]; split <;> rfl
      have hf2 : fr_m m (m + 19) mem M2 := fun q hq => a4 q (by omega) (by omega)
      exact mk_SI (c_stable_no (Or.inr (Or.inr hc0))) fr_rf a1' hf2 ⟨n, pt, W, K, Y, F, O, G, s, lat, S, P, N, t, W', K', F', s', G', O', Y', cm, fa, hd, fc, fp, fo, fs, fh, fy, fn, cv_fr h1 (fun q q1 q2 => hf2 q (by omega)), mvup h2 a2 a3 a4, h3, by omega, by omega, h6, h7⟩
    · obtain ⟨g, hg⟩ := h1.2.2.2.1
      obtain ⟨g1, e1⟩ := c_stable (D := D) (c1 := c1) (c2 := c2) (c3 := c3) (c4 := c4) (by omega) hc0 h1.1 hg
      have hc := cv_3 (g' := g1) h1
      have hf1 : fr_m f (f + 83) mem (up_m mem (f + 3) (la_o 5 g1)) := fr_up (by omega) (by omega)
      generalize up_m mem (f + 3) (la_o 5 g1) = M1 at e1 hc hf1
      have hm := mv_fr h2 (fun q q1 q2 => hf1 q (by omega))
      obtain ⟨kn, nm, ns, to, k1⟩ := hm.1
      obtain ⟨g8, k8⟩ := hm.2.2.2.2.2.2.2.1
      obtain ⟨g9, k9⟩ := hm.2.2.2.2.2.2.2.2.1
      obtain ⟨M2, g', l', a1, a2, a3, a4⟩ := d_isStable (c0 := c0) (c1 := c1) (c2 := c2) (c3 := c3) (c4 := c4) (show D ≤ 4 by omega) k1 k8 k9
      rw [if_neg hc0, rg_bc (b := ip_f g c0 c1 c2 c3 c4) ip_c (D + 1) 0 (by omega), st_bc (b := ip_f g c0 c1 c2 c3 c4) ip_c D] at a1
      have hf2 : fr_m m (m + 19) M1 M2 := fun q hq => a4 q (by omega) (by omega)
      exact mk_SI e1 hf1 a1 hf2 ⟨n, pt, W, K, Y, F, O, G, s, lat, S, P, N, t, W', K', F', s', G', O', Y', cm, fa, hd, fc, fp, fo, fs, fh, fy, fn, cv_fr hc (fun q q1 q2 => hf2 q (by omega)), mvup hm a2 a3 a4, h3, by omega, by omega, h6, h7⟩
theorem st_forge {j w : Int32} {v : Int64} (hfm : f + 83 ≤ m ∨ m + 19 ≤ f) (h : RR_r mem f m c) : SI_r 47 101 [.int j, .int w, .long v] mem f m c := by
  have h0 := h
  obtain ⟨n, pt, W, K, Y, F, O, G, s, lat, S, P, N, t, W', K', F', s', G', O', Y', cm, fa, hd, fc, fp, fo, fs, fh, fy, fn, h1, h2, h3, h4, h5, h6, h7⟩ := h
  cases hb : (pt && in_s n j && in_s 9 w) with
  | false =>
    obtain ⟨kn, nm, ns, to, k1⟩ := h2.1
    exact mk_SI (c_forge_no h1.1 hb) fr_rf (d_forge_no h3 hb k1) fr_rf (RR_mo h0)
  | true =>
    simp only [Bool.and_eq_true] at hb
    obtain ⟨⟨b1, b2⟩, b3⟩ := hb
    subst b1
    obtain ⟨a, ha, rfl, -⟩ := in_of (by omega) b2
    obtain ⟨u, hu, rfl, -⟩ := in_of (by omega) b3
    obtain ⟨rfl, rfl, rfl, rfl, rfl, rfl, rfl, hp⟩ := h7 rfl
    have e1 := c_forge (v := v) h3 ha hu h1.1 h1.2.2.1
    by_cases hv : v < 0 ∨ 1125899906842624 < v
    · rw [if_pos hv] at e1
      obtain ⟨kn, nm, ns, to, k1⟩ := h2.1
      have e2 := d_forge (v := v) h3 ha hu k1 h2.2.2.2.2.1
      rw [if_pos hv] at e2
      exact mk_SI e1 fr_rf e2 fr_rf (RR_mo h0)
    · rw [if_neg hv] at e1
      have hc := cv_67 (j := a) (g' := vp_updL (N a) u v) (by omega) h1
      have hf1 : fr_m f (f + 83) mem (up_m mem (f + 67 + 3 * a) (la_o 9 (vp_updL (N a) u v))) := fr_up (by omega) (by omega)
      generalize up_m mem (f + 67 + 3 * a) (la_o 9 (vp_updL (N a) u v)) = M1 at e1 hc hf1
      have hm := mv_fr h2 (fun q q1 q2 => hf1 q (by omega))
      obtain ⟨⟨kn, nm, ns, to, k1⟩, k2, k3, k4, k5, k6, k7, ⟨g8, k8⟩, ⟨g9, k9⟩, k10, ⟨g11, k11⟩, ⟨g12, k12⟩, k13, k14, k15, ⟨g16, k16⟩⟩ := hm
      have e2 := d_forge (v := v) h3 ha hu k1 k5
      rw [if_neg hv] at e2
      have hv0 : 0 ≤ v.toInt := by
        have this : ¬ v < 0 := fun z => hv (Or.inl z)
        rw [Int64.lt_iff_toInt_lt, i64_0] at this
        omega
      have hv1 : v.toInt ≤ 2 ^ 50 := by
        have this : ¬ 1125899906842624 < v := fun z => hv (Or.inr z)
        rw [Int64.lt_iff_toInt_lt] at this
        have e : (1125899906842624 : Int64).toInt = 2 ^ 50 := rfl
        omega
      refine mk_SI e1 hf1 e2 (fr_up (by omega) (by omega)) ⟨n, true, W', K', Y', F', O, G', s', lat, S, P, va_up N a (vp_updL (N a) u v), t, W', K', F', s', G', nI O, Y', cm, fa, hd, fc, vp_updL fp (9 * a + u) v, fo, fs, fh, fy, fn, cv_fr hc (fun q q1 q2 => up_ne (by omega)), ?_, h3, by omega, by omega, h6, fun _ => ⟨rfl, rfl, rfl, rfl, rfl, rfl, rfl, ?_⟩⟩
      · exact ⟨⟨kn, nm, ns, to, (up_ne (by omega)).trans k1⟩, (up_ne (by omega)).trans k2, (up_ne (by omega)).trans k3, (up_ne (by omega)).trans k4, up_self, (up_ne (by omega)).trans k6, (up_ne (by omega)).trans k7, ⟨g8, (up_ne (by omega)).trans k8⟩, ⟨g9, (up_ne (by omega)).trans k9⟩, ea_fr k10 (fun q q1 q2 => up_ne (by omega)), ⟨g11, (up_ne (by omega)).trans k11⟩, ⟨g12, (up_ne (by omega)).trans k12⟩, (up_ne (by omega)).trans k13, (up_ne (by omega)).trans k14, (up_ne (by omega)).trans k15, ⟨g16, (up_ne (by omega)).trans k16⟩⟩
      · obtain ⟨od, p1, p2, p3⟩ := hp
        refine ⟨od, p1, fun j hj i hi => ?_, p3⟩
        by_cases hja : j = a
        · subst hja
          rw [va_up_self]
          by_cases hiu : i = u
          · subst hiu
            rw [vl_se, vl_se]
            exact ⟨rfl, hv0, hv1⟩
          · rw [vl_ne hiu, vl_ne (by omega)]
            exact p2 j hj i hi
        · rw [va_up_ne _ _ hja, vl_ne (by omega)]
          exact p2 j hj i hi
/-- the exact filters at their start -/
theorem z_cx {q : Nat → Sec} {n : Nat} {xs : Nat → Int} {t : XS} (hn : n ≤ 6) (h : ∀ j, j < 7 → ∀ p, p < 60 → t.1 j p = nI 0 ∧ t.2.1 j p = nI 0 ∧ t.2.2 j p = nI 0) : cx_r q n xs 0 t := by
  have e0 : (nI 0).toInt = 0 := by decide
  have z : ∀ {g : Nat → Int32}, (∀ p, p < 60 → g p = nI 0) → kr_r g 0 := fun hg i hi => by rw [hg i hi, e0]; simp
  intro j hj
  rw [eX_0 j (0 + 2) (by omega), eX_0 j (0 + 1) (by omega), eX_0 j 0 (by omega)]
  exact ⟨z fun p hp => (h j (by omega) p hp).1, z fun p hp => (h j (by omega) p hp).2.1, z fun p hp => (h j (by omega) p hp).2.2⟩
theorem z_mx {q : Nat → Sec} {xs : Nat → Int} {fy : Nat → Int64} {j : Nat} (hj : j < 6) : mx_b q xs (0 + 1) (fl_l (fun _ => 0) fy 1584) j := by
  have z : ∀ b, b < 24 → mr_r (fun i => fl_l (fun _ => 0) fy 1584 (66 * b + i)) 0 := by
    intro b hb i hi
    have e : fl_l (fun _ => 0) fy 1584 (66 * b + i) = 0 := if_pos (by omega)
    show (fl_l (fun _ => 0) fy 1584 (66 * b + i)).toInt = lz_i 0 i
    rw [e]
    unfold lz_i
    split <;> simp
  unfold mx_b
  rw [eX_0 j _ (by omega), eX_0 j _ (by omega), eX_0 (j + 1) _ (by omega), eX_0 (j + 1) _ (by omega)]
  exact ⟨z _ (by omega), z _ (by omega), z _ (by omega), z _ (by omega)⟩
theorem z_ps {P : Nat → Plc} {fs : Nat → Int64} {n : Nat} (hn : n ≤ 6) : ps_r (hp_f P n) (fl_l (fun _ => 0) fs 30) n := by
  intro j hj
  have e : hp_f P n j = ((P j).1, (P j).2.1, 0, 0, 0, 0, 0) := if_pos hj
  rw [e]
  have z : ∀ x, x < 30 → fl_l (fun _ => 0) fs 30 x = 0 := fun x hx => if_pos hx
  exact ⟨z _ (by omega), z _ (by omega), z _ (by omega), z _ (by omega), z _ (by omega)⟩
theorem st_quiet (hfm : f + 83 ≤ m ∨ m + 19 ≤ f) (h : RR_r mem f m c) : SI_r 73 114 [] mem f m c := by
  have h0 := h
  obtain ⟨n, pt, W, K, Y, F, O, G, s, lat, S, P, N, t, W', K', F', s', G', O', Y', cm, fa, hd, fc, fp, fo, fs, fh, fy, fn, h1, h2, h3, h4, h5, h6, h7⟩ := h
  cases pt with
  | false =>
    obtain ⟨kn, nm, ns, to, k1⟩ := h2.1
    exact mk_SI (c_quiet_no h1.1) fr_rf (d_quiet_no k1) fr_rf (RR_mo h0)
  | true =>
    obtain ⟨rfl, rfl, rfl, rfl, rfl, rfl, rfl, hp⟩ := h7 rfl
    obtain ⟨x1, x2, x3, ⟨g, x4⟩, ⟨a1, a2, x, x5⟩, ⟨mo, sl, sh, x6⟩, ⟨z1, z2, z3, z4, z5, z6, z7, z8, x7⟩, ⟨o, b, ts, x8⟩, ⟨na, ba, ea, fz, x9⟩⟩ := h1
    obtain ⟨M1, t', e1, q1, q2, q3, q4, q5⟩ := c_quiet h3 x1 x3 x9
    have hf1 : fr_m f (f + 83) mem M1 := fun q hq => q5 q (by omega) (by rcases hq with z | z <;> first | (left; omega) | (right; exact ⟨by omega, fun i hi => by omega⟩))
    have hall : ∀ {r : Nat} {y : mE}, r ≠ f → (r < f + 37 ∨ (f + 65 ≤ r ∧ ∀ i, i < 6 → r ≠ f + 66 + 3 * i)) → mem r = some y → M1 r = some y := fun z1 z2 z3 => (q5 _ z1 z2).trans z3
    have hc : cv_m M1 f n true W' K' Y' F' O G' 0 0 S (hp_f P n) N t' := ⟨q1, cv_R_fr x2 (fun q hq => q5 q (by rcases hq with rfl | ⟨i, hi, rfl⟩ <;> omega) (by rcases hq with rfl | ⟨i, hi, rfl⟩ <;> first | (left; omega) | (right; exact ⟨by omega, fun i' hi' => by omega⟩))), q2, ⟨g, hall (by omega) (Or.inl (by omega)) x4⟩, ⟨a1, a2, x, hall (by omega) (Or.inl (by omega)) x5⟩, ⟨mo, sl, sh, hall (by omega) (Or.inl (by omega)) x6⟩, ⟨z1, z2, z3, z4, z5, z6, z7, z8, hall (by omega) (Or.inl (by omega)) x7⟩, ⟨o, b, ts, sm_fr x8 (fun q q1 q2 => q5 q (by omega) (Or.inl (by omega)))⟩, ⟨na, ba, ea, fz, q3⟩⟩
    have hm := mv_fr h2 (fun q q1 q2 => hf1 q (by omega))
    obtain ⟨⟨kn, nm, ns, to, k1⟩, k2, k3, k4, k5, k6, k7, ⟨g8, k8⟩, ⟨g9, k9⟩, k10, ⟨g11, k11⟩, ⟨g12, k12⟩, k13, k14, k15, ⟨g16, k16⟩⟩ := hm
    obtain ⟨M2, e2, r1, r2, r3, r4⟩ := d_quiet k1 k7 k14
    have hf2 : fr_m m (m + 19) M1 M2 := fun q hq => r4 q (by omega) (by omega) (by omega)
    refine mk_SI e1 hf1 e2 hf2 ⟨n, true, W', K', Y', F', O, G', 0, 0, S, hp_f P n, N, t', W', K', F', 0, G', nI O, Y', cm, fa, hd, fc, fp, fo, fl_l (fun _ => 0) fs 30, fh, fl_l (fun _ => 0) fy 1584, fn, cv_fr hc (fun q q1 q2 => hf2 q (by omega)), ?_, h3, by omega, by omega, h6, fun _ => ⟨rfl, rfl, rfl, rfl, rfl, rfl, rfl, ?_⟩⟩
    · exact ⟨⟨kn, nm, ns, to, r1⟩, (r4 _ (by omega) (by omega) (by omega)).trans k2, (r4 _ (by omega) (by omega) (by omega)).trans k3, (r4 _ (by omega) (by omega) (by omega)).trans k4, (r4 _ (by omega) (by omega) (by omega)).trans k5, (r4 _ (by omega) (by omega) (by omega)).trans k6, r2, ⟨g8, (r4 _ (by omega) (by omega) (by omega)).trans k8⟩, ⟨g9, (r4 _ (by omega) (by omega) (by omega)).trans k9⟩, ea_fr k10 (fun q q1 q2 => r4 q (by omega) (by omega) (by omega)), ⟨g11, (r4 _ (by omega) (by omega) (by omega)).trans k11⟩, ⟨g12, (r4 _ (by omega) (by omega) (by omega)).trans k12⟩, (r4 _ (by omega) (by omega) (by omega)).trans k13, r3, (r4 _ (by omega) (by omega) (by omega)).trans k15, ⟨g16, (r4 _ (by omega) (by omega) (by omega)).trans k16⟩⟩
    · obtain ⟨od, p1, p2, p3, p4, p5, p6, p7⟩ := hp
      refine ⟨od, p1, p2, fun j hj => ?_, p4, p5, z_ps h3, fun _ => ⟨fun _ => 0, fun u => ?_, z_cx h3 q4, fun j hj => z_mx (by omega), fun z => by omega⟩⟩
      · have e : hp_f P n j = ((P j).1, (P j).2.1, 0, 0, 0, 0, 0) := if_pos hj
        rw [e]
        exact p3 j hj
      · have : (0 : Int) < 2 ^ (K' - 1) := Int.pow_pos (by decide)
        show ((0 : Int).natAbs : Int) ≤ 2 ^ (K' - 1)
        omega
end ST3

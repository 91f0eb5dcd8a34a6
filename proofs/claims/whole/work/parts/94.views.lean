section VW
variable {mem mem' : Mem} {f n : Nat} {pt : Bool} {W K Y F O G s : Nat} {lat : Int64} {S : Nat → Sec} {P : Nat → Plc} {N : Nat → Nat → Int64} {t : XS}
theorem cv_fr (h : cv_m mem f n pt W K Y F O G s lat S P N t) (hfr : ∀ q, f ≤ q → q < f + 83 → mem' q = mem q) : cv_m mem' f n pt W K Y F O G s lat S P N t := by
  obtain ⟨h1, h2, h3, ⟨g, h4⟩, ⟨a1, a2, x, h5⟩, ⟨mo, sl, sh, h6⟩, ⟨z1, z2, z3, z4, z5, z6, z7, z8, h7⟩, ⟨o, b, ts, h8⟩, ⟨na, ba, ea, fz, h9⟩⟩ := h
  exact ⟨(hfr _ (by omega) (by omega)).trans h1, cv_R_fr h2 (fun q hq => hfr q (by rcases hq with rfl | ⟨i, hi, rfl⟩ <;> omega) (by rcases hq with rfl | ⟨i, hi, rfl⟩ <;> omega)), cv_P_fr h3 (fun q hq hq2 => hfr q (by omega) (by omega)), ⟨g, (hfr _ (by omega) (by omega)).trans h4⟩, ⟨a1, a2, x, (hfr _ (by omega) (by omega)).trans h5⟩, ⟨mo, sl, sh, (hfr _ (by omega) (by omega)).trans h6⟩, ⟨z1, z2, z3, z4, z5, z6, z7, z8, (hfr _ (by omega) (by omega)).trans h7⟩, ⟨o, b, ts, sm_fr h8 (fun q q1 q2 => hfr q (by omega) (by omega))⟩, ⟨na, ba, ea, fz, ev_fr h9 (fun q q1 q2 => hfr q (by omega) (by omega))⟩⟩
theorem cv_3 {g' : Nat → Int64} (h : cv_m mem f n pt W K Y F O G s lat S P N t) : cv_m (up_m mem (f + 3) (la_o 5 g')) f n pt W K Y F O G s lat S P N t := by
  obtain ⟨h1, h2, h3, ⟨g, h4⟩, ⟨a1, a2, x, h5⟩, ⟨mo, sl, sh, h6⟩, ⟨z1, z2, z3, z4, z5, z6, z7, z8, h7⟩, ⟨o, b, ts, h8⟩, ⟨na, ba, ea, fz, h9⟩⟩ := h
  exact ⟨(up_ne (by omega)).trans h1, cv_R_fr h2 (fun q hq => up_ne (by rcases hq with rfl | ⟨i, hi, rfl⟩ <;> omega)), cv_P_fr h3 (fun q hq _ => up_ne (by omega)), ⟨g', up_self⟩, ⟨a1, a2, x, (up_ne (by omega)).trans h5⟩, ⟨mo, sl, sh, (up_ne (by omega)).trans h6⟩, ⟨z1, z2, z3, z4, z5, z6, z7, z8, (up_ne (by omega)).trans h7⟩, ⟨o, b, ts, sm_fr h8 (fun q q1 q2 => up_ne (by omega))⟩, ⟨na, ba, ea, fz, ev_fr h9 (fun q q1 q2 => up_ne (by omega))⟩⟩
theorem cv_4 {c1 c2 : Int64} {y : E8} (h : cv_m mem f n pt W K Y F O G s lat S P N t) : cv_m (up_m mem (f + 4) (eo_e c1 c2 y)) f n pt W K Y F O G s lat S P N t := by
  obtain ⟨h1, h2, h3, ⟨g, h4⟩, ⟨a1, a2, x, h5⟩, ⟨mo, sl, sh, h6⟩, ⟨z1, z2, z3, z4, z5, z6, z7, z8, h7⟩, ⟨o, b, ts, h8⟩, ⟨na, ba, ea, fz, h9⟩⟩ := h
  exact ⟨(up_ne (by omega)).trans h1, cv_R_fr h2 (fun q hq => up_ne (by rcases hq with rfl | ⟨i, hi, rfl⟩ <;> omega)), cv_P_fr h3 (fun q hq _ => up_ne (by omega)), ⟨g, (up_ne (by omega)).trans h4⟩, ⟨c1, c2, y, up_self⟩, ⟨mo, sl, sh, (up_ne (by omega)).trans h6⟩, ⟨z1, z2, z3, z4, z5, z6, z7, z8, (up_ne (by omega)).trans h7⟩, ⟨o, b, ts, sm_fr h8 (fun q q1 q2 => up_ne (by omega))⟩, ⟨na, ba, ea, fz, ev_fr h9 (fun q q1 q2 => up_ne (by omega))⟩⟩
theorem cv_5 {mo' sl' : Int64} {sh' : Int32} (h : cv_m mem f n pt W K Y F O G s lat S P N t) : cv_m (up_m mem (f + 5) (bo_o mo' sl' sh')) f n pt W K Y F O G s lat S P N t := by
  obtain ⟨h1, h2, h3, ⟨g, h4⟩, ⟨a1, a2, x, h5⟩, ⟨mo, sl, sh, h6⟩, ⟨z1, z2, z3, z4, z5, z6, z7, z8, h7⟩, ⟨o, b, ts, h8⟩, ⟨na, ba, ea, fz, h9⟩⟩ := h
  exact ⟨(up_ne (by omega)).trans h1, cv_R_fr h2 (fun q hq => up_ne (by rcases hq with rfl | ⟨i, hi, rfl⟩ <;> omega)), cv_P_fr h3 (fun q hq _ => up_ne (by omega)), ⟨g, (up_ne (by omega)).trans h4⟩, ⟨a1, a2, x, (up_ne (by omega)).trans h5⟩, ⟨mo', sl', sh', up_self⟩, ⟨z1, z2, z3, z4, z5, z6, z7, z8, (up_ne (by omega)).trans h7⟩, ⟨o, b, ts, sm_fr h8 (fun q q1 q2 => up_ne (by omega))⟩, ⟨na, ba, ea, fz, ev_fr h9 (fun q q1 q2 => up_ne (by omega))⟩⟩
theorem cv_36 {fz' : Nat → Int32} (h : cv_m mem f n pt W K Y F O G s lat S P N t) : cv_m (up_m mem (f + 34 + 2) (ia_o 60 fz')) f n pt W K Y F O G s lat S P N t := by
  obtain ⟨h1, h2, h3, ⟨g, h4⟩, ⟨a1, a2, x, h5⟩, ⟨mo, sl, sh, h6⟩, ⟨z1, z2, z3, z4, z5, z6, z7, z8, h7⟩, ⟨o, b, ts, h8⟩, ⟨na, ba, ea, fz, h9⟩⟩ := h
  refine ⟨(up_ne (by omega)).trans h1, cv_R_fr h2 (fun q hq => up_ne (by rcases hq with rfl | ⟨i, hi, rfl⟩ <;> omega)), cv_P_fr h3 (fun q hq _ => up_ne (by omega)), ⟨g, (up_ne (by omega)).trans h4⟩, ⟨a1, a2, x, (up_ne (by omega)).trans h5⟩, ⟨mo, sl, sh, (up_ne (by omega)).trans h6⟩, ⟨z1, z2, z3, z4, z5, z6, z7, z8, (up_ne (by omega)).trans h7⟩, ⟨o, b, ts, sm_fr h8 (fun q q1 q2 => up_ne (by omega))⟩, ⟨na, ba, ea, fz', ?_⟩⟩
  obtain ⟨e1, e2, e3, e4⟩ := h9
  refine ⟨(up_ne (by omega)).trans e1, (up_ne (by omega)).trans e2, up_self, fun j hj => ?_⟩
  obtain ⟨k1, k2, k3, k4, k5, k6, k7, k8⟩ := e4 j hj
  exact ⟨k1, k2, k3, k4, (up_ne (by omega)).trans k5, (up_ne (by omega)).trans k6, (up_ne (by omega)).trans k7, (up_ne (by omega)).trans k8⟩
theorem cv_67 {j : Nat} {g' : Nat → Int64} (hj : j < 6) (h : cv_m mem f n pt W K Y F O G s lat S P N t) : cv_m (up_m mem (f + 67 + 3 * j) (la_o 9 g')) f n pt W K Y F O G s lat S P (va_up N j g') t := by
  obtain ⟨h1, h2, h3, ⟨g, h4⟩, ⟨a1, a2, x, h5⟩, ⟨mo, sl, sh, h6⟩, ⟨z1, z2, z3, z4, z5, z6, z7, z8, h7⟩, ⟨o, b, ts, h8⟩, ⟨na, ba, ea, fz, h9⟩⟩ := h
  refine ⟨(up_ne (by omega)).trans h1, cv_R_fr h2 (fun q hq => up_ne (by rcases hq with rfl | ⟨i, hi, rfl⟩ <;> omega)), ⟨(up_ne (by omega)).trans h3.1, fun i hi => ?_⟩, ⟨g, (up_ne (by omega)).trans h4⟩, ⟨a1, a2, x, (up_ne (by omega)).trans h5⟩, ⟨mo, sl, sh, (up_ne (by omega)).trans h6⟩, ⟨z1, z2, z3, z4, z5, z6, z7, z8, (up_ne (by omega)).trans h7⟩, ⟨o, b, ts, sm_fr h8 (fun q q1 q2 => up_ne (by omega))⟩, ⟨na, ba, ea, fz, ev_fr h9 (fun q q1 q2 => up_ne (by omega))⟩⟩
  obtain ⟨k1, k2⟩ := h3.2 i hi
  refine ⟨(up_ne (by omega)).trans k1, ?_⟩
  by_cases hij : i = j
  · subst hij; rw [va_up_self]; exact up_self
  · rw [va_up_ne _ _ hij]; exact (up_ne (by omega)).trans k2
theorem cv_se {b0 b1 b2 c1 c2 : Int32} {y : E8} {q : Sec} (hn : n < 6) (h : cv_m mem f n pt W K Y F O G s lat S P N t) : cv_m (up_m (up_m (up_m mem (f + 4) (eo_e c1.toInt64 c2.toInt64 y)) (f + 65 + 3 * n) (sx_o q)) f (fb_o f (n + 1) false W K Y F O G s lat)) f (n + 1) false W K Y F O G s lat (va_up S n q) P N t := by
  have h' := cv_4 (c1 := c1.toInt64) (c2 := c2.toInt64) (y := y) h
  refine cv_fb (n := n) (pt := pt) (W := W) (K := K) (Y := Y) (F := F) (O := O) (G := G) (s := s) (lat := lat) ?_
  obtain ⟨h1, h2, h3, ⟨g, h4⟩, ⟨a1, a2, x, h5⟩, ⟨mo, sl, sh, h6⟩, ⟨z1, z2, z3, z4, z5, z6, z7, z8, h7⟩, ⟨o, b, ts, h8⟩, ⟨na, ba, ea, fz, h9⟩⟩ := h'
  generalize up_m mem (f + 4) (eo_e c1.toInt64 c2.toInt64 y) = M1 at *
  refine ⟨(up_ne (by omega)).trans h1, ⟨(up_ne (by omega)).trans h2.1, fun i hi => ?_⟩, ⟨(up_ne (by omega)).trans h3.1, fun i hi => ⟨(up_ne (by omega)).trans (h3.2 i hi).1, (up_ne (by omega)).trans (h3.2 i hi).2⟩⟩, ⟨g, (up_ne (by omega)).trans h4⟩, ⟨a1, a2, x, (up_ne (by omega)).trans h5⟩, ⟨mo, sl, sh, (up_ne (by omega)).trans h6⟩, ⟨z1, z2, z3, z4, z5, z6, z7, z8, (up_ne (by omega)).trans h7⟩, ⟨o, b, ts, sm_fr h8 (fun q q1 q2 => up_ne (by omega))⟩, ⟨na, ba, ea, fz, ev_fr h9 (fun q q1 q2 => up_ne (by omega))⟩⟩
  by_cases hij : i = n
  · subst hij; rw [va_up_self]; exact up_self
  · rw [va_up_ne _ _ hij]; exact (up_ne (by omega)).trans (h2.2 i hi)
end VW
section VM
variable {mem mem' : Mem} {m n : Nat} {pt : Bool} {W K F s G : Nat} {O : Int32} {Y : Nat} {cm : Int64} {fa hd : Nat → Int32} {fc fp : Nat → Int64} {fo : Nat → Int32} {fs : Nat → Int64} {fh : Nat → Int32} {fy fn : Nat → Int64}
theorem mv_fr (h : mv_m mem m n pt W K F s G O Y cm fa hd fc fp fo fs fh fy fn) (hfr : ∀ q, m ≤ q → q < m + 19 → mem' q = mem q) : mv_m mem' m n pt W K F s G O Y cm fa hd fc fp fo fs fh fy fn := by
  obtain ⟨⟨kn, nm, ns, to, h1⟩, h2, h3, h4, h5, h6, h7, ⟨g8, h8⟩, ⟨g9, h9⟩, h10, ⟨g11, h11⟩, ⟨g12, h12⟩, h13, h14, h15, ⟨g16, h16⟩⟩ := h
  exact ⟨⟨kn, nm, ns, to, (hfr _ (by omega) (by omega)).trans h1⟩, (hfr _ (by omega) (by omega)).trans h2, (hfr _ (by omega) (by omega)).trans h3, (hfr _ (by omega) (by omega)).trans h4, (hfr _ (by omega) (by omega)).trans h5, (hfr _ (by omega) (by omega)).trans h6, (hfr _ (by omega) (by omega)).trans h7, ⟨g8, (hfr _ (by omega) (by omega)).trans h8⟩, ⟨g9, (hfr _ (by omega) (by omega)).trans h9⟩, ea_fr h10 (fun q q1 q2 => hfr q (by omega) (by omega)), ⟨g11, (hfr _ (by omega) (by omega)).trans h11⟩, ⟨g12, (hfr _ (by omega) (by omega)).trans h12⟩, (hfr _ (by omega) (by omega)).trans h13, (hfr _ (by omega) (by omega)).trans h14, (hfr _ (by omega) (by omega)).trans h15, ⟨g16, (hfr _ (by omega) (by omega)).trans h16⟩⟩
end VM

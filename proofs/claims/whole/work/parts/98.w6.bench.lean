/-- the sections that are made -/
def rk_f (f i : Nat) : Nat → Option Nat := fun j => if j < i then some (f + 65 + 3 * j) else none
def pk_f (f i : Nat) : Nat → Option Nat := fun j => if j < i then some (f + 66 + 3 * j) else none
theorem rk_up {f i : Nat} : va_up (rk_f f i) i (some (f + 65 + 3 * i)) = rk_f f (i + 1) := by
  funext j
  unfold va_up rk_f
  by_cases h : j = i
  · rw [if_pos h, if_pos (by omega), h]
  · rw [if_neg h]
    by_cases h2 : j < i
    · rw [if_pos h2, if_pos (by omega)]
    · rw [if_neg h2, if_neg (by omega)]
theorem pk_up {f i : Nat} : va_up (pk_f f i) i (some (f + 66 + 3 * i)) = pk_f f (i + 1) := by
  funext j
  unfold va_up pk_f
  by_cases h : j = i
  · rw [if_pos h, if_pos (by omega), h]
  · rw [if_neg h]
    by_cases h2 : j < i
    · rw [if_pos h2, if_pos (by omega)]
    · rw [if_neg h2, if_neg (by omega)]
def z_S : Sec := (0, 0, 0, 0, 0, 0, 0, false, 0, 0, 0, 0, 0)
theorem lb_F {f n : Nat} {vs : List Value} (hv0 : vs[0]? = some (.ref (f + 1))) (hv1 : vs[1]? = some (.ref (f + 2))) : ∀ (k i so : Nat) (mem : Mem), i + k = 6 → mem f = some (.inl (7, vs)) → mem (f + 1) = some (ra_o 3 6 (rk_f f i)) → mem (f + 2) = some (ra_o 4 6 (pk_f f i)) → ∃ m', bx (19 * k + (n + 40)) 7 125 [some (.ref f), some (.int (nI i))] [] mem (f + 65 + 3 * i) so = some (m', f + 83, so + 30 * k) ∧
    (m' (f + 1) = some (ra_o 3 6 (rk_f f 6)) ∧ m' (f + 2) = some (ra_o 4 6 (pk_f f 6)) ∧ (∀ j, i ≤ j → j < 6 → m' (f + 65 + 3 * j) = some (sx_o z_S) ∧ m' (f + 66 + 3 * j) = some (pl_o (f + 67 + 3 * j) 0 0 0 0 0 0 0) ∧ m' (f + 67 + 3 * j) = some (la_o 9 (fun _ => 0))) ∧ ∀ q, q ≠ f + 1 → q ≠ f + 2 → (q < f + 65 + 3 * i ∨ f + 83 ≤ q) → m' q = mem q) := by
  intro k
  induction k with
  | zero =>
    intro i so mem hi h0 h1 h2
    have hi6 : i = 6 := by omega
    subst hi6
    refine eE (bx_il rfl rfl (bx_bp rfl (bx_ig rfl (b := true) (by decide +kernel) (bx_R rfl)))) ?_
    exact ⟨mem, rfl, h1, h2, fun j a b => by omega, fun q _ _ _ => rfl⟩
  | succ k ih =>
    intro i so mem hi h0 h1 h2
    have hci : ci_v .ge (nI i) (nI 6) = false := by
      show decide (nI 6 ≤ nI i) = false
      exact decide_eq_false (nI_ge (a := i) (b := 6) (by omega) (by omega))
    refine eE (bx_il rfl rfl (bx_bp rfl (bx_ig rfl hci (bx_l0 rfl rfl (bx_gf rfl h0 hv0 (bx_il rfl rfl (bx_nw rfl (bx_dp rfl (bx_in rfl (by decide) (Nat.le_of_ble_eq_true rfl) r_Se rfl))))))))) ?_
    refine eE (bx_as rfl ((up_ne (show f + 1 ≠ f + 65 + 3 * i by omega)).trans h1) up_self (vp_in_nI (by omega) (by omega)) rfl) ?_
    rw [nI_clamp (by omega), rk_up]
    refine eE (bx_l0 rfl rfl (bx_gf rfl ((up_ne (show f ≠ f + 1 by omega)).trans ((up_ne (show f ≠ f + 65 + 3 * i by omega)).trans h0)) hv1 (bx_il rfl rfl (bx_nw rfl (bx_dp rfl rfl))))) ?_
    refine bx_inE rfl (by decide) (Nat.le_of_ble_eq_true rfl) (r_Pl (a := f + 65 + 3 * i + 1) (z := f + 65 + 3 * i + 1 + 1) up_self (by omega)) ?_
    rintro mem1 ⟨⟨g1, g2⟩, g3⟩
    have k1 : mem1 (f + 2) = some (ra_o 4 6 (pk_f f i)) := (g3 _ (by omega) (by omega)).trans ((up_ne (by omega)).trans ((up_ne (by omega)).trans ((up_ne (by omega)).trans h2)))
    rw [show f + 65 + 3 * i + 1 = f + 66 + 3 * i by omega] at *
    refine eE (bx_as rfl k1 g2 (vp_in_nI (by omega) (by omega)) (bx_ii rfl (bx_gt rfl rfl))) ?_
    rw [nI_clamp (by omega), pk_up]
    have hlow : ∀ q, q ≠ f + 1 → q < f + 65 + 3 * i ∨ f + 83 ≤ q → mem1 q = mem q := fun q a b => (g3 q (by omega) (by omega)).trans ((up_ne (by omega)).trans ((up_ne a).trans (up_ne (by omega))))
    obtain ⟨m', e1, e2, e3, e4, e5⟩ := ih (i + 1) (so + nf_m 5 + 0 + nf_m 3 + 9) (up_m mem1 (f + 2) (ra_o 4 6 (pk_f f (i + 1)))) (by omega) ((up_ne (by omega)).trans ((hlow f (by omega) (by omega)).trans h0)) ((up_ne (by omega)).trans ((g3 _ (by omega) (by omega)).trans ((up_ne (by omega)).trans up_self))) up_self
    refine ⟨m', ?_, e2, e3, fun j a b => ?_, fun q a b c => ?_⟩
    · have hso : so + nf_m 5 + 0 + nf_m 3 + 9 + 30 * k = so + 30 * (k + 1) := by
        show so + 13 + 0 + 8 + 9 + 30 * k = _
        omega
      rw [hso, show f + 65 + 3 * (i + 1) = f + 66 + 3 * i + 1 + 1 by omega, show 19 * k + (n + 40) = 19 * (k + 1) + (n + 21) by omega] at e1
      exact e1
    · by_cases hj : j = i
      · subst hj
        have hq : ∀ q, f + 65 + 3 * j ≤ q → q < f + 68 + 3 * j → m' q = mem1 q := fun q q1 q2 => (e5 q (by omega) (by omega) (by omega)).trans (up_ne (by omega))
        refine ⟨(hq _ (by omega) (by omega)).trans ((g3 _ (by omega) (by omega)).trans ((up_ne (by omega)).trans ((up_ne (by omega)).trans up_self))), (hq _ (by omega) (by omega)).trans (g2.trans ?_), (hq _ (by omega) (by omega)).trans ?_⟩
        · rw [show f + 66 + 3 * j + 1 = f + 67 + 3 * j by omega]
        · rw [show f + 67 + 3 * j = f + 66 + 3 * j + 1 by omega]
          exact g1
      · exact e4 j (by omega) b
    · exact (e5 q a b (by omega)).trans ((up_ne b).trans (hlow q a (by omega)))
theorem up_s2 {M : Mem} {a : Nat} {o o' : mE} : up_m (up_m M a o) a o' = up_m M a o' := by
  funext b
  unfold up_m
  by_cases hb : b = a
  · rw [if_pos hb, if_pos hb]
  · rw [if_neg hb, if_neg hb, if_neg hb]
theorem bx_s2 {n i pc z so a : Nat} {lv : LVs} {st : List Value} {M : Mem} {o o' : mE} {R : Option (Mem × Nat × Nat)} (h : bx n i pc lv st (up_m M a o') z so = R) : bx n i pc lv st (up_m (up_m M a o) a o') z so = R := by
  rw [up_s2]
  exact h
theorem r_F {n f : Nat} {mem : Mem} (h : mem f = some (.inl (7, zf_m 7))) : ∃ mem1, bx (n + 300) 7 0 (pad_v (bt_m 7).2.2.1 [.ref f]) [] mem (f + 1) 0 = some (mem1, f + 83, 2135) ∧ ((∃ S P N t, cv_m mem1 f 0 false 0 0 0 0 0 0 0 0 S P N t) ∧ ∀ q, q < f ∨ f + 83 ≤ q → mem1 q = mem q) := by
  rw [show n + 300 = 19 * 6 + (n + 186) by omega]
  refine eE (bx_l0 rfl rfl (bx_ob rfl (bx_l0 rfl rfl (bx_bp rfl (bx_nq rfl (by decide +kernel) (N := 6) (by decide +kernel) (bx_pf rfl ((up_ne (show f ≠ f + 1 by omega)).trans h) rfl rfl rfl rfl)))))) ?_
  refine eE (bx_l0 rfl rfl (bx_bp rfl (bx_nq rfl (by decide +kernel) (N := 6) (by decide +kernel) (bx_pf rfl ((up_ne (show f ≠ f + 1 + 1 by omega)).trans up_self) rfl rfl rfl (bx_sw (by omega) rfl))))) ?_
  refine eE (bx_l0 rfl rfl (bx_ic rfl (bx_na rfl (by decide +kernel) (N := 5) (by decide +kernel) (bx_pf rfl ((up_ne (show f ≠ f + 1 + 1 + 1 by omega)).trans up_self) rfl rfl rfl (bx_sw (by omega) rfl))))) ?_
  refine eE (bx_l0 rfl rfl (bx_nw rfl (bx_dp rfl (bx_in rfl (by decide) (Nat.le_of_ble_eq_true rfl) r_Ec (bx_pf rfl ((up_ne (show f ≠ f + 1 + 1 + 1 + 1 by omega)).trans up_self) rfl rfl rfl (bx_sw (by omega) rfl)))))) ?_
  refine eE (bx_l0 rfl rfl (bx_nw rfl (bx_dp rfl (bx_in rfl (by decide) (Nat.le_of_ble_eq_true rfl) r_Bo (bx_pf rfl ((up_ne (show f ≠ f + 1 + 1 + 1 + 1 + 1 by omega)).trans up_self) rfl rfl rfl (bx_sw (by omega) rfl)))))) ?_
  refine eE (bx_l0 rfl rfl (bx_nw rfl (bx_dp rfl rfl))) ?_
  refine bx_inE rfl (by decide) (Nat.le_of_ble_eq_true rfl) (r_Sr (e := f + 6) up_self) ?_
  rintro m1 ⟨⟨a1, a2⟩, a3⟩
  have a0 := (a3 f (by omega)).trans ((up_ne (by omega)).trans up_self)
  refine eE (bx_pf rfl a0 rfl rfl rfl (bx_l0 rfl rfl (bx_nw rfl (bx_dp rfl rfl)))) ?_
  refine bx_inE rfl (by decide) (Nat.le_of_ble_eq_true rfl) (r_Ex (x := f + 34) up_self) ?_
  rintro m2 ⟨b1, b2⟩
  have b0 := (b2 f (by omega)).trans ((up_ne (by omega)).trans up_self)
  refine eE (bx_pf rfl b0 rfl rfl rfl rfl) ?_
  refine eE (bx_l0 rfl rfl (bx_ic rfl (bx_pf rfl up_self rfl rfl rfl (bx_s2 rfl)))) ?_
  refine eE (bx_l0 rfl rfl (bx_ic rfl (bx_pf rfl up_self rfl rfl rfl (bx_s2 rfl)))) ?_
  refine eE (bx_l0 rfl rfl (bx_ic rfl (bx_pf rfl up_self rfl rfl rfl (bx_s2 rfl)))) ?_
  refine eE (bx_l0 rfl rfl (bx_ic rfl (bx_pf rfl up_self rfl rfl rfl (bx_s2 rfl)))) ?_
  refine eE (bx_l0 rfl rfl (bx_ic rfl (bx_pf rfl up_self rfl rfl rfl (bx_s2 rfl)))) ?_
  refine eE (bx_l0 rfl rfl (bx_ic rfl (bx_pf rfl up_self rfl rfl rfl (bx_s2 rfl)))) ?_
  refine eE (bx_l0 rfl rfl (bx_ic rfl (bx_pf rfl up_self rfl rfl rfl (bx_s2 rfl)))) ?_
  refine eE (bx_l0 rfl rfl (bx_ic rfl (bx_pf rfl up_self rfl rfl rfl (bx_s2 rfl)))) ?_
  refine eE (bx_l0 rfl rfl (bx_ic rfl (bx_pf rfl up_self rfl rfl rfl (bx_s2 rfl)))) ?_
  refine eE (bx_l0 rfl rfl (bx_lc rfl (bx_pf rfl up_self rfl rfl rfl (bx_s2 (bx_ic rfl (bx_is rfl rfl)))))) ?_
  have hb : ∀ q, q ≠ f → q < f + 6 → m2 q = m1 q := fun q q1 q2 => (b2 q (by omega)).trans ((up_ne (by omega)).trans (up_ne q1))
  have ha : ∀ q, f + 6 ≤ q → q < f + 34 → m2 q = m1 q := fun q q1 q2 => (b2 q (by omega)).trans ((up_ne (by omega)).trans (up_ne (by omega)))
  have c1 : m2 (f + 1) = some (ra_o 3 6 (rk_f f 0)) := (hb _ (by omega) (by omega)).trans ((a3 _ (by omega)).trans ((up_ne (by omega)).trans ((up_ne (by omega)).trans ((up_ne (by omega)).trans ((up_ne (by omega)).trans ((up_ne (by omega)).trans ((up_ne (by omega)).trans (up_self.trans (by rw [show rk_f f 0 = fun _ => none from funext fun j => if_neg (by omega)]; rfl)))))))))
  have c2 : m2 (f + 2) = some (ra_o 4 6 (pk_f f 0)) := (hb _ (by omega) (by omega)).trans ((a3 _ (by omega)).trans ((up_ne (by omega)).trans ((up_ne (by omega)).trans ((up_ne (by omega)).trans ((up_ne (by omega)).trans ((up_ne (by omega)).trans (up_self.trans (by rw [show pk_f f 0 = fun _ => none from funext fun j => if_neg (by omega)]; rfl))))))))
  have c3 : m2 (f + 3) = some (la_o 5 (fun _ => 0)) := (hb _ (by omega) (by omega)).trans ((a3 _ (by omega)).trans ((up_ne (by omega)).trans ((up_ne (by omega)).trans ((up_ne (by omega)).trans ((up_ne (by omega)).trans up_self)))))
  have c4 : m2 (f + 4) = some (eo_e 0 0 (0, 0, 0, 0, 0, 0, 0, 0)) := (hb _ (by omega) (by omega)).trans ((a3 _ (by omega)).trans ((up_ne (by omega)).trans ((up_ne (by omega)).trans ((up_ne (by omega)).trans up_self))))
  have c5 : m2 (f + 5) = some (bo_o 0 0 0) := (hb _ (by omega) (by omega)).trans ((a3 _ (by omega)).trans ((up_ne (by omega)).trans ((up_ne (by omega)).trans up_self)))
  obtain ⟨m3, e1, e2, e3, e4, e5⟩ := lb_F (f := f) (n := n + 80) rfl rfl 6 0 1955 (up_m m2 f (fb_o f 0 false 0 0 0 0 0 0 0 0)) rfl up_self ((up_ne (by omega)).trans c1) ((up_ne (by omega)).trans c2)
  have hm : ∀ q, q ≠ f → q ≠ f + 1 → q ≠ f + 2 → (q < f + 65 ∨ f + 83 ≤ q) → m3 q = m2 q := fun q q0 q1 q2 q3 => (e5 q q1 q2 (by omega)).trans (up_ne q0)
  refine ⟨m3, e1, ⟨fun _ => z_S, fun _ => (0, 0, 0, 0, 0, 0, 0), fun _ _ => 0, (fun _ _ => 0, fun _ _ => 0, fun _ _ => 0), ?_⟩, fun q hq => ?_⟩
  · refine ⟨(e5 f (by omega) (by omega) (by omega)).trans up_self, ⟨e2, fun j hj => (e4 j (by omega) hj).1⟩, ⟨e3, fun j hj => (e4 j (by omega) hj).2⟩, ⟨_, (hm _ (by omega) (by omega) (by omega) (by omega)).trans c3⟩, ⟨0, 0, _, (hm _ (by omega) (by omega) (by omega) (by omega)).trans c4⟩, ⟨0, 0, 0, (hm _ (by omega) (by omega) (by omega) (by omega)).trans c5⟩, ⟨0, 0, 0, 0, 0, 0, 0, 0, (hm _ (by omega) (by omega) (by omega) (by omega)).trans ((ha _ (by omega) (by omega)).trans a1)⟩, ⟨fun _ => 0, fun _ => 0, (fun _ _ => 0, fun _ _ => 0, fun _ _ => 0), sm_fr a2 (fun q q1 q2 => (hm q (by omega) (by omega) (by omega) (by omega)).trans (ha q (by omega) (by omega)))⟩, ⟨_, _, _, _, ev_fr b1 (fun q q1 q2 => hm q (by omega) (by omega) (by omega) (by omega))⟩⟩
  · refine (hm q (by omega) (by omega) (by omega) (by omega)).trans ((b2 q (by omega)).trans ((up_ne (by omega)).trans ((up_ne (by omega)).trans ((a3 q (by omega)).trans ?_))))
    repeat (refine (up_ne (by omega)).trans ?_)
    rfl

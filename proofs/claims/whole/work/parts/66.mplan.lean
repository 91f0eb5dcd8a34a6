/-- the trial without what it writes -/
def tz_s (S : Nat → Sec) (o : Nat → Nat) (w way : Int32) : Nat → Nat → Int64 × Int64 × Nat → Option (Int64 × Int64 × Nat)
  | 0, _, t => some t
  | k + 1, j, t => if xq_b (S (o j)) w way t.1 t.2.1 = true then tz_s S o w way k (j + 1) (xq_m (S (o j)) w way t.1 t.2.1, xq_l (S (o j)) w way t.1 t.2.1, t.2.2 + xq_n (S (o j)) w way t.1 t.2.1) else none
/-- what it writes -/
def tv_f (S : Nat → Sec) (fc : Nat → Int64) (o : Nat → Nat) (w way : Int32) : Nat → Nat → Int64 → Int64 → (Nat → Int64) → (Nat → Int64)
  | 0, _, _, _, tr => tr
  | k + 1, j, mi, si, tr => tv_f S fc o w way k (j + 1) (xq_m (S (o j)) w way mi si) (xq_l (S (o j)) w way mi si) (tw_9 tr j (o j) fc (xq_n (S (o j)) w way mi si) (xq_m (S (o j)) w way mi si) (xq_l (S (o j)) w way mi si))
section TZ
variable {S : Nat → Sec} {fc : Nat → Int64} {o : Nat → Nat} {w way : Int32}
theorem ty_n : ∀ (k j : Nat) (t : TYS), tz_s S o w way k j (t.1, t.2.1, t.2.2.1) = none → ty_s S fc o w way k j t = none := by
  intro k
  induction k with
  | zero => intro j t h; cases h
  | succ k ih =>
    intro j t h
    rw [tz_s] at h
    rw [ty_s]
    dsimp only at h
    by_cases hx : xq_b (S (o j)) w way t.1 t.2.1 = true
    · rw [if_pos hx] at h ⊢
      exact ih (j + 1) _ h
    · rw [if_neg hx]
theorem ty_y : ∀ (k j : Nat) (t : TYS) (r : Int64 × Int64 × Nat), tz_s S o w way k j (t.1, t.2.1, t.2.2.1) = some r → ty_s S fc o w way k j t = some (r.1, r.2.1, r.2.2, tv_f S fc o w way k j t.1 t.2.1 t.2.2.2) := by
  intro k
  induction k with
  | zero => intro j t r h; cases h; rfl
  | succ k ih =>
    intro j t r h
    rw [tz_s] at h
    rw [ty_s, tv_f]
    dsimp only at h
    by_cases hx : xq_b (S (o j)) w way t.1 t.2.1 = true
    · rw [if_pos hx] at h ⊢
      exact ih (j + 1) _ r h
    · rw [if_neg hx] at h
      cases h
theorem tw_lo {tr : Nat → Int64} {j c h x : Nat} {nm ns : Int64} (hx : x < 9 * j) : tw_9 tr j c fc h nm ns x = tr x := by
  unfold tw_9
  rw [vl_ne (by omega), vl_ne (by omega), vl_ne (by omega)]
  unfold cf_l
  rw [if_neg (by omega), vl_ne (by omega)]
theorem tv_lo : ∀ (k j : Nat) (mi si : Int64) (tr : Nat → Int64) (x : Nat), x < 9 * j → tv_f S fc o w way k j mi si tr x = tr x := by
  intro k
  induction k with
  | zero => intro j mi si tr x hx; rfl
  | succ k ih =>
    intro j mi si tr x hx
    rw [tv_f, ih (j + 1) _ _ _ x (by omega), tw_lo hx]
/-- the last SLIP -/
theorem tv_la : ∀ (k j : Nat) (t r : Int64 × Int64 × Nat) (tr : Nat → Int64), 1 ≤ k → tz_s S o w way k j t = some r → tv_f S fc o w way k j t.1 t.2.1 tr (9 * (j + k) - 1) = r.2.1 := by
  intro k
  induction k with
  | zero => intro j t r tr hk; omega
  | succ k ih =>
    intro j t r tr hk h
    rw [tz_s] at h
    rw [tv_f]
    by_cases hx : xq_b (S (o j)) w way t.1 t.2.1 = true
    · rw [if_pos hx] at h
      by_cases k0 : k = 0
      · subst k0
        rw [tz_s] at h
        cases h
        rw [tv_f, tw_9]
        have : 9 * (j + (0 + 1)) - 1 = 9 * j + 8 := by omega
        rw [this, vl_se]
      · have := ih (j + 1) _ r (tw_9 tr j (o j) fc (xq_n (S (o j)) w way t.1 t.2.1) (xq_m (S (o j)) w way t.1 t.2.1) (xq_l (S (o j)) w way t.1 t.2.1)) (by omega) h
        rw [← this]
        congr 2
        omega
    · rw [if_neg hx] at h
      cases h
theorem tz_H : ∀ (k j : Nat) (t r : Int64 × Int64 × Nat), tz_s S o w way k j t = some r → t.2.2 ≤ r.2.2 ∧ r.2.2 ≤ t.2.2 + 12 * k := by
  intro k
  induction k with
  | zero => intro j t r h; cases h; exact ⟨Nat.le_refl _, Nat.le_refl _⟩
  | succ k ih =>
    intro j t r h
    rw [tz_s] at h
    by_cases hx : xq_b (S (o j)) w way t.1 t.2.1 = true
    · rw [if_pos hx] at h
      have := ih (j + 1) _ r h
      dsimp only at this
      have h12 : xq_n (S (o j)) w way t.1 t.2.1 ≤ 12 := by
        unfold xq_b at hx
        simp only [Bool.and_eq_true, decide_eq_true_eq] at hx
        exact hx.2
      omega
    · rw [if_neg hx] at h
      cases h
end TZ
/-- the trial with FINE f -/
def tf_z (S : Nat → Sec) (o : Nat → Nat) (W K : Nat) (way : Int32) (n f : Nat) : Option (Int64 × Int64 × Nat) := if K + f < W then tz_s S o (nI W) way n 0 (m0_f K f, 0, 0) else none
def hz_f (S : Nat → Sec) (o : Nat → Nat) (W K : Nat) (way : Int32) (n f : Nat) : Int32 := match tf_z S o W K way n f with
  | none => -1
  | some t => nI t.2.2
def sz_f (S : Nat → Sec) (o : Nat → Nat) (W K : Nat) (way : Int32) (n f : Nat) : Int64 := match tf_z S o W K way n f with
  | none => 0
  | some t => t.2.1
/-- what the class and the reference keep of the best plan -/
def pr_r (S : Nat → Sec) (fc : Nat → Int64) (n W K : Nat) (way : Int32) (u : JS) (G : Nat) (O : Int32) (F : Nat) (fp : Nat → Int64) : Prop :=
  u.1 = G ∧ (G = 0 → u.2.1 = -1) ∧ (0 < G → u.2.1 = O ∧ u.2.2.1 = nI F ∧ F < 25 ∧ ∃ (bo : Nat → Nat) (t : Int64 × Int64 × Nat) (tr0 : Nat → Int64), (∀ i, i < n → u.2.2.2.2 i = nI (bo i) ∧ bo i < n) ∧ tf_z S bo W K way n F = some t ∧ t.2.2 ≤ F ∧ O = nI (F - t.2.2) ∧ u.2.2.2.1 = t.2.1 ∧ ∀ x, x < 9 * n → fp x = tv_f S fc bo (nI W) way n 0 (m0_f K F) 0 tr0 x)
section PR
variable {S : Nat → Sec} {fc : Nat → Int64} {n W K : Nat} {way : Int32} {u : JS} {G : Nat} {O : Int32} {F : Nat} {fp : Nat → Int64} {o : Nat → Int32} {oo : Nat → Nat} {f : Nat}
theorem pr_no {h : Int32} {sl : Int64} (hh : h = -1 ∨ nI f - h < 0) : j1_s n o h sl f u = u := by
  unfold j1_s
  rcases hh with hh | hh
  · rw [if_pos hh]
  · by_cases h1 : h = -1
    · rw [if_pos h1]
    · rw [if_neg h1, if_pos hh]
/-- a good trial: better, or counted alone -/
theorem pr_ye {t : Int64 × Int64 × Nat} {tr0 : Nat → Int64} (hn1 : 1 ≤ n) (hf : f < 25) (hod : ∀ i, i < n → o i = nI (oo i) ∧ oo i < n) (hz : tf_z S oo W K way n f = some t) (hH : t.2.2 ≤ f) (hr : pr_r S fc n W K way u G O F fp) :
    (mb_p n G O (nI f - nI t.2.2) (tv_f S fc oo (nI W) way n 0 (m0_f K f) 0 tr0) fp → pr_r S fc n W K way (j1_s n o (nI t.2.2) t.2.1 f u) (G + 1) (nI f - nI t.2.2) f (fl_l (tv_f S fc oo (nI W) way n 0 (m0_f K f) 0 tr0) fp (9 * n))) ∧ (¬ mb_p n G O (nI f - nI t.2.2) (tv_f S fc oo (nI W) way n 0 (m0_f K f) 0 tr0) fp → pr_r S fc n W K way (j1_s n o (nI t.2.2) t.2.1 f u) (G + 1) O F fp) := by
  obtain ⟨r1, r2, r3⟩ := hr
  have hzz : tz_s S oo (nI W) way n 0 (m0_f K f, 0, 0) = some t := by
    unfold tf_z at hz
    by_cases hc : K + f < W
    · rw [if_pos hc] at hz; exact hz
    · rw [if_neg hc] at hz; cases hz
  have hsub : nI f - nI t.2.2 = nI (f - t.2.2) := pk_sub hH
  have hla := tv_la (fc := fc) n 0 (m0_f K f, 0, 0) t tr0 hn1 hzz
  rw [Nat.zero_add] at hla
  dsimp only at hla
  have c0 : ¬ nI t.2.2 = -1 := nI_nn (by omega)
  have c1 : ¬ nI (f - t.2.2) < 0 := nI_pos (by omega)
  have hj : j1_s n o (nI t.2.2) t.2.1 f u = if nI (f - t.2.2) < u.2.1 ∨ (nI (f - t.2.2) = u.2.1 ∧ u.2.2.2.1 ≤ t.2.1) then (u.1 + 1, u.2) else (u.1 + 1, nI (f - t.2.2), nI f, t.2.1, cpy0 o u.2.2.2.2 n) := by
    unfold j1_s
    rw [if_neg c0, hsub, if_neg c1]
  rw [hj, hsub]
  have hnew : pr_r S fc n W K way (u.1 + 1, nI (f - t.2.2), nI f, t.2.1, cpy0 o u.2.2.2.2 n) (G + 1) (nI (f - t.2.2)) f (fl_l (tv_f S fc oo (nI W) way n 0 (m0_f K f) 0 tr0) fp (9 * n)) := by
    refine ⟨by rw [r1], fun h => by omega, fun _ => ⟨rfl, rfl, hf, oo, t, tr0, fun i hi => ?_, hz, hH, rfl, rfl, fun x hx => ?_⟩⟩
    · have : cpy0 o u.2.2.2.2 n i = o i := if_pos hi
      exact ⟨this.trans (hod i hi).1, (hod i hi).2⟩
    · exact if_pos hx
  by_cases hG : G = 0
  · have hu := r2 hG
    have hc : ¬ (nI (f - t.2.2) < u.2.1 ∨ (nI (f - t.2.2) = u.2.1 ∧ u.2.2.2.1 ≤ t.2.1)) := by
      rw [hu]
      rintro (h | ⟨h, -⟩)
      · exact c1 (Int32.lt_trans h (by decide))
      · exact nI_nn (by omega) h
    rw [if_neg hc]
    exact ⟨fun _ => hnew, fun h => absurd (Or.inl hG) h⟩
  · obtain ⟨s1, s2, s3, bo, t', tr1, s4, s5, s6, s7, s8, s9⟩ := r3 (by omega)
    have hzz' : tz_s S bo (nI W) way n 0 (m0_f K F, 0, 0) = some t' := by
      unfold tf_z at s5
      by_cases hc : K + F < W
      · rw [if_pos hc] at s5; exact s5
      · rw [if_neg hc] at s5; cases s5
    have hla' := tv_la (fc := fc) n 0 (m0_f K F, 0, 0) t' tr1 hn1 hzz'
    rw [Nat.zero_add] at hla'
    dsimp only at hla'
    have hfp : fp (9 * n - 1) = u.2.2.2.1 := by rw [s9 _ (by omega), hla', s8]
    have hiff : mb_p n G O (nI (f - t.2.2)) (tv_f S fc oo (nI W) way n 0 (m0_f K f) 0 tr0) fp ↔ ¬ (nI (f - t.2.2) < u.2.1 ∨ (nI (f - t.2.2) = u.2.1 ∧ u.2.2.2.1 ≤ t.2.1)) := by
      unfold mb_p
      rw [hla, hfp, s1]
      constructor
      · rintro (h | h | ⟨h1, h2⟩)
        · exact absurd h hG
        · rintro (q | ⟨q, -⟩)
          · exact Int32.lt_irrefl (Int32.lt_trans h q)
          · rw [q] at h; exact Int32.lt_irrefl h
        · rintro (q | ⟨q, q2⟩)
          · rw [h1] at q; exact Int32.lt_irrefl q
          · exact Int64.not_lt.mpr q2 h2
      · intro h
        by_cases a : O < nI (f - t.2.2)
        · exact Or.inr (Or.inl a)
        · have b : ¬ nI (f - t.2.2) < O := fun q => h (Or.inl q)
          have e : nI (f - t.2.2) = O := Int32.le_antisymm (Int32.not_lt.mp a) (Int32.not_lt.mp b)
          exact Or.inr (Or.inr ⟨e, Int64.not_le.mp fun q => h (Or.inr ⟨e, q⟩)⟩)
    constructor
    · intro hb
      rw [if_neg (hiff.mp hb)]
      exact hnew
    · intro hb
      have hb' : nI (f - t.2.2) < u.2.1 ∨ (nI (f - t.2.2) = u.2.1 ∧ u.2.2.2.1 ≤ t.2.1) := Classical.byContradiction fun q => hb (hiff.mpr q)
      rw [if_pos hb']
      exact ⟨by rw [r1], fun h => by omega, fun _ => ⟨s1, s2, s3, bo, t', tr1, s4, s5, s6, s7, s8, s9⟩⟩
end PR

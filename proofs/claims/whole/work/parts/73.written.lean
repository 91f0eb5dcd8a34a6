section WT
variable {S : Nat → Sec} {fa hd : Nat → Int32} {fc : Nat → Int64} {b : Nat → Int32} {bo : Nat → Nat} {w way : Int32}
theorem wp_lo : ∀ (k j : Nat) (t : WS) (x : Nat), x < j → (wp_s S b w way k j t).2.2.1 x = t.2.2.1 x ∧ (wp_s S b w way k j t).2.2.2 x = t.2.2.2 x := by
  intro k
  induction k with
  | zero => intro j t x _; exact ⟨rfl, rfl⟩
  | succ k ih =>
    intro j t x hx
    rw [wp_s]
    obtain ⟨h1, h2⟩ := ih (j + 1) (w1_s (S (b j).toNatClampNeg) (b j) w way j t) x (by omega)
    rw [h1, h2]
    exact ⟨va_up_ne _ _ (by omega), va_up_ne _ _ (by omega)⟩
theorem tw_wr {q : Sec} {c j i : Nat} {mi si : Int64} {tr f : Nat → Int64} (hi : i < 9) (hr : rs_r q fa hd fc c) (hh : q.2.2.2.2.2.2.2.1 = false) : tw_9 tr j c fc (xq_n q w way mi si) (xq_m q w way mi si) (xq_l q w way mi si) (9 * j + i) = wr_n f (nI c) q.2.2.2.2.2.2.2.2.1 q.2.2.2.2.2.2.2.2.2.1 q.2.2.2.2.2.2.2.2.2.2.1 q.2.2.2.2.2.2.2.2.2.2.2.1 q.2.2.2.2.2.2.2.2.2.2.2.2 (nI (xq_n q w way mi si)) (gm_b q.2.2.2.2.2.2.2.2.2.2.2.2 mi) (gs_b q.2.2.2.2.2.2.2.2.2.2.2.1 q.2.2.2.2.2.2.2.2.2.2.2.2 si way) i := by
  obtain ⟨-, -, -, -, -, -, r7⟩ := hr
  obtain ⟨f0, f1, f2, f3, f4⟩ := r7 hh
  have hm : xq_m q w way mi si = up_b (gm_b q.2.2.2.2.2.2.2.2.2.2.2.2 mi) (nI (xq_n q w way mi si)) := rfl
  have hl : xq_l q w way mi si = sl_b (gs_b q.2.2.2.2.2.2.2.2.2.2.2.1 q.2.2.2.2.2.2.2.2.2.2.2.2 si way) (nI (xq_n q w way mi si)) := rfl
  rw [hm, hl]
  generalize xq_n q w way mi si = h
  unfold tw_9 wr_n
  have hcf : ∀ i, i < 5 → cf_l fc (5 * c) (vp_updL tr (9 * j) (nI c).toInt64) (9 * j + 1) 5 (9 * j + 1 + i) = fc (5 * c + i) := by
    intro i hi
    unfold cf_l
    rw [if_pos (by omega)]
    congr 1; omega
  rcases (show i = 0 ∨ i = 1 ∨ i = 2 ∨ i = 3 ∨ i = 4 ∨ i = 5 ∨ i = 6 ∨ i = 7 ∨ i = 8 by omega) with rfl | rfl | rfl | rfl | rfl | rfl | rfl | rfl | rfl
  · rw [vl_ne (by omega), vl_ne (by omega), vl_ne (by omega), cf_l, if_neg (by omega), Nat.add_zero, vl_se, vl_ne (by omega), vl_ne (by omega), vl_ne (by omega), vl_ne (by omega), vl_ne (by omega), vl_ne (by omega), vl_ne (by omega), vl_ne (by omega), vl_se]
  · rw [vl_ne (by omega), vl_ne (by omega), vl_ne (by omega), hcf 0 (by omega), vl_ne (by omega), vl_ne (by omega), vl_ne (by omega), vl_ne (by omega), vl_ne (by omega), vl_ne (by omega), vl_ne (by omega), vl_se]
    exact f0
  · rw [vl_ne (by omega), vl_ne (by omega), vl_ne (by omega), hcf 1 (by omega), vl_ne (by omega), vl_ne (by omega), vl_ne (by omega), vl_ne (by omega), vl_ne (by omega), vl_ne (by omega), vl_se]
    exact f1
  · rw [vl_ne (by omega), vl_ne (by omega), vl_ne (by omega), hcf 2 (by omega), vl_ne (by omega), vl_ne (by omega), vl_ne (by omega), vl_ne (by omega), vl_ne (by omega), vl_se]
    exact f2
  · rw [vl_ne (by omega), vl_ne (by omega), vl_ne (by omega), hcf 3 (by omega), vl_ne (by omega), vl_ne (by omega), vl_ne (by omega), vl_ne (by omega), vl_se]
    exact f3
  · rw [vl_ne (by omega), vl_ne (by omega), vl_ne (by omega), hcf 4 (by omega), vl_ne (by omega), vl_ne (by omega), vl_ne (by omega), vl_se]
    exact f4
  · rw [vl_ne (by omega), vl_ne (by omega), vl_se, vl_ne (by omega), vl_ne (by omega), vl_se]
  · rw [vl_ne (by omega), vl_se, vl_ne (by omega), vl_se]
  · rw [vl_se, vl_se]
theorem wr_6 {f : Nat → Int64} {number mm : Int32} {sum rest norm gain : Int64} {shift : Int32} {mo sl : Int64} : wr_n f number mm sum rest norm gain shift mo sl 6 = shift.toInt64 := by
  unfold wr_n
  rw [vl_ne (by omega), vl_ne (by omega), vl_se]
/-- what the class writes of a plan is what the reference keeps -/
theorem wp_tv : ∀ (k j : Nat) (t : WS) (tr : Nat → Int64), j + k ≤ 6 → (∀ i, j ≤ i → i < j + k → b i = nI (bo i) ∧ bo i < 6 ∧ rs_r (S (bo i)) fa hd fc (bo i) ∧ (S (bo i)).2.2.2.2.2.2.2.1 = false) → ∀ x, j ≤ x → x < j + k → (∀ i, i < 9 → tv_f S fc bo w way k j t.1 t.2.1 tr (9 * x + i) = (wp_s S b w way k j t).2.2.2 x i) ∧ ((wp_s S b w way k j t).2.2.1 x).1 = b x ∧ ∃ h, h ≤ 13 ∧ ((wp_s S b w way k j t).2.2.1 x).2.1 = nI h ∧ tv_f S fc bo w way k j t.1 t.2.1 tr (9 * x + 6) = (nI h).toInt64 := by
  intro k
  induction k with
  | zero => intro j t tr _ _ x h1 h2; omega
  | succ k ih =>
    intro j t tr hj hS x h1 h2
    rw [wp_s, tv_f]
    obtain ⟨e1, e2, e3, e4⟩ := hS j (by omega) (by omega)
    have ecl : (b j).toNatClampNeg = bo j := by rw [e1]; exact nI_clamp (by omega)
    rw [ecl]
    by_cases hx : x = j
    · subst hx
      obtain ⟨l1, l2⟩ := wp_lo (S := S) (b := b) (w := w) (way := way) k (x + 1) (w1_s (S (bo x)) (b x) w way x t) x (by omega)
      have hN : (w1_s (S (bo x)) (b x) w way x t).2.2.2 x = wr_n (t.2.2.2 x) (b x) (S (bo x)).2.2.2.2.2.2.2.2.1 (S (bo x)).2.2.2.2.2.2.2.2.2.1 (S (bo x)).2.2.2.2.2.2.2.2.2.2.1 (S (bo x)).2.2.2.2.2.2.2.2.2.2.2.1 (S (bo x)).2.2.2.2.2.2.2.2.2.2.2.2 (nI (xq_n (S (bo x)) w way t.1 t.2.1)) (gm_b (S (bo x)).2.2.2.2.2.2.2.2.2.2.2.2 t.1) (gs_b (S (bo x)).2.2.2.2.2.2.2.2.2.2.2.1 (S (bo x)).2.2.2.2.2.2.2.2.2.2.2.2 t.2.1 way) := va_up_self _ _ _
      have hP : (w1_s (S (bo x)) (b x) w way x t).2.2.1 x = (b x, nI (xq_n (S (bo x)) w way t.1 t.2.1), (t.2.2.1 x).2.2) := va_up_self _ _ _
      rw [l1, l2, hN, hP, e1]
      have key : ∀ i, i < 9 → tv_f S fc bo w way k (x + 1) (xq_m (S (bo x)) w way t.1 t.2.1) (xq_l (S (bo x)) w way t.1 t.2.1) (tw_9 tr x (bo x) fc (xq_n (S (bo x)) w way t.1 t.2.1) (xq_m (S (bo x)) w way t.1 t.2.1) (xq_l (S (bo x)) w way t.1 t.2.1)) (9 * x + i) = wr_n (t.2.2.2 x) (nI (bo x)) (S (bo x)).2.2.2.2.2.2.2.2.1 (S (bo x)).2.2.2.2.2.2.2.2.2.1 (S (bo x)).2.2.2.2.2.2.2.2.2.2.1 (S (bo x)).2.2.2.2.2.2.2.2.2.2.2.1 (S (bo x)).2.2.2.2.2.2.2.2.2.2.2.2 (nI (xq_n (S (bo x)) w way t.1 t.2.1)) (gm_b (S (bo x)).2.2.2.2.2.2.2.2.2.2.2.2 t.1) (gs_b (S (bo x)).2.2.2.2.2.2.2.2.2.2.2.1 (S (bo x)).2.2.2.2.2.2.2.2.2.2.2.2 t.2.1 way) i := by
        intro i hi
        rw [tv_lo _ _ _ _ _ _ (by omega)]
        exact tw_wr hi e3 e4
      refine ⟨key, rfl, xq_n (S (bo x)) w way t.1 t.2.1, ?_, rfl, ?_⟩
      · have := (sh_le (gm_b (S (bo x)).2.2.2.2.2.2.2.2.2.2.2.2 t.1) (gs_b (S (bo x)).2.2.2.2.2.2.2.2.2.2.2.1 (S (bo x)).2.2.2.2.2.2.2.2.2.2.2.2 t.2.1 way) (lm_b w) 13 0).2
        show sh_b _ _ _ 13 0 ≤ 13
        omega
      · refine (key 6 (by omega)).trans ?_
        exact wr_6
    · exact ih (j + 1) (w1_s (S (bo j)) (b j) w way j t) (tw_9 tr j (bo j) fc (xq_n (S (bo j)) w way t.1 t.2.1) (xq_m (S (bo j)) w way t.1 t.2.1) (xq_l (S (bo j)) w way t.1 t.2.1)) (by omega) (fun i h3 h4 => hS i (by omega) (by omega)) x (by omega) (by omega)
end WT
def ss_n (sh : Nat → Nat) : Nat → Nat → Nat
  | 0, _ => 0
  | k + 1, j => sh j + ss_n sh k (j + 1)
/-- the chain of MOST behind a plan -/
def pc_r (S : Nat → Sec) (bo : Nat → Nat) (n K F O : Nat) : Prop := ∃ (mo : Nat → Int) (sh : Nat → Nat), mo 0 = 2 ^ (K - 1 + F) ∧ (∀ j, j < n → mo j * (S (bo j)).2.2.2.2.2.2.2.2.2.2.2.2.toInt ≤ mo (j + 1) * 2 ^ (sh j) * 2 ^ 32 ∧ mo (j + 1) ≤ 2 ^ 46) ∧ O + ss_n sh n 0 = F
theorem ss_cg {sh sh' : Nat → Nat} : ∀ k j, (∀ i, j ≤ i → i < j + k → sh i = sh' i) → ss_n sh k j = ss_n sh' k j
  | 0, _, _ => rfl
  | k + 1, j, h => by rw [ss_n, ss_n, h j (by omega) (by omega), ss_cg k (j + 1) (fun i h1 h2 => h i (by omega) (by omega))]
theorem tz_pc {S : Nat → Sec} {bo : Nat → Nat} {way : Int32} {W : Nat} (hW1 : 16 ≤ W) (hW2 : W ≤ 47) : ∀ (k j : Nat) (t r : Int64 × Int64 × Nat), (∀ i, j ≤ i → i < j + k → qs_ok (S (bo i)) ∧ (S (bo i)).2.2.2.2.2.2.2.1 = false) → 0 ≤ t.1.toInt → 0 ≤ t.2.1.toInt → t.1.toInt + t.2.1.toInt ≤ 2 ^ 46 → tz_s S bo (nI W) way k j t = some r → ∃ (mo : Nat → Int) (sh : Nat → Nat), mo j = t.1.toInt ∧ (∀ i, j ≤ i → i < j + k → mo i * (S (bo i)).2.2.2.2.2.2.2.2.2.2.2.2.toInt ≤ mo (i + 1) * 2 ^ (sh i) * 2 ^ 32 ∧ mo (i + 1) ≤ 2 ^ 46) ∧ r.2.2 = t.2.2 + ss_n sh k j := by
  intro k
  induction k with
  | zero =>
    intro j t r _ _ _ _ h
    cases h
    exact ⟨fun _ => t.1.toInt, fun _ => 0, rfl, fun i h1 h2 => by omega, rfl⟩
  | succ k ih =>
    intro j t r hS h0 h1 h2 h
    rw [tz_s] at h
    by_cases hx : xq_b (S (bo j)) (nI W) way t.1 t.2.1 = true
    · rw [if_pos hx] at h
      obtain ⟨q1, q2⟩ := hS j (by omega) (by omega)
      obtain ⟨b1, b2, -, b4, b5⟩ := xq_bd hW1 hW2 q1 q2 h0 h1 h2 hx
      obtain ⟨mo, sh, m1, m2, m3⟩ := ih (j + 1) (xq_m (S (bo j)) (nI W) way t.1 t.2.1, xq_l (S (bo j)) (nI W) way t.1 t.2.1, t.2.2 + xq_n (S (bo j)) (nI W) way t.1 t.2.1) r (fun i h3 h4 => hS i (by omega) (by omega)) b1 b2 b4 h
      dsimp only at m1 m3
      refine ⟨fun i => if i = j then t.1.toInt else mo i, fun i => if i = j then xq_n (S (bo j)) (nI W) way t.1 t.2.1 else sh i, if_pos rfl, fun i h3 h4 => ?_, ?_⟩
      · by_cases hi : i = j
        · subst hi
          dsimp only
          rw [if_pos rfl, if_neg (by omega), if_pos rfl, m1]
          exact ⟨b5, by omega⟩
        · dsimp only
          rw [if_neg hi, if_neg (by omega), if_neg hi]
          exact m2 i (by omega) (by omega)
      · rw [m3, ss_n]
        rw [if_pos rfl]
        have : ss_n (fun i => if i = j then xq_n (S (bo j)) (nI W) way t.1 t.2.1 else sh i) k (j + 1) = ss_n sh k (j + 1) := ss_cg k (j + 1) (fun i h5 h6 => if_neg (by omega))
        rw [this]
        omega
    · rw [if_neg hx] at h
      cases h

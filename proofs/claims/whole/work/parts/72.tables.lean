section TT
variable {S : Nat → Sec} {W K : Nat} {way : Int32} {L n : Nat}
theorem tz_cg {o o' : Nat → Nat} {w : Int32} : ∀ (k j : Nat) (t : Int64 × Int64 × Nat), (∀ i, j ≤ i → i < j + k → o i = o' i) → tz_s S o w way k j t = tz_s S o' w way k j t := by
  intro k
  induction k with
  | zero => intro j t _; rfl
  | succ k ih =>
    intro j t h
    rw [tz_s, tz_s, h j (by omega) (by omega), ih (j + 1) _ (fun i h1 h2 => h i (by omega) (by omega))]
/-- one place more at the end -/
def te_s (q : Sec) (w way : Int32) (r : Int64 × Int64 × Nat) : Option (Int64 × Int64 × Nat) := if xq_b q w way r.1 r.2.1 = true then some (xq_m q w way r.1 r.2.1, xq_l q w way r.1 r.2.1, r.2.2 + xq_n q w way r.1 r.2.1) else none
theorem tz_ap {o : Nat → Nat} {w : Int32} : ∀ (k j : Nat) (t : Int64 × Int64 × Nat), tz_s S o w way (k + 1) j t = (tz_s S o w way k j t).bind (te_s (S (o (j + k))) w way) := by
  intro k
  induction k with
  | zero =>
    intro j t
    rw [tz_s, tz_s, Option.bind_some, te_s]
    rfl
  | succ k ih =>
    intro j t
    rw [tz_s, ih (j + 1), tz_s, show j + 1 + k = j + (k + 1) by omega]
    split
    · rfl
    · rfl
/-- row i of the tables is right for the order -/
def tb_r (S : Nat → Sec) (W K : Nat) (way : Int32) (L : Nat) (o : Nat → Int32) (t : TS) (i : Nat) : Prop := ∀ f, f < L → match tz_s S (tn_o o) (nI W) way i 0 (m0_f K f, 0, 0) with
  | none => t.2.2 i f = -1
  | some r => t.1 i f = r.1 ∧ t.2.1 i f = r.2.1 ∧ t.2.2 i f = nI r.2.2
theorem tb_cg {o o' : Nat → Int32} {t : TS} {i : Nat} (h : ∀ x, x < i → o x = o' x) (ht : tb_r S W K way L o t i) : tb_r S W K way L o' t i := by
  intro f hf
  have := ht f hf
  rw [tz_cg (o := tn_o o) (o' := tn_o o') i 0 _ (fun x _ hx => by unfold tn_o; rw [h x (by omega)])] at this
  exact this
theorem e1_r {o : Nat → Int32} {t : TS} {j : Nat} (hj : j < 6) (h : tb_r S W K way L o t j) : tb_r S W K way L o (e1_s (S (o j).toNatClampNeg) (nI W) way L j t) (j + 1) := by
  intro f hf
  have hrow := h f hf
  rw [tz_ap, Nat.zero_add]
  have e1 : (e1_s (S (o j).toNatClampNeg) (nI W) way L j t).1 (j + 1) = xm_f (S (o j).toNatClampNeg) (nI W) way L (t.1 j) (t.2.1 j) (t.2.2 j) (t.1 (j + 1)) := va_up_self _ _ _
  have e2 : (e1_s (S (o j).toNatClampNeg) (nI W) way L j t).2.1 (j + 1) = xs_f (S (o j).toNatClampNeg) (nI W) way L (t.1 j) (t.2.1 j) (t.2.2 j) (t.2.1 (j + 1)) := va_up_self _ _ _
  have e3 : (e1_s (S (o j).toNatClampNeg) (nI W) way L j t).2.2 (j + 1) = xi_f (S (o j).toNatClampNeg) (nI W) way L (t.1 j) (t.2.1 j) (t.2.2 j) (t.2.2 (j + 1)) := va_up_self _ _ _
  rw [e1, e2, e3]
  have htn : tn_o o j = (o j).toNatClampNeg := rfl
  rw [htn]
  generalize S (o j).toNatClampNeg = q
  unfold xm_f xs_f xi_f er_l er_i
  dsimp only
  cases hz : tz_s S (tn_o o) (nI W) way j 0 (m0_f K f, 0, 0) with
  | none =>
    rw [hz] at hrow
    have hok : ∀ a b c d e g, xo_b a b c d e g (t.2.2 j f) (nI W) way = false := by
      intro a b c d e g
      unfold xo_b
      rw [hrow]; simp
    rw [Option.bind_none]
    dsimp only
    rw [if_pos hf, if_neg (by rw [hok]; simp)]
  | some r =>
    rw [hz] at hrow
    have hH := tz_H j 0 _ r hz
    dsimp only at hrow hH
    obtain ⟨r1, r2, r3⟩ := hrow
    have hnn : ¬ nI r.2.2 = -1 := nI_nn (by omega)
    have hok : xo_b q.2.2.2.2.2.1 q.2.2.2.2.2.2.1 q.2.2.2.2.2.2.2.2.2.2.2.1 q.2.2.2.2.2.2.2.2.2.2.2.2 (t.1 j f) (t.2.1 j f) (t.2.2 j f) (nI W) way = xq_b q (nI W) way r.1 r.2.1 := by
      unfold xo_b
      rw [r1, r2, r3, decide_eq_false hnn]
      rfl
    rw [Option.bind_some, te_s]
    by_cases hx : xq_b q (nI W) way r.1 r.2.1 = true
    · have hok' := hok.trans hx
      rw [if_pos hx]
      dsimp only
      rw [if_pos ⟨hf, hok'⟩, if_pos ⟨hf, hok'⟩, if_pos hf, if_pos hok', r1, r2, r3, nI_add]
      exact ⟨rfl, rfl, rfl⟩
    · have hok' := fun z => hx (hok.symm.trans z)
      rw [if_neg hx]
      dsimp only
      rw [if_pos hf, if_neg hok']
theorem e1_lo {o : Nat → Int32} {t : TS} {j i : Nat} {q : Sec} (hi : i ≤ j) (h : tb_r S W K way L o t i) : tb_r S W K way L o (e1_s q (nI W) way L j t) i := by
  intro f hf
  have := h f hf
  have e1 : (e1_s q (nI W) way L j t).1 i = t.1 i := va_up_ne _ _ (by omega)
  have e2 : (e1_s q (nI W) way L j t).2.1 i = t.2.1 i := va_up_ne _ _ (by omega)
  have e3 : (e1_s q (nI W) way L j t).2.2 i = t.2.2 i := va_up_ne _ _ (by omega)
  rw [e1, e2, e3]
  exact this
theorem et_r {o : Nat → Int32} : ∀ (k j : Nat) (t : TS), j + k ≤ 6 → (∀ i, i ≤ j → tb_r S W K way L o t i) → ∀ i, i ≤ j + k → tb_r S W K way L o (et_s S o (nI W) way L k j t) i := by
  intro k
  induction k with
  | zero => intro j t _ h i hi; exact h i (by omega)
  | succ k ih =>
    intro j t hj h i hi
    rw [et_s]
    refine ih (j + 1) _ (by omega) (fun i hi => ?_) i (by omega)
    by_cases hij : i ≤ j
    · exact e1_lo hij (h i hij)
    · have : i = j + 1 := by omega
      subst this
      exact e1_r (by omega) (h j (by omega))
theorem jd_cg {o : Nat → Int32} {hr hr' : Nat → Int32} {sr sr' : Nat → Int64} : ∀ (k : Nat) (u : JS), (∀ i, i < k → hr i = hr' i ∧ (hr i = -1 ∨ sr i = sr' i)) → jd_s n o hr sr k u = jd_s n o hr' sr' k u := by
  intro k
  induction k with
  | zero => intro u _; rfl
  | succ k ih =>
    intro u h
    rw [jd_s, jd_s]
    obtain ⟨h1, h2⟩ := h k (by omega)
    have : j1_s n o (hr k) (sr k) k u = j1_s n o (hr' k) (sr' k) k u := by
      rcases h2 with h2 | h2
      · rw [pr_no (Or.inl h2), pr_no (Or.inl (by rw [← h1]; exact h2))]
      · rw [h1, h2]
    rw [this, ih _ (fun i hi => h i (by omega))]
theorem jd_sk {o : Nat → Int32} {hr : Nat → Int32} {sr : Nat → Int64} {L : Nat} : ∀ (d : Nat) (u : JS), (∀ i, L ≤ i → i < L + d → hr i = -1) → jd_s n o hr sr (L + d) u = jd_s n o hr sr L u := by
  intro d
  induction d with
  | zero => intro u _; rfl
  | succ d ih =>
    intro u h
    show jd_s n o hr sr (L + d + 1) u = _
    rw [jd_s, pr_no (Or.inl (h (L + d) (by omega) (by omega))), ih u (fun i h1 h2 => h i h1 (by omega))]
theorem rv_lo : ∀ (k : Nat) (o : Nat → Int32) (lo hi i : Nat), i < lo → rv_o k o lo hi i = o i := by
  intro k
  induction k with
  | zero => intro o lo hi i _; rfl
  | succ k ih =>
    intro o lo hi i h
    rw [rv_o]
    split
    · rename_i hc
      rw [ih _ _ _ _ (by omega)]
      unfold sw_f upd
      rw [if_neg (by omega), if_neg (by omega)]
    · rfl
theorem no_lo {o : Nat → Int32} {i : Nat} (h : i + 1 < no_k o n) : no_f o n i = o i := by
  unfold no_f
  rw [if_neg (by omega), rv_lo _ _ _ _ _ (by omega)]
  have h2 := nj_le o (no_k o n - 1) (n - 1 - no_k o n)
  unfold sw_f upd
  rw [if_neg (by omega), if_neg (by omega)]
theorem ta_jo (hn : n ≤ 6) (hn1 : 1 ≤ n) : ∀ (N c : Nat) (o : Nat → Int32) (t : TS) (u : JS), 1 ≤ c → c ≤ n → (∀ i, i ≤ c - 1 → tb_r S W K way (lf_n W K) o t i) → (ta_s S (nI W) way (lf_n W K) n N c o t u).2.2 = jo_s S W K way n N o u := by
  intro N
  induction N with
  | zero => intro c o t u _ _ _; rfl
  | succ N ih =>
    intro c o t u hc1 hcn ht
    have hL : lf_n W K ≤ 25 := lf_le
    have hLi : ∀ f, f < lf_n W K ↔ f < 25 ∧ K + f < W := by
      intro f
      unfold lf_n
      split
      · omega
      · split <;> omega
    have hrows := et_r (n - (c - 1)) (c - 1) t (by omega) ht
    have hrn := hrows n (by omega)
    have hjd : jd_s n o ((et_s S o (nI W) way (lf_n W K) (n - (c - 1)) (c - 1) t).2.2 n) ((et_s S o (nI W) way (lf_n W K) (n - (c - 1)) (c - 1) t).2.1 n) (lf_n W K) u = jd_s n o (hz_f S (tn_o o) W K way n) (sz_f S (tn_o o) W K way n) 25 u := by
      have h25 : 25 = lf_n W K + (25 - lf_n W K) := by omega
      rw [h25, jd_sk _ _ (fun i hi hi2 => by
        unfold hz_f tf_z
        by_cases h2 : K + i < W
        · exact absurd ((hLi i).mpr ⟨by omega, h2⟩) (by omega)
        · rw [if_neg h2])]
      refine jd_cg _ _ (fun i hi => ?_)
      have h1 := hrn i hi
      have h2 := ((hLi i).mp hi).2
      have htf : tf_z S (tn_o o) W K way n i = tz_s S (tn_o o) (nI W) way n 0 (m0_f K i, 0, 0) := if_pos h2
      unfold hz_f sz_f
      rw [htf]
      cases hz : tz_s S (tn_o o) (nI W) way n 0 (m0_f K i, 0, 0) with
      | none =>
        rw [hz] at h1
        exact ⟨h1, Or.inl h1⟩
      | some r =>
        rw [hz] at h1
        exact ⟨h1.2.2, Or.inr h1.2.1⟩
    rw [ta_s, if_neg (by omega), jo_s, hjd]
    by_cases hk : no_k o n = 0
    · rw [if_pos hk, hk]
      cases N with
      | zero => rfl
      | succ N => rw [ta_s, if_pos rfl]
    · rw [if_neg hk]
      have hkn : no_k o n ≤ n - 1 := nf_le o (n - 1)
      refine ih (no_k o n) (no_f o n) _ _ (by omega) (by omega) (fun i hi => ?_)
      exact tb_cg (fun x hx => (no_lo (by omega)).symm) (hrows i (by omega))
end TT

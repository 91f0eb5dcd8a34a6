def dc_o (c : Nat) : Nat → Int32 := fun i => nI (c / 8 ^ i % 8)
def dg_n (n : Nat) (o : Nat → Int32) (i : Nat) : Nat := if i < n then (o i).toNatClampNeg else 0
def ec_o2 (n : Nat) (o : Nat → Int32) : Nat := dg_n n o 0 + 8 * dg_n n o 1 + 64 * dg_n n o 2 + 512 * dg_n n o 3 + 4096 * dg_n n o 4 + 32768 * dg_n n o 5
def ch_b (n : Nat) : Nat → Nat → Bool
  | 0, _ => false
  | N + 1, c => decide (no_k (dc_o c) n = 0) || ch_b n N (ec_o2 n (no_f (dc_o c) n))
theorem pm_1 : ch_b 1 720 181896 = true := by decide +kernel
theorem pm_2 : ch_b 2 720 181896 = true := by decide +kernel
theorem pm_3 : ch_b 3 720 181896 = true := by decide +kernel
theorem pm_4 : ch_b 4 720 181896 = true := by decide +kernel
theorem pm_5 : ch_b 5 720 181896 = true := by decide +kernel
theorem pm_6 : ch_b 6 720 181896 = true := by decide +kernel
def ag_o (n : Nat) (o o' : Nat → Int32) : Prop := ∀ i, i < n → o i = o' i
theorem nf_cg {n : Nat} {o o' : Nat → Int32} (h : ag_o n o o') : ∀ k, k < n → nf_o o k = nf_o o' k
  | 0, _ => rfl
  | k + 1, hk => by rw [nf_o, nf_o, h k (by omega), h (k + 1) hk, nf_cg h k (by omega)]
theorem nj_cg {n i : Nat} {o o' : Nat → Int32} (h : ag_o n o o') : ∀ d, i + 1 + d < n → nj_o o i d = nj_o o' i d
  | 0, _ => rfl
  | d + 1, hd => by rw [nj_o, nj_o, h i (by omega), h _ hd, nj_cg h d (by omega)]
theorem sw_cg {n a b : Nat} {o o' : Nat → Int32} (h : ag_o n o o') (ha : a < n) (hb : b < n) : ag_o n (sw_f o a b) (sw_f o' a b) := by
  intro i hi
  unfold sw_f upd
  rw [h a ha, h b hb, h i hi]
theorem rv_cg {n : Nat} : ∀ (k : Nat) (o o' : Nat → Int32) (lo hi : Nat), hi < n → ag_o n o o' → ag_o n (rv_o k o lo hi) (rv_o k o' lo hi) := by
  intro k
  induction k with
  | zero => intro o o' lo hi _ h; exact h
  | succ k ih =>
    intro o o' lo hi hh h
    rw [rv_o, rv_o]
    split
    · exact ih _ _ _ _ (by omega) (sw_cg h (by omega) hh)
    · exact h
theorem nk_cg {n : Nat} {o o' : Nat → Int32} (hn : 1 ≤ n) (h : ag_o n o o') : no_k o n = no_k o' n := nf_cg h (n - 1) (by omega)
theorem no_cg {n : Nat} {o o' : Nat → Int32} (hn : 1 ≤ n) (h : ag_o n o o') : ag_o n (no_f o n) (no_f o' n) := by
  have e := nk_cg hn h
  unfold no_f
  rw [← e]
  have h1 : no_k o n ≤ n - 1 := nf_le o (n - 1)
  split
  · exact h
  · rename_i hk
    have h2 := nj_le o (no_k o n - 1) (n - 1 - no_k o n)
    rw [nj_cg h _ (by omega)] at h2 ⊢
    exact rv_cg _ _ _ _ _ (by omega) (sw_cg h (by omega) (by omega))
theorem dc_ec {n : Nat} {o : Nat → Int32} (hn : n ≤ 6) (h : od_ok n o) : ag_o n o (dc_o (ec_o2 n o)) := by
  have hd : ∀ i, i < n → o i = nI (dg_n n o i) := by
    intro i hi
    obtain ⟨c, hc, e⟩ := h i hi
    unfold dg_n
    rw [if_pos hi, e, nI_clamp (by omega)]
  have hl : ∀ i, dg_n n o i < 8 := by
    intro i
    by_cases hi : i < n
    · obtain ⟨c, hc, e⟩ := h i hi
      unfold dg_n
      rw [if_pos hi, e, nI_clamp (by omega)]
      omega
    · unfold dg_n
      rw [if_neg hi]; omega
  intro i hi
  rw [hd i hi]
  unfold dc_o ec_o2
  have l0 := hl 0
  have l1 := hl 1
  have l2 := hl 2
  have l3 := hl 3
  have l4 := hl 4
  have l5 := hl 5
  congr 1
  rcases (show i = 0 ∨ i = 1 ∨ i = 2 ∨ i = 3 ∨ i = 4 ∨ i = 5 by omega) with rfl | rfl | rfl | rfl | rfl | rfl <;> omega
theorem ch_oN {n : Nat} (hn : n ≤ 6) (hn1 : 1 ≤ n) : ∀ (N c : Nat) (o : Nat → Int32), ag_o n o (dc_o c) → od_ok n o → ch_b n N c = true → oN_b n N o = true := by
  intro N
  induction N with
  | zero => intro c o _ _ h; cases h
  | succ N ih =>
    intro c o ha ho h
    rw [ch_b, Bool.or_eq_true] at h
    rw [oN_b, Bool.or_eq_true]
    rw [nk_cg hn1 ha]
    rcases h with h | h
    · exact Or.inl h
    · refine Or.inr (ih (ec_o2 n (no_f (dc_o c) n)) (no_f o n) ?_ (no_ok hn1 ho) h)
      have h1 := no_cg hn1 ha
      have ho2 : od_ok n (no_f (dc_o c) n) := fun i hi => by rw [← h1 i hi]; exact no_ok hn1 ho i hi
      have h2 := dc_ec hn ho2
      exact fun i hi => (h1 i hi).trans (h2 i hi)
theorem oN_id {n : Nat} {o : Nat → Int32} (hn : n ≤ 6) (hn1 : 1 ≤ n) (h : ∀ i, i < n → o i = nI i) : oN_b n 720 o = true := by
  have ho : od_ok n o := fun i hi => ⟨i, hi, h i hi⟩
  have ha : ag_o n o (dc_o 181896) := fun i hi => by
    rw [h i hi]
    unfold dc_o
    rcases (show i = 0 ∨ i = 1 ∨ i = 2 ∨ i = 3 ∨ i = 4 ∨ i = 5 by omega) with rfl | rfl | rfl | rfl | rfl | rfl <;> rfl
  rcases (show n = 1 ∨ n = 2 ∨ n = 3 ∨ n = 4 ∨ n = 5 ∨ n = 6 by omega) with rfl | rfl | rfl | rfl | rfl | rfl
  · exact ch_oN hn hn1 720 _ o ha ho pm_1
  · exact ch_oN hn hn1 720 _ o ha ho pm_2
  · exact ch_oN hn hn1 720 _ o ha ho pm_3
  · exact ch_oN hn hn1 720 _ o ha ho pm_4
  · exact ch_oN hn hn1 720 _ o ha ho pm_5
  · exact ch_oN hn hn1 720 _ o ha ho pm_6

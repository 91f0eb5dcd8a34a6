/-- the size of a rational -/
def ra_q (x : Rat) : Rat := if 0 ≤ x then x else -x
theorem ra_nn (x : Rat) : 0 ≤ ra_q x := by unfold ra_q; split <;> grind
theorem ra_le (x : Rat) : x ≤ ra_q x := by unfold ra_q; split <;> grind
theorem ra_ge (x : Rat) : -x ≤ ra_q x := by unfold ra_q; split <;> grind
theorem ra_lt {x b : Rat} (h1 : x ≤ b) (h2 : -x ≤ b) : ra_q x ≤ b := by unfold ra_q; split <;> grind
theorem ra_ad (x y : Rat) : ra_q (x + y) ≤ ra_q x + ra_q y := by
  have := ra_le x; have := ra_le y; have := ra_ge x; have := ra_ge y
  exact ra_lt (by grind) (by grind)
theorem ra_ng (x : Rat) : ra_q (-x) = ra_q x := by unfold ra_q; split <;> split <;> grind
theorem ra_mu (x y : Rat) : ra_q (x * y) = ra_q x * ra_q y := by
  have key : ∀ a b : Rat, 0 ≤ a → 0 ≤ b → ra_q (a * b) = a * b := fun a b ha hb => by unfold ra_q; rw [if_pos (Rat.mul_nonneg ha hb)]
  by_cases hx : 0 ≤ x
  · have e1 : ra_q x = x := if_pos hx
    by_cases hy : 0 ≤ y
    · have e2 : ra_q y = y := if_pos hy
      rw [e1, e2, key x y hx hy]
    · have e2 : ra_q y = -y := if_neg hy
      rw [e1, e2, ← key x (-y) hx (by grind), ← ra_ng]
      congr 1; grind
  · have e1 : ra_q x = -x := if_neg hx
    by_cases hy : 0 ≤ y
    · have e2 : ra_q y = y := if_pos hy
      rw [e1, e2, ← key (-x) y (by grind) hy, ← ra_ng]
      congr 1; grind
    · have e2 : ra_q y = -y := if_neg hy
      rw [e1, e2, ← key (-x) (-y) (by grind) (by grind)]
      congr 1; grind
theorem ra_0 : ra_q 0 = 0 := by unfold ra_q; rw [if_pos (by grind)]
theorem ra_1 : ra_q 1 = 1 := by unfold ra_q; rw [if_pos (by grind)]
def sm_q (g : Nat → Rat) : Nat → Rat
  | 0 => 0
  | n + 1 => sm_q g n + g n
theorem sm_1 (g : Nat → Rat) : ∀ n, sm_q g (n + 1) = g 0 + sm_q (fun k => g (k + 1)) n
  | 0 => by simp only [sm_q]; grind
  | n + 1 => by rw [sm_q, sm_1 g n]; simp only [sm_q]; grind
theorem sm_cg {g g' : Nat → Rat} : ∀ n, (∀ k, k < n → g k = g' k) → sm_q g n = sm_q g' n
  | 0, _ => rfl
  | n + 1, h => by rw [sm_q, sm_q, sm_cg n (fun k hk => h k (by omega)), h n (by omega)]
theorem sm_rv (g : Nat → Rat) : ∀ n, sm_q (fun k => g (n - k)) (n + 1) = sm_q g (n + 1)
  | 0 => by simp only [sm_q]
  | n + 1 => by
    rw [sm_1]
    have e : sm_q (fun k => g (n + 1 - (k + 1))) (n + 1) = sm_q (fun k => g (n - k)) (n + 1) := sm_cg _ (fun k _ => by rw [show n + 1 - (k + 1) = n - k by omega])
    rw [e, sm_rv g n]
    simp only [sm_q, Nat.sub_zero]
    grind
theorem sm_le {g g' : Nat → Rat} : ∀ n, (∀ k, k < n → g k ≤ g' k) → sm_q g n ≤ sm_q g' n
  | 0, _ => by simp only [sm_q]; grind
  | n + 1, h => by
    have h1 := sm_le n (fun k hk => h k (by omega))
    have h2 := h n (by omega)
    simp only [sm_q]; grind
theorem sm_mu (g : Nat → Rat) (b : Rat) : ∀ n, sm_q (fun k => g k * b) n = sm_q g n * b
  | 0 => by simp only [sm_q]; grind
  | n + 1 => by simp only [sm_q]; rw [sm_mu g b n]; grind
theorem sm_ra (g : Nat → Rat) : ∀ n, ra_q (sm_q g n) ≤ sm_q (fun k => ra_q (g k)) n
  | 0 => by simp only [sm_q, ra_0]; grind
  | n + 1 => by
    have h1 := sm_ra g n
    have h2 := ra_ad (sm_q g n) (g n)
    simp only [sm_q]; grind
theorem sm_nn {g : Nat → Rat} : ∀ n, (∀ k, k < n → 0 ≤ g k) → 0 ≤ sm_q g n
  | 0, _ => by simp only [sm_q]; grind
  | n + 1, h => by
    have h1 := sm_nn n (fun k hk => h k (by omega))
    have h2 := h n (by omega)
    simp only [sm_q]; grind
theorem sm_mo {g : Nat → Rat} (h : ∀ k, 0 ≤ g k) (n : Nat) : ∀ k, sm_q g n ≤ sm_q g (n + k)
  | 0 => by grind
  | k + 1 => by
    have h1 := sm_mo h n k
    have h2 := h (n + k)
    have : sm_q g (n + (k + 1)) = sm_q g (n + k) + g (n + k) := rfl
    rw [this]; grind
/-- the echo of a section, exactly -/
def hx_q (p q : Rat) : Nat → Rat
  | 0 => 1
  | 1 => p
  | n + 2 => p * hx_q p q (n + 1) + q * hx_q p q n
def cn_q (p q : Rat) (f : Nat → Rat) (n : Nat) : Rat := sm_q (fun k => hx_q p q (n - k) * f k) (n + 1)
theorem cn_2 (p q : Rat) (f : Nat → Rat) (n : Nat) : cn_q p q f (n + 2) = p * cn_q p q f (n + 1) + q * cn_q p q f n + f (n + 2) := by
  have e1 : sm_q (fun k => hx_q p q (n + 2 - k) * f k) (n + 1) = p * sm_q (fun k => hx_q p q (n + 1 - k) * f k) (n + 1) + q * sm_q (fun k => hx_q p q (n - k) * f k) (n + 1) := by
    have : ∀ m, m ≤ n + 1 → sm_q (fun k => hx_q p q (n + 2 - k) * f k) m = p * sm_q (fun k => hx_q p q (n + 1 - k) * f k) m + q * sm_q (fun k => hx_q p q (n - k) * f k) m := by
      intro m
      induction m with
      | zero => intro _; simp only [sm_q]; grind
      | succ m ih =>
        intro hm
        simp only [sm_q]
        rw [ih (by omega), show n + 2 - m = (n - m) + 2 by omega, show n + 1 - m = (n - m) + 1 by omega, hx_q]
        grind
    exact this (n + 1) (Nat.le_refl _)
  have e2 : cn_q p q f (n + 2) = sm_q (fun k => hx_q p q (n + 2 - k) * f k) (n + 1) + hx_q p q 1 * f (n + 1) + hx_q p q 0 * f (n + 2) := by
    show sm_q (fun k => hx_q p q (n + 2 - k) * f k) (n + 1) + hx_q p q (n + 2 - (n + 1)) * f (n + 1) + hx_q p q (n + 2 - (n + 2)) * f (n + 2) = _
    rw [show n + 2 - (n + 1) = 1 by omega, show n + 2 - (n + 2) = 0 by omega]
  have e3 : cn_q p q f (n + 1) = sm_q (fun k => hx_q p q (n + 1 - k) * f k) (n + 1) + hx_q p q 0 * f (n + 1) := by
    show sm_q (fun k => hx_q p q (n + 1 - k) * f k) (n + 1) + hx_q p q (n + 1 - (n + 1)) * f (n + 1) = _
    rw [show n + 1 - (n + 1) = 0 by omega]
  rw [e2, e3, e1, cn_q, hx_q, hx_q]
  grind
/-- what a recursion gives is a sum over echoes -/
theorem cn_eq {p q : Rat} {f y : Nat → Rat} (h0 : y 0 = f 0) (h1 : y 1 = p * y 0 + f 1) (h2 : ∀ n, y (n + 2) = p * y (n + 1) + q * y n + f (n + 2)) : ∀ n, y n = cn_q p q f n ∧ y (n + 1) = cn_q p q f (n + 1)
  | 0 => by
    refine ⟨?_, ?_⟩
    · rw [h0, cn_q]; simp only [sm_q, Nat.sub_self, hx_q]; grind
    · rw [h1, h0, cn_q]; simp only [sm_q, Nat.sub_zero, Nat.sub_self, hx_q]; grind
  | n + 1 => by
    obtain ⟨a, b⟩ := cn_eq h0 h1 h2 n
    exact ⟨b, by rw [h2 n, cn_2, a, b]⟩
theorem cn_le {p q B : Rat} {f : Nat → Rat} {n : Nat} (hf : ∀ k, k ≤ n → ra_q (f k) ≤ B) : ra_q (cn_q p q f n) ≤ sm_q (fun k => ra_q (hx_q p q k)) (n + 1) * B := by
  have h1 := sm_ra (fun k => hx_q p q (n - k) * f k) (n + 1)
  have h2 : sm_q (fun k => ra_q (hx_q p q (n - k) * f k)) (n + 1) ≤ sm_q (fun k => ra_q (hx_q p q (n - k)) * B) (n + 1) := by
    refine sm_le _ (fun k hk => ?_)
    show ra_q (hx_q p q (n - k) * f k) ≤ _
    rw [ra_mu]
    exact Rat.mul_le_mul_of_nonneg_left (hf k (by omega)) (ra_nn _)
  have h3 := sm_mu (fun k => ra_q (hx_q p q (n - k))) B (n + 1)
  have h4 := sm_rv (fun k => ra_q (hx_q p q k)) n
  rw [cn_q]
  rw [h3, h4] at h2
  exact Rat.le_trans h1 h2
theorem hx_ad (p q : Rat) (m : Nat) : ∀ k, hx_q p q (m + 1 + (k + 1)) = hx_q p q (m + 1) * hx_q p q (k + 1) + q * hx_q p q m * hx_q p q k ∧ hx_q p q (m + 1 + (k + 2)) = hx_q p q (m + 1) * hx_q p q (k + 2) + q * hx_q p q m * hx_q p q (k + 1)
  | 0 => by
    have e1 : hx_q p q (m + 1 + (0 + 1)) = p * hx_q p q (m + 1) + q * hx_q p q m := rfl
    have e2 : hx_q p q (m + 1 + (0 + 2)) = p * hx_q p q (m + 1 + (0 + 1)) + q * hx_q p q (m + 1) := rfl
    refine ⟨?_, ?_⟩
    · rw [e1]; simp only [hx_q]; grind
    · rw [e2, e1]; simp only [hx_q]; grind
  | k + 1 => by
    obtain ⟨a, b⟩ := hx_ad p q m k
    have e2 : hx_q p q (m + 1 + (k + 1 + 2)) = p * hx_q p q (m + 1 + (k + 2)) + q * hx_q p q (m + 1 + (k + 1)) := rfl
    refine ⟨b, ?_⟩
    rw [e2, a, b, show hx_q p q (k + 1 + 2) = p * hx_q p q (k + 2) + q * hx_q p q (k + 1) from rfl, show hx_q p q (k + 1 + 1) = p * hx_q p q (k + 1) + q * hx_q p q k from rfl]
    grind
theorem hx_tl (p q : Rat) (m : Nat) : ∀ T, sm_q (fun k => ra_q (hx_q p q k)) (m + 1 + T) - sm_q (fun k => ra_q (hx_q p q k)) (m + 1) ≤ ra_q (hx_q p q (m + 1)) * sm_q (fun k => ra_q (hx_q p q k)) T + ra_q q * ra_q (hx_q p q m) * sm_q (fun k => ra_q (hx_q p q k)) (T - 1)
  | 0 => by
    show _ ≤ ra_q (hx_q p q (m + 1)) * 0 + ra_q q * ra_q (hx_q p q m) * 0
    rw [Nat.add_zero]
    grind
  | 1 => by
    have e : sm_q (fun k => ra_q (hx_q p q k)) (m + 1 + 1) = sm_q (fun k => ra_q (hx_q p q k)) (m + 1) + ra_q (hx_q p q (m + 1)) := rfl
    rw [e]
    simp only [sm_q, Nat.sub_self, hx_q, ra_1]; grind
  | T + 2 => by
    have ih := hx_tl p q m (T + 1)
    have e : sm_q (fun k => ra_q (hx_q p q k)) (m + 1 + (T + 2)) = sm_q (fun k => ra_q (hx_q p q k)) (m + 1 + (T + 1)) + ra_q (hx_q p q (m + 1 + (T + 1))) := rfl
    have e2 : sm_q (fun k => ra_q (hx_q p q k)) (T + 2) = sm_q (fun k => ra_q (hx_q p q k)) (T + 1) + ra_q (hx_q p q (T + 1)) := rfl
    have e3 : sm_q (fun k => ra_q (hx_q p q k)) (T + 2 - 1) = sm_q (fun k => ra_q (hx_q p q k)) (T + 1 - 1) + ra_q (hx_q p q T) := rfl
    have h1 := (hx_ad p q m T).1
    have h2 := ra_ad (hx_q p q (m + 1) * hx_q p q (T + 1)) (q * hx_q p q m * hx_q p q T)
    rw [ra_mu, ra_mu, ra_mu, ← h1] at h2
    rw [e, e2, e3]
    grind
/-- behind a rest of at most a half all echoes are at most twice the first ones -/
theorem hx_hf {p q : Rat} {m : Nat} (h : ra_q (hx_q p q (m + 1)) + ra_q q * ra_q (hx_q p q m) ≤ 1 / 2) (N : Nat) : sm_q (fun k => ra_q (hx_q p q k)) N ≤ 2 * sm_q (fun k => ra_q (hx_q p q k)) (m + 1) := by
  have nn : ∀ k, 0 ≤ (fun k => ra_q (hx_q p q k)) k := fun k => ra_nn _
  have h1 := hx_tl p q m N
  have h2 : sm_q (fun k => ra_q (hx_q p q k)) N ≤ sm_q (fun k => ra_q (hx_q p q k)) (m + 1 + N) := by rw [Nat.add_comm]; exact sm_mo nn N (m + 1)
  have h3 : sm_q (fun k => ra_q (hx_q p q k)) (N - 1) ≤ sm_q (fun k => ra_q (hx_q p q k)) N := by
    cases N with
    | zero => grind
    | succ N => exact sm_mo nn N 1
  have h4 : 0 ≤ sm_q (fun k => ra_q (hx_q p q k)) N := sm_nn _ (fun k _ => nn k)
  have c0 : 0 ≤ ra_q q * ra_q (hx_q p q m) := Rat.mul_nonneg (ra_nn _) (ra_nn _)
  have h5 := Rat.mul_le_mul_of_nonneg_left h3 c0
  have h6 := Rat.mul_le_mul_of_nonneg_left h h4
  grind

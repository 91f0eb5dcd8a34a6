def mr_r (g : Nat → Int64) (X : Int) : Prop := ∀ i, i < 66 → (g i).toInt = lz_i X i
theorem e14_i {a : Int64} : (a >>> ((nI 14).toInt64 &&& 63)).toInt = a.toInt / 16384 := sr_i (k := 14) (by omega)
theorem m14_i {a : Int64} : (a - (a >>> ((nI 14).toInt64 &&& 63)) <<< ((nI 14).toInt64 &&& 63)).toInt = a.toInt % 16384 := by
  have e1 := e14_i (a := a)
  have hr := rg_i a
  generalize a >>> ((nI 14).toInt64 &&& 63) = c at e1 ⊢
  have e2 : (c <<< ((nI 14).toInt64 &&& 63)).toInt = c.toInt * 16384 := sh_li (k := 14) (by omega) (by omega) (by omega)
  rw [sb_i] <;> omega
theorem rt_i {g : Nat → Int64} (hg : ∀ i, i < 66 → (g i).toInt.natAbs ≤ 2 ^ 61) : ∀ i, i < 66 → (rt_c g i).toInt = (g i).toInt + vz_i (fun i => (g i).toInt) i / 16384 ^ i ∧ (rt_c g i).toInt.natAbs ≤ 2 ^ 62 := by
  intro i
  induction i with
  | zero =>
    intro h
    have := hg 0 (by omega)
    refine ⟨?_, ?_⟩
    · rw [rt_c, vz_i]; simp
    · rw [rt_c]; omega
  | succ i ih =>
    intro h
    obtain ⟨h1, h2⟩ := ih (by omega)
    have hb := hg (i + 1) h
    have e := cy_ed (fun i => (g i).toInt) i
    rw [← h1] at e
    rw [rt_c, ← e]
    have e1 := e14_i (a := rt_c g i)
    generalize rt_c g i >>> ((nI 14).toInt64 &&& 63) = c at e1 ⊢
    have ea : (g (i + 1) + c).toInt = (g (i + 1)).toInt + c.toInt := ad_i (by omega) (by omega)
    exact ⟨by rw [ea, e1], by omega⟩
/-- carrying makes limbs of the value -/
theorem cr_m {g : Nat → Int64} (hg : ∀ i, i < 66 → (g i).toInt.natAbs ≤ 2 ^ 61) : mr_r (cr_f g 65) (vz_i (fun i => (g i).toInt) 66) := by
  intro i hi
  obtain ⟨h1, h2⟩ := rt_i hg i hi
  by_cases h : i < 65
  · have e1 : cr_f g 65 i = rt_c g i - (rt_c g i >>> ((nI 14).toInt64 &&& 63)) <<< ((nI 14).toInt64 &&& 63) := if_pos h
    have e2 : lz_i (vz_i (fun i => (g i).toInt) 66) i = vz_i (fun i => (g i).toInt) 66 / 16384 ^ i % 16384 := if_pos h
    obtain ⟨z, hz⟩ := vz_sp (fun i => (g i).toInt) (i + 1) (66 - (i + 1))
    rw [show i + 1 + (66 - (i + 1)) = 66 by omega] at hz
    rw [e1, m14_i, e2, dg_md hz, h1, cy_dg (fun i => (g i).toInt) i]
  · have hi5 : i = 65 := by omega
    subst hi5
    have e1 : cr_f g 65 65 = rt_c g 65 := by unfold cr_f; rw [if_neg (by omega), if_pos rfl]
    have e2 : lz_i (vz_i (fun i => (g i).toInt) 66) 65 = vz_i (fun i => (g i).toInt) 66 / 16384 ^ 65 := if_neg (by omega)
    have p := d_pos 65
    rw [e1, h1, e2]
    generalize hE : (16384 : Int) ^ 65 = E at p
    rw [vz_65 _ E hE, Int.add_mul_ediv_right _ _ (by omega)]
    omega
def sI_i (hi : Nat) (h : Nat → Int) : Nat → Int := if hi = 0 then h else if hi = 1 then sz_i h else sz_i (sz_i h)
theorem vz_sI {hi : Nat} (hhi : hi ≤ 2) {h : Nat → Int} : vz_i (sI_i hi h) 66 = 16384 ^ hi * vz_i h 66 := by
  unfold sI_i
  rcases (show hi = 0 ∨ hi = 1 ∨ hi = 2 by omega) with rfl | rfl | rfl
  · rw [if_pos rfl]; simp
  · rw [if_neg (by omega), if_pos rfl, vz_sz]; simp
  · rw [if_neg (by omega), if_neg (by omega), vz_sz, vz_sz]
    generalize vz_i h 66 = V
    omega
theorem sz_bd {h : Nat → Int} {B : Nat} (hh : ∀ i, i < 66 → (h i).natAbs ≤ B) {i : Nat} (hi : i < 66) : (sz_i h i).natAbs ≤ 16385 * B ∧ (i < 65 → (sz_i h i).natAbs ≤ B) := by
  unfold sz_i
  by_cases h0 : i = 0
  · rw [if_pos h0]; exact ⟨by omega, fun _ => by omega⟩
  · rw [if_neg h0]
    by_cases h1 : i < 65
    · rw [if_pos h1]
      have := hh (i - 1) (by omega)
      exact ⟨by omega, fun _ => this⟩
    · rw [if_neg h1]
      have a := hh 64 (by omega)
      have b := hh 65 (by omega)
      exact ⟨by omega, fun h => by omega⟩
theorem sI_bd {h : Nat → Int} {hi : Nat} (hh : ∀ i, i < 66 → (h i).natAbs ≤ 16384) {i : Nat} (hi' : i < 66) : (sI_i hi h i).natAbs ≤ 2 ^ 43 := by
  unfold sI_i
  split
  · have := hh i hi'; omega
  · split
    · have := (sz_bd hh hi').1; omega
    · have := (sz_bd (B := 16385 * 16384) (fun i hi => (sz_bd hh hi).1) hi').1; omega
theorem co_i {g fy : Nat → Int64} {wh hi : Nat} {b : Int64} (hhi : hi ≤ 2) (hb : b.toInt.natAbs ≤ 32767) (hg : ∀ i, i < 66 → (g i).toInt.natAbs ≤ 2 ^ 60) (hh : ∀ i, i < 66 → (fy (66 * wh + i)).toInt.natAbs ≤ 16384) {i : Nat} (hi' : i < 66) : (co_f g fy wh b hi i).toInt = (g i).toInt + b.toInt * sI_i hi (fun i => (fy (66 * wh + i)).toInt) i ∧ (b.toInt * sI_i hi (fun i => (fy (66 * wh + i)).toInt) i).natAbs ≤ 2 ^ 58 := by
  have hgi := hg i hi'
  have hsb := mb_i hb (sI_bd (hi := hi) hh hi')
  refine ⟨?_, by omega⟩
  have hc1 : ∀ p x, p < 66 → x < 66 → (g x + b * fy (66 * wh + p)).toInt = (g x).toInt + b.toInt * (fy (66 * wh + p)).toInt ∧ (b.toInt * (fy (66 * wh + p)).toInt).natAbs ≤ 32767 * 16384 := by
    intro p x hp hx
    have h1 := mb_i hb (hh p hp)
    have h2 := hg x hx
    have e : (b * fy (66 * wh + p)).toInt = b.toInt * (fy (66 * wh + p)).toInt := mu_i (by omega) (by omega)
    exact ⟨by rw [ad_i] <;> rw [e] <;> omega, h1⟩
  unfold co_f c2_f sI_i
  rcases (show hi = 0 ∨ hi = 1 ∨ hi = 2 by omega) with rfl | rfl | rfl
  · rw [if_pos rfl, if_pos rfl]
    unfold c1_f
    rw [if_pos (by omega), Nat.sub_zero, (hc1 i i hi' hi').1]
  · rw [if_neg (by omega), if_pos rfl, if_neg (by omega), if_pos rfl]
    by_cases h5 : i = 65
    · subst h5
      rw [vl_se]
      unfold c1_f sz_i
      rw [if_pos (by omega), if_neg (by omega), if_neg (by omega)]
      obtain ⟨a1, a2⟩ := hc1 64 65 (by omega) (by omega)
      have h65 := hh 65 (by omega)
      have e1 : (fy (66 * wh + 65) <<< ((nI 14).toInt64 &&& 63)).toInt = (fy (66 * wh + 65)).toInt * 16384 := sh_li (k := 14) (by omega) (by omega) (by omega)
      have hm := mb_i hb (show (fy (66 * wh + 65) <<< ((nI 14).toInt64 &&& 63)).toInt.natAbs ≤ 16384 * 16384 by rw [e1]; omega)
      have e2 : (b * fy (66 * wh + 65) <<< ((nI 14).toInt64 &&& 63)).toInt = b.toInt * ((fy (66 * wh + 65)).toInt * 16384) := by rw [mu_i (by omega) (by omega), e1]
      rw [e1] at hm
      show (g 65 + b * fy (66 * wh + 64) + b * fy (66 * wh + 65) <<< ((nI 14).toInt64 &&& 63)).toInt = _
      rw [ad_i (by omega) (by omega), a1, e2]
      grind
    · rw [vl_ne h5]
      unfold c1_f sz_i
      by_cases h0 : i = 0
      · subst h0
        rw [if_neg (by omega), if_pos rfl]; omega
      · rw [if_pos (by omega), if_neg h0, if_pos (by omega), (hc1 (i - 1) i (by omega) hi').1]
  · rw [if_neg (by omega), if_neg (by omega), if_neg (by omega), if_neg (by omega)]
    by_cases h5 : i = 65
    · subst h5
      rw [vl_se]
      unfold c1_f
      rw [if_pos (by omega)]
      have es : sz_i (sz_i (fun i => (fy (66 * wh + i)).toInt)) 65 = (fy (66 * wh + 63)).toInt + 16384 * ((fy (66 * wh + 64)).toInt + 16384 * (fy (66 * wh + 65)).toInt) := by
        unfold sz_i
        rfl
      rw [es]
      obtain ⟨a1, a2⟩ := hc1 63 65 (by omega) (by omega)
      have h64 := hh 64 (by omega)
      have h65 := hh 65 (by omega)
      have hg65 := hg 65 (by omega)
      have e1 : (fy (66 * wh + 64) <<< ((nI 14).toInt64 &&& 63)).toInt = (fy (66 * wh + 64)).toInt * 16384 := sh_li (k := 14) (by omega) (by omega) (by omega)
      have hm := mb_i hb (show (fy (66 * wh + 64) <<< ((nI 14).toInt64 &&& 63)).toInt.natAbs ≤ 16384 * 16384 by rw [e1]; omega)
      have e2 : (b * fy (66 * wh + 64) <<< ((nI 14).toInt64 &&& 63)).toInt = b.toInt * ((fy (66 * wh + 64)).toInt * 16384) := by rw [mu_i (by omega) (by omega), e1]
      rw [e1] at hm
      have e3 : (fy (66 * wh + 65) <<< ((nI 28).toInt64 &&& 63)).toInt = (fy (66 * wh + 65)).toInt * 268435456 := sh_li (k := 28) (by omega) (by omega) (by omega)
      have hm3 := mb_i hb (show (fy (66 * wh + 65) <<< ((nI 28).toInt64 &&& 63)).toInt.natAbs ≤ 16384 * 268435456 by rw [e3]; omega)
      have e4 : (b * fy (66 * wh + 65) <<< ((nI 28).toInt64 &&& 63)).toInt = b.toInt * ((fy (66 * wh + 65)).toInt * 268435456) := by rw [mu_i (by omega) (by omega), e3]
      rw [e3] at hm3
      show (g 65 + b * fy (66 * wh + 63) + b * fy (66 * wh + 64) <<< ((nI 14).toInt64 &&& 63) + b * fy (66 * wh + 65) <<< ((nI 28).toInt64 &&& 63)).toInt = _
      have e5 : (g 65 + b * fy (66 * wh + 63) + b * fy (66 * wh + 64) <<< ((nI 14).toInt64 &&& 63)).toInt = (g 65).toInt + b.toInt * (fy (66 * wh + 63)).toInt + b.toInt * ((fy (66 * wh + 64)).toInt * 16384) := by rw [ad_i (by omega) (by omega), a1, e2]
      rw [ad_i (by omega) (by omega), e5, e4]
      grind
    · rw [vl_ne h5, vl_ne h5]
      unfold c1_f
      by_cases h0 : i < 2
      · have es : sz_i (sz_i (fun i => (fy (66 * wh + i)).toInt)) i = 0 := by
          rcases (show i = 0 ∨ i = 1 by omega) with rfl | rfl <;> rfl
        rw [if_neg (by omega), es]; omega
      · have es : sz_i (sz_i (fun i => (fy (66 * wh + i)).toInt)) i = (fy (66 * wh + (i - 2))).toInt := by
          unfold sz_i
          rw [if_neg (by omega), if_pos (by omega), if_neg (by omega), if_pos (by omega)]
          rfl
        rw [if_pos (by omega), es, (hc1 (i - 2) i (by omega) hi').1]
/-- a whole place of the exact filter, by limbs -/
theorem nx_m {b0 b1 b2 c1 c2 : Int64} {j : Nat} {fy num nx : Nat → Int64} {N H0 H1 H2 H3 : Int} (hb0 : b0.toInt.natAbs ≤ 32767) (hb1 : b1.toInt.natAbs ≤ 32767) (hb2 : b2.toInt.natAbs ≤ 32767) (hc1 : c1.toInt.natAbs ≤ 32767) (hc2 : c2.toInt.natAbs ≤ 32767) (hN : mr_r num N) (hN1 : -(16384 ^ 65) ≤ N ∧ N < 16384 ^ 65)
    (h0 : mr_r (fun i => fy (66 * (4 * j) + i)) H0) (h01 : -(16384 ^ 65) ≤ H0 ∧ H0 < 16384 ^ 65) (h1 : mr_r (fun i => fy (66 * (4 * j + 1) + i)) H1) (h11 : -(16384 ^ 65) ≤ H1 ∧ H1 < 16384 ^ 65) (h2 : mr_r (fun i => fy (66 * (4 * j + 2) + i)) H2) (h21 : -(16384 ^ 65) ≤ H2 ∧ H2 < 16384 ^ 65) (h3 : mr_r (fun i => fy (66 * (4 * j + 3) + i)) H3) (h31 : -(16384 ^ 65) ≤ H3 ∧ H3 < 16384 ^ 65) :
    mr_r (nx_f b0 b1 b2 c1 c2 j fy num nx) (b0.toInt * N + b1.toInt * (16384 * H0) + b2.toInt * (16384 * (16384 * H1)) + c1.toInt * H2 + c2.toInt * (16384 * H3)) := by
  have bd : ∀ {f : Nat → Int64} {X : Int}, mr_r f X → (-(16384 ^ 65) ≤ X ∧ X < 16384 ^ 65) → ∀ i, i < 66 → (f i).toInt.natAbs ≤ 16384 := by
    intro f X hf hX i hi
    have := lz_bd hX.1 hX.2 hi
    rw [hf i hi]
    omega
  have vv : ∀ {f : Nat → Int64} {X : Int}, mr_r f X → vz_i (fun i => (f i).toInt) 66 = X := by
    intro f X hf
    rw [vz_cg 66 (fun i hi => hf i hi)]
    exact vz_lz X
  have g0 : ∀ i, i < 66 → (fl_l (fun i => b0 * num i) nx 66 i).toInt = b0.toInt * (num i).toInt ∧ (b0.toInt * (num i).toInt).natAbs ≤ 2 ^ 30 := by
    intro i hi
    have e : fl_l (fun i => b0 * num i) nx 66 i = b0 * num i := if_pos hi
    have hm := mb_i hb0 (bd hN hN1 i hi)
    rw [e]
    exact ⟨mu_i (by omega) (by omega), by omega⟩
  unfold nx_f
  generalize fl_l (fun i => b0 * num i) nx 66 = G0 at g0
  have q1 : ∀ i, i < 66 → _ := fun i hi => co_i (g := G0) (fy := fy) (wh := 4 * j) (hi := 1) (b := b1) (by omega) hb1 (fun i hi => by have := g0 i hi; omega) (bd h0 h01) hi
  generalize co_f G0 fy (4 * j) b1 1 = G1 at q1
  have q2 : ∀ i, i < 66 → _ := fun i hi => co_i (g := G1) (fy := fy) (wh := 4 * j + 1) (hi := 2) (b := b2) (by omega) hb2 (fun i hi => by have := g0 i hi; have := q1 i hi; omega) (bd h1 h11) hi
  generalize co_f G1 fy (4 * j + 1) b2 2 = G2 at q2
  have q3 : ∀ i, i < 66 → _ := fun i hi => co_i (g := G2) (fy := fy) (wh := 4 * j + 2) (hi := 0) (b := c1) (by omega) hc1 (fun i hi => by have := g0 i hi; have := q1 i hi; have := q2 i hi; omega) (bd h2 h21) hi
  generalize co_f G2 fy (4 * j + 2) c1 0 = G3 at q3
  have q4 : ∀ i, i < 66 → _ := fun i hi => co_i (g := G3) (fy := fy) (wh := 4 * j + 3) (hi := 1) (b := c2) (by omega) hc2 (fun i hi => by have := g0 i hi; have := q1 i hi; have := q2 i hi; have := q3 i hi; omega) (bd h3 h31) hi
  generalize co_f G3 fy (4 * j + 3) c2 1 = G4 at q4
  have hc := cr_m (g := G4) (fun i hi => by have := g0 i hi; have := q1 i hi; have := q2 i hi; have := q3 i hi; have := q4 i hi; omega)
  have hval : vz_i (fun i => (G4 i).toInt) 66 = b0.toInt * N + b1.toInt * (16384 * H0) + b2.toInt * (16384 * (16384 * H1)) + c1.toInt * H2 + c2.toInt * (16384 * H3) := by
    have e4 : vz_i (fun i => (G4 i).toInt) 66 = vz_i (fun i => (G3 i).toInt) 66 + c2.toInt * (16384 ^ 1 * H3) := by
      rw [vz_cg 66 (fun i hi => (q4 i hi).1), vz_ad, vz_mu, vz_sI (by omega), vv h3]
    have e3 : vz_i (fun i => (G3 i).toInt) 66 = vz_i (fun i => (G2 i).toInt) 66 + c1.toInt * (16384 ^ 0 * H2) := by
      rw [vz_cg 66 (fun i hi => (q3 i hi).1), vz_ad, vz_mu, vz_sI (by omega), vv h2]
    have e2 : vz_i (fun i => (G2 i).toInt) 66 = vz_i (fun i => (G1 i).toInt) 66 + b2.toInt * (16384 ^ 2 * H1) := by
      rw [vz_cg 66 (fun i hi => (q2 i hi).1), vz_ad, vz_mu, vz_sI (by omega), vv h1]
    have e1 : vz_i (fun i => (G1 i).toInt) 66 = vz_i (fun i => (G0 i).toInt) 66 + b1.toInt * (16384 ^ 1 * H0) := by
      rw [vz_cg 66 (fun i hi => (q1 i hi).1), vz_ad, vz_mu, vz_sI (by omega), vv h0]
    have e0 : vz_i (fun i => (G0 i).toInt) 66 = b0.toInt * N := by
      rw [vz_cg 66 (fun i hi => (g0 i hi).1), vz_mu, vv hN]
    rw [e4, e3, e2, e1, e0]
    grind
  rw [hval] at hc
  exact hc

/-- what a section that is not hard keeps to -/
theorem qs_bd {q : Sec} (h : qs_ok q) (hh : q.2.2.2.2.2.2.2.1 = false) : (0 ≤ q.2.2.2.2.2.2.2.2.2.2.2.1.toInt ∧ q.2.2.2.2.2.2.2.2.2.2.2.1.toInt ≤ 2 ^ 44) ∧ (0 ≤ q.2.2.2.2.2.2.2.2.2.2.2.2.toInt ∧ q.2.2.2.2.2.2.2.2.2.2.2.2.toInt ≤ 2 ^ 48) ∧ q.2.2.2.2.2.1.toInt * q.2.2.2.2.2.2.2.2.2.2.2.1.toInt ≤ 16384 * q.2.2.2.2.2.2.2.2.2.2.2.2.toInt ∧ 0 ≤ q.2.2.2.2.2.2.2.2.2.1.toInt ∧ q.2.2.2.2.2.2.2.2.2.1.toInt ≤ q.2.2.2.2.2.2.2.2.2.2.2.1.toInt ∧ 0 ≤ q.2.2.2.2.2.1.toInt := by
  obtain ⟨⟨b0, b1, b2, b3, b4⟩, qb, qa, hM⟩ := h
  obtain ⟨M, hce, hm, hsum, hrest, hbf, hno, hga⟩ := hM hh
  have sbi := sb_3 b0 b1 b2
  rw [← qb] at sbi
  obtain ⟨c1, c2, c3, c4⟩ := ce_ok 1000 1 M hce
  have eb := en_b (a1 := q.2.2.2.1.toInt64) (a2 := q.2.2.2.2.1.toInt64) (by rw [Int32.toInt_toInt64]; exact b3) (by rw [Int32.toInt_toInt64]; exact b4) M (by omega) (fun j hj => by
    by_cases j0 : j = 0
    · subst j0; show (4294967296 : Int64) ≤ 70368744177664; decide
    · exact c3 j (by omega) hj)
  obtain ⟨-, -, -, -, -, e6, e7, e8⟩ := eb
  rw [← hsum] at e8
  rw [← hrest] at c4
  have hR := mx_i (en_e q.2.2.2.1.toInt64 q.2.2.2.2.1.toInt64 M).2.2.2.2.2.1 (en_e q.2.2.2.1.toInt64 q.2.2.2.2.1.toInt64 M).2.2.2.2.2.2.1
  rw [← hrest] at hR
  generalize q.2.2.2.2.2.2.2.2.2.1 = Q at *
  generalize q.2.2.2.2.2.2.2.2.2.2.1 = R at *
  generalize q.2.2.2.2.2.2.2.2.2.2.2.1 = N at *
  generalize q.2.2.2.2.2.2.2.2.2.2.2.2 = Ga at *
  generalize q.2.2.2.2.2.1 = sb at *
  have hR0 : 0 ≤ R.toInt := by omega
  have hR1 : R.toInt ≤ 2 ^ 31 := by rw [Int64.le_iff_toInt_le] at c4; exact c4
  unfold bf_e at hbf
  simp only [Bool.and_eq_true, decide_eq_true_eq, Int64.le_iff_toInt_le] at hbf
  have hQ1 : Q.toInt ≤ 2 ^ 46 := hbf.1
  have hN1 : N.toInt ≤ 2 ^ 44 := by rw [hno]; exact hbf.2
  have hN0 : 0 ≤ N.toInt := by rw [hno]; exact no_nn e8.1 hQ1 hR0 hR1
  have hNi := no_i e8.1 hQ1 hR0 hR1
  rw [← hno] at hNi
  obtain ⟨g1, g2, g3, g4⟩ := ga_q (sb := sb) (N := N) (by omega) (by omega) hN0 hN1
  have hG := up_bi (a := sb * N) (k := 14) (by omega) (by omega) (by omega)
  rw [← hga, g2] at hG
  refine ⟨⟨hN0, hN1⟩, ⟨by omega, by omega⟩, by omega, e8.1, ?_, by omega⟩
  generalize hd : (4294967296 - R.toInt) / 65536 = d at hNi
  have hd0 : 0 < d := by omega
  have hd1 : d ≤ 65536 := by omega
  have hdm := Int.mul_ediv_add_emod (Q.toInt * 65536 + d - 1) d
  have hdl := Int.emod_lt_of_pos (Q.toInt * 65536 + d - 1) hd0
  rw [← hNi] at hdm
  have hx : Q.toInt * 65536 ≤ d * N.toInt := by omega
  have hy : d * N.toInt ≤ 65536 * N.toInt := Int.mul_le_mul_of_nonneg_right hd1 hN0
  omega
abbrev TYS : Type := Int64 × Int64 × Nat × (Nat → Int64)
/-- a place of the trial, written -/
def tw_9 (tr : Nat → Int64) (j c : Nat) (fc : Nat → Int64) (h : Nat) (nm ns : Int64) : Nat → Int64 := vp_updL (vp_updL (vp_updL (cf_l fc (5 * c) (vp_updL tr (9 * j) (nI c).toInt64) (9 * j + 1) 5) (9 * j + 6) (nI h).toInt64) (9 * j + 7) nm) (9 * j + 8) ns
/-- how far a place's section shifts -/
def xq_n (q : Sec) (w way : Int32) (mi si : Int64) : Nat := xh_n q.2.2.2.2.2.2.2.2.2.2.2.1 q.2.2.2.2.2.2.2.2.2.2.2.2 mi si w way
def xq_m (q : Sec) (w way : Int32) (mi si : Int64) : Int64 := up_b (gm_b q.2.2.2.2.2.2.2.2.2.2.2.2 mi) (nI (xq_n q w way mi si))
def xq_l (q : Sec) (w way : Int32) (mi si : Int64) : Int64 := sl_b (gs_b q.2.2.2.2.2.2.2.2.2.2.2.1 q.2.2.2.2.2.2.2.2.2.2.2.2 si way) (nI (xq_n q w way mi si))
def xq_b (q : Sec) (w way : Int32) (mi si : Int64) : Bool := gg_b q.2.2.2.2.2.1 q.2.2.2.2.2.2.1 q.2.2.2.2.2.2.2.2.2.2.2.1 q.2.2.2.2.2.2.2.2.2.2.2.2 mi si way && decide (xq_n q w way mi si ≤ 12)
def ty_s (S : Nat → Sec) (fc : Nat → Int64) (o : Nat → Nat) (w way : Int32) : Nat → Nat → TYS → Option TYS
  | 0, _, t => some t
  | k + 1, j, t => if xq_b (S (o j)) w way t.1 t.2.1 = true then ty_s S fc o w way k (j + 1) (xq_m (S (o j)) w way t.1 t.2.1, xq_l (S (o j)) w way t.1 t.2.1, t.2.2.1 + xq_n (S (o j)) w way t.1 t.2.1, tw_9 t.2.2.2 j (o j) fc (xq_n (S (o j)) w way t.1 t.2.1) (xq_m (S (o j)) w way t.1 t.2.1) (xq_l (S (o j)) w way t.1 t.2.1)) else none
def tk_b (x : Option TYS) (f : Nat) : Bool := match x with
  | none => false
  | some t => decide (t.2.2.1 ≤ f)
theorem sh_lt {mo sl lim : Int64} : ∀ k i, sh_b mo sl lim k i < i + k → up_b mo (nI (sh_b mo sl lim k i)) + sl_b sl (nI (sh_b mo sl lim k i)) < lim := by
  intro k
  induction k with
  | zero => intro i h; rw [sh_b] at h; omega
  | succ k ih =>
    intro i h
    rw [sh_b] at h ⊢
    by_cases hc : up_b mo (nI i) + sl_b sl (nI i) < lim
    · rw [if_pos hc]; exact hc
    · rw [if_neg hc] at h ⊢
      exact ih (i + 1) (by omega)
theorem sl_bi {v : Int64} {i : Nat} (hi : i ≤ 13) (h0 : 0 ≤ v.toInt) (h1 : v.toInt ≤ 2 ^ 46) : (up_b v (nI i)).toInt = (v.toInt + 2 ^ i - 1) / 2 ^ i ∧ 0 ≤ (up_b v (nI i)).toInt ∧ (up_b v (nI i)).toInt ≤ 2 ^ 46 ∧ (sl_b v (nI i)).toInt = (up_b v (nI i)).toInt + (if i = 0 then 0 else 1) := by
  have p1 : (0 : Int) < 2 ^ i := Int.pow_pos (by decide)
  have p2 : (2 : Int) ^ i ≤ 2 ^ 13 := by
    have := Nat.pow_le_pow_right (n := 2) (by decide) hi
    exact_mod_cast this
  have e := up_bi (a := v) (k := i) (by omega) h0 (by omega)
  have q0 : 0 ≤ (v.toInt + 2 ^ i - 1) / 2 ^ i := Int.ediv_nonneg (by omega) (by omega)
  have q1 : (v.toInt + 2 ^ i - 1) / 2 ^ i ≤ 2 ^ 46 := by
    have : (v.toInt + 2 ^ i - 1) / 2 ^ i < 2 ^ 46 + 1 := by
      apply Int.ediv_lt_of_lt_mul p1
      have : (2 : Int) ^ 46 * 1 ≤ 2 ^ 46 * 2 ^ i := Int.mul_le_mul_of_nonneg_left (by omega) (by decide)
      rw [Int.add_mul]
      omega
    omega
  refine ⟨e, by omega, by omega, ?_⟩
  unfold sl_b
  by_cases i0 : i = 0
  · subst i0
    rw [if_pos (show nI 0 = 0 from rfl), if_pos rfl]
    have : (nI 0).toInt64.toInt = 0 := by decide
    rw [ad_i] <;> rw [this] <;> omega
  · rw [if_neg (nI_ne0 (by omega) (by omega)), if_neg i0]
    have : (nI 1).toInt64.toInt = 1 := by decide
    rw [ad_i] <;> rw [this] <;> omega
theorem lm_i {W : Nat} (h1 : 16 ≤ W) (h2 : W ≤ 47) : (lm_b (nI W)).toInt = 2 ^ (W - 1) ∧ (lm_b (nI W)).toInt ≤ 2 ^ 46 := by
  have e := on_i ⟨W - 1, by omega⟩
  dsimp only at e
  unfold lm_b
  rw [pk_sub (by omega), e]
  refine ⟨rfl, ?_⟩
  have := Nat.pow_le_pow_right (n := 2) (by decide) (show W - 1 ≤ 46 by omega)
  exact_mod_cast this
/-- what gg_b says of MOST' and SLIP' -/
theorem gg_bd {sb sa norm gain mi si : Int64} {way : Int32} (hm0 : 0 ≤ mi.toInt) (hi0 : 0 ≤ si.toInt) (hms : mi.toInt + si.toInt ≤ 2 ^ 46) (hg0 : 0 ≤ gain.toInt) (hg1 : gain.toInt ≤ 2 ^ 48) (hn0 : 0 ≤ norm.toInt) (hn1 : norm.toInt ≤ 2 ^ 44) (h : gg_b sb sa norm gain mi si way = true) : 0 ≤ (gm_b gain mi).toInt ∧ 0 ≤ (gs_b norm gain si way).toInt ∧ (gm_b gain mi).toInt + (gs_b norm gain si way).toInt ≤ 2 ^ 46 ∧ mi.toInt * gain.toInt ≤ (gm_b gain mi).toInt * 2 ^ 32 := by
  obtain ⟨g1, g2, g3⟩ := gn_i hg0 hg1
  have M := tm_i hm0 (by omega) g2 g3
  have I := tm_i hi0 (by omega) g2 g3
  obtain ⟨x1, x2, x3⟩ := tx_i hm0 (by omega) g2 g3
  have hb : ∃ b, (b = 32 ∨ b = 33) ∧ (if way = nI 2 then nI 33 else nI 32) = nI b := by
    by_cases hw : way = nI 2
    · exact ⟨33, Or.inr rfl, if_pos hw⟩
    · exact ⟨32, Or.inl rfl, if_neg hw⟩
  obtain ⟨b, hb, hw⟩ := hb
  have hu : 0 ≤ (up_b norm (nI b)).toInt ∧ (up_b norm (nI b)).toInt ≤ 2 ^ 12 := by
    rcases hb with rfl | rfl
    · exact (nr_i (d := 4294967296) (Or.inl rfl) rfl hn0 hn1).2
    · exact (nr_i (d := 8589934592) (Or.inr rfl) rfl hn0 hn1).2
  have hgm : gm_b gain mi = tm_b mi (up_b gain (nI 16)) := rfl
  have hgs : gs_b norm gain si way = tm_b si (up_b gain (nI 16)) + up_b norm (nI b) := by rw [gs_b, hw]
  have hup := up_bi (a := gain) (k := 16) (by omega) hg0 (by omega)
  rw [gg_b, hgm, hgs] at h
  rw [hgm, hgs]
  simp only [Bool.and_eq_true, decide_eq_true_eq] at h
  have h := h.1
  rw [Int64.le_iff_toInt_le] at h
  have eT : (70368744177664 : Int64).toInt = 2 ^ 46 := rfl
  rw [eT] at h
  generalize up_b norm (nI b) = u at *
  generalize up_b gain (nI 16) = t at *
  have hx : 0 ≤ (tm_b mi t).toInt ∧ (tm_b mi t).toInt ≤ 2 ^ 46 + 1 := by rcases M with ⟨i1, i2, i3⟩ | ⟨i1, i2, i3⟩ <;> (try rw [i1]) <;> omega
  have hz : 0 ≤ (tm_b si t).toInt ∧ (tm_b si t).toInt ≤ 2 ^ 46 + 1 := by rcases I with ⟨i1, i2, i3⟩ | ⟨i1, i2, i3⟩ <;> (try rw [i1]) <;> omega
  have e1 : (tm_b si t + u).toInt = (tm_b si t).toInt + u.toInt := ad_i (by omega) (by omega)
  have e2 : (tm_b mi t + (tm_b si t + u)).toInt = (tm_b mi t).toInt + (tm_b si t + u).toInt := ad_i (by omega) (by omega)
  refine ⟨hx.1, by omega, by omega, ?_⟩
  rcases M with ⟨i1, i2, i3⟩ | ⟨i1, i2, i3⟩
  · rw [i1, x1]
    have hg : gain.toInt ≤ 65536 * t.toInt := by omega
    have := Int.mul_le_mul_of_nonneg_left hg hm0
    have e3 : mi.toInt * (65536 * t.toInt) = 65536 * (mi.toInt * t.toInt) := by grind
    rw [e3] at this
    generalize mi.toInt * gain.toInt = A at *
    generalize mi.toInt * t.toInt = B at *
    omega
  · omega
theorem xq_bd {q : Sec} {way : Int32} {mi si : Int64} {W : Nat} (hW1 : 16 ≤ W) (hW2 : W ≤ 47) (hq : qs_ok q) (hh : q.2.2.2.2.2.2.2.1 = false) (hm0 : 0 ≤ mi.toInt) (hi0 : 0 ≤ si.toInt) (hms : mi.toInt + si.toInt ≤ 2 ^ 46) (h : xq_b q (nI W) way mi si = true) : 0 ≤ (xq_m q (nI W) way mi si).toInt ∧ 0 ≤ (xq_l q (nI W) way mi si).toInt ∧ (xq_m q (nI W) way mi si).toInt + (xq_l q (nI W) way mi si).toInt < 2 ^ (W - 1) ∧ (xq_m q (nI W) way mi si).toInt + (xq_l q (nI W) way mi si).toInt ≤ 2 ^ 46 ∧ mi.toInt * q.2.2.2.2.2.2.2.2.2.2.2.2.toInt ≤ (xq_m q (nI W) way mi si).toInt * 2 ^ (xq_n q (nI W) way mi si) * 2 ^ 32 := by
  obtain ⟨⟨n0, n1⟩, ⟨g0, g1⟩, -⟩ := qs_bd hq hh
  unfold xq_b at h
  simp only [Bool.and_eq_true, decide_eq_true_eq] at h
  obtain ⟨h1, h2⟩ := h
  obtain ⟨k1, k2, k3, k4⟩ := gg_bd hm0 hi0 hms g0 g1 n0 n1 h1
  obtain ⟨l1, l2⟩ := lm_i hW1 hW2
  have hlt := sh_lt (mo := gm_b q.2.2.2.2.2.2.2.2.2.2.2.2 mi) (sl := gs_b q.2.2.2.2.2.2.2.2.2.2.2.1 q.2.2.2.2.2.2.2.2.2.2.2.2 si way) (lim := lm_b (nI W)) 13 0 (by
    have : xq_n q (nI W) way mi si < 0 + 13 := by omega
    exact this)
  have e1 : sh_b (gm_b q.2.2.2.2.2.2.2.2.2.2.2.2 mi) (gs_b q.2.2.2.2.2.2.2.2.2.2.2.1 q.2.2.2.2.2.2.2.2.2.2.2.2 si way) (lm_b (nI W)) 13 0 = xq_n q (nI W) way mi si := rfl
  rw [e1] at hlt
  unfold xq_m xq_l
  generalize xq_n q (nI W) way mi si = i at *
  generalize gm_b q.2.2.2.2.2.2.2.2.2.2.2.2 mi = gm at *
  generalize gs_b q.2.2.2.2.2.2.2.2.2.2.2.1 q.2.2.2.2.2.2.2.2.2.2.2.2 si way = gs at *
  obtain ⟨a1, a2, a3, a4⟩ := sl_bi (v := gm) (i := i) (by omega) k1 (by omega)
  obtain ⟨b1, b2, b3, b4⟩ := sl_bi (v := gs) (i := i) (by omega) k2 (by omega)
  have hs0 : 0 ≤ (sl_b gs (nI i)).toInt ∧ (sl_b gs (nI i)).toInt ≤ 2 ^ 46 + 1 := by rw [b4]; split <;> omega
  rw [Int64.lt_iff_toInt_lt, ad_i (by omega) (by omega), l1] at hlt
  refine ⟨a2, hs0.1, hlt, by omega, ?_⟩
  have p1 : (0 : Int) < 2 ^ i := Int.pow_pos (by decide)
  have hdm := Int.mul_ediv_add_emod (gm.toInt + 2 ^ i - 1) (2 ^ i)
  have hdl := Int.emod_lt_of_pos (gm.toInt + 2 ^ i - 1) p1
  rw [← a1] at hdm
  have hge : gm.toInt ≤ (up_b gm (nI i)).toInt * 2 ^ i := by rw [Int.mul_comm]; omega
  have := Int.mul_le_mul_of_nonneg_right hge (show (0 : Int) ≤ 2 ^ 32 by decide)
  omega

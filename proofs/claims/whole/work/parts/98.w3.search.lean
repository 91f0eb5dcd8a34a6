theorem mr_at {mem : Mem} {z N : Nat} {o r : mE} : mr_m mem z N o r z = some o := if_pos rfl
theorem mr_row {mem : Mem} {z N b : Nat} {o r : mE} (h : z < b ∧ b ≤ z + N) : mr_m mem z N o r b = some r := by
  unfold mr_m
  rw [if_neg (by omega), if_pos h]
theorem mr_ne {mem : Mem} {z N b : Nat} {o r : mE} (h : b < z ∨ z + N < b) : mr_m mem z N o r b = mem b := by
  unfold mr_m
  rw [if_neg (by omega), if_neg (by omega)]
theorem eE {A X : Option (Mem × Nat × Nat)} {zE sE : Nat} {P : Mem → Prop} (h : A = X) (h2 : ∃ m', X = some (m', zE, sE) ∧ P m') : ∃ m', A = some (m', zE, sE) ∧ P m' := by
  rw [h]
  exact h2
theorem bx_inE {n i pc nx z so a j ix d0 z1 s1 zE sE : Nat} {zz : Int64} {lv : LVs} {st : List Value} {mem : Mem} {P1 P : Mem → Prop} (hf : fb_m i pc = some (.invokespecial ix, nx, j, 0, d0, zz, 0)) (hj : ¬ j = 1000) (hc : cs_v st ≤ 8) (hr : ∃ mem1, bx n j 0 (pad_v (bt_m j).2.2.1 [.ref a]) [] mem z 0 = some (mem1, z1, s1) ∧ P1 mem1) (h : ∀ mem1, P1 mem1 → ∃ m', bx n i nx lv st mem1 z1 (so + s1) = some (m', zE, sE) ∧ P m') : ∃ m', bx (n + 1) i pc lv (.ref a :: st) mem z so = some (m', zE, sE) ∧ P m' := by
  obtain ⟨mem1, h1, h2⟩ := hr
  obtain ⟨m', h3, h4⟩ := h mem1 h2
  exact ⟨m', bx_in hf hj hc h1 h3, h4⟩
theorem r_Sr {n e : Nat} {mem : Mem} (h : mem e = some (.inl (4, zf_m 4))) : ∃ mem1, bx (n + 35) 5 0 (pad_v (bt_m 5).2.2.1 [.ref e]) [] mem (e + 1) 0 = some (mem1, e + 28, 561) ∧ (mem1 e = some (sw_o e 0 0 0 0 0 0 0 0) ∧ sm_m mem1 e (fun _ => 0) (fun _ => 0) (fun _ _ => 0) (fun _ _ => 0) (fun _ _ => 0)) ∧ ∀ q, q < e ∨ e + 28 ≤ q → mem1 q = mem q := by
  apply Exists.intro
  refine ⟨?r, ?v, ?f⟩
  case r =>
    refine bx_l0 rfl rfl ?_
    refine bx_ob rfl ?_
    refine bx_l0 rfl rfl ?_
    refine bx_bp rfl ?_
    refine bx_na rfl (by decide +kernel) (N := 6) (by decide +kernel) ?_
    refine bx_pf rfl (by repeat (first | exact h | exact up_self | refine (up_ne (by omega)).trans ?_ | refine (mr_ne (by omega)).trans ?_)) rfl rfl rfl ?_
    refine bx_l0 rfl rfl ?_
    refine bx_bp rfl ?_
    refine bx_na rfl (by decide +kernel) (N := 6) (by decide +kernel) ?_
    refine bx_pf rfl (by repeat (first | exact h | exact up_self | refine (up_ne (by omega)).trans ?_ | refine (mr_ne (by omega)).trans ?_)) rfl rfl rfl ?_
    refine bx_l0 rfl rfl ?_
    refine bx_bp rfl ?_
    refine bx_bp rfl ?_
    refine bx_ma rfl (by decide +kernel) (by decide +kernel) (N := 7) (K := 25) (by decide +kernel) (by decide +kernel) ?_
    refine bx_pf rfl (by repeat (first | exact h | exact up_self | refine (up_ne (by omega)).trans ?_ | refine (mr_ne (by omega)).trans ?_)) rfl rfl rfl ?_
    refine bx_l0 rfl rfl ?_
    refine bx_bp rfl ?_
    refine bx_bp rfl ?_
    refine bx_ma rfl (by decide +kernel) (by decide +kernel) (N := 7) (K := 25) (by decide +kernel) (by decide +kernel) ?_
    refine bx_pf rfl (by repeat (first | exact h | exact up_self | refine (up_ne (by omega)).trans ?_ | refine (mr_ne (by omega)).trans ?_)) rfl rfl rfl ?_
    refine bx_l0 rfl rfl ?_
    refine bx_bp rfl ?_
    refine bx_bp rfl ?_
    refine bx_ma rfl (by decide +kernel) (by decide +kernel) (N := 7) (K := 25) (by decide +kernel) (by decide +kernel) ?_
    refine bx_pf rfl (by repeat (first | exact h | exact up_self | refine (up_ne (by omega)).trans ?_ | refine (mr_ne (by omega)).trans ?_)) rfl rfl rfl ?_
    refine bx_l0 rfl rfl ?_
    refine bx_nw rfl ?_
    refine bx_dp rfl ?_
    refine bx_in rfl (by decide) (Nat.le_of_ble_eq_true rfl) r_Bo ?_
    refine bx_pf rfl (by repeat (first | exact h | exact up_self | refine (up_ne (by omega)).trans ?_ | refine (mr_ne (by omega)).trans ?_)) rfl rfl rfl ?_
    exact (bx_R (n := n + 4) (i := 5) (pc := 67) (nx := 68) rfl).trans rfl
  case v =>
    refine ⟨?_, ?_, ?_, ?_, ?_, ?_, ⟨0, 0, 0, ?_⟩, fun j hj => ⟨?_, ?_, ?_⟩⟩ <;> (repeat (first | exact up_self | exact mr_at | exact mr_row (by omega) | refine (up_ne (by omega)).trans ?_ | refine (mr_ne (by omega)).trans ?_))
  case f =>
    intro q hq
    repeat (first | rfl | refine (up_ne (by omega)).trans ?_ | refine (mr_ne (by omega)).trans ?_)

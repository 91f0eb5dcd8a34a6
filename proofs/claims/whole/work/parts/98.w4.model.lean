theorem up_sw {M : Mem} {a z : Nat} {o o' e : mE} (h : a ≠ z) : up_m (up_m (up_m M a o) z e) a o' = up_m (up_m M z e) a o' := by
  funext b
  unfold up_m
  by_cases hb : b = a
  · rw [if_pos hb, if_pos hb]
  · rw [if_neg hb, if_neg hb, if_neg hb]
theorem bx_sw {n i pc z so a z' : Nat} {lv : LVs} {st : List Value} {M : Mem} {o o' e : mE} {R : Option (Mem × Nat × Nat)} (hz : a ≠ z') (h : bx n i pc lv st (up_m (up_m M z' e) a o') z so = R) : bx n i pc lv st (up_m (up_m (up_m M a o) z' e) a o') z so = R := by
  rw [up_sw hz]
  exact h

set_option maxHeartbeats 8000000 in
theorem r_M {n m : Nat} {mem : Mem} (h : mem m = some (.inl (8, zf_m 8))) : ∃ mem1, bx (n + 75) 8 0 (pad_v (bt_m 8).2.2.1 [.ref m]) [] mem (m + 1) 0 = some (mem1, m + 19, 5952) ∧ mv_m mem1 m 0 false 0 0 0 0 0 0 0 0 (fun _ => 0) (fun _ => 0) (fun _ => 0) (fun _ => 0) (fun _ => 0) (fun _ => 0) (fun _ => 0) (fun _ => 0) (fun _ => 0) ∧ ∀ q, q < m ∨ m + 19 ≤ q → mem1 q = mem q := by
  apply Exists.intro
  refine ⟨?r, ?v, ?f⟩
  case r =>
    refine bx_l0 rfl rfl ?_
    refine bx_ob rfl ?_
    refine bx_l0 rfl rfl ?_
    refine bx_bp rfl ?_
    refine bx_na rfl (by decide +kernel) (N := 30) (by decide +kernel) ?_
    refine bx_pf rfl (by first | exact (up_ne (by omega)).trans up_self | exact (up_ne (by omega)).trans h) rfl rfl rfl ?_
    refine bx_l0 rfl rfl ?_
    refine bx_bp rfl ?_
    refine bx_na rfl (by decide +kernel) (N := 6) (by decide +kernel) ?_
    refine bx_pf rfl (by first | exact (up_ne (by omega)).trans up_self | exact (up_ne (by omega)).trans h) rfl rfl rfl ?_
    refine bx_sw (by omega) ?_
    refine bx_l0 rfl rfl ?_
    refine bx_bp rfl ?_
    refine bx_na rfl (by decide +kernel) (N := 30) (by decide +kernel) ?_
    refine bx_pf rfl (by first | exact (up_ne (by omega)).trans up_self | exact (up_ne (by omega)).trans h) rfl rfl rfl ?_
    refine bx_sw (by omega) ?_
    refine bx_l0 rfl rfl ?_
    refine bx_bp rfl ?_
    refine bx_na rfl (by decide +kernel) (N := 54) (by decide +kernel) ?_
    refine bx_pf rfl (by first | exact (up_ne (by omega)).trans up_self | exact (up_ne (by omega)).trans h) rfl rfl rfl ?_
    refine bx_sw (by omega) ?_
    refine bx_l0 rfl rfl ?_
    refine bx_bp rfl ?_
    refine bx_na rfl (by decide +kernel) (N := 6) (by decide +kernel) ?_
    refine bx_pf rfl (by first | exact (up_ne (by omega)).trans up_self | exact (up_ne (by omega)).trans h) rfl rfl rfl ?_
    refine bx_sw (by omega) ?_
    refine bx_l0 rfl rfl ?_
    refine bx_bp rfl ?_
    refine bx_na rfl (by decide +kernel) (N := 30) (by decide +kernel) ?_
    refine bx_pf rfl (by first | exact (up_ne (by omega)).trans up_self | exact (up_ne (by omega)).trans h) rfl rfl rfl ?_
    refine bx_sw (by omega) ?_
    refine bx_l0 rfl rfl ?_
    refine bx_ic rfl ?_
    refine bx_na rfl (by decide +kernel) (N := 5) (by decide +kernel) ?_
    refine bx_pf rfl (by first | exact (up_ne (by omega)).trans up_self | exact (up_ne (by omega)).trans h) rfl rfl rfl ?_
    refine bx_sw (by omega) ?_
    refine bx_l0 rfl rfl ?_
    refine bx_ic rfl ?_
    refine bx_na rfl (by decide +kernel) (N := 5) (by decide +kernel) ?_
    refine bx_pf rfl (by first | exact (up_ne (by omega)).trans up_self | exact (up_ne (by omega)).trans h) rfl rfl rfl ?_
    refine bx_sw (by omega) ?_
    refine bx_l0 rfl rfl ?_
    refine bx_sp rfl ?_
    refine bx_na rfl (by decide +kernel) (N := 1001) (by decide +kernel) ?_
    refine bx_pf rfl (by first | exact (up_ne (by omega)).trans up_self | exact (up_ne (by omega)).trans h) rfl rfl rfl ?_
    refine bx_sw (by omega) ?_
    refine bx_l0 rfl rfl ?_
    refine bx_sp rfl ?_
    refine bx_na rfl (by decide +kernel) (N := 1001) (by decide +kernel) ?_
    refine bx_pf rfl (by first | exact (up_ne (by omega)).trans up_self | exact (up_ne (by omega)).trans h) rfl rfl rfl ?_
    refine bx_sw (by omega) ?_
    refine bx_l0 rfl rfl ?_
    refine bx_sp rfl ?_
    refine bx_na rfl (by decide +kernel) (N := 1001) (by decide +kernel) ?_
    refine bx_pf rfl (by first | exact (up_ne (by omega)).trans up_self | exact (up_ne (by omega)).trans h) rfl rfl rfl ?_
    refine bx_sw (by omega) ?_
    refine bx_l0 rfl rfl ?_
    refine bx_sp rfl ?_
    refine bx_na rfl (by decide +kernel) (N := 1001) (by decide +kernel) ?_
    refine bx_pf rfl (by first | exact (up_ne (by omega)).trans up_self | exact (up_ne (by omega)).trans h) rfl rfl rfl ?_
    refine bx_sw (by omega) ?_
    refine bx_l0 rfl rfl ?_
    refine bx_bp rfl ?_
    refine bx_na rfl (by decide +kernel) (N := 6) (by decide +kernel) ?_
    refine bx_pf rfl (by first | exact (up_ne (by omega)).trans up_self | exact (up_ne (by omega)).trans h) rfl rfl rfl ?_
    refine bx_sw (by omega) ?_
    refine bx_l0 rfl rfl ?_
    refine bx_bp rfl ?_
    refine bx_na rfl (by decide +kernel) (N := 54) (by decide +kernel) ?_
    refine bx_pf rfl (by first | exact (up_ne (by omega)).trans up_self | exact (up_ne (by omega)).trans h) rfl rfl rfl ?_
    refine bx_sw (by omega) ?_
    refine bx_l0 rfl rfl ?_
    refine bx_bp rfl ?_
    refine bx_na rfl (by decide +kernel) (N := 6) (by decide +kernel) ?_
    refine bx_pf rfl (by first | exact (up_ne (by omega)).trans up_self | exact (up_ne (by omega)).trans h) rfl rfl rfl ?_
    refine bx_sw (by omega) ?_
    refine bx_l0 rfl rfl ?_
    refine bx_sp rfl ?_
    refine bx_na rfl (by decide +kernel) (N := 1584) (by decide +kernel) ?_
    refine bx_pf rfl (by first | exact (up_ne (by omega)).trans up_self | exact (up_ne (by omega)).trans h) rfl rfl rfl ?_
    refine bx_sw (by omega) ?_
    refine bx_l0 rfl rfl ?_
    refine bx_bp rfl ?_
    refine bx_na rfl (by decide +kernel) (N := 66) (by decide +kernel) ?_
    refine bx_pf rfl (by first | exact (up_ne (by omega)).trans up_self | exact (up_ne (by omega)).trans h) rfl rfl rfl ?_
    refine bx_sw (by omega) ?_
    refine bx_l0 rfl rfl ?_
    refine bx_bp rfl ?_
    refine bx_na rfl (by decide +kernel) (N := 66) (by decide +kernel) ?_
    refine bx_pf rfl (by first | exact (up_ne (by omega)).trans up_self | exact (up_ne (by omega)).trans h) rfl rfl rfl ?_
    refine bx_sw (by omega) ?_
    exact (bx_R (i := 8) (pc := 151) (nx := 152) rfl).trans rfl
  case v =>
    refine ⟨⟨0, 0, 0, 0, ?_⟩, ?_, ?_, ?_, ?_, ?_, ?_, ⟨(fun _ => 0), ?_⟩, ⟨(fun _ => 0), ?_⟩, ⟨(fun _ => 0), (fun _ => 0), (fun _ => 0), (fun _ => 0), ?_, ?_, ?_, ?_, fun j hj => by omega⟩, ⟨(fun _ => 0), ?_⟩, ⟨(fun _ => 0), ?_⟩, ?_, ?_, ?_, ⟨(fun _ => 0), ?_⟩⟩
    · exact up_self
    all_goals (repeat (refine (up_ne (by omega)).trans ?_))
    all_goals exact up_self
  case f =>
    intro q hq
    repeat (refine (up_ne (by omega)).trans ?_)
    rfl


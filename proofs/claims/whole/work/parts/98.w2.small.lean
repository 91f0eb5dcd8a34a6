theorem r_Se {n a z : Nat} {mem : Mem} : bx (n + 3) 0 0 (pad_v (bt_m 0).2.2.1 [.ref a]) [] mem z 0 = some (mem, z, 0) := by
  refine bx_l0 rfl rfl ?_
  refine bx_ob rfl ?_
  exact (bx_R (i := 0) (pc := 4) (nx := 5) rfl).trans rfl

theorem r_Ec {n a z : Nat} {mem : Mem} : bx (n + 3) 3 0 (pad_v (bt_m 3).2.2.1 [.ref a]) [] mem z 0 = some (mem, z, 0) := by
  refine bx_l0 rfl rfl ?_
  refine bx_ob rfl ?_
  exact (bx_R (i := 3) (pc := 4) (nx := 5) rfl).trans rfl

theorem r_Bo {n a z : Nat} {mem : Mem} : bx (n + 3) 4 0 (pad_v (bt_m 4).2.2.1 [.ref a]) [] mem z 0 = some (mem, z, 0) := by
  refine bx_l0 rfl rfl ?_
  refine bx_ob rfl ?_
  exact (bx_R (i := 4) (pc := 4) (nx := 5) rfl).trans rfl

theorem r_Pl {n a z : Nat} {mem : Mem} (h : mem a = some (.inl (3, zf_m 3))) (haz : a < z) : ∃ mem1, bx (n + 7) 1 0 (pad_v (bt_m 1).2.2.1 [.ref a]) [] mem z 0 = some (mem1, z + 1, 9) ∧ (mem1 z = some (la_o 9 (fun _ => 0)) ∧ mem1 a = some (pl_o z 0 0 0 0 0 0 0)) ∧ ∀ q, q ≠ a → q ≠ z → mem1 q = mem q := by
  apply Exists.intro
  refine ⟨?r, ?v, ?f⟩
  case r =>
    refine bx_l0 rfl rfl ?_
    refine bx_ob rfl ?_
    refine bx_l0 rfl rfl ?_
    refine bx_bp rfl ?_
    refine bx_na rfl (by decide +kernel) (N := 9) (by decide +kernel) ?_
    refine bx_pf rfl (by repeat (first | exact h | exact up_self | refine (up_ne (by omega)).trans ?_)) rfl rfl rfl ?_
    exact (bx_R (i := 1) (pc := 12) (nx := 13) rfl).trans rfl
  case v =>
    constructor <;> (repeat (first | exact up_self | refine (up_ne (by omega)).trans ?_))
  case f =>
    intro q hq hz
    repeat (first | rfl | refine (up_ne (by omega)).trans ?_)

theorem r_Si {n a z : Nat} {mem : Mem} (h : mem a = some (.inl (6, zf_m 6))) (haz : a < z) : ∃ mem1, bx (n + 15) 2 0 (pad_v (bt_m 2).2.2.1 [.ref a]) [] mem z 0 = some (mem1, z + 3, 180) ∧ (mem1 z = some (ia_o 60 (fun _ => 0)) ∧ mem1 (z + 1) = some (ia_o 60 (fun _ => 0)) ∧ mem1 (z + 2) = some (ia_o 60 (fun _ => 0)) ∧ mem1 a = some (.inl (6, [.ref z, .ref (z + 1), .ref (z + 2)]))) ∧ ∀ q, q ≠ a → (q < z ∨ z + 3 ≤ q) → mem1 q = mem q := by
  apply Exists.intro
  refine ⟨?r, ?v, ?f⟩
  case r =>
    refine bx_l0 rfl rfl ?_
    refine bx_ob rfl ?_
    refine bx_l0 rfl rfl ?_
    refine bx_bp rfl ?_
    refine bx_na rfl (by decide +kernel) (N := 60) (by decide +kernel) ?_
    refine bx_pf rfl (by repeat (first | exact h | exact up_self | refine (up_ne (by omega)).trans ?_)) rfl rfl rfl ?_
    refine bx_l0 rfl rfl ?_
    refine bx_bp rfl ?_
    refine bx_na rfl (by decide +kernel) (N := 60) (by decide +kernel) ?_
    refine bx_pf rfl (by repeat (first | exact h | exact up_self | refine (up_ne (by omega)).trans ?_)) rfl rfl rfl ?_
    refine bx_l0 rfl rfl ?_
    refine bx_bp rfl ?_
    refine bx_na rfl (by decide +kernel) (N := 60) (by decide +kernel) ?_
    refine bx_pf rfl (by repeat (first | exact h | exact up_self | refine (up_ne (by omega)).trans ?_)) rfl rfl rfl ?_
    exact (bx_R (i := 2) (pc := 28) (nx := 29) rfl).trans rfl
  case v =>
    refine ⟨?_, ?_, ?_, ?_⟩ <;> (repeat (first | exact up_self | refine (up_ne (by omega)).trans ?_))
  case f =>
    intro q hq hz
    repeat (first | rfl | refine (up_ne (by omega)).trans ?_)


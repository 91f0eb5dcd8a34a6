section LPB
variable {n i pc nx z so a : Nat} {lv : LVs} {st : List Value} {mem : Mem} {R : Option (Mem × Nat × Nat)}
theorem bx_is {k : Fin 4} {x : Int32} (hf : fb_m i pc = some (.istore_n k, nx, 1, 0, 0, 0, 0)) (h : bx n i nx (s1_v lv 1 (.int x)) st mem z so = R) : bx (n + 1) i pc lv (.int x :: st) mem z so = R := bx_S0 hf rfl h
theorem bx_ig {c : ClassFile.Cond} {o : Int} {tg : Nat} {x y : Int32} {b : Bool} (hf : fb_m i pc = some (.if_icmp c o, nx, tg, 0, 0, 0, 0)) (hb : ci_v c x y = b) (h : bx n i (if b = true then tg else nx) lv st mem z so = R) : bx (n + 1) i pc lv (.int y :: .int x :: st) mem z so = R := by
  subst hb
  exact bx_S0 hf rfl h
theorem bx_gt {o : Int} {tg : Nat} (hf : fb_m i pc = some (.goto o, nx, tg, 0, 0, 0, 0)) (h : bx n i tg lv st mem z so = R) : bx (n + 1) i pc lv st mem z so = R := bx_S0 hf rfl h
theorem bx_ii {o : Int} {x v : Nat} (hf : fb_m i pc = some (.iinc 1 o, nx, 1, 0, 0, 0, nI 1)) (h : bx n i nx [some (.ref v), some (.int (nI (x + 1)))] st mem z so = R) : bx (n + 1) i pc [some (.ref v), some (.int (nI x))] st mem z so = R := by
  refine bx_S0 hf ?_ h
  simp only [bs_m, step_m, li_v, List.getElem?_cons_succ, List.getElem?_cons_zero, nI_add]
  rfl
end LPB
/-- the signals that are made -/
def sk_f (x i : Nat) : Nat → Option Nat := fun j => if j < i then some (x + 3 + 4 * j) else none
theorem sk_up {x i : Nat} : va_up (sk_f x i) i (some (x + 3 + 4 * i)) = sk_f x (i + 1) := by
  funext j
  unfold va_up sk_f
  by_cases h : j = i
  · rw [if_pos h, if_pos (by omega), h]
  · rw [if_neg h]
    by_cases h2 : j < i
    · rw [if_pos h2, if_pos (by omega)]
    · rw [if_neg h2, if_neg (by omega)]
theorem lb_ex {x n : Nat} : ∀ (k i so : Nat) (mem : Mem), i + k = 7 → mem x = some (.inl (2, [.ref (x + 1), .ref (x + 2)])) → mem (x + 1) = some (ra_o 5 7 (sk_f x i)) → ∃ m', bx (12 * k + (n + 30)) 6 23 [some (.ref x), some (.int (nI i))] [] mem (x + 3 + 4 * i) so = some (m', x + 31, so + 183 * k) ∧
    (m' (x + 1) = some (ra_o 5 7 (sk_f x 7)) ∧ (∀ j, i ≤ j → j < 7 → m' (x + 3 + 4 * j) = some (sg_o (x + 4 + 4 * j) (x + 5 + 4 * j) (x + 6 + 4 * j)) ∧ m' (x + 4 + 4 * j) = some (ia_o 60 (fun _ => 0)) ∧ m' (x + 5 + 4 * j) = some (ia_o 60 (fun _ => 0)) ∧ m' (x + 6 + 4 * j) = some (ia_o 60 (fun _ => 0))) ∧ ∀ q, q ≠ x + 1 → (q < x + 3 + 4 * i ∨ x + 31 ≤ q) → m' q = mem q) := by
  intro k
  induction k with
  | zero =>
    intro i so mem hi h1 h2
    have hi7 : i = 7 := by omega
    subst hi7
    refine eE (bx_il rfl rfl (bx_bp rfl (bx_ig rfl (b := true) (by decide +kernel) (bx_R rfl)))) ?_
    exact ⟨mem, rfl, h2, fun j a b => by omega, fun q _ _ => rfl⟩
  | succ k ih =>
    intro i so mem hi h1 h2
    have hci : ci_v .gt (nI i) (nI 6) = false := by
      show decide (nI 6 < nI i) = false
      exact decide_eq_false (nI_nlt (a := 6) (b := i) (by omega) (by omega))
    refine eE (bx_il rfl rfl (bx_bp rfl (bx_ig rfl hci (bx_l0 rfl rfl (bx_gf rfl h1 rfl (bx_il rfl rfl (bx_nw rfl (bx_dp rfl rfl)))))))) ?_
    refine bx_inE rfl (by decide) (Nat.le_of_ble_eq_true rfl) (r_Si (a := x + 3 + 4 * i) (z := x + 3 + 4 * i + 1) up_self (by omega)) ?_
    rintro mem1 ⟨⟨g1, g2, g3, g4⟩, g5⟩
    have k1 : mem1 (x + 1) = some (ra_o 5 7 (sk_f x i)) := (g5 _ (by omega) (by omega)).trans ((up_ne (by omega)).trans h2)
    refine eE (bx_as rfl k1 g4 (vp_in_nI (by omega) (by omega)) (bx_ii rfl (bx_gt rfl rfl))) ?_
    rw [nI_clamp (by omega), sk_up]
    obtain ⟨m', e1, e2, e3, e4⟩ := ih (i + 1) (so + nf_m 6 + 180) (up_m mem1 (x + 1) (ra_o 5 7 (sk_f x (i + 1)))) (by omega) ((up_ne (by omega)).trans ((g5 _ (by omega) (by omega)).trans ((up_ne (by omega)).trans h1))) up_self
    refine ⟨m', ?_, e2, fun j a b => ?_, fun q a b => ?_⟩
    · have hso : so + nf_m 6 + 180 + 183 * k = so + 183 * (k + 1) := by
        show so + 3 + 180 + 183 * k = _
        omega
      rw [hso, show x + 3 + 4 * (i + 1) = x + 3 + 4 * i + 1 + 3 by omega, show 12 * k + (n + 30) = 12 * (k + 1) + (n + 18) by omega] at e1
      exact e1
    · by_cases hj : j = i
      · subst hj
        have hq : ∀ q, x + 3 + 4 * j ≤ q → q < x + 7 + 4 * j → m' q = mem1 q := fun q q1 q2 => (e4 q (by omega) (by omega)).trans (up_ne (by omega))
        refine ⟨(hq _ (by omega) (by omega)).trans (g4.trans ?_), (hq _ (by omega) (by omega)).trans ?_, (hq _ (by omega) (by omega)).trans ?_, (hq _ (by omega) (by omega)).trans ?_⟩
        · rw [show x + 4 + 4 * j = x + 3 + 4 * j + 1 by omega, show x + 5 + 4 * j = x + 3 + 4 * j + 1 + 1 by omega, show x + 6 + 4 * j = x + 3 + 4 * j + 1 + 2 by omega]
          rfl
        · rw [show x + 4 + 4 * j = x + 3 + 4 * j + 1 by omega]
          exact g1
        · rw [show x + 5 + 4 * j = x + 3 + 4 * j + 1 + 1 by omega]
          exact g2
        · rw [show x + 6 + 4 * j = x + 3 + 4 * j + 1 + 2 by omega]
          exact g3
      · exact e3 j (by omega) b
    · exact (e4 q a (by omega)).trans ((up_ne a).trans ((g5 q (by omega) (by omega)).trans (up_ne (by omega))))
theorem r_Ex {n x : Nat} {mem : Mem} (h : mem x = some (.inl (2, zf_m 2))) : ∃ mem1, bx (n + 126) 6 0 (pad_v (bt_m 6).2.2.1 [.ref x]) [] mem (x + 1) 0 = some (mem1, x + 31, 1348) ∧ (ev_m mem1 x (fun j => x + 4 + 4 * j) (fun j => x + 5 + 4 * j) (fun j => x + 6 + 4 * j) (fun _ _ => 0) (fun _ _ => 0) (fun _ _ => 0) (fun _ => 0) ∧ ∀ q, q < x ∨ x + 31 ≤ q → mem1 q = mem q) := by
  rw [show n + 126 = 12 * 7 + (n + 42) by omega]
  refine eE (bx_l0 rfl rfl (bx_ob rfl (bx_l0 rfl rfl (bx_bp rfl (bx_nq rfl (by decide +kernel) (N := 7) (by decide +kernel) (bx_pf rfl ((up_ne (show x ≠ x + 1 by omega)).trans h) rfl rfl rfl rfl)))))) ?_
  refine eE (bx_l0 rfl rfl (bx_bp rfl (bx_na rfl (by decide +kernel) (N := 60) (by decide +kernel) (bx_pf rfl ((up_ne (show x ≠ x + 1 + 1 by omega)).trans up_self) rfl rfl rfl (bx_ic rfl (bx_is rfl rfl)))))) ?_
  obtain ⟨m', e1, e2, e3, e4⟩ := lb_ex (x := x) (n := n) 7 0 (0 + 7 + 60) (up_m (up_m (up_m (up_m mem (x + 1) (ra_o 5 7 (fun _ => none))) x (.inl (2, [.ref (x + 1), .null]))) (x + 1 + 1) (ia_o 60 (fun _ => 0))) x (.inl (2, [.ref (x + 1), .ref (x + 2)]))) rfl up_self ((up_ne (by omega)).trans ((up_ne (by omega)).trans ((up_ne (by omega)).trans (up_self.trans (by rw [show sk_f x 0 = fun _ => none from funext fun j => if_neg (by omega)]))))) 
  refine ⟨m', e1, ⟨(e4 _ (by omega) (by omega)).trans up_self, e2, (e4 _ (by omega) (by omega)).trans ((up_ne (by omega)).trans up_self), fun j hj => ?_⟩, fun q hq => ?_⟩
  · obtain ⟨k1, k2, k3, k4⟩ := e3 j (by omega) hj
    exact ⟨by dsimp only; omega, by dsimp only; omega, by dsimp only; omega, by dsimp only; omega, k1, k2, k3, k4⟩
  · exact (e4 q (by omega) (by omega)).trans ((up_ne (by omega)).trans ((up_ne (by omega)).trans ((up_ne (by omega)).trans (up_ne (by omega)))))

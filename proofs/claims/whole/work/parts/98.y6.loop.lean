section LOOP
variable {p : Program} {l : Launch} {e : Env} {s : State} {m : MethodId} {below : List Frame} {meth : Method} {c : Code} {D : va_G} {dA : Nat → ClassId} {A : Nat → Prop} {b L ce so : Nat} {xs : Nat → Int32} {Q : State → Prop} {f g : Nat}
theorem sw_law (x : Int32) : sw_n 33 [79, 142, 155, 168, 243, 277, 321, 364, 398, 471, 484, 507, 531, 565, 579, 602] 0 x 648 = if x = nI 0 then 112 else if x = nI 1 then 175 else if x = nI 2 then 188 else if x = nI 3 then 201 else if x = nI 4 then 276 else if x = nI 5 then 310 else if x = nI 6 then 354 else if x = nI 7 then 397 else if x = nI 8 then 431 else if x = nI 9 then 504 else if x = nI 10 then 517 else if x = nI 11 then 540 else if x = nI 12 then 564 else if x = nI 13 then 598 else if x = nI 14 then 612 else if x = nI 15 then 635 else 648 := rfl
/-- the law goes on to its end -/
theorem lw_loop (C : cx_m lt_m D dA 9 p s m #[Value.ref b] meth c) (hX : va_X b L xs s s.heap) (hbl : b < s.heap.size) (hbA : ¬ A b) (hce : ce ≤ room_1.cells) (hso : so ≤ room_1.slots) (hL : L ≤ 3584) (hfm : f + 83 ≤ g ∨ g + 19 ≤ f) (hE : ∀ (i : Int32) (mem : Mem), LW p l e s m b below meth c D dA A ce so Q 654 (lv4 b f g i) [] mem) : ∀ (k n : Nat) (mem : Mem), 7 * n ≤ L → L < 7 * n + 7 * k → RR_r mem f g n → LW p l e s m b below meth c D dA A ce so Q 18 (lv4 b f g (nI (7 * n))) [] mem := by
  intro k
  induction k with
  | zero => intro n mem h1 h2; omega
  | succ k ih =>
    intro n mem h1 h2 h
    refine LW_p C lf_18 rfl rfl (LW_p C lf_19 rfl rfl (LW_al C hX hbl hbA lf_20 (LW_p C lf_21 rfl rfl (LW_p C lf_23 rfl rfl ?_))))
    by_cases hlt : L < 7 * n + 7
    · exact LW_p (pc' := 654) (lv' := lv4 b f g (nI (7 * n))) (st' := []) (mem' := mem) C lf_24 rfl (show go_v (if ci_v .gt (nI (7 * n)) (nI L - nI 7) = true then 654 else 27) _ [] mem = _ by rw [nI_gt (by omega) hL, if_pos (decide_eq_true hlt)]; rfl) (hE _ _)
    · refine LW_p (pc' := 27) (lv' := lv4 b f g (nI (7 * n))) (st' := []) (mem' := mem) C lf_24 rfl (show go_v (if ci_v .gt (nI (7 * n)) (nI L - nI 7) = true then 654 else 27) _ [] mem = _ by rw [nI_gt (by omega) hL, if_neg (by rw [decide_eq_false hlt]; decide)]; rfl) ?_
      have hin : ∀ k : Nat, k < 7 → vp_in (nI (7 * n) + nI k) L := fun k hk => lw_in (by omega) hL
      have hin0 : vp_in (nI (7 * n)) L := by
        have := hin 0 (by omega)
        rw [nI_ad] at this
        exact this
      have next : ∀ mem2 : Mem, RR_r mem2 f g (n + 1) → LW p l e s m b below meth c D dA A ce so Q 648 (lv4 b f g (nI (7 * n))) [] mem2 := fun mem2 hR =>
        LW_p C lf_648 rfl rfl (LW_p C lf_651 rfl rfl (by
          show LW p l e s m b below meth c D dA A ce so Q 18 (lv4 b f g (nI (7 * n) + nI 7)) [] mem2
          rw [nI_ad]
          exact ih (n + 1) mem2 (by omega) (by omega) hR))
      refine LW_p C lf_27 rfl rfl (LW_p C lf_28 rfl rfl (LW_ld C hX hbl hbA lf_29 hin0 (LW_p C lf_30 rfl rfl (LW_p C lf_32 rfl rfl ?_))))
      generalize xs (nI (7 * n)).toNatClampNeg &&& nI 15 = x
      refine LW_p (pc' := sw_n 33 [79, 142, 155, 168, 243, 277, 321, 364, 398, 471, 484, 507, 531, 565, 579, 602] 0 x 648) C lf_33 rfl rfl ?_
      rw [sw_law]
      by_cases x0 : x = nI 0
      · rw [if_pos x0]
        exact lb_0 C hX hbl hbA hce hso hin hfm (by omega) h next
      rw [if_neg x0]
      by_cases x1 : x = nI 1
      · rw [if_pos x1]
        exact lb_1 C hX hbl hbA hce hso hin hfm (by omega) h next
      rw [if_neg x1]
      by_cases x2 : x = nI 2
      · rw [if_pos x2]
        exact lb_2 C hX hbl hbA hce hso hin hfm (by omega) h next
      rw [if_neg x2]
      by_cases x3 : x = nI 3
      · rw [if_pos x3]
        exact lb_3 C hX hbl hbA hce hso hin hfm (by omega) h next
      rw [if_neg x3]
      by_cases x4 : x = nI 4
      · rw [if_pos x4]
        exact lb_4 C hX hbl hbA hce hso hin hfm (by omega) h next
      rw [if_neg x4]
      by_cases x5 : x = nI 5
      · rw [if_pos x5]
        exact lb_5 C hX hbl hbA hce hso hin hfm (by omega) h next
      rw [if_neg x5]
      by_cases x6 : x = nI 6
      · rw [if_pos x6]
        exact lb_6 C hX hbl hbA hce hso hin hfm (by omega) h next
      rw [if_neg x6]
      by_cases x7 : x = nI 7
      · rw [if_pos x7]
        exact lb_7 C hX hbl hbA hce hso hin hfm (by omega) h next
      rw [if_neg x7]
      by_cases x8 : x = nI 8
      · rw [if_pos x8]
        exact lb_8 C hX hbl hbA hce hso hin hfm (by omega) h next
      rw [if_neg x8]
      by_cases x9 : x = nI 9
      · rw [if_pos x9]
        exact lb_9 C hX hbl hbA hce hso hin hfm (by omega) h next
      rw [if_neg x9]
      by_cases x10 : x = nI 10
      · rw [if_pos x10]
        exact lb_10 C hX hbl hbA hce hso hin hfm (by omega) h next
      rw [if_neg x10]
      by_cases x11 : x = nI 11
      · rw [if_pos x11]
        exact lb_11 C hX hbl hbA hce hso hin hfm (by omega) h next
      rw [if_neg x11]
      by_cases x12 : x = nI 12
      · rw [if_pos x12]
        exact lb_12 C hX hbl hbA hce hso hin hfm (by omega) h next
      rw [if_neg x12]
      by_cases x13 : x = nI 13
      · rw [if_pos x13]
        exact lb_13 C hX hbl hbA hce hso hin hfm (by omega) h next
      rw [if_neg x13]
      by_cases x14 : x = nI 14
      · rw [if_pos x14]
        exact lb_14 C hX hbl hbA hce hso hin hfm (by omega) h next
      rw [if_neg x14]
      by_cases x15 : x = nI 15
      · rw [if_pos x15]
        exact lb_15 C hX hbl hbA hce hso hin hfm (by omega) h next
      rw [if_neg x15]
      exact next mem (RR_mo h)
end LOOP

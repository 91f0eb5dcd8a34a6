section LWT
variable {p : Program} {l : Launch} {e : Env} {s : State} {m : MethodId} {below : List Frame} {meth : Method} {c : Code} {D : va_G} {dA : Nat → ClassId} {A : Nat → Prop} {b L ce so pc nx : Nat} {xs : Nat → Int32} {Q : State → Prop} {lv : LVs} {st : List Value} {mem : Mem} {f g : Nat} {i : Int32}
abbrev lv4 (b f g : Nat) (i : Int32) : LVs := [some (.ref b), some (.ref f), some (.ref g), some (.int i)]
/-- a number of the script -/
theorem LW_s {p1 p2 p3 p4 p5 : Nat} {k : Int32} {q3 : Ins} (C : cx_m lt_m D dA 9 p s m #[Value.ref b] meth c) (hX : va_X b L xs s s.heap) (hbl : b < s.heap.size) (hbA : ¬ A b) (h1 : fl_9 pc = some (.aload_n 0, p1, 0, 0, 0, 0, 0)) (h2 : fl_9 p1 = some (.iload_n 3, p2, 3, 0, 0, 0, 0)) (h3 : fl_9 p2 = some q3) (hp : pl_i q3.1 = true) (h3' : ∀ st : List Value, step_m lt_m (some .boolean) p2 q3 (lv4 b f g i) st mem = some (.inl (p3, lv4 b f g i, .int k :: st, mem))) (h4 : fl_9 p3 = some (.iadd, p4, 0, 0, 0, 0, 0)) (h5 : fl_9 p4 = some (.iaload, p5, 0, 0, 0, 0, 0)) (hi : vp_in (i + k) L) (h : LW p l e s m b below meth c D dA A ce so Q p5 (lv4 b f g i) (.int (xs (i + k).toNatClampNeg) :: st) mem) : LW p l e s m b below meth c D dA A ce so Q pc (lv4 b f g i) st mem :=
  LW_p C h1 rfl rfl (LW_p C h2 rfl rfl (LW_p C h3 hp (h3' _) (LW_p C h4 rfl rfl (LW_ld C hX hbl hbA h5 hi h))))
theorem LW_eq {v : Int32} {o : Int} {t : Nat} (C : cx_m lt_m D dA 9 p s m #[Value.ref b] meth c) (hf : fl_9 pc = some (.if_icmp .eq o, nx, t, 0, 0, 0, 0)) (h : LW p l e s m b below meth c D dA A ce so Q t lv st mem) : LW p l e s m b below meth c D dA A ce so Q pc lv (.int v :: .int v :: st) mem :=
  LW_p C hf rfl (show go_v (if ci_v .eq v v = true then t else nx) lv st mem = _ by rw [if_pos (by unfold ci_v; exact decide_eq_true rfl)]; rfl) h
theorem LW_lq {v : Int64} {o : Int} {t n2 : Nat} (C : cx_m lt_m D dA 9 p s m #[Value.ref b] meth c) (hf : fl_9 pc = some (.lcmp, nx, 0, 0, 0, 0, 0)) (hf2 : fl_9 nx = some (.ifCond .eq o, n2, t, 0, 0, 0, 0)) (h : LW p l e s m b below meth c D dA A ce so Q t lv st mem) : LW p l e s m b below meth c D dA A ce so Q pc lv (.long v :: .long v :: st) mem :=
  LW_p C hf rfl rfl (LW_p C hf2 rfl (show go_v (if ci_v .eq (lg_cmp v v) 0 = true then t else n2) lv st mem = _ by rw [if_pos (by unfold ci_v; exact decide_eq_true (by simp [lg_cmp]))]; rfl) h)
theorem ob_f {n : Nat} (h : RR_r mem f g n) : ∃ fs, mem f = some (.inl (7, fs)) := by
  obtain ⟨n, pt, W, K, Y, F, O, G, s, lat, S, P, N, t, W', K', F', s', G', O', Y', cm, fa, hd, fc, fp, fo, fs, fh, fy, fn, h1, h2, -⟩ := h
  exact ⟨_, h1.1⟩
theorem ob_g {n : Nat} (h : RR_r mem f g n) : ∃ fs, mem g = some (.inl (8, fs)) := by
  obtain ⟨n, pt, W, K, Y, F, O, G, s, lat, S, P, N, t, W', K', F', s', G', O', Y', cm, fa, hd, fc, fp, fo, fs, fh, fy, fn, h1, h2, -⟩ := h
  obtain ⟨⟨kn, nm, ns, to, k1⟩, -⟩ := h2
  exact ⟨_, k1⟩
theorem nI_ad {a b : Nat} : nI a + nI b = nI (a + b) := (Int32.ofNat_add a b).symm
theorem lw_in {a k L : Nat} (h : a + k < L) (hL : L ≤ 3584) : vp_in (nI a + nI k) L := by
  rw [nI_ad]
  unfold vp_in
  rw [nI_clamp (show a + k < 2 ^ 31 by omega)]
  rintro (q | q)
  · exact nI_pos (show a + k < 2 ^ 31 by omega) q
  · omega
/-- is the script at its end? -/
theorem nI_gt {a L : Nat} (ha : a ≤ 3584) (hL : L ≤ 3584) : ci_v .gt (nI a) (nI L - nI 7) = decide (L < a + 7) := by
  unfold ci_v
  refine decide_eq_decide.mpr ?_
  rw [Int32.lt_iff_toInt_lt, Int32.toInt_sub, nI_toInt (show L < 2 ^ 31 by omega), nI_toInt (show a < 2 ^ 31 by omega), nI_toInt (show 7 < 2 ^ 31 by omega), Int.bmod_eq_of_le (by omega) (by omega)]
  omega
end LWT

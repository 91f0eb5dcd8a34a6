section BEG
variable {p : Program} {l : Launch} {e : Env} {s : State} {m : MethodId} {below : List Frame} {meth : Method} {c : Code} {D : va_G} {dA : Nat → ClassId} {b L ce so pc nx : Nat} {xs : Nat → Int32} {Q : State → Prop} {lv : LVs} {st : List Value} {mem mem1 : Mem}
/-- the law makes an object -/
theorem LW_n {ci ix d0 N : Nat} {C0 : String} {T : u_T} (C : cx_m lt_m D dA 9 p s m #[Value.ref b] meth c) (hf : fl_9 pc = some (.new ix, nx, ci, d0, 0, 0, 0)) (hcl : cls_m[ci]? = some (C0, T, N)) (hdm : dm_m mem s.heap.size (s.heap.size + ce)) (hce : ce + 1 ≤ room_1.cells) (hso : so + N ≤ room_1.slots) (k : LW p l e s m b below meth c D dA (fun q => s.heap.size ≤ q) (ce + 1) (so + N) Q nx lv (.ref (s.heap.size + ce) :: st) (up_m mem (s.heap.size + ce) (.inl (ci, zf_m ci)))) : LW p l e s m b below meth c D dA (fun q => s.heap.size ≤ q) ce so Q pc lv st mem := fun H locs ls w1 s1 l1 => by
  have hk := lp_at hf
  simp only [lp_ok, Bool.and_eq_true, decide_eq_true_eq, hcl] at hk
  obtain ⟨⟨k1, k2⟩, k3⟩ := hk
  subst k2
  exact bk_new (mt := lt_m) (i := 9) (zL := s.heap.size) C (fun q => Iff.rfl) (Nat.le_refl _) hcl (gw_in (List.mem_of_getElem? k3) rfl) (bw_1 ci _ hcl).1 (bw_1 ci _ hcl).2 (zf_spec hcl) hce hso k1 w1 hdm s1 (fun H1 w2 s2 => k H1 locs ls w2 s2 l1)
/-- the law calls a constructor -/
theorem LW_i {j ix d0 a n cz s1 : Nat} {rest : List Value} (hj : j = 7 ∨ j = 8) (C : cx_m lt_m D dA 9 p s m #[Value.ref b] meth c) (hao : ao_m dA s) (hf : fl_9 pc = some (.invokespecial ix, nx, j, 0, d0, 0, 0)) (hcs : cs_v rest ≤ 8) (hdm : dm_m mem s.heap.size (s.heap.size + ce)) (hrun : bx n j 0 (pad_v (bt_m j).2.2.1 [.ref a]) [] mem (s.heap.size + ce) 0 = some (mem1, s.heap.size + ce + cz, s1)) (hce : ce + cz ≤ room_1.cells) (hso : so + s1 ≤ room_1.slots) (k : LW p l e s m b below meth c D dA (fun q => s.heap.size ≤ q) (ce + cz) (so + s1) Q nx lv rest mem1) : LW p l e s m b below meth c D dA (fun q => s.heap.size ≤ q) ce so Q pc lv (.ref a :: rest) mem := fun H locs ls w1 s2 l1 => by
  have hk := lp_at hf
  simp only [lp_ok, Bool.and_eq_true, decide_eq_true_eq] at hk
  obtain ⟨⟨k1, k2⟩, k3⟩ := hk
  subst k2
  have hM := fun hj9 => met_b l D dA (fun q => s.heap.size ≤ q) (zL := s.heap.size) (fun q => Iff.rfl) hj9 (Nat.le_add_right _ _) hdm hrun
  refine W_sz fun hsz => ?_
  have hszE : H.size = s.heap.size + ce := Nat.le_antisymm hsz (sz_lo (Nat.le_refl _) w1 hdm s2)
  rcases hj with rfl | rfl
  · exact b_init (mt := lt_m) (i := 9) (j := 7) (n0 := d0) (mc := cz) (ms := s1) false C bmk_7 k1 (Nat.le_of_ble_eq_true rfl) (Nat.le_of_ble_eq_true rfl) k3 hao hce hso hcs w1 hszE s2 l1 (hM (by omega)) (fun H1 locs1 w2 s3 => k H1 locs1 ls w2 s3 l1)
  · exact b_init (mt := lt_m) (i := 9) (j := 8) (n0 := d0) (mc := cz) (ms := s1) false C bmk_8 k1 (Nat.le_of_ble_eq_true rfl) (Nat.le_of_ble_eq_true rfl) k3 hao hce hso hcs w1 hszE s2 l1 (hM (by omega)) (fun H1 locs1 w2 s3 => k H1 locs1 ls w2 s3 l1)
/-- the law answers true -/
theorem LW_end (C0 : lw_At p s m meth c b L xs) (C : cx_m lt_m D dA 9 p s m #[Value.ref b] meth c) (hce : ce ≤ 600000) (hso : so ≤ 7302250) : LW p l e s m b below meth c D dA (fun q => s.heap.size ≤ q) ce so (lw_Z below #[Value.ref b] s) 654 lv [] mem :=
  LW_p C lf_654 rfl rfl (fun H locs ls w1 s1 l1 => va_forget (fun q hq => s1.2.2 q hq) (W.widen hce hso (lw_ret C0.1 C0.2.1 C0.2.2.1 C0.2.2.2.2.2.2.2.2.1 (by decide +kernel))))
end BEG
/-- from the entry, for every script of at most 3584 ints, the law comes to its end with true -/
theorem whole_start {p : Program} {e : Env} {s : State} {m : MethodId} {below : List Frame} {meth : Method} {c : Code} (l : Launch) {b L : Nat} {xs : Nat → Int32} (hL : L ≤ 3584) (C0 : lw_At p s m meth c b L xs) : W p l e room_1 s m #[Value.ref b] below meth c s.heap [] 0 0 (lw_Z below #[Value.ref b] s) (entryFrame m ([Value.ref b] : List Value).toArray 4) := by
  obtain ⟨D, dA, C, hao⟩ := lw_begin C0
  have hX := C0.2.2.2.2.2.2.1
  have hbl := C0.2.2.2.2.2.2.2.1
  have hbA : ¬ (fun q => s.heap.size ≤ q) b := Nat.not_le.mpr hbl
  have hl := lr_pad (lv_entry [Value.ref b] (n := 4) (Nat.le_of_ble_eq_true rfl))
  rw [lg_entry_eq]
  have w0 : mw_m D dA (fun q => s.heap.size ≤ q) (fun _ => none) s.heap := ⟨[], fun k q h => (by cases h), ⟨fun i j p q h => (by cases h), fun k q h => (by cases h)⟩, fun a e h => (by cases h)⟩
  suffices hh : LW p l e s m b below meth c D dA (fun q => s.heap.size ≤ q) 0 0 (lw_Z below #[Value.ref b] s) 0 (pad_v 4 [Value.ref b]) [] (fun _ => none) from hh s.heap [] _ w0 va_S.rf hl
  have d0 : dm_m (fun _ => none) s.heap.size (s.heap.size + 0) := fun x h1 h2 => absurd h1 (by omega)
  refine LW_n C lf_0 rfl d0 (by decide) (by decide) ?_
  refine LW_p C lf_3 rfl rfl ?_
  have d1 : dm_m (up_m (fun _ => none) (s.heap.size + 0) (.inl (7, zf_m 7))) s.heap.size (s.heap.size + (0 + 1)) := fun x h1 h2 => by
    have hx : x = s.heap.size + 0 := by omega
    rw [hx]
    exact ⟨_, up_self⟩
  obtain ⟨memF, rF, ⟨S, P, N, t, vF⟩, frF⟩ := r_F (n := 0) (f := s.heap.size + 0) (mem := up_m (fun _ => none) (s.heap.size + 0) (.inl (7, zf_m 7))) up_self
  refine LW_i (cz := 82) (s1 := 2135) (Or.inl rfl) C hao lf_4 (Nat.le_of_ble_eq_true rfl) d1 rF (by decide) (by decide) ?_
  refine LW_p C lf_7 rfl rfl ?_
  have d2 : dm_m memF s.heap.size (s.heap.size + (0 + 1 + 82)) := bx_dm fb_ok _ _ _ _ _ _ _ _ _ _ _ (show 7 < 9 by decide) rF d1
  refine LW_n C lf_8 rfl d2 (by decide) (by decide) ?_
  refine LW_p C lf_11 rfl rfl ?_
  have d3 : dm_m (up_m memF (s.heap.size + (0 + 1 + 82)) (.inl (8, zf_m 8))) s.heap.size (s.heap.size + (0 + 1 + 82 + 1)) := fun x h1 h2 => by
    by_cases hx : x = s.heap.size + (0 + 1 + 82)
    · rw [hx]
      exact ⟨_, up_self⟩
    · obtain ⟨y, hy⟩ := d2 x h1 (by omega)
      exact ⟨y, (up_ne hx).trans hy⟩
  obtain ⟨memM, rM, vM, frM⟩ := r_M (n := 0) (m := s.heap.size + (0 + 1 + 82)) (mem := up_m memF (s.heap.size + (0 + 1 + 82)) (.inl (8, zf_m 8))) up_self
  refine LW_i (cz := 18) (s1 := 5952) (Or.inr rfl) C hao lf_12 (Nat.le_of_ble_eq_true rfl) d3 rM (by decide) (by decide) ?_
  refine LW_p C lf_15 rfl rfl (LW_p C lf_16 rfl rfl (LW_p C lf_17 rfl rfl ?_))
  have hv := cv_fr vF (mem' := memM) (fun q q1 q2 => (frM q (Or.inl (by omega))).trans (up_ne (by omega)))
  exact lw_loop (f := s.heap.size + 0) (g := s.heap.size + (0 + 1 + 82)) C hX hbl hbA (by decide) (by decide) hL (Or.inl (by omega)) (fun i mem => LW_end C0 C (by decide) (by decide)) 513 0 memM (by omega) (by omega) (RR_0 hv vM)

-- runs of constructors
abbrev bx (n i pc : Nat) (lv : LVs) (st : List Value) (mem : Mem) (z so : Nat) : Option (Mem × Nat × Nat) := bx_m bt_m fb_m n i pc lv st mem z so
section BXR
variable {n i pc nx z so a b : Nat} {q : Ins} {lv lv' : LVs} {st st' r : List Value} {mem mem' M : Mem} {pc' dz ds : Nat} {R : Option (Mem × Nat × Nat)}
theorem bx_S (hf : fb_m i pc = some q) (hs : bs_m bt_m pc q lv st mem z = some (.inl (pc', lv', st', mem', dz, ds))) (h : bx n i pc' lv' st' mem' (z + dz) (so + ds) = R) : bx (n + 1) i pc lv st mem z so = R := by
  show bx_m bt_m fb_m (n + 1) i pc lv st mem z so = R
  rw [bx_m, hf]
  dsimp only
  rw [hs]
  exact h
theorem bx_S0 (hf : fb_m i pc = some q) (hs : bs_m bt_m pc q lv st mem z = some (.inl (pc', lv', st', mem', 0, 0))) (h : bx n i pc' lv' st' mem' z so = R) : bx (n + 1) i pc lv st mem z so = R := bx_S hf hs h
theorem bx_R (hf : fb_m i pc = some (.return_, nx, 0, 0, 0, 0, 0)) : bx (n + 1) i pc lv [] mem z so = some (mem, z, so) := by
  show bx_m bt_m fb_m (n + 1) i pc lv [] mem z so = _
  rw [bx_m, hf]
  rfl
/-- aload_0 -/
theorem bx_l0 (hf : fb_m i pc = some (.aload_n 0, nx, 0, 0, 0, 0, 0)) (hl : lv[0]? = some (some (.ref a))) (h : bx n i nx lv (.ref a :: st) mem z so = R) : bx (n + 1) i pc lv st mem z so = R := by
  refine bx_S0 hf ?_ h
  simp only [bs_m, step_m]
  rw [hl]
  rfl
theorem bx_il {k : Fin 4} {x : Int32} (hf : fb_m i pc = some (.iload_n k, nx, 1, 0, 0, 0, 0)) (hl : lv[1]? = some (some (.int x))) (h : bx n i nx lv (.int x :: st) mem z so = R) : bx (n + 1) i pc lv st mem z so = R := by
  refine bx_S0 hf ?_ h
  simp only [bs_m, step_m]
  rw [hl]
  rfl
/-- a number -/
theorem bx_bp {k : Int} {x : Int32} (hf : fb_m i pc = some (.bipush k, nx, 0, 0, 0, 0, x)) (h : bx n i nx lv (.int x :: st) mem z so = R) : bx (n + 1) i pc lv st mem z so = R := bx_S hf rfl h
theorem bx_sp {k : Int} {x : Int32} (hf : fb_m i pc = some (.sipush k, nx, 0, 0, 0, 0, x)) (h : bx n i nx lv (.int x :: st) mem z so = R) : bx (n + 1) i pc lv st mem z so = R := bx_S hf rfl h
theorem bx_ic {k : Int} {x : Int32} (hf : fb_m i pc = some (.iconst k, nx, 0, 0, 0, 0, x)) (h : bx n i nx lv (.int x :: st) mem z so = R) : bx (n + 1) i pc lv st mem z so = R := bx_S hf rfl h
theorem bx_lc {k : Fin 2} {x : Int64} (hf : fb_m i pc = some (.lconst k, nx, 0, 0, 0, x, 0)) (h : bx n i nx lv (.long x :: st) mem z so = R) : bx (n + 1) i pc lv st mem z so = R := bx_S hf rfl h
theorem bx_dp (hf : fb_m i pc = some (.dup, nx, 0, 0, 0, 0, 0)) (h : bx n i nx lv (.ref a :: .ref a :: st) mem z so = R) : bx (n + 1) i pc lv (.ref a :: st) mem z so = R := bx_S hf rfl h
theorem bx_na {t N : Nat} {k : Int32} {at' : ArrayType} (hf : fb_m i pc = some (.newarray at', nx, t, 0, 0, 0, 0)) (hg : lg_b k = true) (hN : k.toNatClampNeg = N) (h : bx n i nx lv (.ref z :: st) (up_m mem z (.inr (t, za_m t N))) (z + 1) (so + N) = R) : bx (n + 1) i pc lv (.int k :: st) mem z so = R := by
  subst hN
  refine bx_S hf ?_ h
  simp only [bs_m, w1_i, on_v, hg, if_true]
theorem bx_nq {t N p0 : Nat} {k : Int32} {ix : Nat} (hf : fb_m i pc = some (.anewarray ix, nx, t, p0, 0, 0, 0)) (hg : lg_b k = true) (hN : k.toNatClampNeg = N) (h : bx n i nx lv (.ref z :: st) (up_m mem z (.inr (t, N, .inr (.inr (.inr (.inr (fun _ => none))))))) (z + 1) (so + N) = R) : bx (n + 1) i pc lv (.int k :: st) mem z so = R := by
  subst hN
  refine bx_S hf ?_ h
  simp only [bs_m, w1_i, on_v, hg, if_true]
theorem bx_ma {t t' N K d0 ix : Nat} {x y : Int32} (hf : fb_m i pc = some (.multianewarray ix 2, nx, t, t', d0, 0, 0)) (hx : lg_b x = true) (hy : lg_b y = true) (hN : x.toNatClampNeg = N) (hK : y.toNatClampNeg = K) (h : bx n i nx lv (.ref z :: st) (mr_m mem z N (.inr (t, N, .inr (.inr (.inr (.inr (fun j => if j < N then some (z + 1 + j) else none)))))) (.inr (t', za_m t' K))) (z + (1 + N)) (so + (N + N * K)) = R) : bx (n + 1) i pc lv (.int y :: .int x :: st) mem z so = R := by
  subst hN
  subst hK
  refine bx_S hf ?_ h
  simp only [bs_m, w2_i, on_v, hx, hy, Bool.and_self, if_true]
theorem bx_nw {ci ix p0 : Nat} (hf : fb_m i pc = some (.new ix, nx, ci, p0, 0, 0, 0)) (h : bx n i nx lv (.ref z :: st) (up_m mem z (.inl (ci, zf_m ci))) (z + 1) (so + nf_m ci) = R) : bx (n + 1) i pc lv st mem z so = R := bx_S hf rfl h
theorem bx_ob {ix d0 : Nat} (hf : fb_m i pc = some (.invokespecial ix, nx, 1000, 0, d0, 0, 0)) (h : bx n i nx lv [] mem z so = R) : bx (n + 1) i pc lv [.ref a] mem z so = R := bx_S hf rfl h
theorem bx_pf {ci k ix d0 : Nat} {zz : Int64} {fs fs' : List Value} {v : Value} (hf : fb_m i pc = some (.putfield ix, nx, ci, k, d0, zz, 0)) (hm : mem a = some (.inl (ci, fs))) (hk : decide (k < fs.length) = true) (ho : ok_v (tyk_m ci k) v = true) (hs : fs.set k v = fs') (h : bx n i nx lv st (up_m mem a (.inl (ci, fs'))) z so = R) : bx (n + 1) i pc lv (v :: .ref a :: st) mem z so = R := by
  subst hs
  refine bx_S0 hf ?_ h
  rw [bs_put (ix := ix) rfl]
  simp only [step_m, w1_v, w1_r, hm, ob_v, if_true, on_v, hk, ho, Bool.and_self]
  rfl
theorem bx_gf {ci k ix d0 : Nat} {fs : List Value} {v : Value} (hf : fb_m i pc = some (.getfield ix, nx, ci, k, d0, 0, 0)) (hm : mem a = some (.inl (ci, fs))) (hv : fs[k]? = some v) (h : bx n i nx lv (v :: st) mem z so = R) : bx (n + 1) i pc lv (.ref a :: st) mem z so = R := by
  refine bx_S0 hf ?_ h
  simp only [bs_m, step_m, w1_r, hm, ob_v, if_true, vl_v, hv]
  rfl
theorem bx_as {t ci n0 v : Nat} {j : Int32} {f : Nat → Option Nat} {vs : List Value} (hf : fb_m i pc = some (.aastore, nx, t, ci, 0, 0, 0)) (ha : mem a = some (.inr (t, n0, .inr (.inr (.inr (.inr f)))))) (hv : mem v = some (.inl (ci, vs))) (hj : vp_in j n0) (h : bx n i nx lv st (up_m mem a (.inr (t, n0, .inr (.inr (.inr (.inr (va_up f j.toNatClampNeg (some v)))))))) z so = R) : bx (n + 1) i pc lv (.ref v :: .int j :: .ref a :: st) mem z so = R := by
  refine bx_S0 hf ?_ h
  simp only [bs_m, aq_v, ha, hv, ob_v, if_true, on_v, decide_true, ix_v]
  rw [if_neg hj]
/-- a constructor within -/
theorem bx_in {j ix d0 z1 s1 : Nat} {zz : Int64} {mem1 : Mem} (hf : fb_m i pc = some (.invokespecial ix, nx, j, 0, d0, zz, 0)) (hj : ¬ j = 1000) (hc : cs_v st ≤ 8) (hr : bx n j 0 (pad_v (bt_m j).2.2.1 [.ref a]) [] mem z 0 = some (mem1, z1, s1)) (h : bx n i nx lv st mem1 z1 (so + s1) = R) : bx (n + 1) i pc lv (.ref a :: st) mem z so = R := by
  show bx_m bt_m fb_m (n + 1) i pc lv (.ref a :: st) mem z so = R
  rw [bx_m, hf]
  have hs : bs_m bt_m pc (.invokespecial ix, nx, j, 0, d0, zz, 0) lv (.ref a :: st) mem z = some (.inr (.inr (j, [.ref a], st))) := by
    simp only [bs_m, w1_r, on_v, hc, decide_true, if_true]
    rw [if_neg hj]
  dsimp only
  rw [hs]
  dsimp only
  have hr' : bx_m bt_m fb_m n j 0 (pad_v (bt_m j).2.2.1 [.ref a]) [] mem z 0 = some (mem1, z1, s1) := hr
  rw [hr']
  exact h
end BXR

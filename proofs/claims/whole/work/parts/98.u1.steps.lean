section SoundK
variable {mt : Nat → Mth} {M i pc : Nat} {q : Ins} {lv lv' : LVs} {st st' : List Value} {mem mem' : Mem} {pc' : Nat} {D : va_G} {dA : Nat → ClassId} {A : Nat → Prop}
variable {p : Program} {l : Launch} {e : Env} {R : Room} {s : State} {m : MethodId} {args : Array Value} {below : List Frame} {meth : Method} {c : Code} {H : Heap} {locs : List Loc} {Q : State → Prop} {ls : Array Slot} {ce so : Nat}
set_option maxHeartbeats 4000000 in
theorem st_nk (hok : in_ok mt M i pc q = true) (hns : ∀ ix, q.1 ≠ .invokestatic ix) (hstep : step_m mt (mt i).2.2.2.1 pc q lv st mem = some (.inl (pc', lv', st', mem'))) (C : cx_m mt D dA i p s m args meth c) (hw : mw_m D dA A mem H) (hS : va_S A s.heap H locs) (hl : lr_m ls (mt i).2.2.1 lv)
    (kk : ∀ (H1 : Heap) (locs1 : List Loc) (ls1 : Array Slot), mw_m D dA A mem' H1 → va_S A s.heap H1 locs1 → lr_m ls1 (mt i).2.2.1 lv' → W p l e R s m args below meth c H1 locs1 ce so Q (F0 m pc' ls1 st')) : W p l e R s m args below meth c H locs ce so Q (F0 m pc ls st) := by
  obtain ⟨hd, hn, hx⟩ := in_ok_spec hok
  obtain ⟨hexec, hb, hml, hown, hts, hnw, hrt, hlk, hK⟩ := C
  obtain ⟨ins, nx, ia, ib, id1, iz, iy⟩ := q
  dsimp only at hd hn hx hstep
  cases ins with
  | iadd =>
    obtain ⟨x, y, r, rfl, hstep⟩ := w2_i_inv hstep
    obtain ⟨rfl, rfl, rfl, rfl⟩ := nx_v_inv hstep
    have hn : pc' = pc + 1 := of_decide_eq_true hn
    subst hn
    exact lv_iadd hexec hb hd (kk H locs ls hw hS hl)
  | isub =>
    obtain ⟨x, y, r, rfl, hstep⟩ := w2_i_inv hstep
    obtain ⟨rfl, rfl, rfl, rfl⟩ := nx_v_inv hstep
    have hn : pc' = pc + 1 := of_decide_eq_true hn
    subst hn
    exact lv_isub hexec hb hd (kk H locs ls hw hS hl)
  | imul =>
    obtain ⟨x, y, r, rfl, hstep⟩ := w2_i_inv hstep
    obtain ⟨rfl, rfl, rfl, rfl⟩ := nx_v_inv hstep
    have hn : pc' = pc + 1 := of_decide_eq_true hn
    subst hn
    exact lv_imul hexec hb hd (kk H locs ls hw hS hl)
  | iand =>
    obtain ⟨x, y, r, rfl, hstep⟩ := w2_i_inv hstep
    obtain ⟨rfl, rfl, rfl, rfl⟩ := nx_v_inv hstep
    have hn : pc' = pc + 1 := of_decide_eq_true hn
    subst hn
    exact lv_iand hexec hb hd (kk H locs ls hw hS hl)
  | ior =>
    obtain ⟨x, y, r, rfl, hstep⟩ := w2_i_inv hstep
    obtain ⟨rfl, rfl, rfl, rfl⟩ := nx_v_inv hstep
    have hn : pc' = pc + 1 := of_decide_eq_true hn
    subst hn
    exact lv_ior hexec hb hd (kk H locs ls hw hS hl)
  | ishl =>
    obtain ⟨x, y, r, rfl, hstep⟩ := w2_i_inv hstep
    obtain ⟨rfl, rfl, rfl, rfl⟩ := nx_v_inv hstep
    have hn : pc' = pc + 1 := of_decide_eq_true hn
    subst hn
    exact lv_ishl hexec hb hd (kk H locs ls hw hS hl)
  | ishr =>
    obtain ⟨x, y, r, rfl, hstep⟩ := w2_i_inv hstep
    obtain ⟨rfl, rfl, rfl, rfl⟩ := nx_v_inv hstep
    have hn : pc' = pc + 1 := of_decide_eq_true hn
    subst hn
    exact lv_ishr hexec hb hd (kk H locs ls hw hS hl)
  | ineg =>
    obtain ⟨x, r, rfl, hstep⟩ := w1_i_inv hstep
    obtain ⟨rfl, rfl, rfl, rfl⟩ := nx_v_inv hstep
    have hn : pc' = pc + 1 := of_decide_eq_true hn
    subst hn
    exact lv_ineg hexec hb hd (kk H locs ls hw hS hl)
  | ladd =>
    obtain ⟨x, y, r, rfl, hstep⟩ := w2_l_inv hstep
    obtain ⟨rfl, rfl, rfl, rfl⟩ := nx_v_inv hstep
    have hn : pc' = pc + 1 := of_decide_eq_true hn
    subst hn
    exact lv_ladd hexec hb hd (kk H locs ls hw hS hl)
  | lsub =>
    obtain ⟨x, y, r, rfl, hstep⟩ := w2_l_inv hstep
    obtain ⟨rfl, rfl, rfl, rfl⟩ := nx_v_inv hstep
    have hn : pc' = pc + 1 := of_decide_eq_true hn
    subst hn
    exact lv_lsub hexec hb hd (kk H locs ls hw hS hl)
  | lmul =>
    obtain ⟨x, y, r, rfl, hstep⟩ := w2_l_inv hstep
    obtain ⟨rfl, rfl, rfl, rfl⟩ := nx_v_inv hstep
    have hn : pc' = pc + 1 := of_decide_eq_true hn
    subst hn
    exact lv_lmul hexec hb hd (kk H locs ls hw hS hl)
  | land =>
    obtain ⟨x, y, r, rfl, hstep⟩ := w2_l_inv hstep
    obtain ⟨rfl, rfl, rfl, rfl⟩ := nx_v_inv hstep
    have hn : pc' = pc + 1 := of_decide_eq_true hn
    subst hn
    exact lv_land hexec hb hd (kk H locs ls hw hS hl)
  | lor =>
    obtain ⟨x, y, r, rfl, hstep⟩ := w2_l_inv hstep
    obtain ⟨rfl, rfl, rfl, rfl⟩ := nx_v_inv hstep
    have hn : pc' = pc + 1 := of_decide_eq_true hn
    subst hn
    exact lv_lor hexec hb hd (kk H locs ls hw hS hl)
  | lneg =>
    obtain ⟨x, r, rfl, hstep⟩ := w1_l_inv hstep
    obtain ⟨rfl, rfl, rfl, rfl⟩ := nx_v_inv hstep
    have hn : pc' = pc + 1 := of_decide_eq_true hn
    subst hn
    exact lv_lneg hexec hb hd (kk H locs ls hw hS hl)
  | lshl =>
    obtain ⟨x, y, r, rfl, hstep⟩ := w2_s_inv hstep
    obtain ⟨rfl, rfl, rfl, rfl⟩ := nx_v_inv hstep
    have hn : pc' = pc + 1 := of_decide_eq_true hn
    subst hn
    exact lv_lshl hexec hb hd rfl (kk H locs ls hw hS hl)
  | lshr =>
    obtain ⟨x, y, r, rfl, hstep⟩ := w2_s_inv hstep
    obtain ⟨rfl, rfl, rfl, rfl⟩ := nx_v_inv hstep
    have hn : pc' = pc + 1 := of_decide_eq_true hn
    subst hn
    exact lv_lshr hexec hb hd rfl (kk H locs ls hw hS hl)
  | i2l =>
    obtain ⟨x, r, rfl, hstep⟩ := w1_i_inv hstep
    obtain ⟨rfl, rfl, rfl, rfl⟩ := nx_v_inv hstep
    have hn : pc' = pc + 1 := of_decide_eq_true hn
    subst hn
    exact lv_i2l hexec hb hd rfl (kk H locs ls hw hS hl)
  | l2i =>
    obtain ⟨x, r, rfl, hstep⟩ := w1_l_inv hstep
    obtain ⟨rfl, rfl, rfl, rfl⟩ := nx_v_inv hstep
    have hn : pc' = pc + 1 := of_decide_eq_true hn
    subst hn
    exact lv_l2i hexec hb hd rfl (kk H locs ls hw hS hl)
  | lcmp =>
    obtain ⟨x, y, r, rfl, hstep⟩ := w2_l_inv hstep
    obtain ⟨rfl, rfl, rfl, rfl⟩ := nx_v_inv hstep
    have hn : pc' = pc + 1 := of_decide_eq_true hn
    subst hn
    exact W.lcmp hexec hb hd (kk H locs ls hw hS hl)
  | idiv =>
    obtain ⟨x, y, r, rfl, hstep⟩ := w2_i_inv hstep
    obtain ⟨hz, hstep⟩ := on_v_inv hstep
    obtain ⟨rfl, rfl, rfl, rfl⟩ := nx_v_inv hstep
    have hn : pc' = pc + 1 := of_decide_eq_true hn
    subst hn
    exact lv_idiv hexec hb hd (by simpa using hz) (kk H locs ls hw hS hl)
  | irem =>
    obtain ⟨x, y, r, rfl, hstep⟩ := w2_i_inv hstep
    obtain ⟨hz, hstep⟩ := on_v_inv hstep
    obtain ⟨rfl, rfl, rfl, rfl⟩ := nx_v_inv hstep
    have hn : pc' = pc + 1 := of_decide_eq_true hn
    subst hn
    exact lv_irem hexec hb hd (by simpa using hz) (kk H locs ls hw hS hl)
  | ldiv =>
    obtain ⟨x, y, r, rfl, hstep⟩ := w2_l_inv hstep
    obtain ⟨hz, hstep⟩ := on_v_inv hstep
    obtain ⟨rfl, rfl, rfl, rfl⟩ := nx_v_inv hstep
    have hn : pc' = pc + 1 := of_decide_eq_true hn
    subst hn
    exact lv_ldiv hexec hb hd (by simpa using hz) (kk H locs ls hw hS hl)
  | lrem =>
    obtain ⟨x, y, r, rfl, hstep⟩ := w2_l_inv hstep
    obtain ⟨hz, hstep⟩ := on_v_inv hstep
    obtain ⟨rfl, rfl, rfl, rfl⟩ := nx_v_inv hstep
    have hn : pc' = pc + 1 := of_decide_eq_true hn
    subst hn
    exact lv_lrem hexec hb hd (by simpa using hz) (kk H locs ls hw hS hl)
  | iconst n =>
    obtain ⟨rfl, rfl, rfl, rfl⟩ := nx_v_inv hstep
    have hn : pc' = pc + 1 := of_decide_eq_true hn
    subst hn
    exact lv_iconst hexec hb hd (of_decide_eq_true hx) (kk H locs ls hw hS hl)
  | bipush n =>
    obtain ⟨rfl, rfl, rfl, rfl⟩ := nx_v_inv hstep
    have hn : pc' = pc + 2 := of_decide_eq_true hn
    subst hn
    exact lv_bipush hexec hb hd (of_decide_eq_true hx) (kk H locs ls hw hS hl)
  | sipush n =>
    obtain ⟨rfl, rfl, rfl, rfl⟩ := nx_v_inv hstep
    have hn : pc' = pc + 3 := of_decide_eq_true hn
    subst hn
    exact lv_sipush hexec hb hd (of_decide_eq_true hx) (kk H locs ls hw hS hl)
  | lconst n =>
    obtain ⟨rfl, rfl, rfl, rfl⟩ := nx_v_inv hstep
    have hn : pc' = pc + 1 := of_decide_eq_true hn
    subst hn
    exact lv_lconst hexec hb hd (of_decide_eq_true hx) (kk H locs ls hw hS hl)
  | ldc2_w ix =>
    obtain ⟨rfl, rfl, rfl, rfl⟩ := nx_v_inv hstep
    have hn : pc' = pc + 3 := of_decide_eq_true hn
    subst hn
    exact lv_ldc2 hexec hb hown (hts _ (gw_in (List.mem_of_getElem? (of_decide_eq_true hx)) rfl)) hd (kk H locs ls hw hS hl)
  | iload_n k =>
    obtain ⟨x, hx1, hstep⟩ := li_v_inv hstep
    obtain ⟨rfl, rfl, rfl, rfl⟩ := nx_v_inv hstep
    have hn : pc' = pc + 1 := of_decide_eq_true hn
    subst hn
    exact lv_iload_n hexec hb hd (of_decide_eq_true hx) (hl.2.2 _ _ hx1) (kk H locs ls hw hS hl)
  | iload k =>
    obtain ⟨x, hx1, hstep⟩ := li_v_inv hstep
    obtain ⟨rfl, rfl, rfl, rfl⟩ := nx_v_inv hstep
    have hn : pc' = pc + 2 := of_decide_eq_true hn
    subst hn
    have hk : k = ia := of_decide_eq_true hx
    subst hk
    exact lv_iload hexec hb hd (hl.2.2 _ _ hx1) (kk H locs ls hw hS hl)
  | lload_n k =>
    obtain ⟨x, hx1, hstep⟩ := ll_v_inv hstep
    obtain ⟨rfl, rfl, rfl, rfl⟩ := nx_v_inv hstep
    have hn : pc' = pc + 1 := of_decide_eq_true hn
    subst hn
    exact lv_lload_n hexec hb hd (of_decide_eq_true hx) (hl.2.2 _ _ hx1) (kk H locs ls hw hS hl)
  | lload k =>
    obtain ⟨x, hx1, hstep⟩ := ll_v_inv hstep
    obtain ⟨rfl, rfl, rfl, rfl⟩ := nx_v_inv hstep
    have hn : pc' = pc + 2 := of_decide_eq_true hn
    subst hn
    have hk : k = ia := of_decide_eq_true hx
    subst hk
    exact lv_lload hexec hb hd (hl.2.2 _ _ hx1) (kk H locs ls hw hS hl)
  | aload_n k =>
    obtain ⟨x, hx1, hstep⟩ := lr_v_inv hstep
    obtain ⟨rfl, rfl, rfl, rfl⟩ := nx_v_inv hstep
    have hn : pc' = pc + 1 := of_decide_eq_true hn
    subst hn
    exact lv_aload_n hexec hb hd (of_decide_eq_true hx) (hl.2.2 _ _ hx1) (kk H locs ls hw hS hl)
  | aload k =>
    obtain ⟨x, hx1, hstep⟩ := lr_v_inv hstep
    obtain ⟨rfl, rfl, rfl, rfl⟩ := nx_v_inv hstep
    have hn : pc' = pc + 2 := of_decide_eq_true hn
    subst hn
    have hk : k = ia := of_decide_eq_true hx
    subst hk
    exact lv_aload hexec hb hd (hl.2.2 _ _ hx1) (kk H locs ls hw hS hl)
  | istore_n k =>
    obtain ⟨x, r, rfl, hstep⟩ := w1_i_inv hstep
    obtain ⟨rfl, rfl, rfl, rfl⟩ := nx_v_inv hstep
    have hn : pc' = pc + 1 := of_decide_eq_true hn
    subst hn
    have hx := Bool.and_eq_true_iff.mp hx
    exact lv_istore_n hexec hb hd (of_decide_eq_true hx.1) (lr_has hl) (of_decide_eq_true hx.2) rfl (fun ls1 h1 => kk H locs ls1 hw hS (lr_s1 h1))
  | istore k =>
    obtain ⟨x, r, rfl, hstep⟩ := w1_i_inv hstep
    obtain ⟨rfl, rfl, rfl, rfl⟩ := nx_v_inv hstep
    have hn : pc' = pc + 2 := of_decide_eq_true hn
    subst hn
    have hx := Bool.and_eq_true_iff.mp hx
    have hk : k = ia := of_decide_eq_true hx.1
    subst hk
    exact lv_istore hexec hb hd (lr_has hl) (of_decide_eq_true hx.2) rfl (fun ls1 h1 => kk H locs ls1 hw hS (lr_s1 h1))
  | lstore_n k =>
    obtain ⟨x, r, rfl, hstep⟩ := w1_l_inv hstep
    obtain ⟨rfl, rfl, rfl, rfl⟩ := nx_v_inv hstep
    have hn : pc' = pc + 1 := of_decide_eq_true hn
    subst hn
    have hx := Bool.and_eq_true_iff.mp hx
    exact lv_lstore_n hexec hb hd (of_decide_eq_true hx.1) (lr_has hl) (of_decide_eq_true hx.2) rfl (fun ls1 h1 => kk H locs ls1 hw hS (lr_s2 h1))
  | lstore k =>
    obtain ⟨x, r, rfl, hstep⟩ := w1_l_inv hstep
    obtain ⟨rfl, rfl, rfl, rfl⟩ := nx_v_inv hstep
    have hn : pc' = pc + 2 := of_decide_eq_true hn
    subst hn
    have hx := Bool.and_eq_true_iff.mp hx
    have hk : k = ia := of_decide_eq_true hx.1
    subst hk
    exact lv_lstore hexec hb hd (lr_has hl) (of_decide_eq_true hx.2) rfl (fun ls1 h1 => kk H locs ls1 hw hS (lr_s2 h1))
  | astore_n k =>
    obtain ⟨x, r, rfl, hstep⟩ := w1_r_inv hstep
    obtain ⟨rfl, rfl, rfl, rfl⟩ := nx_v_inv hstep
    have hn : pc' = pc + 1 := of_decide_eq_true hn
    subst hn
    have hx := Bool.and_eq_true_iff.mp hx
    exact lv_astore_n hexec hb hd (of_decide_eq_true hx.1) (lr_has hl) (of_decide_eq_true hx.2) rfl (fun ls1 h1 => kk H locs ls1 hw hS (lr_s1 h1))
  | astore k =>
    obtain ⟨x, r, rfl, hstep⟩ := w1_r_inv hstep
    obtain ⟨rfl, rfl, rfl, rfl⟩ := nx_v_inv hstep
    have hn : pc' = pc + 2 := of_decide_eq_true hn
    subst hn
    have hx := Bool.and_eq_true_iff.mp hx
    have hk : k = ia := of_decide_eq_true hx.1
    subst hk
    exact lv_astore hexec hb hd (lr_has hl) (of_decide_eq_true hx.2) rfl (fun ls1 h1 => kk H locs ls1 hw hS (lr_s1 h1))
  | iinc k n =>
    obtain ⟨x, hx1, hstep⟩ := li_v_inv hstep
    obtain ⟨rfl, rfl, rfl, rfl⟩ := nx_v_inv hstep
    have hn : pc' = pc + 3 := of_decide_eq_true hn
    subst hn
    have hx := Bool.and_eq_true_iff.mp hx
    have hx2 := Bool.and_eq_true_iff.mp hx.1
    have hk : k = ia := of_decide_eq_true hx2.1
    subst hk
    obtain ⟨kp, hkp⟩ := List.getElem?_of_mem (pr_mem.mpr hx1)
    exact lv_iinc (k := kp) hexec hb hd (lr_has hl) hkp (by rw [of_decide_eq_true hx.2]) (of_decide_eq_true hx2.2) rfl (fun ls1 h1 => kk H locs ls1 hw hS (lr_s1 h1))
  | dup =>
    obtain ⟨v, r, rfl, hstep⟩ := w1_v_inv hstep
    obtain ⟨hz, hstep⟩ := on_v_inv hstep
    obtain ⟨rfl, rfl, rfl, rfl⟩ := nx_v_inv hstep
    have hn : pc' = pc + 1 := of_decide_eq_true hn
    subst hn
    exact lv_dup hexec hb hd (by simpa using hz) (kk H locs ls hw hS hl)
  | pop =>
    obtain ⟨v, r, rfl, hstep⟩ := w1_v_inv hstep
    obtain ⟨hz, hstep⟩ := on_v_inv hstep
    obtain ⟨rfl, rfl, rfl, rfl⟩ := nx_v_inv hstep
    have hn : pc' = pc + 1 := of_decide_eq_true hn
    subst hn
    exact lv_pop hexec hb hd (by simpa using hz) (kk H locs ls hw hS hl)
  | dup2 =>
    obtain ⟨v, w, r, rfl, hstep⟩ := w2_v_inv hstep
    obtain ⟨hz, hstep⟩ := on_v_inv hstep
    obtain ⟨rfl, rfl, rfl, rfl⟩ := nx_v_inv hstep
    have hn : pc' = pc + 1 := of_decide_eq_true hn
    subst hn
    have hz := Bool.and_eq_true_iff.mp hz
    exact lv_dup2_11 hexec hb hd (by simpa using hz.1) (by simpa using hz.2) (kk H locs ls hw hS hl)
  | ifCond cc off =>
    obtain ⟨x, r, rfl, hstep⟩ := w1_i_inv hstep
    obtain ⟨rfl, rfl, rfl, rfl⟩ := go_v_inv hstep
    have ht : (pc : Int) + off = (ia : Int) := of_decide_eq_true hx
    have hn : nx = pc + 3 := of_decide_eq_true hn
    subst hn
    have kk := kk H locs ls hw hS hl
    cases cc with
    | eq => exact lv_if_eq hexec hb hd ht (fun h => by simpa [ci_v, h] using kk) (fun h => by simpa [ci_v, h] using kk)
    | ne => exact lv_if_ne hexec hb hd ht (fun h => by simpa [ci_v, h] using kk) (fun h => by simpa [ci_v, h] using kk)
    | lt => exact lv_if_lt hexec hb hd ht (fun h => by simpa [ci_v, h] using kk) (fun h => by simpa [ci_v, h] using kk)
    | ge => exact lv_if_ge hexec hb hd ht (fun h => by simpa [ci_v, h] using kk) (fun h => by simpa [ci_v, h] using kk)
    | gt => exact lv_if_gt hexec hb hd ht (fun h => by simpa [ci_v, h] using kk) (fun h => by simpa [ci_v, h] using kk)
    | le => exact lv_if_le hexec hb hd ht (fun h => by simpa [ci_v, h] using kk) (fun h => by simpa [ci_v, h] using kk)
  | if_icmp cc off =>
    obtain ⟨x, y, r, rfl, hstep⟩ := w2_i_inv hstep
    obtain ⟨rfl, rfl, rfl, rfl⟩ := go_v_inv hstep
    have ht : (pc : Int) + off = (ia : Int) := of_decide_eq_true hx
    have hn : nx = pc + 3 := of_decide_eq_true hn
    subst hn
    have kk := kk H locs ls hw hS hl
    cases cc with
    | eq => exact lv_icmp_eq hexec hb hd ht (fun h => by simpa [ci_v, h] using kk) (fun h => by simpa [ci_v, h] using kk)
    | ne => exact lv_icmp_ne hexec hb hd ht (fun h => by simpa [ci_v, h] using kk) (fun h => by simpa [ci_v, h] using kk)
    | lt => exact lv_icmp_lt hexec hb hd ht (fun h => by simpa [ci_v, h] using kk) (fun h => by simpa [ci_v, h] using kk)
    | ge => exact lv_icmp_ge hexec hb hd ht (fun h => by simpa [ci_v, h] using kk) (fun h => by simpa [ci_v, h] using kk)
    | gt => exact lv_icmp_gt hexec hb hd ht (fun h => by simpa [ci_v, h] using kk) (fun h => by simpa [ci_v, h] using kk)
    | le => exact lv_icmp_le hexec hb hd ht (fun h => by simpa [ci_v, h] using kk) (fun h => by simpa [ci_v, h] using kk)
  | goto off =>
    obtain ⟨rfl, rfl, rfl, rfl⟩ := go_v_inv hstep
    exact lv_goto hexec hb hd (of_decide_eq_true hx) (kk H locs ls hw hS hl)
  | tableswitch df lo hi offs =>
    obtain ⟨x, r, rfl, hstep⟩ := w1_i_inv hstep
    obtain ⟨rfl, rfl, rfl, rfl⟩ := go_v_inv hstep
    have hx := Bool.and_eq_true_iff.mp hx
    have hx2 := Bool.and_eq_true_iff.mp hx.1
    have hx3 := Bool.and_eq_true_iff.mp hx2.1
    have hx4 := Bool.and_eq_true_iff.mp hx3.1
    have h1 : (pc : Int) + df = (ia : Int) := of_decide_eq_true hx4.1
    have h2 : lo = 0 := of_decide_eq_true hx4.2
    have h3 : hi + 1 = (offs.toList.length : Int) := of_decide_eq_true hx3.2
    have h4 : offs.toList.length < 1000 := of_decide_eq_true hx2.2
    subst h2
    have kk := kk H locs ls hw hS hl
    rcases sw_spec pc ia x offs.toList 0 (by omega) with ⟨off, g1, g2, g3⟩ | ⟨g1, g2⟩
    · rw [g3] at kk
      have g5 : 0 ≤ (pc : Int) + off := of_decide_eq_true (List.all_eq_true.mp hx.2 off (List.mem_of_getElem? g2))
      refine lv_tableIn (off := off) (tgt := ((pc : Int) + off).toNat) hexec hb hd (by omega) (by omega) ?_ (by omega) kk
      rw [← Array.getElem?_toList]
      exact g2
    · rw [g2] at kk
      exact lv_tableOut (tgt := ia) hexec hb hd (by omega) h1 kk
  | getfield ix =>
    obtain ⟨a, r, rfl, hstep⟩ := w1_r_inv hstep
    obtain ⟨fs, hm, hstep⟩ := ob_v_inv hstep
    obtain ⟨v, hv, hstep⟩ := vl_v_inv hstep
    obtain ⟨rfl, rfl, rfl, rfl⟩ := nx_v_inv hstep
    have hn : pc' = pc + 3 := of_decide_eq_true hn
    subst hn
    obtain ⟨ws, hP, hD, hmm⟩ := hw
    obtain ⟨k0, hk0⟩ := hmm a _ hm
    unfold ex_ok fl_m at hx
    dsimp only at hx
    split at hx
    · rename_i C0 T N hcl
      obtain ⟨hc1, hc2, hc3, hc4⟩ := kls_all ia (C0, T, N) hcl
      have hx := Bool.and_eq_true_iff.mp hx
      have hbN : ib < N := of_decide_eq_true hx.1
      have hx := hx.2
      split at hx
      · exact va_get hexec hb hts hc2 hown hK hP k0 hk0 hc1 ib hbN (hts _ (gw_in (List.mem_of_getElem? (of_decide_eq_true hx)) rfl)) (fun _ h => h) hv hd (kk H locs ls ⟨ws, hP, hD, hmm⟩ hS hl)
      · exact va_getN hexec hb hts hc2 hown hK hP k0 hk0 hc1 ib hbN (va_Nw.use rfl (hnw _ (List.mem_of_getElem? (of_decide_eq_true hx)) rfl)) (fun _ h => h) hv hd (kk H locs ls ⟨ws, hP, hD, hmm⟩ hS hl)
    · cases hx
  | putfield ix =>
    obtain ⟨v, r0, rfl, hstep⟩ := w1_v_inv hstep
    obtain ⟨a, r, rfl, hstep⟩ := w1_r_inv hstep
    obtain ⟨fs, hm, hstep⟩ := ob_v_inv hstep
    obtain ⟨hz, hstep⟩ := on_v_inv hstep
    obtain ⟨rfl, rfl, rfl, rfl⟩ := nx_v_inv hstep
    have hn : pc' = pc + 3 := of_decide_eq_true hn
    subst hn
    obtain ⟨ws, hP, hD, hmm⟩ := hw
    obtain ⟨k0, hk0⟩ := hmm a _ hm
    have hz := Bool.and_eq_true_iff.mp hz
    have hxx := Bool.and_eq_true_iff.mp hx
    have hx := hxx.1
    have hfn := hxx.2
    unfold fl_m at hx
    unfold fn_m at hfn
    dsimp only at hx hfn
    split at hx
    · rename_i C0 T N hcl
      rw [hcl] at hfn
      obtain ⟨hc1, hc2, hc3, hc4⟩ := kls_all ia (C0, T, N) hcl
      have hx := Bool.and_eq_true_iff.mp hx
      have hbN : ib < N := of_decide_eq_true hx.1
      have hx := hx.2
      have hfn : (T ib).2.2.2 = false := by simpa using hfn
      obtain ⟨o1, o2⟩ := ok_spec hz.2
      split at hx
      · exact va_put hexec hb hts hc2 (tyk_m ia) hc3 hc4 hown hK hP hD hS k0 hk0 hc1 ib hbN (hts _ (gw_in (List.mem_of_getElem? (of_decide_eq_true hx)) rfl)) (fun _ h => h) hfn (hc3 ib hbN) o1 o2 (of_decide_eq_true hz.1) hd (fun H1 locs1 h1 h2 h3 => kk H1 locs1 ls (mw_set hD hk0 hmm h1 h2) h3 hl)
      · exact va_putN hexec hb hts hc2 (tyk_m ia) hc3 hc4 hown hK hP hD hS k0 hk0 hc1 ib hbN (va_Nw.use rfl (hnw _ (List.mem_of_getElem? (of_decide_eq_true hx)) rfl)) (fun _ h => h) hfn (hc3 ib hbN) o1 o2 (of_decide_eq_true hz.1) hd (fun H1 locs1 h1 h2 h3 => kk H1 locs1 ls (mw_set hD hk0 hmm h1 h2) h3 hl)
    · cases hx
  | iaload =>
    obtain ⟨a, j, r, rfl, hstep⟩ := w2_r_inv hstep
    obtain ⟨n, f, hm, hstep⟩ := ai_v_inv hstep
    obtain ⟨hi, hstep⟩ := ix_v_inv hstep
    obtain ⟨rfl, rfl, rfl, rfl⟩ := nx_v_inv hstep
    have hn : pc' = pc + 1 := of_decide_eq_true hn
    subst hn
    obtain ⟨ws, hP, hD, hmm⟩ := hw
    obtain ⟨k0, hk0⟩ := hmm a _ hm
    exact va_iald hexec hb hK hP k0 0 hk0 rfl hi hd (kk H locs ls ⟨ws, hP, hD, hmm⟩ hS hl)
  | baload =>
    obtain ⟨a, j, r, rfl, hstep⟩ := w2_r_inv hstep
    obtain ⟨n, f, hm, hstep⟩ := ai_v_inv hstep
    obtain ⟨hi, hstep⟩ := ix_v_inv hstep
    obtain ⟨rfl, rfl, rfl, rfl⟩ := nx_v_inv hstep
    have hn : pc' = pc + 1 := of_decide_eq_true hn
    subst hn
    obtain ⟨ws, hP, hD, hmm⟩ := hw
    obtain ⟨k0, hk0⟩ := hmm a _ hm
    exact va_zald hexec hb hK hP k0 2 hk0 rfl hi hd (kk H locs ls ⟨ws, hP, hD, hmm⟩ hS hl)
  | laload =>
    obtain ⟨a, j, r, rfl, hstep⟩ := w2_r_inv hstep
    obtain ⟨n, f, hm, hstep⟩ := al_v_inv hstep
    obtain ⟨hi, hstep⟩ := ix_v_inv hstep
    obtain ⟨rfl, rfl, rfl, rfl⟩ := nx_v_inv hstep
    have hn : pc' = pc + 1 := of_decide_eq_true hn
    subst hn
    obtain ⟨ws, hP, hD, hmm⟩ := hw
    obtain ⟨k0, hk0⟩ := hmm a _ hm
    exact va_lald hexec hb hK hP k0 1 hk0 rfl hi hd (kk H locs ls ⟨ws, hP, hD, hmm⟩ hS hl)
  | aaload =>
    obtain ⟨a, j, r, rfl, hstep⟩ := w2_r_inv hstep
    obtain ⟨t, n, f, hm, ht, hstep⟩ := ar_v_inv hstep
    obtain ⟨hi, hstep⟩ := ix_v_inv hstep
    obtain ⟨b, hfb, hstep⟩ := rf_v_inv hstep
    obtain ⟨rfl, rfl, rfl, rfl⟩ := nx_v_inv hstep
    have hn : pc' = pc + 1 := of_decide_eq_true hn
    subst hn
    obtain ⟨ty, ht1, ht2⟩ := tys_get dA ht.2
    have hat := mw_up hw hm
    have hlt : j.toNatClampNeg < n := Nat.not_le.mp fun q => hi (Or.inr q)
    exact W.aald (v := .ref b) (ty := ty) hexec hb hat ((hK.2 t _ ht1).1 n (fun j => va_rf (f j))) (ht2 ht.1) (fun q => by cases q) (by show ¬ (j < 0 ∨ (arrV _ _ _).slots.size ≤ _); rw [arrV_size]; exact hi) (by show (arrV _ _ _).slots[_]? = _; rw [arrV_read _ _ hlt, hfb]; rfl) rfl rfl hd (kk H locs ls hw hS hl)
  | iastore =>
    obtain ⟨a, j, x, r, rfl, hstep⟩ := w3_i_inv hstep
    obtain ⟨n, f, hm, hstep⟩ := ai_v_inv hstep
    obtain ⟨hi, hstep⟩ := ix_v_inv hstep
    obtain ⟨rfl, rfl, rfl, rfl⟩ := nx_v_inv hstep
    have hn : pc' = pc + 1 := of_decide_eq_true hn
    subst hn
    obtain ⟨ws, hP, hD, hmm⟩ := hw
    obtain ⟨k0, hk0⟩ := hmm a _ hm
    exact va_iast hexec hb hK hP hD hS k0 0 hk0 rfl hi hd (fun H1 locs1 h1 h2 h3 => kk H1 locs1 ls (mw_set hD hk0 hmm h1 h2) h3 hl)
  | lastore =>
    obtain ⟨a, j, x, r, rfl, hstep⟩ := w3_l_inv hstep
    obtain ⟨n, f, hm, hstep⟩ := al_v_inv hstep
    obtain ⟨hi, hstep⟩ := ix_v_inv hstep
    obtain ⟨rfl, rfl, rfl, rfl⟩ := nx_v_inv hstep
    have hn : pc' = pc + 1 := of_decide_eq_true hn
    subst hn
    obtain ⟨ws, hP, hD, hmm⟩ := hw
    obtain ⟨k0, hk0⟩ := hmm a _ hm
    exact va_last hexec hb hK hP hD hS k0 1 hk0 rfl hi hd (fun H1 locs1 h1 h2 h3 => kk H1 locs1 ls (mw_set hD hk0 hmm h1 h2) h3 hl)
  | bastore =>
    obtain ⟨a, j, x, r, rfl, hstep⟩ := w3_i_inv hstep
    obtain ⟨n, f, hm, hstep⟩ := ai_v_inv hstep
    obtain ⟨hi, hstep⟩ := ix_v_inv hstep
    obtain ⟨hz, hstep⟩ := on_v_inv hstep
    obtain ⟨rfl, rfl, rfl, rfl⟩ := nx_v_inv hstep
    have hn : pc' = pc + 1 := of_decide_eq_true hn
    subst hn
    obtain ⟨ws, hP, hD, hmm⟩ := hw
    obtain ⟨k0, hk0⟩ := hmm a _ hm
    refine va_zast hexec hb hK hP hD hS k0 2 hk0 rfl hi hd (fun H1 locs1 h1 h2 h3 => ?_)
    rw [(z01 hz).2] at h1 h2
    exact kk H1 locs1 ls (mw_set hD hk0 hmm h1 h2) h3 hl
  | arraylength =>
    obtain ⟨a, r, rfl, hstep⟩ := w1_r_inv hstep
    obtain ⟨t, n, f, hm, ht, hstep⟩ := le_v_inv hstep
    obtain ⟨rfl, rfl, rfl, rfl⟩ := nx_v_inv hstep
    have hn : pc' = pc + 1 := of_decide_eq_true hn
    subst hn
    obtain ⟨ty, ht1, -⟩ := tys_get dA ht
    obtain ⟨ws, hP, hD, hmm⟩ := hw
    obtain ⟨k0, hk0⟩ := hmm a _ hm
    exact va_alen hexec hb hK hP k0 t hk0 ht1 rfl hd (kk H locs ls ⟨ws, hP, hD, hmm⟩ hS hl)
  | ireturn =>
    exfalso
    simp only [step_m] at hstep
    split at hstep
    · split at hstep
      · cases hstep
      · split at hstep
        · obtain ⟨-, h⟩ := on_v_inv hstep; cases h
        · cases hstep
    · cases hstep
  | lreturn =>
    exfalso
    simp only [step_m] at hstep
    split at hstep
    · split at hstep <;> cases hstep
    · cases hstep
  | return_ =>
    exfalso
    simp only [step_m] at hstep
    split at hstep
    · split at hstep <;> cases hstep
    · cases hstep
  | invokevirtual ix => exact absurd hstep (cl_no _ _ _ _)
  | invokestatic ix => exact absurd rfl (hns ix)
  | _ => exact absurd hstep (by simp [step_m])
end SoundK

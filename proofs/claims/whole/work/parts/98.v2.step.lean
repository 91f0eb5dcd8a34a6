def isB : Instr → Bool
  | .new _ => true
  | .newarray _ => true
  | .anewarray _ => true
  | .multianewarray _ _ => true
  | .aastore => true
  | .invokespecial _ => true
  | .return_ => true
  | .putfield _ => true
  | .invokestatic _ => true
  | .invokevirtual _ => true
  | .ireturn => true
  | .lreturn => true
  | _ => false
def bg_v (x : SR) : BR := match x with
  | some (.inl (pc', lv', st', mem')) => some (.inl (pc', lv', st', mem', 0, 0))
  | _ => none
theorem bg_inv {x : SR} {pc' : Nat} {lv' : LVs} {st' : List Value} {mem' : Mem} {dz ds : Nat} (h : bg_v x = some (.inl (pc', lv', st', mem', dz, ds))) : x = some (.inl (pc', lv', st', mem')) ∧ dz = 0 ∧ ds = 0 := by
  unfold bg_v at h
  split at h
  · cases h
    exact ⟨rfl, rfl, rfl⟩
  · cases h
theorem bg_no {x : SR} {z : Unit ⊕ (Nat × List Value × List Value)} : ¬ bg_v x = some (.inr z) := by
  intro h
  unfold bg_v at h
  split at h <;> cases h
theorem bs_gen {mt : Nat → Mth} {pc : Nat} {q : Ins} {lv : LVs} {st : List Value} {mem : Mem} {z : Nat} (h : isB q.1 = false) : bs_m mt pc q lv st mem z = bg_v (step_m mt none pc q lv st mem) := by
  obtain ⟨ins, nx, ia, ib, id1, iz, iy⟩ := q
  cases ins <;> first | rfl | (cases h; done)
theorem bs_put {mt : Nat → Mth} {pc ix : Nat} {q : Ins} {lv : LVs} {st : List Value} {mem : Mem} {z : Nat} (h : q.1 = .putfield ix) : bs_m mt pc q lv st mem z = bg_v (step_m mt none pc q lv st mem) := by
  obtain ⟨ins, nx, ia, ib, id1, iz, iy⟩ := q
  dsimp only at h
  subst h
  rfl
theorem bo_gen {mt : Nat → Mth} {M i pc : Nat} {q : Ins} (h : isB q.1 = false) : b_ok mt M i pc q = in_ok mt M i pc q := by
  obtain ⟨ins, nx, ia, ib, id1, iz, iy⟩ := q
  cases ins <;> first | rfl | (cases h; done)
section BN
variable {mt : Nat → Mth} {M i pc : Nat} {q : Ins} {lv lv' : LVs} {st st' : List Value} {mem mem' : Mem} {pc' dz ds zL : Nat} {D : va_G} {dA : Nat → ClassId} {A : Nat → Prop}
variable {p : Program} {l : Launch} {e : Env} {R : Room} {s : State} {m : MethodId} {args : Array Value} {below : List Frame} {meth : Method} {c : Code} {H : Heap} {locs : List Loc} {Q : State → Prop} {ls : Array Slot} {ce so : Nat}
theorem b_nk (hok : in_ok mt M i pc q = true) (hns : ∀ ix, q.1 ≠ .invokestatic ix) (hstep : bg_v (step_m mt none pc q lv st mem) = some (.inl (pc', lv', st', mem', dz, ds))) (C : cx_m mt D dA i p s m args meth c) (hrn : (mt i).2.2.2.1 = none) (hw : mw_m D dA A mem H) (hdm : dm_m mem zL (s.heap.size + ce)) (hS : va_S A s.heap H locs) (hl : lr_m ls (mt i).2.2.1 lv)
    (kk : ∀ (H1 : Heap) (locs1 : List Loc) (ls1 : Array Slot), mw_m D dA A mem' H1 → dm_m mem' zL (s.heap.size + (ce + dz)) → va_S A s.heap H1 locs1 → lr_m ls1 (mt i).2.2.1 lv' → W p l e R s m args below meth c H1 locs1 (ce + dz) (so + ds) Q (F0 m pc' ls1 st')) : W p l e R s m args below meth c H locs ce so Q (F0 m pc ls st) := by
  obtain ⟨hs, rfl, rfl⟩ := bg_inv hstep
  rw [← hrn] at hs
  exact st_nk hok hns hs C hw hS hl (fun H1 locs1 ls1 w1 s1 l1 => kk H1 locs1 ls1 w1 (dm_st hns hs hdm) s1 l1)
theorem b_next (hok : b_ok mt M i pc q = true) (hbw : bw_ok) (hstep : bs_m mt pc q lv st mem (s.heap.size + ce) = some (.inl (pc', lv', st', mem', dz, ds))) (C : cx_m mt D dA i p s m args meth c) (hrn : (mt i).2.2.2.1 = none) (hin : meth.name = "<init>") (hao : ao_m dA s) (hA : ∀ q, A q ↔ zL ≤ q) (hz : zL ≤ s.heap.size) (hRf : R.frames = (mt i).2.2.2.2.2.2.2.1) (hRl : R.locals = (mt i).2.2.2.2.2.2.2.2) (hce : ce + dz ≤ R.cells) (hso : so + ds ≤ R.slots) (hw : mw_m D dA A mem H) (hdm : dm_m mem zL (s.heap.size + ce)) (hS : va_S A s.heap H locs) (hl : lr_m ls (mt i).2.2.1 lv)
    (kk : ∀ (H1 : Heap) (locs1 : List Loc) (ls1 : Array Slot), mw_m D dA A mem' H1 → dm_m mem' zL (s.heap.size + (ce + dz)) → va_S A s.heap H1 locs1 → lr_m ls1 (mt i).2.2.1 lv' → W p l e R s m args below meth c H1 locs1 (ce + dz) (so + ds) Q (F0 m pc' ls1 st')) : W p l e R s m args below meth c H locs ce so Q (F0 m pc ls st) := by
  by_cases hB : isB q.1 = false
  · rw [bs_gen hB] at hstep
    rw [bo_gen hB] at hok
    exact b_nk hok (fun ix h => by rw [h] at hB; cases hB) hstep C hrn hw hdm hS hl kk
  obtain ⟨ins, nx, ia, ib, id1, iz, iy⟩ := q
  cases ins with
  | new ix =>
    simp only [b_ok, Bool.and_eq_true, decide_eq_true_eq] at hok
    obtain ⟨⟨o1, o2⟩, o3⟩ := hok
    split at o3
    · rename_i r hr
      obtain ⟨C0, T, N⟩ := r
      simp only [bs_m, Option.some.injEq, Sum.inl.injEq, Prod.mk.injEq] at hstep
      obtain ⟨rfl, rfl, rfl, rfl, rfl, rfl⟩ := hstep
      subst o2
      have hn : nf_m ia = N := by unfold nf_m; rw [hr]
      rw [hn] at hso kk
      refine bk_new (R := R) C hA hz hr (gw_in (List.mem_of_getElem? (of_decide_eq_true o3)) rfl) (hbw.1 _ _ hr).1 (hbw.1 _ _ hr).2 (zf_spec hr) hce hso o1 hw hdm hS (fun H1 w1 s1 => kk H1 locs ls w1 ?_ s1 hl)
      intro x h1 h2
      by_cases hx : x = s.heap.size + ce
      · exact ⟨_, by rw [hx]; exact up_self⟩
      · rw [up_ne hx]
        exact hdm x h1 (by omega)
    · cases o3
  | newarray at' =>
    simp only [b_ok, Bool.and_eq_true, decide_eq_true_eq] at hok
    obtain ⟨⟨⟨o1, o2⟩, o3⟩, o4⟩ := hok
    obtain ⟨k, r, rfl, hstep⟩ := w1_i_inv hstep
    obtain ⟨hg, hstep⟩ := on_v_inv hstep
    simp only [Option.some.injEq, Sum.inl.injEq, Prod.mk.injEq] at hstep
    obtain ⟨rfl, rfl, rfl, rfl, rfl, rfl⟩ := hstep
    subst o2
    obtain ⟨g1, g2⟩ := lg_spec hg
    have hby : componentBytes (newarray.typeOf at') ≤ 8 := by cases at' <;> decide
    refine bk_newa (R := R) C hA hz (ty_at o3) rfl (hbw.2.1 _ _ o4 o3) (za_spec o4 o3) g1 rfl (Nat.le_trans (Nat.mul_le_mul g2 hby) (by decide)) hce hso o1 hw hdm hS (fun H1 w1 s1 => kk H1 locs ls w1 ?_ s1 hl)
    intro x h1 h2
    by_cases hx : x = s.heap.size + ce
    · exact ⟨_, by rw [hx]; exact up_self⟩
    · rw [up_ne hx]
      exact hdm x h1 (by omega)
  | anewarray ix =>
    simp only [b_ok, Bool.and_eq_true, decide_eq_true_eq] at hok
    obtain ⟨⟨⟨o1, o2⟩, o3⟩, o4⟩ := hok
    split at o4
    · rename_i C0 ht
      obtain ⟨k, r, rfl, hstep⟩ := w1_i_inv hstep
      obtain ⟨hg, hstep⟩ := on_v_inv hstep
      simp only [Option.some.injEq, Sum.inl.injEq, Prod.mk.injEq] at hstep
      obtain ⟨rfl, rfl, rfl, rfl, rfl, rfl⟩ := hstep
      subst o2
      obtain ⟨g1, g2⟩ := lg_spec hg
      refine bk_newq (R := R) C hA hz (ty_at ht) (gw_in (List.mem_of_getElem? (of_decide_eq_true o4)) rfl) (hao.1 _ _ o3.1 o3.2 ht) g1 rfl (by omega) hce hso o1 hw hdm hS (fun H1 w1 s1 => kk H1 locs ls w1 ?_ s1 hl)
      intro x h1 h2
      by_cases hx : x = s.heap.size + ce
      · exact ⟨_, by rw [hx]; exact up_self⟩
      · rw [up_ne hx]
        exact hdm x h1 (by omega)
    · cases o4
  | multianewarray ix d =>
    simp only [b_ok, Bool.and_eq_true, decide_eq_true_eq] at hok
    obtain ⟨⟨⟨⟨o1, o2⟩, o3⟩, o4⟩, o5⟩ := hok
    split at o5
    · rename_i ty ht
      obtain ⟨n, k, r, rfl, hstep⟩ := w2_i_inv hstep
      obtain ⟨hg, hstep⟩ := on_v_inv hstep
      simp only [Option.some.injEq, Sum.inl.injEq, Prod.mk.injEq] at hstep
      obtain ⟨rfl, rfl, rfl, rfl, rfl, rfl⟩ := hstep
      subst o3
      have hg := Bool.and_eq_true_iff.mp hg
      obtain ⟨g1, g2⟩ := lg_spec hg.1
      obtain ⟨g3, g4⟩ := lg_spec hg.2
      have w1 := gw_in (List.mem_of_getElem? (of_decide_eq_true o5)) rfl
      have kk' : ∀ (H1 : Heap), mw_m D dA A _ H1 → va_S A s.heap H1 locs → W p l e R s m args below meth c H1 locs (ce + 1 + n.toNatClampNeg) (so + n.toNatClampNeg + n.toNatClampNeg * k.toNatClampNeg) Q (F0 m (pc + 4) ls (.ref (s.heap.size + ce) :: r)) := fun H1 w1 s1 => by
        rw [Nat.add_assoc ce, Nat.add_assoc so]
        exact kk H1 locs ls w1 (by rw [← Nat.add_assoc, ← Nat.add_assoc]; exact dm_mr hdm) s1 hl
      rcases o4 with ⟨rfl, rfl⟩ | ⟨rfl, rfl⟩
      · cases ht
        exact bk_mna (R := R) (ty := .long) C hA hz rfl rfl w1 hao.2.1 (fun cA => rfl) g1 g3 rfl rfl (by omega) (Nat.le_trans (Nat.mul_le_mul g4 (show componentBytes .long ≤ 8 by decide)) (by decide)) (by omega) rfl hce hso o1 hw hdm hS kk'
      · cases ht
        exact bk_mna (R := R) (ty := .int) C hA hz rfl rfl w1 hao.2.2 (fun cA => rfl) g1 g3 rfl rfl (by omega) (Nat.le_trans (Nat.mul_le_mul g4 (show componentBytes .int ≤ 8 by decide)) (by decide)) (by omega) rfl hce hso o1 hw hdm hS kk'
    · cases o5
  | aastore =>
    simp only [b_ok, Bool.and_eq_true, decide_eq_true_eq] at hok
    obtain ⟨⟨o1, o2⟩, o3⟩ := hok
    split at o3
    · rename_i C0 rr ht hr
      obtain ⟨C1, T, N⟩ := rr
      have o3 := of_decide_eq_true o3
      dsimp only at o3
      subst o3
      simp only [bs_m, aq_v] at hstep
      split at hstep
      · split at hstep
        · rename_i t n f hm
          obtain ⟨vs, hv, hs1⟩ := ob_v_inv hstep
          obtain ⟨ht1, hs2⟩ := on_v_inv hs1
          clear hs1 hstep
          have ht2 := of_decide_eq_true ht1
          clear ht1
          subst ht2
          obtain ⟨hi, hs3⟩ := ix_v_inv hs2
          simp only [Option.some.injEq, Sum.inl.injEq, Prod.mk.injEq] at hs3
          obtain ⟨rfl, rfl, rfl, rfl, rfl, rfl⟩ := hs3
          subst o2
          exact bk_aast (R := R) C hr (ty_at ht) hm hv hi o1 hw hS (fun H1 locs1 w1 s1 => kk H1 locs1 ls w1 (dm_up hdm) s1 hl)
        · cases hstep
      · cases hstep
    · cases o3
  | invokespecial ix =>
    simp only [b_ok, Bool.and_eq_true, decide_eq_true_eq] at hok
    obtain ⟨⟨⟨⟨o1, o2⟩, o3⟩, o4⟩, o5⟩ := hok
    obtain ⟨a, r, rfl, hstep⟩ := w1_r_inv hstep
    obtain ⟨hg, hstep⟩ := on_v_inv hstep
    have hg := of_decide_eq_true hg
    split at hstep
    · rename_i h1000
      rw [if_pos h1000] at o5
      simp only [Option.some.injEq, Sum.inl.injEq, Prod.mk.injEq] at hstep
      obtain ⟨rfl, rfl, rfl, rfl, rfl, rfl⟩ := hstep
      subst o2
      exact bk_obj (R := R) C (gw_in (List.mem_of_getElem? (of_decide_eq_true o5)) rfl) hbw.2.2.1 hbw.2.2.2 hl (by rw [hRf]; exact o3) (by rw [hRl]; omega) o1 (kk H locs ls hw hdm hS hl)
    · cases hstep
  | putfield ix =>
    rw [bs_put (ix := ix) rfl] at hstep
    simp only [b_ok] at hok
    split at hok
    · exact b_nk hok (fun ix h => by cases h) hstep C hrn hw hdm hS hl kk
    · rename_i hfn
      simp only [Bool.and_eq_true, decide_eq_true_eq] at hok
      obtain ⟨⟨o1, o2⟩, o3⟩ := hok
      split at o3
      · rename_i rr hr
        obtain ⟨C0, T, N⟩ := rr
        simp only [Bool.and_eq_true, decide_eq_true_eq] at o3
        obtain ⟨⟨o3, o4⟩, o5⟩ := o3
        obtain ⟨hs, rfl, rfl⟩ := bg_inv hstep
        obtain ⟨v, r0, rfl, hs⟩ := w1_v_inv hs
        obtain ⟨a, r, rfl, hs⟩ := w1_r_inv hs
        obtain ⟨fs, hm, hs⟩ := ob_v_inv hs
        obtain ⟨hz1, hs⟩ := on_v_inv hs
        obtain ⟨rfl, rfl, rfl, rfl⟩ := nx_v_inv hs
        have hz1 := Bool.and_eq_true_iff.mp hz1
        subst o2
        have hfin : (T ib).2.2.2 = true := by
          unfold fn_m at hfn
          rw [hr] at hfn
          simpa using hfn
        exact bk_putF (R := R) C hr o3 (gw_in (List.mem_of_getElem? o4) rfl) hfin hin o5 hz1.2 (of_decide_eq_true hz1.1) o1 hm hw hS (fun H1 locs1 w1 s1 => kk H1 locs1 ls w1 (dm_up hdm) s1 hl)
      · cases o3
  | return_ =>
    exfalso
    simp only [bs_m] at hstep
    split at hstep <;> cases hstep
  | invokestatic ix => cases hok
  | invokevirtual ix => cases hok
  | ireturn => cases hok
  | lreturn => cases hok
  | _ => exact absurd rfl hB
end BN
theorem bs_dm {mt : Nat → Mth} {pc : Nat} {q : Ins} {lv lv' : LVs} {st st' : List Value} {mem mem' : Mem} {pc' z dz ds zL : Nat} (hns : ∀ ix, q.1 ≠ .invokestatic ix) (hstep : bs_m mt pc q lv st mem z = some (.inl (pc', lv', st', mem', dz, ds))) (hdm : dm_m mem zL z) : dm_m mem' zL (z + dz) := by
  have hnew : ∀ e : mE, dm_m (up_m mem z e) zL (z + 1) := fun e x h1 h2 => by
    by_cases hx : x = z
    · exact ⟨e, by rw [hx]; exact up_self⟩
    · rw [up_ne hx]
      exact hdm x h1 (by omega)
  have hgen : bg_v (step_m mt none pc q lv st mem) = some (.inl (pc', lv', st', mem', dz, ds)) → dm_m mem' zL (z + dz) := fun h => by
    obtain ⟨hs, rfl, rfl⟩ := bg_inv h
    exact dm_st hns hs hdm
  by_cases hB : isB q.1 = false
  · rw [bs_gen hB] at hstep
    exact hgen hstep
  obtain ⟨ins, nx, ia, ib, id1, iz, iy⟩ := q
  cases ins with
  | new ix =>
    cases hstep
    exact hnew _
  | newarray at' =>
    obtain ⟨k, r, rfl, hstep⟩ := w1_i_inv hstep
    obtain ⟨hg, hstep⟩ := on_v_inv hstep
    cases hstep
    exact hnew _
  | anewarray ix =>
    obtain ⟨k, r, rfl, hstep⟩ := w1_i_inv hstep
    obtain ⟨hg, hstep⟩ := on_v_inv hstep
    cases hstep
    exact hnew _
  | multianewarray ix d =>
    obtain ⟨n, k, r, rfl, hstep⟩ := w2_i_inv hstep
    obtain ⟨hg, hstep⟩ := on_v_inv hstep
    cases hstep
    rw [← Nat.add_assoc]
    exact dm_mr hdm
  | aastore =>
    simp only [bs_m, aq_v] at hstep
    split at hstep
    · split at hstep
      · obtain ⟨vs, hv, hstep⟩ := ob_v_inv hstep
        obtain ⟨ht1, hstep⟩ := on_v_inv hstep
        obtain ⟨hi, hstep⟩ := ix_v_inv hstep
        cases hstep
        exact dm_up hdm
      · cases hstep
    · cases hstep
  | invokespecial ix =>
    obtain ⟨a, r, rfl, hstep⟩ := w1_r_inv hstep
    obtain ⟨hg, hstep⟩ := on_v_inv hstep
    split at hstep
    · cases hstep
      exact hdm
    · cases hstep
  | putfield ix =>
    rw [bs_put (ix := ix) rfl] at hstep
    exact hgen hstep
  | return_ =>
    exfalso
    simp only [bs_m] at hstep
    split at hstep <;> cases hstep
  | invokestatic ix => exact absurd rfl (hns ix)
  | invokevirtual ix =>
    simp only [bs_m] at hstep
    exact hgen hstep
  | ireturn =>
    simp only [bs_m] at hstep
    exact hgen hstep
  | lreturn =>
    simp only [bs_m] at hstep
    exact hgen hstep
  | _ => exact absurd rfl hB
theorem bs_call {mt : Nat → Mth} {pc j : Nat} {q : Ins} {lv : LVs} {st as rest : List Value} {mem : Mem} {z : Nat} (hstep : bs_m mt pc q lv st mem z = some (.inr (.inr (j, as, rest)))) : (∃ ix, q.1 = .invokespecial ix) ∧ ∃ a, st = .ref a :: rest ∧ cs_v rest ≤ 8 ∧ q.2.2.1 ≠ 1000 ∧ j = q.2.2.1 ∧ as = [.ref a] := by
  by_cases hB : isB q.1 = false
  · rw [bs_gen hB] at hstep
    exact absurd hstep bg_no
  obtain ⟨ins, nx, ia, ib, id1, iz, iy⟩ := q
  cases ins with
  | new ix => cases hstep
  | newarray at' =>
    obtain ⟨k, r, rfl, hstep⟩ := w1_i_inv hstep
    obtain ⟨hg, hstep⟩ := on_v_inv hstep
    cases hstep
  | anewarray ix =>
    obtain ⟨k, r, rfl, hstep⟩ := w1_i_inv hstep
    obtain ⟨hg, hstep⟩ := on_v_inv hstep
    cases hstep
  | multianewarray ix d =>
    obtain ⟨n, k, r, rfl, hstep⟩ := w2_i_inv hstep
    obtain ⟨hg, hstep⟩ := on_v_inv hstep
    cases hstep
  | aastore =>
    simp only [bs_m, aq_v] at hstep
    split at hstep
    · split at hstep
      · obtain ⟨vs, hv, hstep⟩ := ob_v_inv hstep
        obtain ⟨ht1, hstep⟩ := on_v_inv hstep
        obtain ⟨hi, hstep⟩ := ix_v_inv hstep
        cases hstep
      · cases hstep
    · cases hstep
  | invokespecial ix =>
    obtain ⟨a, r, rfl, hstep⟩ := w1_r_inv hstep
    obtain ⟨hg, hstep⟩ := on_v_inv hstep
    split at hstep
    · cases hstep
    · rename_i h1000
      cases hstep
      exact ⟨⟨ix, rfl⟩, a, rfl, of_decide_eq_true hg, h1000, rfl, rfl⟩
  | putfield ix =>
    rw [bs_put (ix := ix) rfl] at hstep
    exact absurd hstep bg_no
  | return_ =>
    exfalso
    simp only [bs_m] at hstep
    split at hstep <;> cases hstep
  | invokestatic ix => exact absurd hstep bg_no
  | invokevirtual ix => exact absurd hstep bg_no
  | ireturn => exact absurd hstep bg_no
  | lreturn => exact absurd hstep bg_no
  | _ => exact absurd rfl hB
theorem bs_ret {mt : Nat → Mth} {pc : Nat} {q : Ins} {lv : LVs} {st : List Value} {mem : Mem} {z : Nat} (hstep : bs_m mt pc q lv st mem z = some (.inr (.inl ()))) : q.1 = .return_ ∧ st = [] := by
  by_cases hB : isB q.1 = false
  · rw [bs_gen hB] at hstep
    exact absurd hstep bg_no
  obtain ⟨ins, nx, ia, ib, id1, iz, iy⟩ := q
  cases ins with
  | new ix => cases hstep
  | newarray at' =>
    obtain ⟨k, r, rfl, hstep⟩ := w1_i_inv hstep
    obtain ⟨hg, hstep⟩ := on_v_inv hstep
    cases hstep
  | anewarray ix =>
    obtain ⟨k, r, rfl, hstep⟩ := w1_i_inv hstep
    obtain ⟨hg, hstep⟩ := on_v_inv hstep
    cases hstep
  | multianewarray ix d =>
    obtain ⟨n, k, r, rfl, hstep⟩ := w2_i_inv hstep
    obtain ⟨hg, hstep⟩ := on_v_inv hstep
    cases hstep
  | aastore =>
    simp only [bs_m, aq_v] at hstep
    split at hstep
    · split at hstep
      · obtain ⟨vs, hv, hstep⟩ := ob_v_inv hstep
        obtain ⟨ht1, hstep⟩ := on_v_inv hstep
        obtain ⟨hi, hstep⟩ := ix_v_inv hstep
        cases hstep
      · cases hstep
    · cases hstep
  | invokespecial ix =>
    obtain ⟨a, r, rfl, hstep⟩ := w1_r_inv hstep
    obtain ⟨hg, hstep⟩ := on_v_inv hstep
    split at hstep <;> cases hstep
  | putfield ix =>
    rw [bs_put (ix := ix) rfl] at hstep
    exact absurd hstep bg_no
  | return_ =>
    simp only [bs_m] at hstep
    split at hstep
    · exact ⟨rfl, rfl⟩
    · cases hstep
  | invokestatic ix => exact absurd hstep bg_no
  | invokevirtual ix => exact absurd hstep bg_no
  | ireturn => exact absurd hstep bg_no
  | lreturn => exact absurd hstep bg_no
  | _ => exact absurd rfl hB
theorem b_ns {mt : Nat → Mth} {M i pc : Nat} {q : Ins} (hok : b_ok mt M i pc q = true) : ∀ ix, q.1 ≠ .invokestatic ix := by
  intro ix h
  obtain ⟨ins, nx, ia, ib, id1, iz, iy⟩ := q
  dsimp only at h
  subst h
  cases hok

def rb_m (mt : Nat → Mth) (i cz sz : Nat) : Room := { frames := (mt i).2.2.2.2.2.2.2.1, cells := cz, slots := sz, locals := (mt i).2.2.2.2.2.2.2.2 }
def pb_m (D : va_G) (dA : Nat → ClassId) (A : Nat → Prop) (as : List Value) (mem : Mem) (z : Nat) : Array Value → State → Prop := va_Pc as (fun U => mw_m D dA A mem U.heap ∧ va_K D cls_m (tys_m dA) U ∧ nw_m U ∧ ao_m dA U ∧ U.heap.size = z)
theorem pb_blind {D : va_G} {dA : Nat → ClassId} {A : Nat → Prop} {mem : Mem} {as : List Value} {z : Nat} : FrameBlind (pb_m D dA A as mem z) := fun a U g mk q => by
  obtain ⟨q0, qw, qK, qn, qa, qz⟩ := q
  exact ⟨q0, qw, va_K.moved (u := U) (U := U.calling g mk a) (Vm.Alike.refl U.vm) qK, nw_same (u := U) (U := U.calling g mk a) rfl qn, ao_m.moved (u := U) (U := U.calling g mk a) (Vm.Alike.refl U.vm) qa, qz⟩
section BR
variable {mt : Nat → Mth} {M i pc : Nat} {q : Ins} {lv lv' : LVs} {st st' : List Value} {mem mem' : Mem} {pc' dz ds zL : Nat} {D : va_G} {dA : Nat → ClassId} {A : Nat → Prop}
variable {p : Program} {l : Launch} {e : Env} {R : Room} {s : State} {m : MethodId} {args : Array Value} {below : List Frame} {meth : Method} {c : Code} {H : Heap} {locs : List Loc} {Q : State → Prop} {ls : Array Slot} {ce so mc ms : Nat}
theorem call_rowB {r : Option Value} {rest st0 : List Value} {a : Array Value} (hr : va_Run p l e R s m args below meth c H locs ce so mc ms (F0 m pc ls st0) rest (qm_m D dA A r mem' a) A) (hS : va_S A s.heap H locs)
    (kk : ∀ (H1 : Heap) (locs1 : List Loc), mw_m D dA A mem' H1 → va_S A s.heap H1 locs1 → W p l e R s m args below meth c H1 locs1 (ce + mc) (so + ms) Q (F0 m (pc + 3) ls (r.toList ++ rest))) : W p l e R s m args below meth c H locs ce so Q (F0 m pc ls st0) := by
  intro T hT X
  obtain ⟨v, st₀, t, T', L, h0, X', hL, e1, e2, ⟨hv, hw, hk, hz, hk2⟩, hst⟩ := hr T hT X
  cases hv
  rw [h0] at hz hk2
  obtain ⟨t2, a1, b1⟩ := kk T'.heap (locs ++ L) (by rw [e1]; exact hw)
    ⟨Nat.le_trans hS.1 (by rw [e1]; exact hz), fun q h1 h2 => by rw [e1, hk2 q (Nat.lt_of_lt_of_le h1 hS.1) h2]; exact hS.2.1 q h1 h2, fun q hq => by
      rcases List.mem_append.mp hq with h | h
      · exact hS.2.2 q h
      · exact hL q h⟩ T' rfl X'
  exact ⟨t2, hst t2 a1, b1⟩
/-- a constructor is called -/
theorem b_init {ix a j n0 : Nat} {r : List Value} (nst : Bool) (C : cx_m mt D dA i p s m args meth c) (hbm : bm_ok mt j) (hd : decode (mt i).2.1 pc = .ok (.invokespecial ix, 3)) (hR1 : (mt j).2.2.2.2.2.2.2.1 + 1 ≤ R.frames) (hR2 : 8 + ((mt j).2.2.1 + 11) + (mt j).2.2.2.2.2.2.2.2 ≤ R.locals) (hlink : lw_tbl[n0]? = some (if nst = true then .methodLinkNest (mt i).1.cls ix (mt j).1 "FilterBench" else .methodLink (mt i).1.cls ix (mt j).1)) (hao : ao_m dA s) (hce : ce + mc ≤ R.cells) (hso : so + ms ≤ R.slots) (hcs : cs_v r ≤ 8) (hw : mw_m D dA A mem H) (hsz : H.size = s.heap.size + ce) (hS : va_S A s.heap H locs) (hl : lr_m ls (mt i).2.2.1 lv)
    (hM : Met l (mt j).1 (Cond.code (mt j).1 (mt j).2.1 (mt j).2.2.1 none :: gw_m) (rb_m mt j mc ms) (pb_m D dA A [.ref a] mem (s.heap.size + ce)) (qm_m D dA A none mem') mc ms A)
    (kk : ∀ (H1 : Heap) (locs1 : List Loc), mw_m D dA A mem' H1 → va_S A s.heap H1 locs1 → W p l e R s m args below meth c H1 locs1 (ce + mc) (so + ms) Q (F0 m (pc + 3) ls r)) : W p l e R s m args below meth c H locs ce so Q (F0 m pc ls (.ref a :: r)) := by
  obtain ⟨hexec, hb, hml, hown, hts, hnw, hrt, hlk, hK⟩ := C
  obtain ⟨m1, m2, m3, m4, m5, m6, m7, m8⟩ := hbm
  have hPre : ∀ U : State, U.heap = H → s.WarmedH U.vm → pb_m D dA A [.ref a] mem (s.heap.size + ce) [Value.ref a].toArray U := fun U hU hW => ⟨rfl, by rw [hU]; exact hw, va_K.moved hW.alike hK, nw_warm hW hnw, ao_m.moved hW.alike hao, by rw [hU]; exact hsz⟩
  have hsub : ∀ w ∈ Cond.code (mt j).1 (mt j).2.1 (mt j).2.2.1 none :: gw_m, w ∈ gw_m := fun w hw => by
    rcases List.mem_cons.mp hw with rfl | h
    · exact m1
    · exact h
  cases nst with
  | false =>
    exact call_rowB (va_runI (As := []) (rest := r) ⟨hexec, hb, hml, hown, hts⟩ hM (cwI 0 hts (gi_m hsub) rfl rfl rfl (hts _ m2) (hts _ (gw_in (List.mem_of_getElem? hlink) rfl)) (hts _ m5) m6 m4 ⟨hR1, hR2⟩) ⟨pb_blind, hPre⟩ rfl rfl hl.1 rfl (lv_room (by rw [← cs_eq]; exact hcs)) hd ⟨hce, hso⟩) hS kk
  | true =>
    exact call_rowB (va_runIN (As := []) (rest := r) ⟨hexec, hb, hml, hown, hts⟩ hM ⟨va_cnB 0 hts (gi_m hsub) rfl rfl rfl (hnw _ (List.mem_of_getElem? hlink) rfl) (hts _ m2) m4 ⟨hR1, hR2⟩, m6, hts _ m5⟩ ⟨pb_blind, hPre⟩ rfl rfl hl.1 rfl (lv_room (by rw [← cs_eq]; exact hcs)) hd ⟨hce, hso⟩) hS kk
/-- a constructor's contract out of its runs -/
theorem metB_of {as : List Value} {j z : Nat} (hbm : bm_ok mt j) (hc : cs_v as ≤ (mt j).2.2.1)
    (body : ∀ (p : Program) (e : Env) (s : State) (m : MethodId) (args : Array Value) (below : List Frame) (meth : Method) (c : Code) (H : Heap) (locs : List Loc) (ls : Array Slot), cx_m mt D dA j p s m args meth c → meth.name = "<init>" → ao_m dA s → s.heap.size = z → mw_m D dA A mem H → va_S A s.heap H locs → lr_m ls (mt j).2.2.1 (pad_v (mt j).2.2.1 as) → W p l e (rb_m mt j mc ms) s m args below meth c H locs 0 0 (MQ below (qm_m D dA A none mem') args s mc ms A) (F0 m 0 ls [])) :
    Met l (mt j).1 (Cond.code (mt j).1 (mt j).2.1 (mt j).2.2.1 none :: gw_m) (rb_m mt j mc ms) (pb_m D dA A as mem z) (qm_m D dA A none mem') mc ms A := by
  refine Met.ofW (cc := (mt j).2.1) (maxL := (mt j).2.2.1) (ret := none) hbm.2.2.1 rfl ?_
  intro p e s m args below meth c s₁ B hml hv
  obtain ⟨rfl, hw, hK, hn, ha, hz⟩ := hv
  have hts := atoms_spec (ws := Cond.code (mt j).1 (mt j).2.1 (mt j).2.2.1 none :: gw_m) B.pre
  have hl := lv_entry as (n := (mt j).2.2.1) (by rw [lg_cs]; exact hc)
  rw [lg_entry_eq]
  exact body p e s m _ below meth c s.heap [] _ ⟨B.exec, B.bytes, hml, findClass_of_methodNamed B.named, fun w hw => hts w (List.mem_cons_of_mem _ hw), hn, B.returns.trans hbm.2.2.2.2.2.2.1.symm, B.notSynchronized, hK⟩ ((name_of_methodNamed B.named B.method).1.trans hbm.2.2.2.2.2.1) ha hz hw va_S.rf (lr_pad hl)
end BR
theorem b_sp {mt : Nat → Mth} {M i pc ix : Nat} {q : Ins} (hok : b_ok mt M i pc q = true) (h : q.1 = .invokespecial ix) (h1 : q.2.2.1 ≠ 1000) : decode (mt i).2.1 pc = .ok (.invokespecial ix, 3) ∧ q.2.1 = pc + 3 ∧ q.2.2.1 < M ∧ (mt q.2.2.1).2.2.2.2.2.2.2.1 + 1 ≤ (mt i).2.2.2.2.2.2.2.1 ∧ 8 + ((mt q.2.2.1).2.2.1 + 11) + (mt q.2.2.1).2.2.2.2.2.2.2.2 ≤ (mt i).2.2.2.2.2.2.2.2 ∧ ∃ nst : Bool, lw_tbl[q.2.2.2.2.1]? = some (if nst = true then .methodLinkNest (mt i).1.cls ix (mt q.2.2.1).1 "FilterBench" else .methodLink (mt i).1.cls ix (mt q.2.2.1).1) := by
  obtain ⟨ins, nx, ia, ib, id1, iz, iy⟩ := q
  dsimp only at h h1
  subst h
  simp only [b_ok, Bool.and_eq_true, decide_eq_true_eq, if_neg h1] at hok
  obtain ⟨⟨⟨⟨o1, o2⟩, o3⟩, o4⟩, ⟨⟨o5, o6⟩, o7⟩, o8⟩ := hok
  refine ⟨o1, o2, o5, o6, o7, ?_⟩
  split at o8
  · exact ⟨false, of_decide_eq_true o8⟩
  · exact ⟨true, of_decide_eq_true o8⟩
theorem bx_dm {mt : Nat → Mth} {ft : Nat → Nat → Option Ins} {M zL : Nat} (hft : ∀ (i pc : Nat) (q : Ins), i < M → ft i pc = some q → b_ok mt M i pc q = true) : ∀ (n i pc : Nat) (lv : LVs) (st : List Value) (mem : Mem) (z so : Nat) (mem' : Mem) (z' so' : Nat), i < M → bx_m mt ft n i pc lv st mem z so = some (mem', z', so') → dm_m mem zL z → dm_m mem' zL z' := by
  intro n
  induction n with
  | zero => intro i pc lv st mem z so mem' z' so' _ h; simp [bx_m] at h
  | succ n ih =>
    intro i pc lv st mem z so mem' z' so' hi h hdm
    rw [bx_m] at h
    cases hf : ft i pc with
    | none => rw [hf] at h; cases h
    | some q =>
      rw [hf] at h
      dsimp only at h
      have hok := hft i pc q hi hf
      cases hs : bs_m mt pc q lv st mem z with
      | none => rw [hs] at h; cases h
      | some w =>
        rw [hs] at h
        match w, h, hs with
        | .inl (pc', lv', st', mem1, dz, ds), h, hs => exact ih _ _ _ _ _ _ _ _ _ _ hi h (bs_dm (b_ns hok) hs hdm)
        | .inr (.inl ()), h, hs =>
          cases h
          exact hdm
        | .inr (.inr (j, as, rest)), h, hs =>
          dsimp only at h
          obtain ⟨⟨ix, hq⟩, a, -, -, h1000, rfl, rfl⟩ := bs_call hs
          have hj := (b_sp hok hq h1000).2.2.1
          cases hc : bx_m mt ft n q.2.2.1 0 (pad_v (mt q.2.2.1).2.2.1 [.ref a]) [] mem z 0 with
          | none => rw [hc] at h; cases h
          | some w =>
            rw [hc] at h
            obtain ⟨mem1, z1, s1⟩ := w
            exact ih _ _ _ _ _ _ _ _ _ _ hi h (ih _ _ _ _ _ _ _ _ _ _ hj hc hdm)
theorem bsound_m {mt : Nat → Mth} {ft : Nat → Nat → Option Ins} {M : Nat} (hft : ∀ (i pc : Nat) (q : Ins), i < M → ft i pc = some q → b_ok mt M i pc q = true) (hbms : ∀ j, j < M → bm_ok mt j) (hbw : bw_ok) (l : Launch) (D : va_G) (dA : Nat → ClassId) (A : Nat → Prop) (zL : Nat) (hA : ∀ q, A q ↔ zL ≤ q) : ∀ (n i pc : Nat) (lv : LVs) (st : List Value) (mem : Mem) (z so : Nat) (mem' : Mem) (z' so' : Nat), i < M → bx_m mt ft n i pc lv st mem z so = some (mem', z', so') → dm_m mem zL z →
    ∀ (p : Program) (e : Env) (s : State) (m : MethodId) (args : Array Value) (below : List Frame) (meth : Method) (c : Code) (H : Heap) (locs : List Loc) (ls : Array Slot) (ce cz : Nat), cx_m mt D dA i p s m args meth c → meth.name = "<init>" → ao_m dA s → z = s.heap.size + ce → z' = s.heap.size + cz → zL ≤ s.heap.size → mw_m D dA A mem H → va_S A s.heap H locs → lr_m ls (mt i).2.2.1 lv → W p l e (rb_m mt i cz so') s m args below meth c H locs ce so (MQ below (qm_m D dA A none mem') args s cz so' A) (F0 m pc ls st) := by
  intro n
  induction n with
  | zero => intro i pc lv st mem z so mem' z' so' _ h; simp [bx_m] at h
  | succ n ih =>
    intro i pc lv st mem z so mem' z' so' hi h hdm p e s m args below meth c H locs ls ce cz C hin hao hz hz' hzL hw hS hl
    have hmono := bx_mono _ _ _ _ _ _ _ _ _ _ _ h
    rw [bx_m] at h
    cases hf : ft i pc with
    | none => rw [hf] at h; cases h
    | some q =>
      rw [hf] at h
      dsimp only at h
      have hok := hft i pc q hi hf
      have hrn : (mt i).2.2.2.1 = none := (hbms i hi).2.2.2.2.2.2.1
      subst hz
      cases hs : bs_m mt pc q lv st mem (s.heap.size + ce) with
      | none => rw [hs] at h; cases h
      | some w =>
        rw [hs] at h
        match w, h, hs with
        | .inl (pc', lv', st', mem1, dz, ds), h, hs =>
          have hm2 := bx_mono _ _ _ _ _ _ _ _ _ _ _ h
          exact b_next hok hbw hs C hrn hin hao hA hzL rfl rfl (show ce + dz ≤ cz by omega) (show so + ds ≤ so' by omega) hw hdm hS hl (fun H1 locs1 ls1 w1 d1 s1 l1 => ih i pc' lv' st' mem1 _ _ mem' z' so' hi h (by rw [Nat.add_assoc]; exact d1) p e s m args below meth c H1 locs1 ls1 (ce + dz) cz C hin hao (Nat.add_assoc _ _ _) hz' hzL w1 s1 l1)
        | .inr (.inl ()), h, hs =>
          obtain ⟨hq, rfl⟩ := bs_ret hs
          cases h
          have hcz : ce = cz := by omega
          subst hcz
          obtain ⟨hexec, hb, hml, hown, hts, hnw, hrt, hlk, hK⟩ := C
          have hd : decode (mt i).2.1 pc = .ok (.return_, 1) := by
            obtain ⟨ins, nx, ia, ib, id1, iz, iy⟩ := q
            dsimp only at hq
            subst hq
            exact of_decide_eq_true hok
          exact W.vret hexec hb (hrt.trans hrn) (fun t ht hW => ⟨rfl, by rw [ht]; exact hw, va_K.moved hW.alike hK, hS.F ht⟩) hS.2.2 hd
        | .inr (.inr (j, as, rest)), h, hs =>
          dsimp only at h
          obtain ⟨⟨ix, hq⟩, a, rfl, hcs, h1000, rfl, rfl⟩ := bs_call hs
          obtain ⟨o1, o2, hj, o3, o4, nst, o5⟩ := b_sp hok hq h1000
          cases hc : bx_m mt ft n q.2.2.1 0 (pad_v (mt q.2.2.1).2.2.1 [.ref a]) [] mem (s.heap.size + ce) 0 with
          | none => rw [hc] at h; cases h
          | some w =>
            rw [hc] at h
            obtain ⟨mem1, z1, s1⟩ := w
            have hm1 := bx_mono _ _ _ _ _ _ _ _ _ _ _ hc
            have hm2 := bx_mono _ _ _ _ _ _ _ _ _ _ _ h
            dsimp only at h hm2
            obtain ⟨mc, hmc⟩ : ∃ mc, z1 = s.heap.size + ce + mc := ⟨z1 - (s.heap.size + ce), by omega⟩
            refine W_sz fun hsz => ?_
            have hszE : H.size = s.heap.size + ce := Nat.le_antisymm hsz (sz_lo hzL hw hdm hS)
            have hd1 := bx_dm hft _ _ _ _ _ _ _ _ _ _ _ hj hc hdm
            refine b_init (mem' := mem1) (mc := mc) (ms := s1) nst C (hbms _ hj) o1 o3 o4 o5 hao (show ce + mc ≤ cz by omega) (show so + s1 ≤ so' by omega) hcs hw hszE hS hl (metB_of (hbms _ hj) (by show 1 + 0 ≤ _; exact (hbms _ hj).2.2.2.2.2.2.2) (fun p e s2 m args below meth c H locs ls C hin hao hz2 w1 s1' l1 => ?_)) (fun H1 locs1 w1 s1' => ?_)
            · exact ih _ 0 _ [] mem _ 0 mem1 z1 s1 hj hc hdm p e s2 m args below meth c H locs ls 0 mc C hin hao hz2.symm (by rw [hz2]; exact hmc) (by omega) w1 s1' l1
            · rw [← o2]
              exact ih i q.2.1 lv rest mem1 z1 _ mem' z' so' hi h hd1 p e s m args below meth c H1 locs1 ls (ce + mc) cz C hin hao (by rw [hmc, Nat.add_assoc]) hz' hzL w1 s1' hl

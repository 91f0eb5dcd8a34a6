-- a whole run of the small machine is a run of the machine
theorem st_kind {mt : Nat → Mth} {rt : Option FieldType} {pc : Nat} {q : Ins} {lv : LVs} {st : List Value} {mem : Mem} {z : Option Value ⊕ (Nat × List Value × List Value)} (h : step_m mt rt pc q lv st mem = some (.inr z)) : q.1 = .ireturn ∨ q.1 = .lreturn ∨ q.1 = .return_ ∨ (∃ ix, q.1 = .invokestatic ix) ∨ ∃ ix, q.1 = .invokevirtual ix := by
  obtain ⟨ins, nx, ia, ib, id1, iz, iy⟩ := q
  cases ins with
  | ireturn => exact Or.inl rfl
  | lreturn => exact Or.inr (Or.inl rfl)
  | return_ => exact Or.inr (Or.inr (Or.inl rfl))
  | invokestatic ix => exact Or.inr (Or.inr (Or.inr (Or.inl ⟨ix, rfl⟩)))
  | invokevirtual ix => exact Or.inr (Or.inr (Or.inr (Or.inr ⟨ix, rfl⟩)))
  | getfield ix =>
    obtain ⟨_, _, -, h⟩ := w1_r_inv h
    obtain ⟨_, -, h⟩ := ob_v_inv h
    obtain ⟨_, -, h⟩ := vl_v_inv h
    cases h
  | putfield ix =>
    obtain ⟨_, _, -, h⟩ := w1_v_inv h
    obtain ⟨_, _, -, h⟩ := w1_r_inv h
    obtain ⟨_, -, h⟩ := ob_v_inv h
    obtain ⟨-, h⟩ := on_v_inv h
    cases h
  | iaload =>
    obtain ⟨_, _, _, -, h⟩ := w2_r_inv h
    obtain ⟨_, _, -, h⟩ := ai_v_inv h
    obtain ⟨-, h⟩ := ix_v_inv h
    cases h
  | baload =>
    obtain ⟨_, _, _, -, h⟩ := w2_r_inv h
    obtain ⟨_, _, -, h⟩ := ai_v_inv h
    obtain ⟨-, h⟩ := ix_v_inv h
    cases h
  | laload =>
    obtain ⟨_, _, _, -, h⟩ := w2_r_inv h
    obtain ⟨_, _, -, h⟩ := al_v_inv h
    obtain ⟨-, h⟩ := ix_v_inv h
    cases h
  | aaload =>
    obtain ⟨_, _, _, -, h⟩ := w2_r_inv h
    obtain ⟨_, _, _, -, -, h⟩ := ar_v_inv h
    obtain ⟨-, h⟩ := ix_v_inv h
    obtain ⟨_, -, h⟩ := rf_v_inv h
    cases h
  | iastore =>
    obtain ⟨_, _, _, _, -, h⟩ := w3_i_inv h
    obtain ⟨_, _, -, h⟩ := ai_v_inv h
    obtain ⟨-, h⟩ := ix_v_inv h
    cases h
  | bastore =>
    obtain ⟨_, _, _, _, -, h⟩ := w3_i_inv h
    obtain ⟨_, _, -, h⟩ := ai_v_inv h
    obtain ⟨-, h⟩ := ix_v_inv h
    obtain ⟨-, h⟩ := on_v_inv h
    cases h
  | lastore =>
    obtain ⟨_, _, _, _, -, h⟩ := w3_l_inv h
    obtain ⟨_, _, -, h⟩ := al_v_inv h
    obtain ⟨-, h⟩ := ix_v_inv h
    cases h
  | arraylength =>
    obtain ⟨_, _, -, h⟩ := w1_r_inv h
    obtain ⟨_, _, _, -, -, h⟩ := le_v_inv h
    cases h
  | _ =>
    exfalso
    first
    | (cases h; done)
    | (obtain ⟨_, -, h⟩ := li_v_inv h; cases h; done)
    | (obtain ⟨_, -, h⟩ := ll_v_inv h; cases h; done)
    | (obtain ⟨_, -, h⟩ := lr_v_inv h; cases h; done)
    | (obtain ⟨_, _, -, h⟩ := w1_i_inv h; cases h; done)
    | (obtain ⟨_, _, -, h⟩ := w1_l_inv h; cases h; done)
    | (obtain ⟨_, _, -, h⟩ := w1_r_inv h; cases h; done)
    | (obtain ⟨_, _, _, -, h⟩ := w2_i_inv h; cases h; done)
    | (obtain ⟨_, _, _, -, h⟩ := w2_l_inv h; cases h; done)
    | (obtain ⟨_, _, _, -, h⟩ := w2_s_inv h; cases h; done)
    | (obtain ⟨_, _, _, -, h⟩ := w2_i_inv h; obtain ⟨-, h⟩ := on_v_inv h; cases h; done)
    | (obtain ⟨_, _, _, -, h⟩ := w2_l_inv h; obtain ⟨-, h⟩ := on_v_inv h; cases h; done)
    | (obtain ⟨_, _, -, h⟩ := w1_v_inv h; obtain ⟨-, h⟩ := on_v_inv h; cases h; done)
    | (obtain ⟨_, _, _, -, h⟩ := w2_v_inv h; obtain ⟨-, h⟩ := on_v_inv h; cases h; done)
    | (exact absurd h (by simp [step_m]))
theorem lib_no {q : Ins} {lv : LVs} {st : List Value} {mem : Mem} {z : Option Value ⊕ (Nat × List Value × List Value)} : ¬ lib_v q lv st mem = some (.inr z) := by
  intro h
  unfold lib_v at h
  split at h
  · unfold cp_v at h
    split at h
    · obtain ⟨_, _, -, h⟩ := ai_v_inv h
      obtain ⟨_, _, -, h⟩ := ai_v_inv h
      obtain ⟨-, h⟩ := on_v_inv h
      cases h
    · cases h
  · split at h
    · obtain ⟨_, _, -, h⟩ := w1_i_inv h
      obtain ⟨-, h⟩ := on_v_inv h
      cases h
    · split at h
      · obtain ⟨_, _, -, h⟩ := w1_l_inv h
        obtain ⟨-, h⟩ := on_v_inv h
        cases h
      · split at h
        · obtain ⟨_, _, _, -, h⟩ := w2_l_inv h
          obtain ⟨-, h⟩ := on_v_inv h
          cases h
        · split at h
          · obtain ⟨_, _, _, -, h⟩ := w2_i_inv h
            obtain ⟨-, h⟩ := on_v_inv h
            cases h
          · cases h
theorem cl_inv {mt : Nat → Mth} {q : Ins} {st : List Value} {mem : Mem} {z : Option Value ⊕ (Nat × List Value × List Value)} (h : cl_v mt q st mem = some (.inr z)) : ∃ vs rest, vs.length = (mt q.2.2.1).2.2.2.2.1 ∧ cs_v rest ≤ 8 ∧
    (((mt q.2.2.1).2.2.2.2.2.1 = true ∧ st = vs ++ rest ∧ z = .inr (q.2.2.1, vs.reverse, rest) ∧ cs_v vs.reverse ≤ (mt q.2.2.1).2.2.1) ∨ ((mt q.2.2.1).2.2.2.2.2.1 = false ∧ ∃ a fs, st = vs ++ .ref a :: rest ∧ z = .inr (q.2.2.1, .ref a :: vs.reverse, rest) ∧ mem a = some (.inl ((mt q.2.2.1).2.2.2.2.2.2.1, fs)) ∧ cs_v (.ref a :: vs.reverse) ≤ (mt q.2.2.1).2.2.1)) := by
  unfold cl_v at h
  split at h
  · cases h
  · rename_i as rest0 hp
    obtain ⟨vs, h1, h2, h3⟩ := pop_get _ _ _ _ _ hp
    rw [List.append_nil] at h3
    subst h3
    split at h
    · rename_i hs
      split at h
      · rename_i hc
        cases h
        exact ⟨vs, rest0, h1, hc.1, Or.inl ⟨hs, h2, rfl, hc.2⟩⟩
      · cases h
    · rename_i hs
      obtain ⟨a, r, rfl, h⟩ := w1_r_inv h
      obtain ⟨fs, hm, h⟩ := ob_v_inv h
      split at h
      · rename_i hc
        cases h
        refine ⟨vs, r, h1, hc.1, Or.inr ⟨by simpa using hs, a, fs, h2, rfl, hm, ?_⟩⟩
        rw [cs_v]
        show 1 + _ ≤ _
        omega
      · cases h
theorem lg_cs : ∀ vs : List Value, (lg_sl vs).length = cs_v vs
  | [] => rfl
  | v :: vs => by
    have ih := lg_cs vs
    unfold lg_sl at ih ⊢
    rw [List.flatMap_cons, List.length_append, ih, cs_v]
    rcases lv_cat v with h | h
    · rw [if_neg (by omega), h]; rfl
    · rw [if_pos h, h]; rfl
section Sound2
variable {mt : Nat → Mth} {M i pc : Nat} {q : Ins} {lv lv' : LVs} {st st' : List Value} {mem mem' : Mem} {pc' : Nat} {D : va_G} {dA : Nat → ClassId} {A : Nat → Prop}
variable {p : Program} {l : Launch} {e : Env} {R : Room} {s : State} {m : MethodId} {args : Array Value} {below : List Frame} {meth : Method} {c : Code} {H : Heap} {locs : List Loc} {Q : State → Prop} {ls : Array Slot}
theorem st_ret {z : Option Value} (hok : in_ok mt M i pc q = true) (hstep : step_m mt (mt i).2.2.2.1 pc q lv st mem = some (.inr (.inl z))) (C : cx_m mt D dA i p s m args meth c) (hw : mw_m D dA A mem H) (hS : va_S A s.heap H locs) : W p l e R s m args below meth c H locs 0 0 (MQ below (qm_m D dA A z mem) args s 0 0 A) (F0 m pc ls st) := by
  obtain ⟨hd, hn, hx⟩ := in_ok_spec hok
  obtain ⟨hexec, hb, hml, hown, hts, hnw, hrt, hlk, hK⟩ := C
  have hq : ∀ t : State, t.heap = H → s.WarmedH t.vm → qm_m D dA A z mem args s (.returned z) t := fun t ht hW => ⟨rfl, by rw [ht]; exact hw, va_K.moved hW.alike hK, hS.F ht⟩
  obtain ⟨ins, nx, ia, ib, id1, iz, iy⟩ := q
  rcases st_kind hstep with h | h | h | ⟨ix, h⟩ | ⟨ix, h⟩
  · dsimp only at h
    subst h
    simp only [step_m] at hstep
    split at hstep
    · split at hstep
      · rename_i hr
        cases hstep
        exact W.iret hexec hb (hrt.trans hr) hq hS.2.2 hd
      · split at hstep
        · rename_i hr
          obtain ⟨hz, hstep⟩ := on_v_inv hstep
          cases hstep
          exact W.zret hexec hb (hrt.trans hr) (z01 hz).1 hq hS.2.2 hd
        · cases hstep
    · cases hstep
  · dsimp only at h
    subst h
    simp only [step_m] at hstep
    split at hstep
    · split at hstep
      · rename_i hr
        cases hstep
        exact W.lret hexec hb (hrt.trans hr) hq hS.2.2 hd
      · cases hstep
    · cases hstep
  · dsimp only at h
    subst h
    simp only [step_m] at hstep
    split at hstep
    · split at hstep
      · rename_i hr
        cases hstep
        exact W.vret hexec hb (hrt.trans hr) hq hS.2.2 hd
      · cases hstep
    · cases hstep
  · exfalso
    dsimp only at h
    subst h
    simp only [step_m] at hstep
    split at hstep
    · exact lib_no hstep
    · obtain ⟨_, _, -, -, ⟨-, -, h, -⟩ | ⟨-, _, _, -, h, -⟩⟩ := cl_inv hstep <;> cases h
  · exfalso
    dsimp only at h
    subst h
    obtain ⟨_, _, -, -, ⟨-, -, h, -⟩ | ⟨-, _, _, -, h, -⟩⟩ := cl_inv hstep <;> cases h
theorem call_row {r : Option Value} {rest st0 : List Value} {a : Array Value} (hr : va_Run p l e R s m args below meth c H locs 0 0 0 0 (F0 m pc ls st0) rest (qm_m D dA A r mem' a) A) (hS : va_S A s.heap H locs)
    (kk : ∀ (H1 : Heap) (locs1 : List Loc), mw_m D dA A mem' H1 → va_S A s.heap H1 locs1 → W p l e R s m args below meth c H1 locs1 0 0 Q (F0 m (pc + 3) ls (r.toList ++ rest))) : W p l e R s m args below meth c H locs 0 0 Q (F0 m pc ls st0) := by
  intro T hT X
  obtain ⟨v, st₀, t, T', L, h0, X', hL, e1, e2, ⟨hv, hw, hk, hz, hk2⟩, hst⟩ := hr T hT X
  cases hv
  rw [h0] at hz hk2
  obtain ⟨t2, a1, b1⟩ := kk T'.heap (locs ++ L) (by rw [e1]; exact hw)
    ⟨Nat.le_trans hS.1 (by rw [e1]; exact hz), fun q h1 h2 => by rw [e1, hk2 q (Nat.lt_of_lt_of_le h1 hS.1) h2]; exact hS.2.1 q h1 h2, fun q hq => by
      rcases List.mem_append.mp hq with h | h
      · exact hS.2.2 q h
      · exact hL q h⟩ T' rfl X'
  exact ⟨t2, hst t2 a1, b1⟩
def pc_m (D : va_G) (dA : Nat → ClassId) (A : Nat → Prop) (as : List Value) (mem : Mem) : Array Value → State → Prop := va_Pc as (fun U => mw_m D dA A mem U.heap ∧ va_K D cls_m (tys_m dA) U ∧ nw_m U)
theorem pc_blind {as : List Value} : FrameBlind (pc_m D dA A as mem) := fun a U g mk q => by
  obtain ⟨q0, qw, qK, qn⟩ := q
  exact ⟨q0, qw, va_K.moved (u := U) (U := U.calling g mk a) (Vm.Alike.refl U.vm) qK, nw_same (u := U) (U := U.calling g mk a) rfl qn⟩
/-- a method's contract out of its runs -/
theorem met_of {as : List Value} {r : Option Value} {j : Nat} (hme : me_ok mt j) (hc : cs_v as ≤ (mt j).2.2.1)
    (body : ∀ (p : Program) (e : Env) (s : State) (m : MethodId) (args : Array Value) (below : List Frame) (meth : Method) (c : Code) (H : Heap) (locs : List Loc) (ls : Array Slot), cx_m mt D dA j p s m args meth c → mw_m D dA A mem H → va_S A s.heap H locs → lr_m ls (mt j).2.2.1 (pad_v (mt j).2.2.1 as) → W p l e (rm_m mt j) s m args below meth c H locs 0 0 (MQ below (qm_m D dA A r mem') args s 0 0 A) (F0 m 0 ls [])) :
    Met l (mt j).1 (Cond.code (mt j).1 (mt j).2.1 (mt j).2.2.1 (mt j).2.2.2.1 :: gw_m) (rm_m mt j) (pc_m D dA A as mem) (qm_m D dA A r mem') 0 0 A := by
  refine Met.ofW (cc := (mt j).2.1) (maxL := (mt j).2.2.1) (ret := (mt j).2.2.2.1) hme.2.2.1 rfl ?_
  intro p e s m args below meth c s₁ B hml hv
  obtain ⟨rfl, hw, hK, hn⟩ := hv
  have hts := atoms_spec (ws := Cond.code (mt j).1 (mt j).2.1 (mt j).2.2.1 (mt j).2.2.2.1 :: gw_m) B.pre
  have hl := lv_entry as (n := (mt j).2.2.1) (by rw [lg_cs]; exact hc)
  rw [lg_entry_eq]
  exact body p e s m _ below meth c s.heap [] _ ⟨B.exec, B.bytes, hml, findClass_of_methodNamed B.named, fun w hw => hts w (List.mem_cons_of_mem _ hw), hn, B.returns, B.notSynchronized, hK⟩ hw va_S.rf (lr_pad hl)
end Sound2

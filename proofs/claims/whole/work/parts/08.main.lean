section Sound3
variable {mt : Nat → Mth} {M i pc : Nat} {q : Ins} {lv lv' : LVs} {st st' : List Value} {mem mem' : Mem} {pc' : Nat} {D : va_G} {dA : Nat → ClassId} {A : Nat → Prop}
variable {p : Program} {l : Launch} {e : Env} {R : Room} {s : State} {m : MethodId} {args : Array Value} {below : List Frame} {meth : Method} {c : Code} {H : Heap} {locs : List Loc} {Q : State → Prop} {ls : Array Slot}
theorem gi_m {ws : List Cond} (h : ∀ w ∈ ws, w ∈ gw_m) : GoodIn gw_m ws := fun w hw => ⟨h w hw, gw_good (h w hw)⟩
theorem rv_m {a ci : Nat} {fs : List Value} {C : String} (hK : va_K D cls_m (tys_m dA) s) (hw : mw_m D dA A mem H) (ha : mem a = some (.inl (ci, fs))) (hC : (cls_m[ci]?).map (fun q => q.1) = some C) : ∃ cell : Cell, H[a]? = some cell ∧ cell.vm.isStatics = false ∧ s.vm.findClass C = some cell.cls := by
  obtain ⟨ws, hP, hD, hm⟩ := hw
  obtain ⟨k, hk⟩ := hm a _ ha
  cases hq : cls_m[ci]? with
  | none => rw [hq] at hC; cases hC
  | some q =>
    rw [hq] at hC
    have e1 : q.1 = C := Option.some.inj hC
    subst e1
    exact va_recv hK hP hq hk
/-- a call, by the callee's contract -/
theorem st_call {j : Nat} {as rest : List Value} {r : Option Value} (hok : in_ok mt M i pc q = true) (hsys : sys_ok) (hmes : ∀ j, j < M → me_ok mt j) (hstep : step_m mt (mt i).2.2.2.1 pc q lv st mem = some (.inr (.inr (j, as, rest)))) (C : cx_m mt D dA i p s m args meth c) (hw : mw_m D dA A mem H) (hS : va_S A s.heap H locs) (hl : lr_m ls (mt i).2.2.1 lv)
    (hM : j < M → cs_v as ≤ (mt j).2.2.1 → Met l (mt j).1 (Cond.code (mt j).1 (mt j).2.1 (mt j).2.2.1 (mt j).2.2.2.1 :: gw_m) (rm_m mt j) (pc_m D dA A as mem) (qm_m D dA A r mem') 0 0 A)
    (kk : ∀ (H1 : Heap) (locs1 : List Loc), mw_m D dA A mem' H1 → va_S A s.heap H1 locs1 → W p l e (rm_m mt i) s m args below meth c H1 locs1 0 0 Q (F0 m q.2.1 ls (r.toList ++ rest))) : W p l e (rm_m mt i) s m args below meth c H locs 0 0 Q (F0 m pc ls st) := by
  obtain ⟨hd, hn, hx⟩ := in_ok_spec hok
  obtain ⟨hexec, hb, hml, hown, hts, hnw, hrt, hlk, hK⟩ := C
  obtain ⟨ins, nx, ia, ib, id1, iz, iy⟩ := q
  have hPre : ∀ U : State, U.heap = H → s.WarmedH U.vm → pc_m D dA A as mem as.toArray U := fun U hU hW => ⟨rfl, by rw [hU]; exact hw, va_K.moved hW.alike hK, nw_warm hW hnw⟩
  rcases st_kind hstep with h | h | h | ⟨ix, h⟩ | ⟨ix, h⟩
  · exfalso
    dsimp only at h
    subst h
    simp only [step_m] at hstep
    split at hstep
    · split at hstep
      · cases hstep
      · split at hstep
        · obtain ⟨-, hstep⟩ := on_v_inv hstep; cases hstep
        · cases hstep
    · cases hstep
  · exfalso
    dsimp only at h
    subst h
    simp only [step_m] at hstep
    split at hstep
    · split at hstep <;> cases hstep
    · cases hstep
  · exfalso
    dsimp only at h
    subst h
    simp only [step_m] at hstep
    split at hstep
    · split at hstep <;> cases hstep
    · cases hstep
  · dsimp only at h
    subst h
    simp only [step_m] at hstep
    split at hstep
    · exact absurd hstep lib_no
    · rename_i h1000
      have hn : nx = pc + 3 := of_decide_eq_true hn
      subst hn
      try dsimp only at h1000
      simp only [ex_ok, if_neg h1000, ca_m, Bool.and_eq_true, decide_eq_true_eq, beq_iff_eq] at hx
      obtain ⟨⟨⟨⟨x1, x2⟩, x3⟩, x4⟩, x5⟩ := hx
      obtain ⟨vs, rest', v1, v2, ⟨v3, v4, v5, v6⟩ | ⟨v3, -⟩⟩ := cl_inv hstep
      · cases v5
        have hM := hM x1 v6
        have hme := hmes _ x1
        obtain ⟨m1, m2, m3, m4, m5⟩ := hme
        rw [if_pos v3] at m5
        have hsub : ∀ w ∈ Cond.code (mt ia).1 (mt ia).2.1 (mt ia).2.2.1 (mt ia).2.2.2.1 :: gw_m, w ∈ gw_m := fun w hw => by
          rcases List.mem_cons.mp hw with rfl | h
          · exact gw_in m1 rfl
          · exact h
        split at x5
        · have x5 := of_decide_eq_true x5
          refine call_row (va_runS (As := vs.reverse) (rest := rest) ⟨hexec, hb, hml, hown, hts⟩ hM (va_cwS (mt ia).2.2.2.2.1 hts (gi_m (fun w hw => ?_)) rfl rfl rfl m4 ⟨x3, x4⟩) ⟨pc_blind, hPre⟩ rfl (by rw [List.length_reverse]; exact v1) hl.1 (by rw [List.reverse_reverse]; exact v4) (lv_room (by rw [← cs_eq]; exact v2)) hd ⟨Nat.zero_le _, Nat.zero_le _⟩) hS kk
          unfold va_wsS at hw
          rcases List.mem_append.mp hw with h | h
          · simp only [List.mem_cons, List.not_mem_nil, or_false] at h
            rcases h with rfl | rfl | rfl
            · exact gw_in (List.mem_of_getElem? x5) rfl
            · exact gw_in m5 rfl
            · exact gw_in m2 rfl
          · exact hsub w h
        · have x5 := of_decide_eq_true x5
          exact call_row (va_runSN (As := vs.reverse) (rest := rest) ⟨hexec, hb, hml, hown, hts⟩ hM ⟨va_cnB (mt ia).2.2.2.2.1 hts (gi_m hsub) rfl rfl rfl (hnw _ (List.mem_of_getElem? x5) rfl) (hts _ (gw_in m2 rfl)) m4 ⟨x3, x4⟩, hts _ (gw_in m5 rfl), trivial⟩ ⟨pc_blind, hPre⟩ rfl (by rw [List.length_reverse]; exact v1) hl.1 (by rw [List.reverse_reverse]; exact v4) (lv_room (by rw [← cs_eq]; exact v2)) hd ⟨Nat.zero_le _, Nat.zero_le _⟩) hS kk
      · try dsimp only at x2 v3
        rw [x2] at v3
        cases v3
  · dsimp only at h
    subst h
    simp only [step_m] at hstep
    have hn : nx = pc + 3 := of_decide_eq_true hn
    subst hn
    simp only [ex_ok, ca_m, Bool.and_eq_true, decide_eq_true_eq, beq_iff_eq] at hx
    obtain ⟨⟨⟨⟨x1, x2⟩, x3⟩, x4⟩, x5⟩ := hx
    obtain ⟨vs, rest', v1, v2, ⟨v3, -⟩ | ⟨v3, a, fs, v4, v5, v6, v7⟩⟩ := cl_inv hstep
    · try dsimp only at x2 v3
      rw [x2] at v3
      cases v3
    · cases v5
      have hM := hM x1 v7
      have hme := hmes _ x1
      obtain ⟨m1, m2, m3, m4, m5⟩ := hme
      rw [if_neg (by rw [v3]; decide)] at m5
      have hsub : ∀ w ∈ Cond.code (mt ia).1 (mt ia).2.1 (mt ia).2.2.1 (mt ia).2.2.2.1 :: gw_m, w ∈ gw_m := fun w hw => by
        rcases List.mem_cons.mp hw with rfl | h
        · exact gw_in m1 rfl
        · exact h
      have hrv := rv_m hK hw v6 m5.2.2
      split at x5
      · have x5 := of_decide_eq_true x5
        refine call_row (va_runV (C := (mt ia).1.cls) (b := a) (As := vs.reverse) (rest := rest) ⟨hexec, hb, hml, hown, hts⟩ hM (cwV (mt ia).2.2.2.2.1 hts (gi_m (fun w hw => ?_)) rfl rfl rfl ⟨rfl, m4⟩ ⟨x3, x4⟩) ⟨pc_blind, hrv, hPre⟩ rfl (by rw [List.length_reverse]; exact v1) hl.1 (by rw [List.reverse_reverse]; exact v4) (lv_room (by rw [← cs_eq]; exact v2)) hd ⟨Nat.zero_le _, Nat.zero_le _⟩) hS kk
        unfold wsV at hw
        rcases List.mem_append.mp hw with h | h
        · simp only [List.mem_cons, List.not_mem_nil, or_false] at h
          rcases h with rfl | rfl | rfl | rfl
          · exact gw_in (List.mem_of_getElem? x5) rfl
          · exact gw_in m5.1 rfl
          · exact gw_in m5.2.1 rfl
          · exact gw_in m2 rfl
        · exact hsub w h
      · have x5 := of_decide_eq_true x5
        exact call_row (va_runVN (C := (mt ia).1.cls) (b := a) (As := vs.reverse) (rest := rest) ⟨hexec, hb, hml, hown, hts⟩ hM ⟨va_cnB (mt ia).2.2.2.2.1 hts (gi_m hsub) rfl rfl rfl (hnw _ (List.mem_of_getElem? x5) rfl) (hts _ (gw_in m2 rfl)) m4 ⟨x3, x4⟩, hts _ (gw_in m5.1 rfl), hts _ (gw_in m5.2.1 rfl)⟩ ⟨pc_blind, hrv, hPre⟩ rfl (by rw [List.length_reverse]; exact v1) hl.1 (by rw [List.reverse_reverse]; exact v4) (lv_room (by rw [← cs_eq]; exact v2)) hd ⟨Nat.zero_le _, Nat.zero_le _⟩) hS kk
end Sound3
theorem sound_m {mt : Nat → Mth} {ft : Nat → Nat → Option Ins} {M : Nat} (hft : ∀ (i pc : Nat) (q : Ins), i < M → ft i pc = some q → in_ok mt M i pc q = true) (hmes : ∀ j, j < M → me_ok mt j) (hsys : sys_ok) (l : Launch) (D : va_G) (dA : Nat → ClassId) (A : Nat → Prop) : ∀ (n i pc : Nat) (lv : LVs) (st : List Value) (mem : Mem) (r : Option Value) (mem' : Mem), i < M → ex_m mt ft n i pc lv st mem = some (r, mem') →
    ∀ (p : Program) (e : Env) (s : State) (m : MethodId) (args : Array Value) (below : List Frame) (meth : Method) (c : Code) (H : Heap) (locs : List Loc) (ls : Array Slot), cx_m mt D dA i p s m args meth c → mw_m D dA A mem H → va_S A s.heap H locs → lr_m ls (mt i).2.2.1 lv → W p l e (rm_m mt i) s m args below meth c H locs 0 0 (MQ below (qm_m D dA A r mem') args s 0 0 A) (F0 m pc ls st) := by
  intro n
  induction n with
  | zero => intro i pc lv st mem r mem' _ h; simp [ex_m] at h
  | succ n ih =>
    intro i pc lv st mem r mem' hi h p e s m args below meth c H locs ls C hw hS hl
    rw [ex_m] at h
    cases hf : ft i pc with
    | none => rw [hf] at h; cases h
    | some q =>
      rw [hf] at h
      dsimp only at h
      have hok := hft i pc q hi hf
      cases hs : step_m mt (mt i).2.2.2.1 pc q lv st mem with
      | none => rw [hs] at h; cases h
      | some z =>
        rw [hs] at h
        match z, h, hs with
        | .inl (pc', lv', st', mem1), h, hs => exact st_next hok rfl hsys hs C hw hS hl (fun H1 locs1 ls1 w1 s1 l1 => ih i pc' lv' st' mem1 r mem' hi h p e s m args below meth c H1 locs1 ls1 C w1 s1 l1)
        | .inr (.inl r'), h, hs =>
          cases h
          exact st_ret hok hs C hw hS
        | .inr (.inr (j, as, rest)), h, hs =>
          dsimp only at h
          cases hc : ex_m mt ft n j 0 (pad_v (mt j).2.2.1 as) [] mem with
          | none => rw [hc] at h; cases h
          | some w =>
            rw [hc] at h
            obtain ⟨r1, mem1⟩ := w
            exact st_call hok hsys hmes hs C hw hS hl (fun hj hcs => met_of (hmes j hj) hcs (fun p e s m args below meth c H locs ls C w1 s1 l1 => ih j 0 _ [] mem r1 mem1 hj hc p e s m args below meth c H locs ls C w1 s1 l1)) (fun H1 locs1 w1 s1 => ih i q.2.1 lv _ mem1 r mem' hi h p e s m args below meth c H1 locs1 ls C w1 s1 hl)
/-- a method's contract -/
theorem met_m {mt : Nat → Mth} {ft : Nat → Nat → Option Ins} {M : Nat} (hft : ∀ (i pc : Nat) (q : Ins), i < M → ft i pc = some q → in_ok mt M i pc q = true) (hmes : ∀ j, j < M → me_ok mt j) (hsys : sys_ok) (l : Launch) (D : va_G) (dA : Nat → ClassId) (A : Nat → Prop) {j : Nat} {as : List Value} {mem mem' : Mem} {r : Option Value} (hj : j < M) (hc : cs_v as ≤ (mt j).2.2.1) (h : rn_o mt ft j 0 (pad_v (mt j).2.2.1 as) [] mem = some (r, mem')) :
    Met l (mt j).1 (Cond.code (mt j).1 (mt j).2.1 (mt j).2.2.1 (mt j).2.2.2.1 :: gw_m) (rm_m mt j) (pc_m D dA A as mem) (qm_m D dA A r mem') 0 0 A := by
  obtain ⟨n, hn⟩ := rn_some.mp h
  exact met_of (hmes j hj) hc (fun p e s m args below meth c H locs ls C w1 s1 l1 => sound_m hft hmes hsys l D dA A n j 0 _ [] mem r mem' hj hn p e s m args below meth c H locs ls C w1 s1 l1)

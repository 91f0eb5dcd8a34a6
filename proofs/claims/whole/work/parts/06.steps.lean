-- the small machine's steps are the machine's
section Inv
variable {α : Type} {z : α}
theorem w1_i_inv {st : List Value} {K : Int32 → List Value → Option α} (h : w1_i st K = some z) : ∃ x r, st = .int x :: r ∧ K x r = some z := by
  unfold w1_i at h
  split at h
  · exact ⟨_, _, rfl, h⟩
  · cases h
theorem w2_i_inv {st : List Value} {K : Int32 → Int32 → List Value → Option α} (h : w2_i st K = some z) : ∃ x y r, st = .int y :: .int x :: r ∧ K x y r = some z := by
  unfold w2_i at h
  split at h
  · exact ⟨_, _, _, rfl, h⟩
  · cases h
theorem w1_l_inv {st : List Value} {K : Int64 → List Value → Option α} (h : w1_l st K = some z) : ∃ x r, st = .long x :: r ∧ K x r = some z := by
  unfold w1_l at h
  split at h
  · exact ⟨_, _, rfl, h⟩
  · cases h
theorem w2_l_inv {st : List Value} {K : Int64 → Int64 → List Value → Option α} (h : w2_l st K = some z) : ∃ x y r, st = .long y :: .long x :: r ∧ K x y r = some z := by
  unfold w2_l at h
  split at h
  · exact ⟨_, _, _, rfl, h⟩
  · cases h
theorem w2_s_inv {st : List Value} {K : Int64 → Int32 → List Value → Option α} (h : w2_s st K = some z) : ∃ x y r, st = .int y :: .long x :: r ∧ K x y r = some z := by
  unfold w2_s at h
  split at h
  · exact ⟨_, _, _, rfl, h⟩
  · cases h
theorem w1_r_inv {st : List Value} {K : Nat → List Value → Option α} (h : w1_r st K = some z) : ∃ a r, st = .ref a :: r ∧ K a r = some z := by
  unfold w1_r at h
  split at h
  · exact ⟨_, _, rfl, h⟩
  · cases h
theorem w2_r_inv {st : List Value} {K : Nat → Int32 → List Value → Option α} (h : w2_r st K = some z) : ∃ a i r, st = .int i :: .ref a :: r ∧ K a i r = some z := by
  unfold w2_r at h
  split at h
  · exact ⟨_, _, _, rfl, h⟩
  · cases h
theorem w3_i_inv {st : List Value} {K : Nat → Int32 → Int32 → List Value → Option α} (h : w3_i st K = some z) : ∃ a i x r, st = .int x :: .int i :: .ref a :: r ∧ K a i x r = some z := by
  unfold w3_i at h
  split at h
  · exact ⟨_, _, _, _, rfl, h⟩
  · cases h
theorem w3_l_inv {st : List Value} {K : Nat → Int32 → Int64 → List Value → Option α} (h : w3_l st K = some z) : ∃ a i x r, st = .long x :: .int i :: .ref a :: r ∧ K a i x r = some z := by
  unfold w3_l at h
  split at h
  · exact ⟨_, _, _, _, rfl, h⟩
  · cases h
theorem w1_v_inv {st : List Value} {K : Value → List Value → Option α} (h : w1_v st K = some z) : ∃ v r, st = v :: r ∧ K v r = some z := by
  unfold w1_v at h
  split at h
  · exact ⟨_, _, rfl, h⟩
  · cases h
theorem w2_v_inv {st : List Value} {K : Value → Value → List Value → Option α} (h : w2_v st K = some z) : ∃ v w r, st = v :: w :: r ∧ K v w r = some z := by
  unfold w2_v at h
  split at h
  · exact ⟨_, _, _, rfl, h⟩
  · cases h
theorem li_v_inv {u : Option (Option Value)} {K : Int32 → Option α} (h : li_v u K = some z) : ∃ x, u = some (some (.int x)) ∧ K x = some z := by
  unfold li_v at h
  split at h
  · exact ⟨_, rfl, h⟩
  · cases h
theorem ll_v_inv {u : Option (Option Value)} {K : Int64 → Option α} (h : ll_v u K = some z) : ∃ x, u = some (some (.long x)) ∧ K x = some z := by
  unfold ll_v at h
  split at h
  · exact ⟨_, rfl, h⟩
  · cases h
theorem lr_v_inv {u : Option (Option Value)} {K : Nat → Option α} (h : lr_v u K = some z) : ∃ x, u = some (some (.ref x)) ∧ K x = some z := by
  unfold lr_v at h
  split at h
  · exact ⟨_, rfl, h⟩
  · cases h
theorem ob_v_inv {u : Option mE} {c : Nat} {K : List Value → Option α} (h : ob_v u c K = some z) : ∃ fs, u = some (.inl (c, fs)) ∧ K fs = some z := by
  unfold ob_v at h
  split at h
  · split at h
    · rename_i hc; subst hc; exact ⟨_, rfl, h⟩
    · cases h
  · cases h
theorem vl_v_inv {u : Option Value} {K : Value → Option α} (h : vl_v u K = some z) : ∃ v, u = some v ∧ K v = some z := by
  unfold vl_v at h
  split at h
  · exact ⟨_, rfl, h⟩
  · cases h
theorem ai_v_inv {u : Option mE} {t : Nat} {K : Nat → (Nat → Int32) → Option α} (h : ai_v u t K = some z) : ∃ n f, u = some (.inr (t, n, .inl f)) ∧ K n f = some z := by
  unfold ai_v at h
  split at h
  · split at h
    · rename_i hc; subst hc; exact ⟨_, _, rfl, h⟩
    · cases h
  · cases h
theorem al_v_inv {u : Option mE} {t : Nat} {K : Nat → (Nat → Int64) → Option α} (h : al_v u t K = some z) : ∃ n f, u = some (.inr (t, n, .inr (.inl f))) ∧ K n f = some z := by
  unfold al_v at h
  split at h
  · split at h
    · rename_i hc; subst hc; exact ⟨_, _, rfl, h⟩
    · cases h
  · cases h
theorem ar_v_inv {u : Option mE} {K : Nat → (Nat → Option Nat) → Option α} (h : ar_v u K = some z) : ∃ t n f, u = some (.inr (t, n, .inr (.inr (.inr (.inr f))))) ∧ (3 ≤ t ∧ t ≤ 7) ∧ K n f = some z := by
  unfold ar_v at h
  split at h
  · split at h
    · rename_i hc; exact ⟨_, _, _, rfl, hc, h⟩
    · cases h
  · cases h
theorem le_v_inv {u : Option mE} {K : Nat → Option α} (h : le_v u K = some z) : ∃ t n f, u = some (.inr (t, n, f)) ∧ t ≤ 7 ∧ K n = some z := by
  unfold le_v at h
  split at h
  · split at h
    · rename_i hc; exact ⟨_, _, _, rfl, hc, h⟩
    · cases h
  · cases h
theorem rf_v_inv {u : Option Nat} {K : Nat → Option α} (h : rf_v u K = some z) : ∃ a, u = some a ∧ K a = some z := by
  unfold rf_v at h
  split at h
  · exact ⟨_, rfl, h⟩
  · cases h
theorem ix_v_inv {i : Int32} {n : Nat} {K : Nat → Option α} (h : ix_v i n K = some z) : vp_in i n ∧ K i.toNatClampNeg = some z := by
  unfold ix_v at h
  split at h
  · cases h
  · rename_i hc; exact ⟨hc, h⟩
theorem on_v_inv {b : Bool} {K : Option α} (h : on_v b K = some z) : b = true ∧ K = some z := by
  unfold on_v at h
  split at h
  · rename_i hc; exact ⟨hc, h⟩
  · cases h
end Inv
theorem nx_v_inv {q : Ins} {lv lv' : LVs} {st st' : List Value} {mem mem' : Mem} {pc' : Nat} (h : nx_v q lv st mem = some (.inl (pc', lv', st', mem'))) : pc' = q.2.1 ∧ lv' = lv ∧ st' = st ∧ mem' = mem := by
  unfold nx_v at h
  cases h
  exact ⟨rfl, rfl, rfl, rfl⟩
theorem go_v_inv {pc : Nat} {lv lv' : LVs} {st st' : List Value} {mem mem' : Mem} {pc' : Nat} (h : go_v pc lv st mem = some (.inl (pc', lv', st', mem'))) : pc' = pc ∧ lv' = lv ∧ st' = st ∧ mem' = mem := by
  unfold go_v at h
  cases h
  exact ⟨rfl, rfl, rfl, rfl⟩
def cx_m (mt : Nat → Mth) (D : va_G) (dA : Nat → ClassId) (i : Nat) (p : Program) (s : State) (m : MethodId) (args : Array Value) (meth : Method) (c : Code) : Prop :=
  p.tables.exec = Jvm.exec ∧ c.code = (mt i).2.1 ∧ c.maxLocals = (mt i).2.2.1 ∧ s.vm.findClass (mt i).1.cls = some m.cls ∧ (∀ w ∈ gw_m, w.before args s = true) ∧ nw_m s ∧ meth.sig.returnType = (mt i).2.2.2.1 ∧ meth.locks = false ∧ va_K D cls_m (tys_m dA) s
def rm_m (mt : Nat → Mth) (i : Nat) : Room := { frames := (mt i).2.2.2.2.2.2.2.1, cells := 0, slots := 0, locals := (mt i).2.2.2.2.2.2.2.2 }
def qm_m (D : va_G) (dA : Nat → ClassId) (A : Nat → Prop) (r : Option Value) (mem : Mem) : Array Value → State → Outcome → State → Prop := fun _ st oc t => oc = .returned r ∧ mw_m D dA A mem t.heap ∧ va_K D cls_m (tys_m dA) t ∧ va_F A st t
theorem in_ok_spec {mt : Nat → Mth} {M i pc : Nat} {q : Ins} (h : in_ok mt M i pc q = true) : decode (mt i).2.1 pc = .ok (q.1, lq_m q) ∧ ln_m pc q = true ∧ ex_ok mt M i pc q = true := by
  unfold in_ok at h
  rw [Bool.and_eq_true, Bool.and_eq_true] at h
  exact ⟨of_decide_eq_true h.1.1, h.1.2, h.2⟩
theorem sw_spec (pc df : Nat) (x : Int32) : ∀ (offs : List Int) (k : Nat), k + offs.length < 2 ^ 31 → (∃ off, ((k : Int) ≤ x.toInt ∧ x.toInt < k + offs.length) ∧ offs[(x.toInt - k).toNat]? = some off ∧ sw_n pc offs k x df = ((pc : Int) + off).toNat) ∨ ((x.toInt < k ∨ (k : Int) + offs.length ≤ x.toInt) ∧ sw_n pc offs k x df = df) := by
  intro offs
  induction offs with
  | nil => intro k _; exact Or.inr ⟨by simp; omega, rfl⟩
  | cons o os ih =>
    intro k hk
    rw [List.length_cons] at hk ⊢
    rw [sw_n]
    have hT : (nI k).toInt = (k : Int) := nI_toInt (by omega)
    split
    · rename_i hx
      rw [hx, hT]
      exact Or.inl ⟨o, by omega, by simp, rfl⟩
    · rename_i hx
      have hne : x.toInt ≠ (k : Int) := fun q => hx (Int32.toInt_inj.mp (by rw [hT]; exact q))
      rcases ih (k + 1) (by omega) with ⟨off, h1, h2, h3⟩ | ⟨h1, h2⟩
      · refine Or.inl ⟨off, by omega, ?_, h3⟩
        rw [show (x.toInt - (k : Int)).toNat = (x.toInt - ((k + 1 : Nat) : Int)).toNat + 1 by omega, List.getElem?_cons_succ]
        exact h2
      · exact Or.inr ⟨by omega, h2⟩
theorem tys_get (dA : Nat → ClassId) {t : Nat} (h : t ≤ 7) : ∃ ty, (tys_m dA)[t]? = some (dA t, ty) ∧ (3 ≤ t → ty.isReference = true) := by
  rcases (show t = 0 ∨ t = 1 ∨ t = 2 ∨ t = 3 ∨ t = 4 ∨ t = 5 ∨ t = 6 ∨ t = 7 by omega) with rfl | rfl | rfl | rfl | rfl | rfl | rfl | rfl <;> exact ⟨_, rfl, fun h => by first | rfl | omega⟩
theorem ok_spec {ty : FieldType} {v : Value} (h : ok_v ty v = true) : narrow ty v = v ∧ fits ty v = true := by
  unfold ok_v at h
  split at h
  · exact ⟨rfl, rfl⟩
  · exact ⟨rfl, rfl⟩
  · rename_i x
    simp only [Bool.or_eq_true, beq_iff_eq] at h
    rcases h with rfl | rfl <;> exact ⟨rfl, rfl⟩
  · exact ⟨rfl, rfl⟩
  · exact ⟨rfl, rfl⟩
  · cases h
theorem z01 {x : Int32} (h : (x == 0 || x == 1) = true) : narrow .boolean (.int x) = .int x ∧ vp_nar .boolean x = x := by
  simp only [Bool.or_eq_true, beq_iff_eq] at h
  rcases h with rfl | rfl <;> exact ⟨rfl, rfl⟩
theorem cl_no (mt : Nat → Mth) (q : Ins) (st : List Value) (mem : Mem) {z : Nat × LVs × List Value × Mem} : ¬ cl_v mt q st mem = some (.inl z) := by
  intro h
  unfold cl_v at h
  split at h
  · cases h
  · split at h
    · split at h <;> cases h
    · obtain ⟨a, r, -, h⟩ := w1_r_inv h
      obtain ⟨fs, -, h⟩ := ob_v_inv h
      split at h <;> cases h
section Sound
variable {mt : Nat → Mth} {M i pc : Nat} {q : Ins} {lv lv' : LVs} {st st' : List Value} {mem mem' : Mem} {pc' : Nat} {D : va_G} {dA : Nat → ClassId} {A : Nat → Prop}
variable {p : Program} {l : Launch} {e : Env} {R : Room} {s : State} {m : MethodId} {args : Array Value} {below : List Frame} {meth : Method} {c : Code} {H : Heap} {locs : List Loc} {Q : State → Prop} {ls : Array Slot}
set_option maxHeartbeats 4000000 in
theorem st_lib {ix : Nat} (hx : lb_m mt i ix q = true) (hn : q.2.1 = pc + 3) (hsys : sys_ok) (hstep : lib_v q lv st mem = some (.inl (pc', lv', st', mem'))) (C : cx_m mt D dA i p s m args meth c) (hw : mw_m D dA A mem H) (hS : va_S A s.heap H locs) (hl : lr_m ls (mt i).2.2.1 lv) (hd : decode (mt i).2.1 pc = .ok (.invokestatic ix, 3))
    (kk : ∀ (H1 : Heap) (locs1 : List Loc) (ls1 : Array Slot), mw_m D dA A mem' H1 → va_S A s.heap H1 locs1 → lr_m ls1 (mt i).2.2.1 lv' → W p l e (rm_m mt i) s m args below meth c H1 locs1 0 0 Q (F0 m pc' ls1 st')) : W p l e (rm_m mt i) s m args below meth c H locs 0 0 Q (F0 m pc ls st) := by
  obtain ⟨hexec, hb, hml, hown, hts, hnw, hrt, hlk, hK⟩ := C
  obtain ⟨ins, nx, ia, ib, id1, iz, iy⟩ := q
  obtain ⟨⟨s1, s2, s3, s4⟩, ⟨s5, s6⟩, ⟨s7, s8⟩, ⟨s9, s10⟩, ⟨s11, s12⟩⟩ := hsys
  have hloc : (rm_m mt i).locals = (mt i).2.2.2.2.2.2.2.2 := rfl
  have hz0 : 0 ≤ (rm_m mt i).cells := Nat.zero_le _
  have hz1 : 0 ≤ (rm_m mt i).slots := Nat.zero_le _
  unfold lib_v at hstep
  unfold lb_m at hx
  dsimp only at hstep hx hn
  subst hn
  have hx := Bool.and_eq_true_iff.mp hx
  have hfr : 1 ≤ (rm_m mt i).frames := of_decide_eq_true hx.1
  have hx := hx.2
  split at hstep
  · rename_i hia
    rw [if_pos hia] at hx
    have hx := Bool.and_eq_true_iff.mp hx
    have x1 := of_decide_eq_true hx.1
    have x2 := of_decide_eq_true hx.2
    unfold cp_v at hstep
    split at hstep
    · rename_i n dp b sp a r
      obtain ⟨n0, f, hm, hstep⟩ := ai_v_inv hstep
      obtain ⟨n1, g, hm2, hstep⟩ := ai_v_inv hstep
      obtain ⟨hz, hstep⟩ := on_v_inv hstep
      obtain ⟨rfl, rfl, rfl, rfl⟩ := nx_v_inv hstep
      obtain ⟨ws, hP, hD, hmm⟩ := hw
      obtain ⟨k0, hk0⟩ := hmm a _ hm
      obtain ⟨k1, hk1⟩ := hmm b _ hm2
      simp only [Bool.and_eq_true, Bool.not_eq_true', decide_eq_true_eq, decide_eq_false_iff_not] at hz
      obtain ⟨⟨⟨⟨⟨z1, z2⟩, z3⟩, z4⟩, z5⟩, z7⟩ := hz
      exact va_copyi hexec hb (hml.trans hl.1.symm) hown (hts _ (gw_in (List.mem_of_getElem? x1) rfl)) (hts _ (gw_in s1 rfl)) (hts _ (gw_in s2 rfl)) (hts _ (gw_in s3 rfl)) hK hP hD hS k0 k1 0 0 hk0 hk1 rfl rfl rfl z2 z3 z1 z4 z5 (fun _ _ => rfl) hfr (by rw [← cs_eq]; omega) hd (fun H1 locs1 h1 h2 h3 => kk H1 locs1 ls (mw_set hD hk1 hmm h1 h2) h3 hl)
    · cases hstep
  · rename_i hia
    rw [if_neg hia] at hx
    have hx := Bool.and_eq_true_iff.mp hx
    have x2 : 23 ≤ (mt i).2.2.2.2.2.2.2.2 := of_decide_eq_true hx.1
    have hx := hx.2
    split at hstep
    · rename_i hib
      rw [if_pos hib] at hx
      have x1 := of_decide_eq_true hx
      obtain ⟨x, r, rfl, hstep⟩ := w1_i_inv hstep
      obtain ⟨hz, hstep⟩ := on_v_inv hstep
      obtain ⟨rfl, rfl, rfl, rfl⟩ := nx_v_inv hstep
      have hz := of_decide_eq_true hz
      exact va_mabs hexec hb (hml.trans hl.1.symm) hown (hts _ (gw_in (List.mem_of_getElem? x1) rfl)) (hts _ (gw_in s5 rfl)) (hts _ (gw_in s4 rfl)) (hts _ (gw_in s6 rfl)) hfr (by rw [← cs_eq]; omega) hz0 hz1 hd (kk H locs ls hw hS hl)
    · rename_i hib
      rw [if_neg hib] at hx
      split at hstep
      · rename_i hic
        rw [if_pos hic] at hx
        have x1 := of_decide_eq_true hx
        obtain ⟨x, r, rfl, hstep⟩ := w1_l_inv hstep
        obtain ⟨hz, hstep⟩ := on_v_inv hstep
        obtain ⟨rfl, rfl, rfl, rfl⟩ := nx_v_inv hstep
        have hz := of_decide_eq_true hz
        exact va_mabs_long hexec hb (hml.trans hl.1.symm) hown (hts _ (gw_in (List.mem_of_getElem? x1) rfl)) (hts _ (gw_in s7 rfl)) (hts _ (gw_in s4 rfl)) (hts _ (gw_in s8 rfl)) hfr (by rw [← cs_eq]; omega) hz0 hz1 hd (kk H locs ls hw hS hl)
      · rename_i hic
        rw [if_neg hic] at hx
        split at hstep
        · rename_i hid
          rw [if_pos hid] at hx
          have x1 := of_decide_eq_true hx
          obtain ⟨x, y, r, rfl, hstep⟩ := w2_l_inv hstep
          obtain ⟨hz, hstep⟩ := on_v_inv hstep
          obtain ⟨rfl, rfl, rfl, rfl⟩ := nx_v_inv hstep
          have hz := of_decide_eq_true hz
          exact va_mmax_long hexec hb (hml.trans hl.1.symm) hown (hts _ (gw_in (List.mem_of_getElem? x1) rfl)) (hts _ (gw_in s9 rfl)) (hts _ (gw_in s4 rfl)) (hts _ (gw_in s10 rfl)) hfr (by rw [← cs_eq]; omega) hz0 hz1 hd (kk H locs ls hw hS hl)
        · rename_i hid
          rw [if_neg hid] at hx
          split at hstep
          · have x1 := of_decide_eq_true hx
            obtain ⟨x, y, r, rfl, hstep⟩ := w2_i_inv hstep
            obtain ⟨hz, hstep⟩ := on_v_inv hstep
            obtain ⟨rfl, rfl, rfl, rfl⟩ := nx_v_inv hstep
            have hz := of_decide_eq_true hz
            exact va_mmin hexec hb (hml.trans hl.1.symm) hown (hts _ (gw_in (List.mem_of_getElem? x1) rfl)) (hts _ (gw_in s11 rfl)) (hts _ (gw_in s4 rfl)) (hts _ (gw_in s12 rfl)) hfr (by rw [← cs_eq]; omega) hz0 hz1 hd (kk H locs ls hw hS hl)
          · cases hstep
set_option maxHeartbeats 4000000 in
theorem st_next (hok : in_ok mt M i pc q = true) (hR : R = rm_m mt i) (hsys : sys_ok) (hstep : step_m mt (mt i).2.2.2.1 pc q lv st mem = some (.inl (pc', lv', st', mem'))) (C : cx_m mt D dA i p s m args meth c) (hw : mw_m D dA A mem H) (hS : va_S A s.heap H locs) (hl : lr_m ls (mt i).2.2.1 lv)
    (kk : ∀ (H1 : Heap) (locs1 : List Loc) (ls1 : Array Slot), mw_m D dA A mem' H1 → va_S A s.heap H1 locs1 → lr_m ls1 (mt i).2.2.1 lv' → W p l e R s m args below meth c H1 locs1 0 0 Q (F0 m pc' ls1 st')) : W p l e R s m args below meth c H locs 0 0 Q (F0 m pc ls st) := by
  obtain ⟨hd, hn, hx⟩ := in_ok_spec hok
  obtain ⟨hexec, hb, hml, hown, hts, hnw, hrt, hlk, hK⟩ := C
  obtain ⟨ins, nx, ia, ib, id1, iz, iy⟩ := q
  dsimp only at hd hn hx hstep
  cases ins with
  | iadd =>
    obtain ⟨x, y, r, rfl, hstep⟩ := w2_i_inv hstep
    obtain ⟨rfl, rfl, rfl, rfl⟩ := nx_v_inv hstep
    have hn : pc' = pc + 1 := of_decide_eq_true hn
    subst hn
    exact lv_iadd hexec hb hd (kk H locs ls hw hS hl)
  | isub =>
    obtain ⟨x, y, r, rfl, hstep⟩ := w2_i_inv hstep
    obtain ⟨rfl, rfl, rfl, rfl⟩ := nx_v_inv hstep
    have hn : pc' = pc + 1 := of_decide_eq_true hn
    subst hn
    exact lv_isub hexec hb hd (kk H locs ls hw hS hl)
  | imul =>
    obtain ⟨x, y, r, rfl, hstep⟩ := w2_i_inv hstep
    obtain ⟨rfl, rfl, rfl, rfl⟩ := nx_v_inv hstep
    have hn : pc' = pc + 1 := of_decide_eq_true hn
    subst hn
    exact lv_imul hexec hb hd (kk H locs ls hw hS hl)
  | iand =>
    obtain ⟨x, y, r, rfl, hstep⟩ := w2_i_inv hstep
    obtain ⟨rfl, rfl, rfl, rfl⟩ := nx_v_inv hstep
    have hn : pc' = pc + 1 := of_decide_eq_true hn
    subst hn
    exact lv_iand hexec hb hd (kk H locs ls hw hS hl)
  | ior =>
    obtain ⟨x, y, r, rfl, hstep⟩ := w2_i_inv hstep
    obtain ⟨rfl, rfl, rfl, rfl⟩ := nx_v_inv hstep
    have hn : pc' = pc + 1 := of_decide_eq_true hn
    subst hn
    exact lv_ior hexec hb hd (kk H locs ls hw hS hl)
  | ishl =>
    obtain ⟨x, y, r, rfl, hstep⟩ := w2_i_inv hstep
    obtain ⟨rfl, rfl, rfl, rfl⟩ := nx_v_inv hstep
    have hn : pc' = pc + 1 := of_decide_eq_true hn
    subst hn
    exact lv_ishl hexec hb hd (kk H locs ls hw hS hl)
  | ishr =>
    obtain ⟨x, y, r, rfl, hstep⟩ := w2_i_inv hstep
    obtain ⟨rfl, rfl, rfl, rfl⟩ := nx_v_inv hstep
    have hn : pc' = pc + 1 := of_decide_eq_true hn
    subst hn
    exact lv_ishr hexec hb hd (kk H locs ls hw hS hl)
  | ineg =>
    obtain ⟨x, r, rfl, hstep⟩ := w1_i_inv hstep
    obtain ⟨rfl, rfl, rfl, rfl⟩ := nx_v_inv hstep
    have hn : pc' = pc + 1 := of_decide_eq_true hn
    subst hn
    exact lv_ineg hexec hb hd (kk H locs ls hw hS hl)
  | ladd =>
    obtain ⟨x, y, r, rfl, hstep⟩ := w2_l_inv hstep
    obtain ⟨rfl, rfl, rfl, rfl⟩ := nx_v_inv hstep
    have hn : pc' = pc + 1 := of_decide_eq_true hn
    subst hn
    exact lv_ladd hexec hb hd (kk H locs ls hw hS hl)
  | lsub =>
    obtain ⟨x, y, r, rfl, hstep⟩ := w2_l_inv hstep
    obtain ⟨rfl, rfl, rfl, rfl⟩ := nx_v_inv hstep
    have hn : pc' = pc + 1 := of_decide_eq_true hn
    subst hn
    exact lv_lsub hexec hb hd (kk H locs ls hw hS hl)
  | lmul =>
    obtain ⟨x, y, r, rfl, hstep⟩ := w2_l_inv hstep
    obtain ⟨rfl, rfl, rfl, rfl⟩ := nx_v_inv hstep
    have hn : pc' = pc + 1 := of_decide_eq_true hn
    subst hn
    exact lv_lmul hexec hb hd (kk H locs ls hw hS hl)
  | land =>
    obtain ⟨x, y, r, rfl, hstep⟩ := w2_l_inv hstep
    obtain ⟨rfl, rfl, rfl, rfl⟩ := nx_v_inv hstep
    have hn : pc' = pc + 1 := of_decide_eq_true hn
    subst hn
    exact lv_land hexec hb hd (kk H locs ls hw hS hl)
  | lor =>
    obtain ⟨x, y, r, rfl, hstep⟩ := w2_l_inv hstep
    obtain ⟨rfl, rfl, rfl, rfl⟩ := nx_v_inv hstep
    have hn : pc' = pc + 1 := of_decide_eq_true hn
    subst hn
    exact lv_lor hexec hb hd (kk H locs ls hw hS hl)
  | lneg =>
    obtain ⟨x, r, rfl, hstep⟩ := w1_l_inv hstep
    obtain ⟨rfl, rfl, rfl, rfl⟩ := nx_v_inv hstep
    have hn : pc' = pc + 1 := of_decide_eq_true hn
    subst hn
    exact lv_lneg hexec hb hd (kk H locs ls hw hS hl)
  | lshl =>
    obtain ⟨x, y, r, rfl, hstep⟩ := w2_s_inv hstep
    obtain ⟨rfl, rfl, rfl, rfl⟩ := nx_v_inv hstep
    have hn : pc' = pc + 1 := of_decide_eq_true hn
    subst hn
    exact lv_lshl hexec hb hd rfl (kk H locs ls hw hS hl)
  | lshr =>
    obtain ⟨x, y, r, rfl, hstep⟩ := w2_s_inv hstep
    obtain ⟨rfl, rfl, rfl, rfl⟩ := nx_v_inv hstep
    have hn : pc' = pc + 1 := of_decide_eq_true hn
    subst hn
    exact lv_lshr hexec hb hd rfl (kk H locs ls hw hS hl)
  | i2l =>
    obtain ⟨x, r, rfl, hstep⟩ := w1_i_inv hstep
    obtain ⟨rfl, rfl, rfl, rfl⟩ := nx_v_inv hstep
    have hn : pc' = pc + 1 := of_decide_eq_true hn
    subst hn
    exact lv_i2l hexec hb hd rfl (kk H locs ls hw hS hl)
  | l2i =>
    obtain ⟨x, r, rfl, hstep⟩ := w1_l_inv hstep
    obtain ⟨rfl, rfl, rfl, rfl⟩ := nx_v_inv hstep
    have hn : pc' = pc + 1 := of_decide_eq_true hn
    subst hn
    exact lv_l2i hexec hb hd rfl (kk H locs ls hw hS hl)
  | lcmp =>
    obtain ⟨x, y, r, rfl, hstep⟩ := w2_l_inv hstep
    obtain ⟨rfl, rfl, rfl, rfl⟩ := nx_v_inv hstep
    have hn : pc' = pc + 1 := of_decide_eq_true hn
    subst hn
    exact W.lcmp hexec hb hd (kk H locs ls hw hS hl)
  | idiv =>
    obtain ⟨x, y, r, rfl, hstep⟩ := w2_i_inv hstep
    obtain ⟨hz, hstep⟩ := on_v_inv hstep
    obtain ⟨rfl, rfl, rfl, rfl⟩ := nx_v_inv hstep
    have hn : pc' = pc + 1 := of_decide_eq_true hn
    subst hn
    exact lv_idiv hexec hb hd (by simpa using hz) (kk H locs ls hw hS hl)
  | irem =>
    obtain ⟨x, y, r, rfl, hstep⟩ := w2_i_inv hstep
    obtain ⟨hz, hstep⟩ := on_v_inv hstep
    obtain ⟨rfl, rfl, rfl, rfl⟩ := nx_v_inv hstep
    have hn : pc' = pc + 1 := of_decide_eq_true hn
    subst hn
    exact lv_irem hexec hb hd (by simpa using hz) (kk H locs ls hw hS hl)
  | ldiv =>
    obtain ⟨x, y, r, rfl, hstep⟩ := w2_l_inv hstep
    obtain ⟨hz, hstep⟩ := on_v_inv hstep
    obtain ⟨rfl, rfl, rfl, rfl⟩ := nx_v_inv hstep
    have hn : pc' = pc + 1 := of_decide_eq_true hn
    subst hn
    exact lv_ldiv hexec hb hd (by simpa using hz) (kk H locs ls hw hS hl)
  | lrem =>
    obtain ⟨x, y, r, rfl, hstep⟩ := w2_l_inv hstep
    obtain ⟨hz, hstep⟩ := on_v_inv hstep
    obtain ⟨rfl, rfl, rfl, rfl⟩ := nx_v_inv hstep
    have hn : pc' = pc + 1 := of_decide_eq_true hn
    subst hn
    exact lv_lrem hexec hb hd (by simpa using hz) (kk H locs ls hw hS hl)
  | iconst n =>
    obtain ⟨rfl, rfl, rfl, rfl⟩ := nx_v_inv hstep
    have hn : pc' = pc + 1 := of_decide_eq_true hn
    subst hn
    exact lv_iconst hexec hb hd (of_decide_eq_true hx) (kk H locs ls hw hS hl)
  | bipush n =>
    obtain ⟨rfl, rfl, rfl, rfl⟩ := nx_v_inv hstep
    have hn : pc' = pc + 2 := of_decide_eq_true hn
    subst hn
    exact lv_bipush hexec hb hd (of_decide_eq_true hx) (kk H locs ls hw hS hl)
  | sipush n =>
    obtain ⟨rfl, rfl, rfl, rfl⟩ := nx_v_inv hstep
    have hn : pc' = pc + 3 := of_decide_eq_true hn
    subst hn
    exact lv_sipush hexec hb hd (of_decide_eq_true hx) (kk H locs ls hw hS hl)
  | lconst n =>
    obtain ⟨rfl, rfl, rfl, rfl⟩ := nx_v_inv hstep
    have hn : pc' = pc + 1 := of_decide_eq_true hn
    subst hn
    exact lv_lconst hexec hb hd (of_decide_eq_true hx) (kk H locs ls hw hS hl)
  | ldc2_w ix =>
    obtain ⟨rfl, rfl, rfl, rfl⟩ := nx_v_inv hstep
    have hn : pc' = pc + 3 := of_decide_eq_true hn
    subst hn
    exact lv_ldc2 hexec hb hown (hts _ (gw_in (List.mem_of_getElem? (of_decide_eq_true hx)) rfl)) hd (kk H locs ls hw hS hl)
  | iload_n k =>
    obtain ⟨x, hx1, hstep⟩ := li_v_inv hstep
    obtain ⟨rfl, rfl, rfl, rfl⟩ := nx_v_inv hstep
    have hn : pc' = pc + 1 := of_decide_eq_true hn
    subst hn
    exact lv_iload_n hexec hb hd (of_decide_eq_true hx) (hl.2.2 _ _ hx1) (kk H locs ls hw hS hl)
  | iload k =>
    obtain ⟨x, hx1, hstep⟩ := li_v_inv hstep
    obtain ⟨rfl, rfl, rfl, rfl⟩ := nx_v_inv hstep
    have hn : pc' = pc + 2 := of_decide_eq_true hn
    subst hn
    have hk : k = ia := of_decide_eq_true hx
    subst hk
    exact lv_iload hexec hb hd (hl.2.2 _ _ hx1) (kk H locs ls hw hS hl)
  | lload_n k =>
    obtain ⟨x, hx1, hstep⟩ := ll_v_inv hstep
    obtain ⟨rfl, rfl, rfl, rfl⟩ := nx_v_inv hstep
    have hn : pc' = pc + 1 := of_decide_eq_true hn
    subst hn
    exact lv_lload_n hexec hb hd (of_decide_eq_true hx) (hl.2.2 _ _ hx1) (kk H locs ls hw hS hl)
  | lload k =>
    obtain ⟨x, hx1, hstep⟩ := ll_v_inv hstep
    obtain ⟨rfl, rfl, rfl, rfl⟩ := nx_v_inv hstep
    have hn : pc' = pc + 2 := of_decide_eq_true hn
    subst hn
    have hk : k = ia := of_decide_eq_true hx
    subst hk
    exact lv_lload hexec hb hd (hl.2.2 _ _ hx1) (kk H locs ls hw hS hl)
  | aload_n k =>
    obtain ⟨x, hx1, hstep⟩ := lr_v_inv hstep
    obtain ⟨rfl, rfl, rfl, rfl⟩ := nx_v_inv hstep
    have hn : pc' = pc + 1 := of_decide_eq_true hn
    subst hn
    exact lv_aload_n hexec hb hd (of_decide_eq_true hx) (hl.2.2 _ _ hx1) (kk H locs ls hw hS hl)
  | aload k =>
    obtain ⟨x, hx1, hstep⟩ := lr_v_inv hstep
    obtain ⟨rfl, rfl, rfl, rfl⟩ := nx_v_inv hstep
    have hn : pc' = pc + 2 := of_decide_eq_true hn
    subst hn
    have hk : k = ia := of_decide_eq_true hx
    subst hk
    exact lv_aload hexec hb hd (hl.2.2 _ _ hx1) (kk H locs ls hw hS hl)
  | istore_n k =>
    obtain ⟨x, r, rfl, hstep⟩ := w1_i_inv hstep
    obtain ⟨rfl, rfl, rfl, rfl⟩ := nx_v_inv hstep
    have hn : pc' = pc + 1 := of_decide_eq_true hn
    subst hn
    have hx := Bool.and_eq_true_iff.mp hx
    exact lv_istore_n hexec hb hd (of_decide_eq_true hx.1) (lr_has hl) (of_decide_eq_true hx.2) rfl (fun ls1 h1 => kk H locs ls1 hw hS (lr_s1 h1))
  | istore k =>
    obtain ⟨x, r, rfl, hstep⟩ := w1_i_inv hstep
    obtain ⟨rfl, rfl, rfl, rfl⟩ := nx_v_inv hstep
    have hn : pc' = pc + 2 := of_decide_eq_true hn
    subst hn
    have hx := Bool.and_eq_true_iff.mp hx
    have hk : k = ia := of_decide_eq_true hx.1
    subst hk
    exact lv_istore hexec hb hd (lr_has hl) (of_decide_eq_true hx.2) rfl (fun ls1 h1 => kk H locs ls1 hw hS (lr_s1 h1))
  | lstore_n k =>
    obtain ⟨x, r, rfl, hstep⟩ := w1_l_inv hstep
    obtain ⟨rfl, rfl, rfl, rfl⟩ := nx_v_inv hstep
    have hn : pc' = pc + 1 := of_decide_eq_true hn
    subst hn
    have hx := Bool.and_eq_true_iff.mp hx
    exact lv_lstore_n hexec hb hd (of_decide_eq_true hx.1) (lr_has hl) (of_decide_eq_true hx.2) rfl (fun ls1 h1 => kk H locs ls1 hw hS (lr_s2 h1))
  | lstore k =>
    obtain ⟨x, r, rfl, hstep⟩ := w1_l_inv hstep
    obtain ⟨rfl, rfl, rfl, rfl⟩ := nx_v_inv hstep
    have hn : pc' = pc + 2 := of_decide_eq_true hn
    subst hn
    have hx := Bool.and_eq_true_iff.mp hx
    have hk : k = ia := of_decide_eq_true hx.1
    subst hk
    exact lv_lstore hexec hb hd (lr_has hl) (of_decide_eq_true hx.2) rfl (fun ls1 h1 => kk H locs ls1 hw hS (lr_s2 h1))
  | astore_n k =>
    obtain ⟨x, r, rfl, hstep⟩ := w1_r_inv hstep
    obtain ⟨rfl, rfl, rfl, rfl⟩ := nx_v_inv hstep
    have hn : pc' = pc + 1 := of_decide_eq_true hn
    subst hn
    have hx := Bool.and_eq_true_iff.mp hx
    exact lv_astore_n hexec hb hd (of_decide_eq_true hx.1) (lr_has hl) (of_decide_eq_true hx.2) rfl (fun ls1 h1 => kk H locs ls1 hw hS (lr_s1 h1))
  | astore k =>
    obtain ⟨x, r, rfl, hstep⟩ := w1_r_inv hstep
    obtain ⟨rfl, rfl, rfl, rfl⟩ := nx_v_inv hstep
    have hn : pc' = pc + 2 := of_decide_eq_true hn
    subst hn
    have hx := Bool.and_eq_true_iff.mp hx
    have hk : k = ia := of_decide_eq_true hx.1
    subst hk
    exact lv_astore hexec hb hd (lr_has hl) (of_decide_eq_true hx.2) rfl (fun ls1 h1 => kk H locs ls1 hw hS (lr_s1 h1))
  | iinc k n =>
    obtain ⟨x, hx1, hstep⟩ := li_v_inv hstep
    obtain ⟨rfl, rfl, rfl, rfl⟩ := nx_v_inv hstep
    have hn : pc' = pc + 3 := of_decide_eq_true hn
    subst hn
    have hx := Bool.and_eq_true_iff.mp hx
    have hx2 := Bool.and_eq_true_iff.mp hx.1
    have hk : k = ia := of_decide_eq_true hx2.1
    subst hk
    obtain ⟨kp, hkp⟩ := List.getElem?_of_mem (pr_mem.mpr hx1)
    exact lv_iinc (k := kp) hexec hb hd (lr_has hl) hkp (by rw [of_decide_eq_true hx.2]) (of_decide_eq_true hx2.2) rfl (fun ls1 h1 => kk H locs ls1 hw hS (lr_s1 h1))
  | dup =>
    obtain ⟨v, r, rfl, hstep⟩ := w1_v_inv hstep
    obtain ⟨hz, hstep⟩ := on_v_inv hstep
    obtain ⟨rfl, rfl, rfl, rfl⟩ := nx_v_inv hstep
    have hn : pc' = pc + 1 := of_decide_eq_true hn
    subst hn
    exact lv_dup hexec hb hd (by simpa using hz) (kk H locs ls hw hS hl)
  | pop =>
    obtain ⟨v, r, rfl, hstep⟩ := w1_v_inv hstep
    obtain ⟨hz, hstep⟩ := on_v_inv hstep
    obtain ⟨rfl, rfl, rfl, rfl⟩ := nx_v_inv hstep
    have hn : pc' = pc + 1 := of_decide_eq_true hn
    subst hn
    exact lv_pop hexec hb hd (by simpa using hz) (kk H locs ls hw hS hl)
  | dup2 =>
    obtain ⟨v, w, r, rfl, hstep⟩ := w2_v_inv hstep
    obtain ⟨hz, hstep⟩ := on_v_inv hstep
    obtain ⟨rfl, rfl, rfl, rfl⟩ := nx_v_inv hstep
    have hn : pc' = pc + 1 := of_decide_eq_true hn
    subst hn
    have hz := Bool.and_eq_true_iff.mp hz
    exact lv_dup2_11 hexec hb hd (by simpa using hz.1) (by simpa using hz.2) (kk H locs ls hw hS hl)
  | ifCond cc off =>
    obtain ⟨x, r, rfl, hstep⟩ := w1_i_inv hstep
    obtain ⟨rfl, rfl, rfl, rfl⟩ := go_v_inv hstep
    have ht : (pc : Int) + off = (ia : Int) := of_decide_eq_true hx
    have hn : nx = pc + 3 := of_decide_eq_true hn
    subst hn
    have kk := kk H locs ls hw hS hl
    cases cc with
    | eq => exact lv_if_eq hexec hb hd ht (fun h => by simpa [ci_v, h] using kk) (fun h => by simpa [ci_v, h] using kk)
    | ne => exact lv_if_ne hexec hb hd ht (fun h => by simpa [ci_v, h] using kk) (fun h => by simpa [ci_v, h] using kk)
    | lt => exact lv_if_lt hexec hb hd ht (fun h => by simpa [ci_v, h] using kk) (fun h => by simpa [ci_v, h] using kk)
    | ge => exact lv_if_ge hexec hb hd ht (fun h => by simpa [ci_v, h] using kk) (fun h => by simpa [ci_v, h] using kk)
    | gt => exact lv_if_gt hexec hb hd ht (fun h => by simpa [ci_v, h] using kk) (fun h => by simpa [ci_v, h] using kk)
    | le => exact lv_if_le hexec hb hd ht (fun h => by simpa [ci_v, h] using kk) (fun h => by simpa [ci_v, h] using kk)
  | if_icmp cc off =>
    obtain ⟨x, y, r, rfl, hstep⟩ := w2_i_inv hstep
    obtain ⟨rfl, rfl, rfl, rfl⟩ := go_v_inv hstep
    have ht : (pc : Int) + off = (ia : Int) := of_decide_eq_true hx
    have hn : nx = pc + 3 := of_decide_eq_true hn
    subst hn
    have kk := kk H locs ls hw hS hl
    cases cc with
    | eq => exact lv_icmp_eq hexec hb hd ht (fun h => by simpa [ci_v, h] using kk) (fun h => by simpa [ci_v, h] using kk)
    | ne => exact lv_icmp_ne hexec hb hd ht (fun h => by simpa [ci_v, h] using kk) (fun h => by simpa [ci_v, h] using kk)
    | lt => exact lv_icmp_lt hexec hb hd ht (fun h => by simpa [ci_v, h] using kk) (fun h => by simpa [ci_v, h] using kk)
    | ge => exact lv_icmp_ge hexec hb hd ht (fun h => by simpa [ci_v, h] using kk) (fun h => by simpa [ci_v, h] using kk)
    | gt => exact lv_icmp_gt hexec hb hd ht (fun h => by simpa [ci_v, h] using kk) (fun h => by simpa [ci_v, h] using kk)
    | le => exact lv_icmp_le hexec hb hd ht (fun h => by simpa [ci_v, h] using kk) (fun h => by simpa [ci_v, h] using kk)
  | goto off =>
    obtain ⟨rfl, rfl, rfl, rfl⟩ := go_v_inv hstep
    exact lv_goto hexec hb hd (of_decide_eq_true hx) (kk H locs ls hw hS hl)
  | tableswitch df lo hi offs =>
    obtain ⟨x, r, rfl, hstep⟩ := w1_i_inv hstep
    obtain ⟨rfl, rfl, rfl, rfl⟩ := go_v_inv hstep
    have hx := Bool.and_eq_true_iff.mp hx
    have hx2 := Bool.and_eq_true_iff.mp hx.1
    have hx3 := Bool.and_eq_true_iff.mp hx2.1
    have hx4 := Bool.and_eq_true_iff.mp hx3.1
    have h1 : (pc : Int) + df = (ia : Int) := of_decide_eq_true hx4.1
    have h2 : lo = 0 := of_decide_eq_true hx4.2
    have h3 : hi + 1 = (offs.toList.length : Int) := of_decide_eq_true hx3.2
    have h4 : offs.toList.length < 1000 := of_decide_eq_true hx2.2
    subst h2
    have kk := kk H locs ls hw hS hl
    rcases sw_spec pc ia x offs.toList 0 (by omega) with ⟨off, g1, g2, g3⟩ | ⟨g1, g2⟩
    · rw [g3] at kk
      have g5 : 0 ≤ (pc : Int) + off := of_decide_eq_true (List.all_eq_true.mp hx.2 off (List.mem_of_getElem? g2))
      refine lv_tableIn (off := off) (tgt := ((pc : Int) + off).toNat) hexec hb hd (by omega) (by omega) ?_ (by omega) kk
      rw [← Array.getElem?_toList]
      exact g2
    · rw [g2] at kk
      exact lv_tableOut (tgt := ia) hexec hb hd (by omega) h1 kk
  | getfield ix =>
    obtain ⟨a, r, rfl, hstep⟩ := w1_r_inv hstep
    obtain ⟨fs, hm, hstep⟩ := ob_v_inv hstep
    obtain ⟨v, hv, hstep⟩ := vl_v_inv hstep
    obtain ⟨rfl, rfl, rfl, rfl⟩ := nx_v_inv hstep
    have hn : pc' = pc + 3 := of_decide_eq_true hn
    subst hn
    obtain ⟨ws, hP, hD, hmm⟩ := hw
    obtain ⟨k0, hk0⟩ := hmm a _ hm
    unfold ex_ok fl_m at hx
    dsimp only at hx
    split at hx
    · rename_i C0 T N hcl
      obtain ⟨hc1, hc2, hc3, hc4⟩ := kls_all ia (C0, T, N) hcl
      have hx := Bool.and_eq_true_iff.mp hx
      have hbN : ib < N := of_decide_eq_true hx.1
      have hx := hx.2
      split at hx
      · exact va_get hexec hb hts hc2 hown hK hP k0 hk0 hc1 ib hbN (hts _ (gw_in (List.mem_of_getElem? (of_decide_eq_true hx)) rfl)) (fun _ h => h) hv hd (kk H locs ls ⟨ws, hP, hD, hmm⟩ hS hl)
      · exact va_getN hexec hb hts hc2 hown hK hP k0 hk0 hc1 ib hbN (va_Nw.use rfl (hnw _ (List.mem_of_getElem? (of_decide_eq_true hx)) rfl)) (fun _ h => h) hv hd (kk H locs ls ⟨ws, hP, hD, hmm⟩ hS hl)
    · cases hx
  | putfield ix =>
    obtain ⟨v, r0, rfl, hstep⟩ := w1_v_inv hstep
    obtain ⟨a, r, rfl, hstep⟩ := w1_r_inv hstep
    obtain ⟨fs, hm, hstep⟩ := ob_v_inv hstep
    obtain ⟨hz, hstep⟩ := on_v_inv hstep
    obtain ⟨rfl, rfl, rfl, rfl⟩ := nx_v_inv hstep
    have hn : pc' = pc + 3 := of_decide_eq_true hn
    subst hn
    obtain ⟨ws, hP, hD, hmm⟩ := hw
    obtain ⟨k0, hk0⟩ := hmm a _ hm
    have hz := Bool.and_eq_true_iff.mp hz
    have hxx := Bool.and_eq_true_iff.mp hx
    have hx := hxx.1
    have hfn := hxx.2
    unfold fl_m at hx
    unfold fn_m at hfn
    dsimp only at hx hfn
    split at hx
    · rename_i C0 T N hcl
      rw [hcl] at hfn
      obtain ⟨hc1, hc2, hc3, hc4⟩ := kls_all ia (C0, T, N) hcl
      have hx := Bool.and_eq_true_iff.mp hx
      have hbN : ib < N := of_decide_eq_true hx.1
      have hx := hx.2
      have hfn : (T ib).2.2.2 = false := by simpa using hfn
      obtain ⟨o1, o2⟩ := ok_spec hz.2
      split at hx
      · exact va_put hexec hb hts hc2 (tyk_m ia) hc3 hc4 hown hK hP hD hS k0 hk0 hc1 ib hbN (hts _ (gw_in (List.mem_of_getElem? (of_decide_eq_true hx)) rfl)) (fun _ h => h) hfn (hc3 ib hbN) o1 o2 (of_decide_eq_true hz.1) hd (fun H1 locs1 h1 h2 h3 => kk H1 locs1 ls (mw_set hD hk0 hmm h1 h2) h3 hl)
      · exact va_putN hexec hb hts hc2 (tyk_m ia) hc3 hc4 hown hK hP hD hS k0 hk0 hc1 ib hbN (va_Nw.use rfl (hnw _ (List.mem_of_getElem? (of_decide_eq_true hx)) rfl)) (fun _ h => h) hfn (hc3 ib hbN) o1 o2 (of_decide_eq_true hz.1) hd (fun H1 locs1 h1 h2 h3 => kk H1 locs1 ls (mw_set hD hk0 hmm h1 h2) h3 hl)
    · cases hx
  | iaload =>
    obtain ⟨a, j, r, rfl, hstep⟩ := w2_r_inv hstep
    obtain ⟨n, f, hm, hstep⟩ := ai_v_inv hstep
    obtain ⟨hi, hstep⟩ := ix_v_inv hstep
    obtain ⟨rfl, rfl, rfl, rfl⟩ := nx_v_inv hstep
    have hn : pc' = pc + 1 := of_decide_eq_true hn
    subst hn
    obtain ⟨ws, hP, hD, hmm⟩ := hw
    obtain ⟨k0, hk0⟩ := hmm a _ hm
    exact va_iald hexec hb hK hP k0 0 hk0 rfl hi hd (kk H locs ls ⟨ws, hP, hD, hmm⟩ hS hl)
  | baload =>
    obtain ⟨a, j, r, rfl, hstep⟩ := w2_r_inv hstep
    obtain ⟨n, f, hm, hstep⟩ := ai_v_inv hstep
    obtain ⟨hi, hstep⟩ := ix_v_inv hstep
    obtain ⟨rfl, rfl, rfl, rfl⟩ := nx_v_inv hstep
    have hn : pc' = pc + 1 := of_decide_eq_true hn
    subst hn
    obtain ⟨ws, hP, hD, hmm⟩ := hw
    obtain ⟨k0, hk0⟩ := hmm a _ hm
    exact va_zald hexec hb hK hP k0 2 hk0 rfl hi hd (kk H locs ls ⟨ws, hP, hD, hmm⟩ hS hl)
  | laload =>
    obtain ⟨a, j, r, rfl, hstep⟩ := w2_r_inv hstep
    obtain ⟨n, f, hm, hstep⟩ := al_v_inv hstep
    obtain ⟨hi, hstep⟩ := ix_v_inv hstep
    obtain ⟨rfl, rfl, rfl, rfl⟩ := nx_v_inv hstep
    have hn : pc' = pc + 1 := of_decide_eq_true hn
    subst hn
    obtain ⟨ws, hP, hD, hmm⟩ := hw
    obtain ⟨k0, hk0⟩ := hmm a _ hm
    exact va_lald hexec hb hK hP k0 1 hk0 rfl hi hd (kk H locs ls ⟨ws, hP, hD, hmm⟩ hS hl)
  | aaload =>
    obtain ⟨a, j, r, rfl, hstep⟩ := w2_r_inv hstep
    obtain ⟨t, n, f, hm, ht, hstep⟩ := ar_v_inv hstep
    obtain ⟨hi, hstep⟩ := ix_v_inv hstep
    obtain ⟨b, hfb, hstep⟩ := rf_v_inv hstep
    obtain ⟨rfl, rfl, rfl, rfl⟩ := nx_v_inv hstep
    have hn : pc' = pc + 1 := of_decide_eq_true hn
    subst hn
    obtain ⟨ty, ht1, ht2⟩ := tys_get dA ht.2
    have hat := mw_up hw hm
    have hlt : j.toNatClampNeg < n := Nat.not_le.mp fun q => hi (Or.inr q)
    exact W.aald (v := .ref b) (ty := ty) hexec hb hat ((hK.2 t _ ht1).1 n (fun j => va_rf (f j))) (ht2 ht.1) (fun q => by cases q) (by show ¬ (j < 0 ∨ (arrV _ _ _).slots.size ≤ _); rw [arrV_size]; exact hi) (by show (arrV _ _ _).slots[_]? = _; rw [arrV_read _ _ hlt, hfb]; rfl) rfl rfl hd (kk H locs ls hw hS hl)
  | iastore =>
    obtain ⟨a, j, x, r, rfl, hstep⟩ := w3_i_inv hstep
    obtain ⟨n, f, hm, hstep⟩ := ai_v_inv hstep
    obtain ⟨hi, hstep⟩ := ix_v_inv hstep
    obtain ⟨rfl, rfl, rfl, rfl⟩ := nx_v_inv hstep
    have hn : pc' = pc + 1 := of_decide_eq_true hn
    subst hn
    obtain ⟨ws, hP, hD, hmm⟩ := hw
    obtain ⟨k0, hk0⟩ := hmm a _ hm
    exact va_iast hexec hb hK hP hD hS k0 0 hk0 rfl hi hd (fun H1 locs1 h1 h2 h3 => kk H1 locs1 ls (mw_set hD hk0 hmm h1 h2) h3 hl)
  | lastore =>
    obtain ⟨a, j, x, r, rfl, hstep⟩ := w3_l_inv hstep
    obtain ⟨n, f, hm, hstep⟩ := al_v_inv hstep
    obtain ⟨hi, hstep⟩ := ix_v_inv hstep
    obtain ⟨rfl, rfl, rfl, rfl⟩ := nx_v_inv hstep
    have hn : pc' = pc + 1 := of_decide_eq_true hn
    subst hn
    obtain ⟨ws, hP, hD, hmm⟩ := hw
    obtain ⟨k0, hk0⟩ := hmm a _ hm
    exact va_last hexec hb hK hP hD hS k0 1 hk0 rfl hi hd (fun H1 locs1 h1 h2 h3 => kk H1 locs1 ls (mw_set hD hk0 hmm h1 h2) h3 hl)
  | bastore =>
    obtain ⟨a, j, x, r, rfl, hstep⟩ := w3_i_inv hstep
    obtain ⟨n, f, hm, hstep⟩ := ai_v_inv hstep
    obtain ⟨hi, hstep⟩ := ix_v_inv hstep
    obtain ⟨hz, hstep⟩ := on_v_inv hstep
    obtain ⟨rfl, rfl, rfl, rfl⟩ := nx_v_inv hstep
    have hn : pc' = pc + 1 := of_decide_eq_true hn
    subst hn
    obtain ⟨ws, hP, hD, hmm⟩ := hw
    obtain ⟨k0, hk0⟩ := hmm a _ hm
    refine va_zast hexec hb hK hP hD hS k0 2 hk0 rfl hi hd (fun H1 locs1 h1 h2 h3 => ?_)
    rw [(z01 hz).2] at h1 h2
    exact kk H1 locs1 ls (mw_set hD hk0 hmm h1 h2) h3 hl
  | arraylength =>
    obtain ⟨a, r, rfl, hstep⟩ := w1_r_inv hstep
    obtain ⟨t, n, f, hm, ht, hstep⟩ := le_v_inv hstep
    obtain ⟨rfl, rfl, rfl, rfl⟩ := nx_v_inv hstep
    have hn : pc' = pc + 1 := of_decide_eq_true hn
    subst hn
    obtain ⟨ty, ht1, -⟩ := tys_get dA ht
    obtain ⟨ws, hP, hD, hmm⟩ := hw
    obtain ⟨k0, hk0⟩ := hmm a _ hm
    exact va_alen hexec hb hK hP k0 t hk0 ht1 rfl hd (kk H locs ls ⟨ws, hP, hD, hmm⟩ hS hl)
  | ireturn =>
    exfalso
    simp only [step_m] at hstep
    split at hstep
    · split at hstep
      · cases hstep
      · split at hstep
        · obtain ⟨-, h⟩ := on_v_inv hstep; cases h
        · cases hstep
    · cases hstep
  | lreturn =>
    exfalso
    simp only [step_m] at hstep
    split at hstep
    · split at hstep <;> cases hstep
    · cases hstep
  | return_ =>
    exfalso
    simp only [step_m] at hstep
    split at hstep
    · split at hstep <;> cases hstep
    · cases hstep
  | invokevirtual ix => exact absurd hstep (cl_no _ _ _ _)
  | invokestatic ix =>
    simp only [step_m] at hstep
    split at hstep
    · rename_i hlib
      subst hR
      have hx : lb_m mt i ix (.invokestatic ix, nx, ia, ib, id1, iz, iy) = true := by simpa only [ex_ok, if_pos hlib] using hx
      have hn : nx = pc + 3 := of_decide_eq_true hn
      exact st_lib hx hn hsys hstep ⟨hexec, hb, hml, hown, hts, hnw, hrt, hlk, hK⟩ hw hS hl hd kk
    · exact absurd hstep (cl_no _ _ _ _)
  | _ => exact absurd hstep (by simp [step_m])
end Sound

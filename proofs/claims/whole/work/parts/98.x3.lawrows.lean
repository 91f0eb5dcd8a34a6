def pl_i : Instr → Bool
  | .new _ => false
  | .invokespecial _ => false
  | .invokevirtual _ => false
  | .invokestatic _ => false
  | _ => true
theorem lp_pl {pc : Nat} {q : Ins} (h : lp_ok pc q = true) (hp : pl_i q.1 = true) : in_ok lt_m 10 9 pc q = true := by
  obtain ⟨ins, nx, ia, ib, id1, iz, iy⟩ := q
  cases ins <;> first | (cases hp; done) | exact h
section LWS
variable {p : Program} {l : Launch} {e : Env} {s : State} {m : MethodId} {below : List Frame} {meth : Method} {c : Code} {D : va_G} {dA : Nat → ClassId} {A : Nat → Prop} {b L ce so pc pc' nx : Nat} {xs : Nat → Int32} {Q : State → Prop} {lv lv' : LVs} {st st' : List Value} {mem mem' : Mem} {q : Ins}
/-- from here on the law comes to Q -/
def LW (p : Program) (l : Launch) (e : Env) (s : State) (m : MethodId) (b : Nat) (below : List Frame) (meth : Method) (c : Code) (D : va_G) (dA : Nat → ClassId) (A : Nat → Prop) (ce so : Nat) (Q : State → Prop) (pc : Nat) (lv : LVs) (st : List Value) (mem : Mem) : Prop :=
  ∀ (H : Heap) (locs : List Loc) (ls : Array Slot), mw_m D dA A mem H → va_S A s.heap H locs → lr_m ls 4 lv → W p l e room_1 s m #[Value.ref b] below meth c H locs ce so Q (F0 m pc ls st)
theorem LW_p (C : cx_m lt_m D dA 9 p s m #[Value.ref b] meth c) (hf : fl_9 pc = some q) (hp : pl_i q.1 = true) (hs : step_m lt_m (some .boolean) pc q lv st mem = some (.inl (pc', lv', st', mem'))) (h : LW p l e s m b below meth c D dA A ce so Q pc' lv' st' mem') : LW p l e s m b below meth c D dA A ce so Q pc lv st mem := fun H locs ls w1 s1 l1 =>
  st_nk (i := 9) (lp_pl (lp_at hf) hp) (fun ix hx => by rw [hx] at hp; cases hp) hs C w1 s1 l1 h
theorem LW_ld {i : Int32} (C : cx_m lt_m D dA 9 p s m #[Value.ref b] meth c) (hX : va_X b L xs s s.heap) (hbl : b < s.heap.size) (hbA : ¬ A b) (hf : fl_9 pc = some (.iaload, nx, 0, 0, 0, 0, 0)) (hi : vp_in i L) (h : LW p l e s m b below meth c D dA A ce so Q nx lv (.int (xs i.toNatClampNeg) :: st) mem) : LW p l e s m b below meth c D dA A ce so Q pc lv (.int i :: .ref b :: st) mem := fun H locs ls w1 s1 l1 => by
  obtain ⟨hd, hn, -⟩ := in_ok_spec (lp_pl (lp_at hf) rfl)
  have hn : nx = pc + 1 := of_decide_eq_true hn
  subst hn
  exact va_sld C.1 C.2.1 hX hbl hbA s1 hi hd (h H locs ls w1 s1 l1)
theorem LW_al (C : cx_m lt_m D dA 9 p s m #[Value.ref b] meth c) (hX : va_X b L xs s s.heap) (hbl : b < s.heap.size) (hbA : ¬ A b) (hf : fl_9 pc = some (.arraylength, nx, 0, 0, 0, 0, 0)) (h : LW p l e s m b below meth c D dA A ce so Q nx lv (.int (nI L) :: st) mem) : LW p l e s m b below meth c D dA A ce so Q pc lv (.ref b :: st) mem := fun H locs ls w1 s1 l1 => by
  obtain ⟨hd, hn, -⟩ := in_ok_spec (lp_pl (lp_at hf) rfl)
  have hn : nx = pc + 1 := of_decide_eq_true hn
  subst hn
  exact va_slen C.1 C.2.1 hX hbl hbA s1 hd (h H locs ls w1 s1 l1)
theorem LW_c {ix j a d0 : Nat} {as rest fs : List Value} {r : Option Value} (C : cx_m lt_m D dA 9 p s m #[Value.ref b] meth c) (hf : fl_9 pc = some (.invokevirtual ix, nx, j, 0, d0, 0, 0)) (hpar : as.length = (mt_m j).2.2.2.2.1) (hcs : cs_v rest ≤ 8) (hca : cs_v (.ref a :: as) ≤ (mt_m j).2.2.1) (ha : mem a = some (.inl ((mt_m j).2.2.2.2.2.2.1, fs))) (h : cl j (.ref a :: as) mem = some (r, mem')) (hce : ce ≤ room_1.cells) (hso : so ≤ room_1.slots) (hst : st = as.reverse ++ .ref a :: rest) (k : LW p l e s m b below meth c D dA A ce so Q nx lv (r.toList ++ rest) mem') : LW p l e s m b below meth c D dA A ce so Q pc lv st mem := fun H locs ls w1 s1 l1 => by
  subst hst
  have hk := lp_at hf
  simp only [lp_ok, Bool.and_eq_true, decide_eq_true_eq, Bool.not_eq_true'] at hk
  obtain ⟨⟨⟨⟨⟨⟨k1, k2⟩, k3⟩, k4⟩, k5⟩, k6⟩, k7⟩ := hk
  subst k2
  exact lv_call (i := 9) C k3 k5 hpar k6 k7 k4 k1 hcs hca ha h hce hso w1 s1 l1 (fun H1 locs1 w2 s2 => k H1 locs1 ls w2 s2 l1)
end LWS

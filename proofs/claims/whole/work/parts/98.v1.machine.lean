-- the makers' machine: constructors
def zf_m (ci : Nat) : List Value := match cls_m[ci]? with
  | some r => (List.range r.2.2).map (fun j => defaultValue (tyk_m ci j))
  | none => []
def nf_m (ci : Nat) : Nat := match cls_m[ci]? with
  | some r => r.2.2
  | none => 0
def za_m (t n : Nat) : vp_A := if t = 1 then (n, .inr (.inl (fun _ => 0))) else (n, .inl (fun _ => 0))
abbrev BR : Type := Option ((Nat × LVs × List Value × Mem × Nat × Nat) ⊕ (Unit ⊕ (Nat × List Value × List Value)))
def lg_b (k : Int32) : Bool := !decide (k < 0) && decide (k.toNatClampNeg ≤ 10000)
def aq_v (q : Ins) (lv : LVs) (st : List Value) (mem : Mem) : BR := match st with
  | .ref v :: .int j :: .ref a :: r => (match mem a with
    | some (.inr (t, n, .inr (.inr (.inr (.inr f))))) => ob_v (mem v) q.2.2.2.1 (fun _ => on_v (decide (t = q.2.2.1)) (ix_v j n (fun k => some (.inl (q.2.1, lv, r, up_m mem a (.inr (t, n, .inr (.inr (.inr (.inr (va_up f k (some v))))))), 0, 0)))))
    | _ => none)
  | _ => none
def bs_m (mt : Nat → Mth) (pc : Nat) (q : Ins) (lv : LVs) (st : List Value) (mem : Mem) (z : Nat) : BR :=
  match q.1 with
  | .new _ => some (.inl (q.2.1, lv, .ref z :: st, up_m mem z (.inl (q.2.2.1, zf_m q.2.2.1)), 1, nf_m q.2.2.1))
  | .newarray _ => w1_i st (fun k r => on_v (lg_b k) (some (.inl (q.2.1, lv, .ref z :: r, up_m mem z (.inr (q.2.2.1, za_m q.2.2.1 k.toNatClampNeg)), 1, k.toNatClampNeg))))
  | .anewarray _ => w1_i st (fun k r => on_v (lg_b k) (some (.inl (q.2.1, lv, .ref z :: r, up_m mem z (.inr (q.2.2.1, k.toNatClampNeg, .inr (.inr (.inr (.inr (fun _ => none)))))), 1, k.toNatClampNeg))))
  | .multianewarray _ _ => w2_i st (fun n k r => on_v (lg_b n && lg_b k) (some (.inl (q.2.1, lv, .ref z :: r, mr_m mem z n.toNatClampNeg (.inr (q.2.2.1, n.toNatClampNeg, .inr (.inr (.inr (.inr (fun j => if j < n.toNatClampNeg then some (z + 1 + j) else none)))))) (.inr (q.2.2.2.1, za_m q.2.2.2.1 k.toNatClampNeg)), 1 + n.toNatClampNeg, n.toNatClampNeg + n.toNatClampNeg * k.toNatClampNeg))))
  | .aastore => aq_v q lv st mem
  | .invokespecial _ => w1_r st (fun a r => on_v (decide (cs_v r ≤ 8)) (if q.2.2.1 = 1000 then some (.inl (q.2.1, lv, r, mem, 0, 0)) else some (.inr (.inr (q.2.2.1, [.ref a], r)))))
  | .return_ => match st with
    | [] => some (.inr (.inl ()))
    | _ => none
  | _ => match step_m mt none pc q lv st mem with
    | some (.inl (pc', lv', st', mem')) => some (.inl (pc', lv', st', mem', 0, 0))
    | _ => none
def bx_m (mt : Nat → Mth) (ft : Nat → Nat → Option Ins) : Nat → Nat → Nat → LVs → List Value → Mem → Nat → Nat → Option (Mem × Nat × Nat)
  | 0, _, _, _, _, _, _, _ => none
  | n + 1, i, pc, lv, st, mem, z, so => match ft i pc with
    | none => none
    | some q => match bs_m mt pc q lv st mem z with
      | none => none
      | some (.inl (pc', lv', st', mem', dz, ds)) => bx_m mt ft n i pc' lv' st' mem' (z + dz) (so + ds)
      | some (.inr (.inl _)) => some (mem, z, so)
      | some (.inr (.inr (j, as, rest))) => match bx_m mt ft n j 0 (pad_v (mt j).2.2.1 as) [] mem z 0 with
        | none => none
        | some (mem', z', s') => bx_m mt ft n i q.2.1 lv rest mem' z' (so + s')
/-- what is checked of an instruction -/
def b_ok (mt : Nat → Mth) (M i pc : Nat) (q : Ins) : Bool := match q.1 with
  | .new ix => decide (decode (mt i).2.1 pc = .ok (.new ix, 3)) && decide (q.2.1 = pc + 3) && (match cls_m[q.2.2.1]? with
    | some r => decide (lw_tbl[q.2.2.2.1]? = some (.classLink (mt i).1.cls ix r.1))
    | none => false)
  | .newarray at' => decide (decode (mt i).2.1 pc = .ok (.newarray at', 2)) && decide (q.2.1 = pc + 2) && decide (aty_m[q.2.2.1]? = some (newarray.typeOf at')) && decide (q.2.2.1 ≤ 2)
  | .anewarray ix => decide (decode (mt i).2.1 pc = .ok (.anewarray ix, 3)) && decide (q.2.1 = pc + 3) && decide (3 ≤ q.2.2.1 ∧ q.2.2.1 ≤ 5) && (match aty_m[q.2.2.1]? with
    | some (.object C0) => decide (lw_tbl[q.2.2.2.1]? = some (.classLink (mt i).1.cls ix C0))
    | _ => false)
  | .multianewarray ix d => decide (decode (mt i).2.1 pc = .ok (.multianewarray ix 2, 4)) && decide (d = 2) && decide (q.2.1 = pc + 4) && decide ((q.2.2.1 = 6 ∧ q.2.2.2.1 = 1) ∨ (q.2.2.1 = 7 ∧ q.2.2.2.1 = 0)) && (match aty_m[q.2.2.2.1]? with
    | some ty => decide (lw_tbl[q.2.2.2.2.1]? = some (.classLink (mt i).1.cls ix ("[" ++ (FieldType.array ty).toString)))
    | _ => false)
  | .aastore => decide (decode (mt i).2.1 pc = .ok (.aastore, 1)) && decide (q.2.1 = pc + 1) && (match aty_m[q.2.2.1]?, cls_m[q.2.2.2.1]? with
    | some (.object C0), some r => decide (r.1 = C0)
    | _, _ => false)
  | .invokespecial ix => decide (decode (mt i).2.1 pc = .ok (.invokespecial ix, 3)) && decide (q.2.1 = pc + 3) && decide (1 ≤ (mt i).2.2.2.2.2.2.2.1) && decide (20 ≤ (mt i).2.2.2.2.2.2.2.2) &&
    (if q.2.2.1 = 1000 then decide (lw_tbl[q.2.2.2.2.1]? = some (.methodLink (mt i).1.cls ix objectInit)) else
      decide (q.2.2.1 < M) && decide ((mt q.2.2.1).2.2.2.2.2.2.2.1 + 1 ≤ (mt i).2.2.2.2.2.2.2.1) && decide (8 + ((mt q.2.2.1).2.2.1 + 11) + (mt q.2.2.1).2.2.2.2.2.2.2.2 ≤ (mt i).2.2.2.2.2.2.2.2) && (if q.2.2.2.2.2.1 = 0 then decide (lw_tbl[q.2.2.2.2.1]? = some (.methodLink (mt i).1.cls ix (mt q.2.2.1).1)) else decide (lw_tbl[q.2.2.2.2.1]? = some (.methodLinkNest (mt i).1.cls ix (mt q.2.2.1).1 "FilterBench"))))
  | .return_ => decide (decode (mt i).2.1 pc = .ok (.return_, 1))
  | .putfield ix => if fn_m q = true then in_ok mt M i pc q else decide (decode (mt i).2.1 pc = .ok (.putfield ix, 3)) && decide (q.2.1 = pc + 3) && (match cls_m[q.2.2.1]? with
    | some r => decide (q.2.2.2.1 < r.2.2) && decide (lw_tbl[q.2.2.2.2.1]? = some (.fieldLink (mt i).1.cls ix (r.2.1 q.2.2.2.1).1 (r.2.1 q.2.2.2.1).2.1 (r.2.1 q.2.2.2.1).2.2.1)) && decide ((r.2.1 q.2.2.2.1).1 = (mt i).1.cls)
    | none => false)
  | .invokestatic _ => false
  | .invokevirtual _ => false
  | .ireturn => false
  | .lreturn => false
  | _ => in_ok mt M i pc q
/-- what is checked of a constructor -/
def bm_ok (mt : Nat → Mth) (j : Nat) : Prop :=
  Cond.code (mt j).1 (mt j).2.1 (mt j).2.2.1 none ∈ gw_m ∧ Cond.initialized (mt j).1.cls ∈ gw_m ∧ plainName (mt j).1.cls = true ∧ ((mt j).1.cls ≠ "java/lang/invoke/MethodHandle" ∧ (mt j).1.cls ≠ "java/lang/invoke/VarHandle" ∧ (parseMethodDescriptor (mt j).1.desc).map (fun d => d.parameters.length) = some 0) ∧
  Cond.instanceMethod (mt j).1 ∈ gw_m ∧ (mt j).1.name = "<init>" ∧ (mt j).2.2.2.1 = none ∧ 1 ≤ (mt j).2.2.1
/-- the words of objects and arrays -/
def bw_ok : Prop := (∀ (ci : Nat) (r : vw_C), cls_m[ci]? = some r → Cond.instantiable r.1 r.2.2 ∈ gw_m ∧ Cond.initialized r.1 ∈ gw_m) ∧ (∀ (t : Nat) (ty : FieldType), t ≤ 2 → aty_m[t]? = some ty → Cond.arrayClass ty ∈ gw_m) ∧ Cond.instanceMethod objectInit ∈ gw_m ∧ Cond.code objectInit ⟨#[0xb1]⟩ 1 none ∈ gw_m
/-- arrays of objects, arrays of arrays -/
def ao_m (dA : Nat → ClassId) (U : State) : Prop := (∀ (t : Nat) (C0 : String), 3 ≤ t → t ≤ 5 → aty_m[t]? = some (.object C0) → va_AO C0 U) ∧ ra_m U (dA 6) (dA 1) .long ∧ ra_m U (dA 7) (dA 0) .int
theorem ao_m.moved {dA : Nat → ClassId} {u U : State} (hvm : u.vm.Alike U.vm) (h : ao_m dA u) : ao_m dA U := ⟨fun t C0 h1 h2 h3 => va_AO.moved hvm (h.1 t C0 h1 h2 h3), ra_m.moved hvm h.2.1, ra_m.moved hvm h.2.2⟩
theorem ty_at {dA : Nat → ClassId} {t : Nat} {ty : FieldType} (h : aty_m[t]? = some ty) : (tys_m dA)[t]? = some (dA t, ty) := by
  match t, h with
  | 0, h => cases h; rfl
  | 1, h => cases h; rfl
  | 2, h => cases h; rfl
  | 3, h => cases h; rfl
  | 4, h => cases h; rfl
  | 5, h => cases h; rfl
  | 6, h => cases h; rfl
  | 7, h => cases h; rfl
  | n + 8, h => simp [aty_m] at h
theorem za_spec {t n : Nat} {ty : FieldType} (ht : t ≤ 2) (h : aty_m[t]? = some ty) (cA : ClassId) : vp_cell cA (za_m t n) = arrV cA n (fun _ => defaultValue ty) := by
  match t, h, ht with
  | 0, h, _ => cases h; rfl
  | 1, h, _ => cases h; rfl
  | 2, h, _ => cases h; rfl
  | n + 3, _, ht => omega
theorem zf_spec {ci : Nat} {r : vw_C} (h : cls_m[ci]? = some r) : ∀ j, j < r.2.2 → defaultValue (tyk_m ci j) = vp_V (zf_m ci) j := by
  intro j hj
  unfold zf_m
  rw [h]
  dsimp only
  unfold vp_V
  rw [List.getD_eq_getElem?_getD, List.getElem?_map, List.getElem?_range hj]
  rfl
theorem lg_spec {k : Int32} (h : lg_b k = true) : ¬ k < 0 ∧ k.toNatClampNeg ≤ 10000 := by
  unfold lg_b at h
  simp only [Bool.and_eq_true, Bool.not_eq_true', decide_eq_false_iff_not, decide_eq_true_eq] at h
  exact h
theorem bx_mono {mt : Nat → Mth} {ft : Nat → Nat → Option Ins} : ∀ (n i pc : Nat) (lv : LVs) (st : List Value) (mem : Mem) (z so : Nat) (mem' : Mem) (z' so' : Nat), bx_m mt ft n i pc lv st mem z so = some (mem', z', so') → z ≤ z' ∧ so ≤ so' := by
  intro n
  induction n with
  | zero => intro i pc lv st mem z so mem' z' so' h; simp [bx_m] at h
  | succ n ih =>
    intro i pc lv st mem z so mem' z' so' h
    rw [bx_m] at h
    split at h
    · cases h
    · split at h
      · cases h
      · have := ih _ _ _ _ _ _ _ _ _ _ h
        omega
      · cases h
        exact ⟨Nat.le_refl _, Nat.le_refl _⟩
      · split at h
        · cases h
        · rename_i h1
          have a1 := ih _ _ _ _ _ _ _ _ _ _ h1
          have a2 := ih _ _ _ _ _ _ _ _ _ _ h
          omega

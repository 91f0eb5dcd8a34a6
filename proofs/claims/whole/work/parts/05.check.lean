-- what a program checks of the tables, and the rows' form of it
def len_m : Instr → Nat
  | .bipush _ => 2
  | .sipush _ => 3
  | .ldc2_w _ => 3
  | .iload _ => 2
  | .lload _ => 2
  | .aload _ => 2
  | .istore _ => 2
  | .lstore _ => 2
  | .astore _ => 2
  | .iinc _ _ => 3
  | .ifCond _ _ => 3
  | .if_icmp _ _ => 3
  | .goto _ => 3
  | .getfield _ => 3
  | .putfield _ => 3
  | .invokestatic _ => 3
  | .invokevirtual _ => 3
  | _ => 1
def fl_m (own : String) (ix : Nat) (q : Ins) : Bool := match cls_m[q.2.2.1]? with
  | some (_, T, N) => decide (q.2.2.2.1 < N) && (if q.2.2.2.2.2.1 = 0 then decide (lw_tbl[q.2.2.2.2.1]? = some (.fieldLink own ix (T q.2.2.2.1).1 (T q.2.2.2.1).2.1 (T q.2.2.2.1).2.2.1)) else decide (lw_tbl[q.2.2.2.2.1]? = some (.fieldLinkNest own ix (T q.2.2.2.1).1 (T q.2.2.2.1).2.1 (T q.2.2.2.1).2.2.1 "FilterBench")))
  | none => false
def fn_m (q : Ins) : Bool := match cls_m[q.2.2.1]? with
  | some (_, T, _) => !(T q.2.2.2.1).2.2.2
  | none => false
def ca_m (mt : Nat → Mth) (i M : Nat) (own : String) (ix : Nat) (sta : Bool) (q : Ins) : Bool :=
  decide (q.2.2.1 < M) && ((mt q.2.2.1).2.2.2.2.2.1 == sta) && decide ((mt q.2.2.1).2.2.2.2.2.2.2.1 + 1 ≤ (mt i).2.2.2.2.2.2.2.1) && decide (8 + ((mt q.2.2.1).2.2.1 + 11) + (mt q.2.2.1).2.2.2.2.2.2.2.2 ≤ (mt i).2.2.2.2.2.2.2.2) && (if q.2.2.2.2.2.1 = 0 then decide (lw_tbl[q.2.2.2.2.1]? = some (.methodLink own ix (mt q.2.2.1).1)) else decide (lw_tbl[q.2.2.2.2.1]? = some (.methodLinkNest own ix (mt q.2.2.1).1 "FilterBench")))
def lb_m (mt : Nat → Mth) (i ix : Nat) (q : Ins) : Bool :=
  decide (1 ≤ (mt i).2.2.2.2.2.2.2.1) && (if q.2.2.1 = 1000 then decide (lw_tbl[q.2.2.2.2.1]? = some (.methodLink (mt i).1.cls ix arraycopyName)) && decide (8 + (nativeFrameWords "java/lang/System" "arraycopy" 5 + 11) ≤ (mt i).2.2.2.2.2.2.2.2)
  else decide (23 ≤ (mt i).2.2.2.2.2.2.2.2) && (
  if q.2.2.1 = 1001 then decide (lw_tbl[q.2.2.2.2.1]? = some (.methodLink (mt i).1.cls ix Lib.Math.abs.name))
  else if q.2.2.1 = 1002 then decide (lw_tbl[q.2.2.2.2.1]? = some (.methodLink (mt i).1.cls ix Lib.MathLoose.abs_long.x))
  else if q.2.2.1 = 1003 then decide (lw_tbl[q.2.2.2.2.1]? = some (.methodLink (mt i).1.cls ix Lib.MathLoose.max_long.x))
  else decide (lw_tbl[q.2.2.2.2.1]? = some (.methodLink (mt i).1.cls ix Lib.Math.min.name))))
def ex_ok (mt : Nat → Mth) (M i pc : Nat) (q : Ins) : Bool := match q.1 with
  | .iconst n => decide (Int32.ofInt n = q.2.2.2.2.2.2)
  | .bipush n => decide ((Int8.ofInt n).toInt32 = q.2.2.2.2.2.2)
  | .sipush n => decide ((Int16.ofInt n).toInt32 = q.2.2.2.2.2.2)
  | .lconst n => decide (Int64.ofNat (n : Nat) = q.2.2.2.2.2.1)
  | .ldc2_w ix => decide (lw_tbl[q.2.2.2.2.1]? = some (.constantLong (mt i).1.cls ix q.2.2.2.2.2.1))
  | .iload_n k => decide ((k : Nat) = q.2.2.1)
  | .iload k => decide (k = q.2.2.1)
  | .lload_n k => decide ((k : Nat) = q.2.2.1)
  | .lload k => decide (k = q.2.2.1)
  | .aload_n k => decide ((k : Nat) = q.2.2.1)
  | .aload k => decide (k = q.2.2.1)
  | .istore_n k => decide ((k : Nat) = q.2.2.1) && decide (q.2.2.1 < (mt i).2.2.1)
  | .istore k => decide (k = q.2.2.1) && decide (q.2.2.1 < (mt i).2.2.1)
  | .lstore_n k => decide ((k : Nat) = q.2.2.1) && decide (q.2.2.1 + 1 < (mt i).2.2.1)
  | .lstore k => decide (k = q.2.2.1) && decide (q.2.2.1 + 1 < (mt i).2.2.1)
  | .astore_n k => decide ((k : Nat) = q.2.2.1) && decide (q.2.2.1 < (mt i).2.2.1)
  | .astore k => decide (k = q.2.2.1) && decide (q.2.2.1 < (mt i).2.2.1)
  | .iinc k n => decide (k = q.2.2.1) && decide (q.2.2.1 < (mt i).2.2.1) && decide (Int32.ofInt n = q.2.2.2.2.2.2)
  | .ifCond _ o => decide ((pc : Int) + o = (q.2.2.1 : Int))
  | .if_icmp _ o => decide ((pc : Int) + o = (q.2.2.1 : Int))
  | .goto o => decide ((pc : Int) + o = (q.2.2.1 : Int))
  | .tableswitch df lo hi offs => decide ((pc : Int) + df = (q.2.2.1 : Int)) && decide (lo = 0) && decide (hi + 1 = (offs.toList.length : Int)) && decide (offs.toList.length < 1000) && offs.toList.all (fun o => decide (0 ≤ (pc : Int) + o))
  | .getfield ix => fl_m (mt i).1.cls ix q
  | .putfield ix => fl_m (mt i).1.cls ix q && fn_m q
  | .invokestatic ix => if 1000 ≤ q.2.2.1 then lb_m mt i ix q else ca_m mt i M (mt i).1.cls ix true q
  | .invokevirtual ix => ca_m mt i M (mt i).1.cls ix false q
  | _ => true
def ln_m (pc : Nat) (q : Ins) : Bool := match q.1 with
  | .tableswitch _ _ _ _ => true
  | _ => decide (q.2.1 = pc + len_m q.1)
def lq_m (q : Ins) : Nat := match q.1 with
  | .tableswitch _ _ _ _ => q.2.2.2.1
  | _ => len_m q.1
def in_ok (mt : Nat → Mth) (M i pc : Nat) (q : Ins) : Bool := decide (decode (mt i).2.1 pc = .ok (q.1, lq_m q)) && ln_m pc q && ex_ok mt M i pc q
def me_ok (mt : Nat → Mth) (j : Nat) : Prop :=
  Cond.code (mt j).1 (mt j).2.1 (mt j).2.2.1 (mt j).2.2.2.1 ∈ lw_tbl ∧ Cond.initialized (mt j).1.cls ∈ lw_tbl ∧ plainName (mt j).1.cls = true ∧ ((mt j).1.cls ≠ "java/lang/invoke/MethodHandle" ∧ (mt j).1.cls ≠ "java/lang/invoke/VarHandle" ∧ (parseMethodDescriptor (mt j).1.desc).map (fun d => d.parameters.length) = some (mt j).2.2.2.2.1) ∧
  (if (mt j).2.2.2.2.2.1 = true then Cond.static (mt j).1 ∈ lw_tbl else Cond.instanceMethod (mt j).1 ∈ lw_tbl ∧ Cond.selects (mt j).1.cls (mt j).1 (mt j).1 ∈ lw_tbl ∧ (cls_m[(mt j).2.2.2.2.2.2.1]?).map (fun q => q.1) = some (mt j).1.cls)
def sys_ok : Prop := (Cond.native arraycopyName ∈ lw_tbl ∧ Cond.static arraycopyName ∈ lw_tbl ∧ Cond.initialized "java/lang/System" ∈ lw_tbl ∧ Cond.initialized "java/lang/Math" ∈ lw_tbl) ∧
  (Cond.static Lib.Math.abs.name ∈ lw_tbl ∧ Cond.code Lib.Math.abs.name Lib.Math.abs.code 1 (some .int) ∈ lw_tbl) ∧ (Cond.static Lib.MathLoose.abs_long.x ∈ lw_tbl ∧ Cond.code Lib.MathLoose.abs_long.x Lib.MathLoose.abs_long.code 2 (some .long) ∈ lw_tbl) ∧ (Cond.static Lib.MathLoose.max_long.x ∈ lw_tbl ∧ Cond.code Lib.MathLoose.max_long.x Lib.MathLoose.max_long.code 4 (some .long) ∈ lw_tbl) ∧ (Cond.static Lib.Math.min.name ∈ lw_tbl ∧ Cond.code Lib.Math.min.name Lib.Math.min.code 2 (some .int) ∈ lw_tbl)
-- the world
def aty_m : List FieldType := [.int, .long, .boolean, .object "FilterBench$Section", .object "FilterBench$Place", .object "FilterBench$Signal", .array .long, .array .int]
def tys_m (dA : Nat → ClassId) : List (ClassId × FieldType) := [(dA 0, .int), (dA 1, .long), (dA 2, .boolean), (dA 3, .object "FilterBench$Section"), (dA 4, .object "FilterBench$Place"), (dA 5, .object "FilterBench$Signal"), (dA 6, .array .long), (dA 7, .array .int)]
def tr_m (dA : Nat → ClassId) (e : mE) : va_E := match e with
  | .inl o => .inr o
  | .inr (t, a) => .inl (dA t, a)
def mw_m (D : va_G) (dA : Nat → ClassId) (A : Nat → Prop) (mem : Mem) (H : Heap) : Prop :=
  ∃ ws : va_W, va_P D cls_m ws H ∧ va_D A ws ∧ ∀ (a : Nat) (e : mE), mem a = some e → ∃ k : Nat, ws[k]? = some (a, tr_m dA e)
theorem mw_set {D : va_G} {dA : Nat → ClassId} {A : Nat → Prop} {mem : Mem} {H1 : Heap} {ws : va_W} {a k : Nat} {e0 : va_E} {e : mE} (hD : va_D A ws) (hk : ws[k]? = some (a, e0)) (hm : ∀ (a : Nat) (e : mE), mem a = some e → ∃ k : Nat, ws[k]? = some (a, tr_m dA e)) (hP1 : va_P D cls_m (ws.set k (a, tr_m dA e)) H1) (hD1 : va_D A (ws.set k (a, tr_m dA e))) : mw_m D dA A (up_m mem a e) H1 := by
  refine ⟨_, hP1, hD1, fun b f hb => ?_⟩
  have hlt : k < ws.length := (List.getElem?_eq_some_iff.mp hk).1
  unfold up_m at hb
  by_cases hba : b = a
  · subst hba
    rw [if_pos rfl] at hb
    cases hb
    exact ⟨k, by rw [List.getElem?_set_self hlt]⟩
  · rw [if_neg hba] at hb
    obtain ⟨n, hn⟩ := hm b f hb
    refine ⟨n, ?_⟩
    have hne : k ≠ n := fun h => by
      subst h
      rw [hk] at hn
      cases hn
      exact hba rfl
    rw [List.getElem?_set_ne hne]
    exact hn
theorem mw_up {D : va_G} {dA : Nat → ClassId} {A : Nat → Prop} {mem : Mem} {H : Heap} (h : mw_m D dA A mem H) {a : Nat} {e : mE} (ha : mem a = some e) : va_at D cls_m (a, tr_m dA e) H := by
  obtain ⟨ws, hP, -, hm⟩ := h
  obtain ⟨k, hk⟩ := hm a e ha
  exact hP k _ hk
-- the locals
def lr_m (ls : Array Slot) (nL : Nat) (lv : LVs) : Prop := ls.size = nL ∧ lv_wf ls ∧ ∀ (i : Nat) (v : Value), lv[i]? = some (some v) → ls[i]? = some (.val v)
def pr_m (lv : LVs) : List (Nat × Value) := (List.range lv.length).filterMap (fun i => match lv[i]? with
  | some (some v) => some (i, v)
  | _ => none)
theorem pr_mem {lv : LVs} {i : Nat} {v : Value} : (i, v) ∈ pr_m lv ↔ lv[i]? = some (some v) := by
  unfold pr_m
  rw [List.mem_filterMap]
  constructor
  · rintro ⟨j, -, hj⟩
    split at hj
    · rename_i w hw
      cases hj
      exact hw
    · cases hj
  · intro h
    refine ⟨i, List.mem_range.mpr (List.getElem?_eq_some_iff.mp h).1, ?_⟩
    rw [h]
theorem lr_has {ls : Array Slot} {nL : Nat} {lv : LVs} (h : lr_m ls nL lv) : lv_has ls nL (pr_m lv) := ⟨h.1, h.2.1, fun q hq => h.2.2 q.1 q.2 (pr_mem.mp hq)⟩
theorem kl_get {o : Option Value} {w : Value} (h : kl_v o = some w) : o = some w ∧ ¬ w.category = 2 := by
  cases o with
  | none => simp [kl_v] at h
  | some x => cases x <;> simp [kl_v] at h <;> subst h <;> exact ⟨rfl, by simp [Value.category]⟩
theorem s1_get : ∀ (lv : LVs) (i : Nat) (v : Value) (j : Nat) (w : Value), (s1_v lv i v)[j]? = some (some w) → (j = i ∧ w = v) ∨ (j ≠ i ∧ lv[j]? = some (some w) ∧ ¬ (j + 1 = i ∧ w.category = 2)) := by
  intro lv
  induction lv with
  | nil => intro i v j w h; cases i <;> simp [s1_v] at h
  | cons o l ih =>
    intro i v j w h
    match i with
    | 0 =>
      cases j with
      | zero => simp [s1_v] at h; exact Or.inl ⟨rfl, h.symm⟩
      | succ j => simp [s1_v] at h; exact Or.inr ⟨by omega, by simpa using h, by omega⟩
    | 1 =>
      cases l with
      | nil =>
        cases j with
        | zero =>
          simp only [s1_v, List.getElem?_cons_zero, Option.some.injEq] at h
          obtain ⟨h1, h2⟩ := kl_get h
          exact Or.inr ⟨by omega, by simp [h1], fun q => h2 q.2⟩
        | succ j => simp [s1_v] at h
      | cons o2 l =>
        cases j with
        | zero =>
          simp only [s1_v, List.getElem?_cons_zero, Option.some.injEq] at h
          obtain ⟨h1, h2⟩ := kl_get h
          exact Or.inr ⟨by omega, by simp [h1], fun q => h2 q.2⟩
        | succ j =>
          cases j with
          | zero => simp [s1_v] at h; exact Or.inl ⟨rfl, h.symm⟩
          | succ j => simp [s1_v] at h; exact Or.inr ⟨by omega, by simpa using h, by omega⟩
    | n + 2 =>
      cases j with
      | zero => simp [s1_v] at h; exact Or.inr ⟨by omega, by simp [h], by omega⟩
      | succ j =>
        simp only [s1_v, List.getElem?_cons_succ] at h
        rcases ih (n + 1) v j w h with ⟨h1, h2⟩ | ⟨h1, h2, h3⟩
        · exact Or.inl ⟨by omega, h2⟩
        · exact Or.inr ⟨by omega, by simpa using h2, by omega⟩
theorem s2_get : ∀ (lv : LVs) (i : Nat) (v : Value) (j : Nat) (w : Value), (s2_v lv i v)[j]? = some (some w) → (j = i ∧ w = v) ∨ (j ≠ i ∧ j ≠ i + 1 ∧ lv[j]? = some (some w) ∧ ¬ (j + 1 = i ∧ w.category = 2)) := by
  intro lv
  induction lv with
  | nil => intro i v j w h; cases i <;> simp [s2_v] at h
  | cons o l ih =>
    intro i v j w h
    match i with
    | 0 =>
      cases l with
      | nil => cases j <;> simp [s2_v] at h
      | cons o2 l =>
        match j with
        | 0 => simp [s2_v] at h; exact Or.inl ⟨rfl, h.symm⟩
        | 1 => simp [s2_v] at h
        | j + 2 => simp [s2_v] at h; exact Or.inr ⟨by omega, by omega, by simpa using h, by omega⟩
    | 1 =>
      cases l with
      | nil => cases j <;> simp [s2_v] at h
      | cons o2 l =>
        cases l with
        | nil =>
          match j with
          | 0 => simp [s2_v] at h
          | 1 => simp [s2_v] at h
          | j + 2 => simp [s2_v] at h
        | cons o3 l =>
          match j with
          | 0 =>
            simp only [s2_v, List.getElem?_cons_zero, Option.some.injEq] at h
            obtain ⟨h1, h2⟩ := kl_get h
            exact Or.inr ⟨by omega, by omega, by simp [h1], fun q => h2 q.2⟩
          | 1 => simp [s2_v] at h; exact Or.inl ⟨rfl, h.symm⟩
          | 2 => simp [s2_v] at h
          | j + 3 => simp [s2_v] at h; exact Or.inr ⟨by omega, by omega, by simpa using h, by omega⟩
    | n + 2 =>
      cases j with
      | zero => simp [s2_v] at h; exact Or.inr ⟨by omega, by omega, by simp [h], by omega⟩
      | succ j =>
        simp only [s2_v, List.getElem?_cons_succ] at h
        rcases ih (n + 1) v j w h with ⟨h1, h2⟩ | ⟨h1, h2, h3, h4⟩
        · exact Or.inl ⟨by omega, h2⟩
        · exact Or.inr ⟨by omega, by omega, by simpa using h3, by omega⟩
theorem lr_s1 {ls' : Array Slot} {nL i : Nat} {lv : LVs} {v : Value} (h : lv_has ls' nL ((i, v) :: (pr_m lv).filter (fun q => !(q.1 == i) && !(q.1 + 1 == i && q.2.category == 2)))) : lr_m ls' nL (s1_v lv i v) := by
  refine ⟨h.1, h.2.1, fun j w hj => ?_⟩
  rcases s1_get lv i v j w hj with ⟨rfl, rfl⟩ | ⟨h1, h2, h3⟩
  · exact h.2.2 _ List.mem_cons_self
  · refine h.2.2 (j, w) (List.mem_cons_of_mem _ (List.mem_filter.mpr ⟨pr_mem.mpr h2, ?_⟩))
    simp only [Bool.and_eq_true, Bool.not_eq_true', beq_eq_false_iff_ne, ne_eq, Bool.and_eq_false_iff]
    refine ⟨h1, ?_⟩
    by_cases hq : j + 1 = i
    · exact Or.inr (fun q => h3 ⟨hq, q⟩)
    · exact Or.inl hq
theorem lr_s2 {ls' : Array Slot} {nL i : Nat} {lv : LVs} {v : Value} (h : lv_has ls' nL ((i, v) :: (pr_m lv).filter (fun q => !(q.1 == i) && (!(q.1 == i + 1) && !(q.1 + 1 == i && q.2.category == 2))))) : lr_m ls' nL (s2_v lv i v) := by
  refine ⟨h.1, h.2.1, fun j w hj => ?_⟩
  rcases s2_get lv i v j w hj with ⟨rfl, rfl⟩ | ⟨h1, h1b, h2, h3⟩
  · exact h.2.2 _ List.mem_cons_self
  · refine h.2.2 (j, w) (List.mem_cons_of_mem _ (List.mem_filter.mpr ⟨pr_mem.mpr h2, ?_⟩))
    simp only [Bool.and_eq_true, Bool.not_eq_true', beq_eq_false_iff_ne, ne_eq, Bool.and_eq_false_iff]
    refine ⟨h1, h1b, ?_⟩
    by_cases hq : j + 1 = i
    · exact Or.inr (fun q => h3 ⟨hq, q⟩)
    · exact Or.inl hq
theorem pad_get : ∀ (n : Nat) (vs : List Value) (b i : Nat) (v : Value), (pad_v n vs)[i]? = some (some v) → (b + i, v) ∈ lv_args b vs := by
  intro n
  induction n using Nat.strongRecOn with
  | _ n ih =>
    intro vs b i v h
    match n, vs with
    | 0, _ => simp [pad_v] at h
    | n + 1, [] =>
      rw [pad_v] at h
      cases i with
      | zero => simp at h
      | succ i =>
        rw [List.getElem?_cons_succ] at h
        have := ih n (by omega) [] (b + 1) i v h
        simp [lv_args] at this
    | 1, x :: vs =>
      rw [pad_v] at h
      split at h
      · cases i <;> simp at h
      · cases i with
        | zero => simp at h; subst h; simp [lv_args]
        | succ i => simp at h
    | n + 2, x :: vs =>
      rw [pad_v] at h
      split at h
      · rename_i hc
        match i with
        | 0 => simp at h; subst h; simp [lv_args]
        | 1 => simp at h
        | i + 2 =>
          simp only [List.getElem?_cons_succ] at h
          have := ih n (by omega) vs (b + 2) i v h
          rw [lv_args, if_pos hc]
          exact List.mem_cons_of_mem _ (by rw [show b + (i + 2) = b + 2 + i by omega]; exact this)
      · rename_i hc
        match i with
        | 0 => simp at h; subst h; simp [lv_args]
        | i + 1 =>
          simp only [List.getElem?_cons_succ] at h
          have := ih (n + 1) (by omega) vs (b + 1) i v h
          rw [lv_args, if_neg hc]
          exact List.mem_cons_of_mem _ (by rw [show b + (i + 1) = b + 1 + i by omega]; exact this)
theorem lr_pad {ls : Array Slot} {n : Nat} {vs : List Value} (h : lv_has ls n (lv_args 0 vs)) : lr_m ls n (pad_v n vs) := ⟨h.1, h.2.1, fun i v hi => h.2.2 (i, v) (by have := pad_get n vs 0 i v hi; simpa using this)⟩
theorem pop_get : ∀ (n : Nat) (acc st as rest : List Value), pop_v n acc st = some (as, rest) → ∃ vs, vs.length = n ∧ st = vs ++ rest ∧ as = vs.reverse ++ acc := by
  intro n
  induction n with
  | zero => intro acc st as rest h; simp [pop_v] at h; exact ⟨[], rfl, by simp [h.2], by simp [h.1]⟩
  | succ n ih =>
    intro acc st as rest h
    cases st with
    | nil => simp [pop_v] at h
    | cons v st =>
      rw [pop_v] at h
      obtain ⟨vs, h1, h2, h3⟩ := ih _ _ _ _ h
      exact ⟨v :: vs, by simp [h1], by simp [h2], by simp [h3]⟩
theorem cs_eq : ∀ r : List Value, cs_v r = (r.map fun v => v.category).sum
  | [] => rfl
  | v :: r => by rw [cs_v, List.map_cons, List.sum_cons, cs_eq r]

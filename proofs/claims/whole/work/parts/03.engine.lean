-- a small machine: its memory, its instructions, its steps
abbrev mE : Type := (Nat × List Value) ⊕ (Nat × vp_A)
abbrev Mem : Type := Nat → Option mE
abbrev LVs : Type := List (Option Value)
/-- an instruction: itself, the next place, three numbers, a long constant, an int constant -/
abbrev Ins : Type := Instr × Nat × Nat × Nat × Nat × Int64 × Int32
abbrev SR : Type := Option ((Nat × LVs × List Value × Mem) ⊕ (Option Value ⊕ (Nat × List Value × List Value)))
def kl_v : Option Value → Option Value
  | some (.long _) => none
  | some (.double _) => none
  | o => o
/-- a value of one slot is stored -/
def s1_v : LVs → Nat → Value → LVs
  | [], _, _ => []
  | _ :: l, 0, v => some v :: l
  | o :: _ :: l, 1, v => kl_v o :: some v :: l
  | [o], 1, _ => [kl_v o]
  | o :: l, n + 2, v => o :: s1_v l (n + 1) v
/-- a value of two slots is stored -/
def s2_v : LVs → Nat → Value → LVs
  | _ :: _ :: l, 0, v => some v :: none :: l
  | o :: _ :: _ :: l, 1, v => kl_v o :: some v :: none :: l
  | o :: l, n + 2, v => o :: s2_v l (n + 1) v
  | l, _, _ => l.map (fun _ => none)
/-- the locals with which a method begins -/
def pad_v : Nat → List Value → LVs
  | 0, _ => []
  | n + 1, [] => none :: pad_v n []
  | 1, v :: _ => if v.category = 2 then [none] else [some v]
  | n + 2, v :: vs => if v.category = 2 then some v :: none :: pad_v n vs else some v :: pad_v (n + 1) vs
def pop_v : Nat → List Value → List Value → Option (List Value × List Value)
  | 0, acc, st => some (acc, st)
  | n + 1, acc, v :: st => pop_v n (v :: acc) st
  | _ + 1, _, [] => none
def cs_v : List Value → Nat
  | [] => 0
  | v :: r => v.category + cs_v r
section Shapes
variable {α : Type}
def w1_i (st : List Value) (K : Int32 → List Value → Option α) : Option α := match st with
  | .int x :: r => K x r
  | _ => none
def w2_i (st : List Value) (K : Int32 → Int32 → List Value → Option α) : Option α := match st with
  | .int y :: .int x :: r => K x y r
  | _ => none
def w1_l (st : List Value) (K : Int64 → List Value → Option α) : Option α := match st with
  | .long x :: r => K x r
  | _ => none
def w2_l (st : List Value) (K : Int64 → Int64 → List Value → Option α) : Option α := match st with
  | .long y :: .long x :: r => K x y r
  | _ => none
def w2_s (st : List Value) (K : Int64 → Int32 → List Value → Option α) : Option α := match st with
  | .int y :: .long x :: r => K x y r
  | _ => none
def w1_r (st : List Value) (K : Nat → List Value → Option α) : Option α := match st with
  | .ref a :: r => K a r
  | _ => none
def w2_r (st : List Value) (K : Nat → Int32 → List Value → Option α) : Option α := match st with
  | .int i :: .ref a :: r => K a i r
  | _ => none
def w3_i (st : List Value) (K : Nat → Int32 → Int32 → List Value → Option α) : Option α := match st with
  | .int x :: .int i :: .ref a :: r => K a i x r
  | _ => none
def w3_l (st : List Value) (K : Nat → Int32 → Int64 → List Value → Option α) : Option α := match st with
  | .long x :: .int i :: .ref a :: r => K a i x r
  | _ => none
def w1_v (st : List Value) (K : Value → List Value → Option α) : Option α := match st with
  | v :: r => K v r
  | _ => none
def w2_v (st : List Value) (K : Value → Value → List Value → Option α) : Option α := match st with
  | v :: w :: r => K v w r
  | _ => none
def li_v (o : Option (Option Value)) (K : Int32 → Option α) : Option α := match o with
  | some (some (.int x)) => K x
  | _ => none
def ll_v (o : Option (Option Value)) (K : Int64 → Option α) : Option α := match o with
  | some (some (.long x)) => K x
  | _ => none
def lr_v (o : Option (Option Value)) (K : Nat → Option α) : Option α := match o with
  | some (some (.ref x)) => K x
  | _ => none
/-- the fields of an object of class c -/
def ob_v (o : Option mE) (c : Nat) (K : List Value → Option α) : Option α := match o with
  | some (.inl (c', fs)) => if c' = c then K fs else none
  | _ => none
def vl_v (o : Option Value) (K : Value → Option α) : Option α := match o with
  | some v => K v
  | _ => none
def ai_v (o : Option mE) (t : Nat) (K : Nat → (Nat → Int32) → Option α) : Option α := match o with
  | some (.inr (t', n, .inl f)) => if t' = t then K n f else none
  | _ => none
def al_v (o : Option mE) (t : Nat) (K : Nat → (Nat → Int64) → Option α) : Option α := match o with
  | some (.inr (t', n, .inr (.inl f))) => if t' = t then K n f else none
  | _ => none
def ar_v (o : Option mE) (K : Nat → (Nat → Option Nat) → Option α) : Option α := match o with
  | some (.inr (t, n, .inr (.inr (.inr (.inr f))))) => if 3 ≤ t ∧ t ≤ 7 then K n f else none
  | _ => none
def le_v (o : Option mE) (K : Nat → Option α) : Option α := match o with
  | some (.inr (t, n, _)) => if t ≤ 7 then K n else none
  | _ => none
def rf_v (o : Option Nat) (K : Nat → Option α) : Option α := match o with
  | some a => K a
  | _ => none
/-- a place within an array -/
def ix_v (i : Int32) (n : Nat) (K : Nat → Option α) : Option α := if i < 0 ∨ n ≤ i.toNatClampNeg then none else K i.toNatClampNeg
/-- only if it is so -/
def on_v (b : Bool) (K : Option α) : Option α := if b = true then K else none
end Shapes
/-- a value of a field of that type -/
def ok_v (ty : FieldType) (v : Value) : Bool := match ty, v with
  | .int, .int _ => true
  | .long, .long _ => true
  | .boolean, .int x => x == 0 || x == 1
  | .array _, .ref _ => true
  | .object _, .ref _ => true
  | _, _ => false
def ci_v (c : ClassFile.Cond) (x y : Int32) : Bool := match c with
  | .eq => decide (x = y)
  | .ne => decide (¬ x = y)
  | .lt => decide (x < y)
  | .ge => decide (y ≤ x)
  | .gt => decide (y < x)
  | .le => decide (x ≤ y)
def nx_v (q : Ins) (lv : LVs) (st : List Value) (mem : Mem) : SR := some (.inl (q.2.1, lv, st, mem))
def go_v (pc : Nat) (lv : LVs) (st : List Value) (mem : Mem) : SR := some (.inl (pc, lv, st, mem))
def up_m (mem : Mem) (a : Nat) (e : mE) : Mem := fun b => if b = a then some e else mem b
/-- where a switch goes -/
def sw_n (pc : Nat) : List Int → Nat → Int32 → Nat → Nat
  | [], _, _, df => df
  | o :: os, k, x, df => if x = nI k then ((pc : Int) + o).toNat else sw_n pc os (k + 1) x df
/-- what a method tells of itself: name, code, its locals, its answer's type, its parameters, whether it is static, its class's number, frames, words -/
abbrev Mth : Type := MethodName × ByteArray × Nat × Option FieldType × Nat × Bool × Nat × Nat × Nat
def cl_v (mt : Nat → Mth) (q : Ins) (st : List Value) (mem : Mem) : SR :=
  match pop_v (mt q.2.2.1).2.2.2.2.1 [] st with
  | none => none
  | some (as, rest) =>
    if (mt q.2.2.1).2.2.2.2.2.1 = true then (if cs_v rest ≤ 8 ∧ cs_v as ≤ (mt q.2.2.1).2.2.1 then some (.inr (.inr (q.2.2.1, as, rest))) else none)
    else w1_r rest (fun a rest => ob_v (mem a) (mt q.2.2.1).2.2.2.2.2.2.1 (fun _ => if cs_v rest ≤ 8 ∧ cs_v as + 1 ≤ (mt q.2.2.1).2.2.1 then some (.inr (.inr (q.2.2.1, .ref a :: as, rest))) else none))
def cp_v (q : Ins) (lv : LVs) (st : List Value) (mem : Mem) : SR := match st with
  | .int n :: .int dp :: .ref b :: .int sp :: .ref a :: r => ai_v (mem a) 0 (fun n0 f => ai_v (mem b) 0 (fun n1 g => on_v (!decide (n < 0) && !decide (sp < 0) && !decide (dp < 0) && decide (sp.toNatClampNeg + n.toNatClampNeg ≤ n0) && decide (dp.toNatClampNeg + n.toNatClampNeg ≤ n1) && decide (cs_v r ≤ 8)) (nx_v q lv r (up_m mem b (.inr (0, n1, .inl (va_cpy f g sp.toNatClampNeg dp.toNatClampNeg n.toNatClampNeg)))))))
  | _ => none
/-- the library's methods -/
def lib_v (q : Ins) (lv : LVs) (st : List Value) (mem : Mem) : SR :=
  if q.2.2.1 = 1000 then cp_v q lv st mem
  else if q.2.2.1 = 1001 then w1_i st (fun x r => on_v (decide (cs_v r ≤ 8)) (nx_v q lv (.int (if 0 ≤ x then x else 0 - x) :: r) mem))
  else if q.2.2.1 = 1002 then w1_l st (fun x r => on_v (decide (cs_v r ≤ 8)) (nx_v q lv (.long (if 0 < x then x else -x) :: r) mem))
  else if q.2.2.1 = 1003 then w2_l st (fun x y r => on_v (decide (cs_v r ≤ 8)) (nx_v q lv (.long (if y < x then x else y) :: r) mem))
  else if q.2.2.1 = 1004 then w2_i st (fun x y r => on_v (decide (cs_v r ≤ 8)) (nx_v q lv (.int (if y < x then y else x) :: r) mem))
  else none
def step_m (mt : Nat → Mth) (rt : Option FieldType) (pc : Nat) (q : Ins) (lv : LVs) (st : List Value) (mem : Mem) : SR :=
  match q.1 with
  | .iconst _ => nx_v q lv (.int q.2.2.2.2.2.2 :: st) mem
  | .bipush _ => nx_v q lv (.int q.2.2.2.2.2.2 :: st) mem
  | .sipush _ => nx_v q lv (.int q.2.2.2.2.2.2 :: st) mem
  | .lconst _ => nx_v q lv (.long q.2.2.2.2.2.1 :: st) mem
  | .ldc2_w _ => nx_v q lv (.long q.2.2.2.2.2.1 :: st) mem
  | .iload_n _ => li_v (lv[q.2.2.1]?) (fun x => nx_v q lv (.int x :: st) mem)
  | .iload _ => li_v (lv[q.2.2.1]?) (fun x => nx_v q lv (.int x :: st) mem)
  | .lload_n _ => ll_v (lv[q.2.2.1]?) (fun x => nx_v q lv (.long x :: st) mem)
  | .lload _ => ll_v (lv[q.2.2.1]?) (fun x => nx_v q lv (.long x :: st) mem)
  | .aload_n _ => lr_v (lv[q.2.2.1]?) (fun x => nx_v q lv (.ref x :: st) mem)
  | .aload _ => lr_v (lv[q.2.2.1]?) (fun x => nx_v q lv (.ref x :: st) mem)
  | .istore_n _ => w1_i st (fun x r => nx_v q (s1_v lv q.2.2.1 (.int x)) r mem)
  | .istore _ => w1_i st (fun x r => nx_v q (s1_v lv q.2.2.1 (.int x)) r mem)
  | .lstore_n _ => w1_l st (fun x r => nx_v q (s2_v lv q.2.2.1 (.long x)) r mem)
  | .lstore _ => w1_l st (fun x r => nx_v q (s2_v lv q.2.2.1 (.long x)) r mem)
  | .astore_n _ => w1_r st (fun x r => nx_v q (s1_v lv q.2.2.1 (.ref x)) r mem)
  | .astore _ => w1_r st (fun x r => nx_v q (s1_v lv q.2.2.1 (.ref x)) r mem)
  | .iinc _ _ => li_v (lv[q.2.2.1]?) (fun x => nx_v q (s1_v lv q.2.2.1 (.int (x + q.2.2.2.2.2.2))) st mem)
  | .iadd => w2_i st (fun x y r => nx_v q lv (.int (x + y) :: r) mem)
  | .isub => w2_i st (fun x y r => nx_v q lv (.int (x - y) :: r) mem)
  | .imul => w2_i st (fun x y r => nx_v q lv (.int (x * y) :: r) mem)
  | .iand => w2_i st (fun x y r => nx_v q lv (.int (x &&& y) :: r) mem)
  | .ior => w2_i st (fun x y r => nx_v q lv (.int (x ||| y) :: r) mem)
  | .ineg => w1_i st (fun x r => nx_v q lv (.int (-x) :: r) mem)
  | .ishl => w2_i st (fun x y r => nx_v q lv (.int (x <<< (y &&& 31)) :: r) mem)
  | .ishr => w2_i st (fun x y r => nx_v q lv (.int (x >>> (y &&& 31)) :: r) mem)
  | .idiv => w2_i st (fun x y r => on_v (!decide (y = 0)) (nx_v q lv (.int (x / y) :: r) mem))
  | .irem => w2_i st (fun x y r => on_v (!decide (y = 0)) (nx_v q lv (.int (x - x / y * y) :: r) mem))
  | .ladd => w2_l st (fun x y r => nx_v q lv (.long (x + y) :: r) mem)
  | .lsub => w2_l st (fun x y r => nx_v q lv (.long (x - y) :: r) mem)
  | .lmul => w2_l st (fun x y r => nx_v q lv (.long (x * y) :: r) mem)
  | .land => w2_l st (fun x y r => nx_v q lv (.long (x &&& y) :: r) mem)
  | .lor => w2_l st (fun x y r => nx_v q lv (.long (x ||| y) :: r) mem)
  | .lneg => w1_l st (fun x r => nx_v q lv (.long (-x) :: r) mem)
  | .ldiv => w2_l st (fun x y r => on_v (!decide (y = 0)) (nx_v q lv (.long (x / y) :: r) mem))
  | .lrem => w2_l st (fun x y r => on_v (!decide (y = 0)) (nx_v q lv (.long (x - x / y * y) :: r) mem))
  | .lshl => w2_s st (fun x y r => nx_v q lv (.long (x <<< (y.toInt64 &&& 63)) :: r) mem)
  | .lshr => w2_s st (fun x y r => nx_v q lv (.long (x >>> (y.toInt64 &&& 63)) :: r) mem)
  | .i2l => w1_i st (fun x r => nx_v q lv (.long x.toInt64 :: r) mem)
  | .l2i => w1_l st (fun x r => nx_v q lv (.int x.toInt32 :: r) mem)
  | .lcmp => w2_l st (fun x y r => nx_v q lv (.int (lg_cmp x y) :: r) mem)
  | .dup => w1_v st (fun v r => on_v (v.category == 1) (nx_v q lv (v :: v :: r) mem))
  | .dup2 => w2_v st (fun v w r => on_v (v.category == 1 && w.category == 1) (nx_v q lv (v :: w :: v :: w :: r) mem))
  | .pop => w1_v st (fun v r => on_v (v.category == 1) (nx_v q lv r mem))
  | .ifCond c _ => w1_i st (fun x r => go_v (if ci_v c x 0 = true then q.2.2.1 else q.2.1) lv r mem)
  | .if_icmp c _ => w2_i st (fun x y r => go_v (if ci_v c x y = true then q.2.2.1 else q.2.1) lv r mem)
  | .goto _ => go_v q.2.2.1 lv st mem
  | .tableswitch _ _ _ offs => w1_i st (fun x r => go_v (sw_n pc offs.toList 0 x q.2.2.1) lv r mem)
  | .getfield _ => w1_r st (fun a r => ob_v (mem a) q.2.2.1 (fun fs => vl_v (fs[q.2.2.2.1]?) (fun v => nx_v q lv (v :: r) mem)))
  | .putfield _ => w1_v st (fun v st => w1_r st (fun a r => ob_v (mem a) q.2.2.1 (fun fs => on_v (decide (q.2.2.2.1 < fs.length) && ok_v (tyk_m q.2.2.1 q.2.2.2.1) v) (nx_v q lv r (up_m mem a (.inl (q.2.2.1, fs.set q.2.2.2.1 v)))))))
  | .iaload => w2_r st (fun a i r => ai_v (mem a) 0 (fun n f => ix_v i n (fun j => nx_v q lv (.int (f j) :: r) mem)))
  | .baload => w2_r st (fun a i r => ai_v (mem a) 2 (fun n f => ix_v i n (fun j => nx_v q lv (.int (f j) :: r) mem)))
  | .laload => w2_r st (fun a i r => al_v (mem a) 1 (fun n f => ix_v i n (fun j => nx_v q lv (.long (f j) :: r) mem)))
  | .aaload => w2_r st (fun a i r => ar_v (mem a) (fun n f => ix_v i n (fun j => rf_v (f j) (fun b => nx_v q lv (.ref b :: r) mem))))
  | .iastore => w3_i st (fun a i x r => ai_v (mem a) 0 (fun n f => ix_v i n (fun j => nx_v q lv r (up_m mem a (.inr (0, n, .inl (upd f j x)))))))
  | .bastore => w3_i st (fun a i x r => ai_v (mem a) 2 (fun n f => ix_v i n (fun j => on_v (x == 0 || x == 1) (nx_v q lv r (up_m mem a (.inr (2, n, .inl (upd f j x))))))))
  | .lastore => w3_l st (fun a i x r => al_v (mem a) 1 (fun n f => ix_v i n (fun j => nx_v q lv r (up_m mem a (.inr (1, n, .inr (.inl (vp_updL f j x))))))))
  | .arraylength => w1_r st (fun a r => le_v (mem a) (fun n => nx_v q lv (.int (nI n) :: r) mem))
  | .ireturn => match st with
    | [.int x] => if rt = some .int then some (.inr (.inl (some (.int x)))) else if rt = some .boolean then on_v (x == 0 || x == 1) (some (.inr (.inl (some (.int x))))) else none
    | _ => none
  | .lreturn => match st with
    | [.long x] => if rt = some .long then some (.inr (.inl (some (.long x)))) else none
    | _ => none
  | .return_ => match st with
    | [] => if rt = none then some (.inr (.inl none)) else none
    | _ => none
  | .invokestatic _ => if 1000 ≤ q.2.2.1 then lib_v q lv st mem else cl_v mt q st mem
  | .invokevirtual _ => cl_v mt q st mem
  | _ => none

/-- one step of the rest, by its instruction -/
noncomputable def rI (o : Option Ins) (i pc : Nat) (lv : LVs) (st : List Value) (mem : Mem) : Option Rs := o.bind (fun q => (step_m mt_m (mt_m i).2.2.2.1 pc q lv st mem).bind (rj_o mt_m ft_m i q.2.1 lv mem))
theorem rn_def (i pc : Nat) (lv : LVs) (st : List Value) (mem : Mem) : rn i pc lv st mem = rI (ft_m i pc) i pc lv st mem := rn_eq_o mt_m ft_m i pc lv st mem
theorem cl_def (j : Nat) (as : List Value) (mem : Mem) : cl j as mem = rn j 0 (pad_v (mt_m j).2.2.1 as) [] mem := rfl
section BD
variable {α β : Type} {F : α → Option β}
theorem li_bd {o : Option (Option Value)} {K : Int32 → Option α} : (li_v o K).bind F = li_v o (fun x => (K x).bind F) := by
  unfold li_v
  split <;> rfl
theorem ll_bd {o : Option (Option Value)} {K : Int64 → Option α} : (ll_v o K).bind F = ll_v o (fun x => (K x).bind F) := by
  unfold ll_v
  split <;> rfl
theorem lr_bd {o : Option (Option Value)} {K : Nat → Option α} : (lr_v o K).bind F = lr_v o (fun x => (K x).bind F) := by
  unfold lr_v
  split <;> rfl
theorem ob_bd {o : Option mE} {c : Nat} {K : List Value → Option α} : (ob_v o c K).bind F = ob_v o c (fun x => (K x).bind F) := by
  unfold ob_v
  split
  · split <;> rfl
  · rfl
theorem vl_bd {o : Option Value} {K : Value → Option α} : (vl_v o K).bind F = vl_v o (fun x => (K x).bind F) := by
  unfold vl_v
  split <;> rfl
theorem ai_bd {o : Option mE} {t : Nat} {K : Nat → (Nat → Int32) → Option α} : (ai_v o t K).bind F = ai_v o t (fun x y => (K x y).bind F) := by
  unfold ai_v
  split
  · split <;> rfl
  · rfl
theorem al_bd {o : Option mE} {t : Nat} {K : Nat → (Nat → Int64) → Option α} : (al_v o t K).bind F = al_v o t (fun x y => (K x y).bind F) := by
  unfold al_v
  split
  · split <;> rfl
  · rfl
theorem ar_bd {o : Option mE} {K : Nat → (Nat → Option Nat) → Option α} : (ar_v o K).bind F = ar_v o (fun x y => (K x y).bind F) := by
  unfold ar_v
  split
  · split <;> rfl
  · rfl
theorem le_bd {o : Option mE} {K : Nat → Option α} : (le_v o K).bind F = le_v o (fun x => (K x).bind F) := by
  unfold le_v
  split
  · split <;> rfl
  · rfl
theorem rf_bd {o : Option Nat} {K : Nat → Option α} : (rf_v o K).bind F = rf_v o (fun x => (K x).bind F) := by
  unfold rf_v
  split <;> rfl
theorem ix_bd {i : Int32} {n : Nat} {K : Nat → Option α} : (ix_v i n K).bind F = ix_v i n (fun x => (K x).bind F) := by
  unfold ix_v
  split <;> rfl
theorem on_bd {b : Bool} {K : Option α} : (on_v b K).bind F = on_v b (K.bind F) := by
  unfold on_v
  split <;> rfl
theorem w1r_bd {st : List Value} {K : Nat → List Value → Option α} : (w1_r st K).bind F = w1_r st (fun x y => (K x y).bind F) := by
  unfold w1_r
  split <;> rfl
theorem if_bd {c : Prop} {x : Decidable c} {A B : Option α} : (if c then A else B).bind F = if c then A.bind F else B.bind F := by
  split <;> rfl
end BD
section RI
variable {i pc nx a b d : Nat} {z : Int64} {y : Int32} {lv : LVs} {st r : List Value} {mem : Mem}
theorem ri_iconst {n : Int} : rI (some (.iconst n, nx, a, b, d, z, y)) i pc lv st mem = rn i nx lv (.int y :: st) mem := rfl
theorem ri_bipush {n : Int} : rI (some (.bipush n, nx, a, b, d, z, y)) i pc lv st mem = rn i nx lv (.int y :: st) mem := rfl
theorem ri_sipush {n : Int} : rI (some (.sipush n, nx, a, b, d, z, y)) i pc lv st mem = rn i nx lv (.int y :: st) mem := rfl
theorem ri_lconst {n : Fin 2} : rI (some (.lconst n, nx, a, b, d, z, y)) i pc lv st mem = rn i nx lv (.long z :: st) mem := rfl
theorem ri_ldc2_w {n : Nat} : rI (some (.ldc2_w n, nx, a, b, d, z, y)) i pc lv st mem = rn i nx lv (.long z :: st) mem := rfl
theorem ri_iload_n {k : Fin 4} : rI (some (.iload_n k, nx, a, b, d, z, y)) i pc lv st mem = li_v (lv[a]?) (fun x => rn i nx lv (.int x :: st) mem) := by
  show (li_v (lv[a]?) _).bind _ = _
  unfold li_v
  split <;> rfl
theorem ri_iload {k : Nat} : rI (some (.iload k, nx, a, b, d, z, y)) i pc lv st mem = li_v (lv[a]?) (fun x => rn i nx lv (.int x :: st) mem) := by
  show (li_v (lv[a]?) _).bind _ = _
  unfold li_v
  split <;> rfl
theorem ri_istore_n {k : Fin 4} {x : Int32} : rI (some (.istore_n k, nx, a, b, d, z, y)) i pc lv (.int x :: r) mem = rn i nx (s1_v lv a (.int x)) r mem := rfl
theorem ri_istore {k : Nat} {x : Int32} : rI (some (.istore k, nx, a, b, d, z, y)) i pc lv (.int x :: r) mem = rn i nx (s1_v lv a (.int x)) r mem := rfl
theorem ri_lload_n {k : Fin 4} : rI (some (.lload_n k, nx, a, b, d, z, y)) i pc lv st mem = ll_v (lv[a]?) (fun x => rn i nx lv (.long x :: st) mem) := by
  show (ll_v (lv[a]?) _).bind _ = _
  unfold ll_v
  split <;> rfl
theorem ri_lload {k : Nat} : rI (some (.lload k, nx, a, b, d, z, y)) i pc lv st mem = ll_v (lv[a]?) (fun x => rn i nx lv (.long x :: st) mem) := by
  show (ll_v (lv[a]?) _).bind _ = _
  unfold ll_v
  split <;> rfl
theorem ri_lstore_n {k : Fin 4} {x : Int64} : rI (some (.lstore_n k, nx, a, b, d, z, y)) i pc lv (.long x :: r) mem = rn i nx (s2_v lv a (.long x)) r mem := rfl
theorem ri_lstore {k : Nat} {x : Int64} : rI (some (.lstore k, nx, a, b, d, z, y)) i pc lv (.long x :: r) mem = rn i nx (s2_v lv a (.long x)) r mem := rfl
theorem ri_aload_n {k : Fin 4} : rI (some (.aload_n k, nx, a, b, d, z, y)) i pc lv st mem = lr_v (lv[a]?) (fun x => rn i nx lv (.ref x :: st) mem) := by
  show (lr_v (lv[a]?) _).bind _ = _
  unfold lr_v
  split <;> rfl
theorem ri_aload {k : Nat} : rI (some (.aload k, nx, a, b, d, z, y)) i pc lv st mem = lr_v (lv[a]?) (fun x => rn i nx lv (.ref x :: st) mem) := by
  show (lr_v (lv[a]?) _).bind _ = _
  unfold lr_v
  split <;> rfl
theorem ri_astore_n {k : Fin 4} {x : Nat} : rI (some (.astore_n k, nx, a, b, d, z, y)) i pc lv (.ref x :: r) mem = rn i nx (s1_v lv a (.ref x)) r mem := rfl
theorem ri_astore {k : Nat} {x : Nat} : rI (some (.astore k, nx, a, b, d, z, y)) i pc lv (.ref x :: r) mem = rn i nx (s1_v lv a (.ref x)) r mem := rfl
theorem ri_iinc {k : Nat} {n : Int} : rI (some (.iinc k n, nx, a, b, d, z, y)) i pc lv st mem = li_v (lv[a]?) (fun x => rn i nx (s1_v lv a (.int (x + y))) st mem) := by
  show (li_v (lv[a]?) _).bind _ = _
  unfold li_v
  split <;> rfl
theorem ri_iadd {x1 x2 : Int32} : rI (some (.iadd, nx, a, b, d, z, y)) i pc lv (.int x2 :: .int x1 :: r) mem = rn i nx lv (.int (x1 + x2) :: r) mem := rfl
theorem ri_isub {x1 x2 : Int32} : rI (some (.isub, nx, a, b, d, z, y)) i pc lv (.int x2 :: .int x1 :: r) mem = rn i nx lv (.int (x1 - x2) :: r) mem := rfl
theorem ri_imul {x1 x2 : Int32} : rI (some (.imul, nx, a, b, d, z, y)) i pc lv (.int x2 :: .int x1 :: r) mem = rn i nx lv (.int (x1 * x2) :: r) mem := rfl
theorem ri_iand {x1 x2 : Int32} : rI (some (.iand, nx, a, b, d, z, y)) i pc lv (.int x2 :: .int x1 :: r) mem = rn i nx lv (.int (x1 &&& x2) :: r) mem := rfl
theorem ri_ior {x1 x2 : Int32} : rI (some (.ior, nx, a, b, d, z, y)) i pc lv (.int x2 :: .int x1 :: r) mem = rn i nx lv (.int (x1 ||| x2) :: r) mem := rfl
theorem ri_ishl {x1 x2 : Int32} : rI (some (.ishl, nx, a, b, d, z, y)) i pc lv (.int x2 :: .int x1 :: r) mem = rn i nx lv (.int (x1 <<< (x2 &&& 31)) :: r) mem := rfl
theorem ri_ishr {x1 x2 : Int32} : rI (some (.ishr, nx, a, b, d, z, y)) i pc lv (.int x2 :: .int x1 :: r) mem = rn i nx lv (.int (x1 >>> (x2 &&& 31)) :: r) mem := rfl
theorem ri_ladd {x1 x2 : Int64} : rI (some (.ladd, nx, a, b, d, z, y)) i pc lv (.long x2 :: .long x1 :: r) mem = rn i nx lv (.long (x1 + x2) :: r) mem := rfl
theorem ri_lsub {x1 x2 : Int64} : rI (some (.lsub, nx, a, b, d, z, y)) i pc lv (.long x2 :: .long x1 :: r) mem = rn i nx lv (.long (x1 - x2) :: r) mem := rfl
theorem ri_lmul {x1 x2 : Int64} : rI (some (.lmul, nx, a, b, d, z, y)) i pc lv (.long x2 :: .long x1 :: r) mem = rn i nx lv (.long (x1 * x2) :: r) mem := rfl
theorem ri_land {x1 x2 : Int64} : rI (some (.land, nx, a, b, d, z, y)) i pc lv (.long x2 :: .long x1 :: r) mem = rn i nx lv (.long (x1 &&& x2) :: r) mem := rfl
theorem ri_lor {x1 x2 : Int64} : rI (some (.lor, nx, a, b, d, z, y)) i pc lv (.long x2 :: .long x1 :: r) mem = rn i nx lv (.long (x1 ||| x2) :: r) mem := rfl
theorem ri_lshl {x1 : Int64} {x2 : Int32} : rI (some (.lshl, nx, a, b, d, z, y)) i pc lv (.int x2 :: .long x1 :: r) mem = rn i nx lv (.long (x1 <<< (x2.toInt64 &&& 63)) :: r) mem := rfl
theorem ri_lshr {x1 : Int64} {x2 : Int32} : rI (some (.lshr, nx, a, b, d, z, y)) i pc lv (.int x2 :: .long x1 :: r) mem = rn i nx lv (.long (x1 >>> (x2.toInt64 &&& 63)) :: r) mem := rfl
theorem ri_idiv {x1 x2 : Int32} : rI (some (.idiv, nx, a, b, d, z, y)) i pc lv (.int x2 :: .int x1 :: r) mem = if x2 = 0 then none else rn i nx lv (.int (x1 / x2) :: r) mem := by
  show (on_v (!decide (x2 = 0)) _).bind _ = _
  by_cases h : x2 = 0 <;> simp [on_v, h] <;> rfl
theorem ri_irem {x1 x2 : Int32} : rI (some (.irem, nx, a, b, d, z, y)) i pc lv (.int x2 :: .int x1 :: r) mem = if x2 = 0 then none else rn i nx lv (.int (x1 - x1 / x2 * x2) :: r) mem := by
  show (on_v (!decide (x2 = 0)) _).bind _ = _
  by_cases h : x2 = 0 <;> simp [on_v, h] <;> rfl
theorem ri_ldiv {x1 x2 : Int64} : rI (some (.ldiv, nx, a, b, d, z, y)) i pc lv (.long x2 :: .long x1 :: r) mem = if x2 = 0 then none else rn i nx lv (.long (x1 / x2) :: r) mem := by
  show (on_v (!decide (x2 = 0)) _).bind _ = _
  by_cases h : x2 = 0 <;> simp [on_v, h] <;> rfl
theorem ri_lrem {x1 x2 : Int64} : rI (some (.lrem, nx, a, b, d, z, y)) i pc lv (.long x2 :: .long x1 :: r) mem = if x2 = 0 then none else rn i nx lv (.long (x1 - x1 / x2 * x2) :: r) mem := by
  show (on_v (!decide (x2 = 0)) _).bind _ = _
  by_cases h : x2 = 0 <;> simp [on_v, h] <;> rfl
theorem ri_ineg {x : Int32} : rI (some (.ineg, nx, a, b, d, z, y)) i pc lv (.int x :: r) mem = rn i nx lv (.int (-x) :: r) mem := rfl
theorem ri_lneg {x : Int64} : rI (some (.lneg, nx, a, b, d, z, y)) i pc lv (.long x :: r) mem = rn i nx lv (.long (-x) :: r) mem := rfl
theorem ri_i2l {x : Int32} : rI (some (.i2l, nx, a, b, d, z, y)) i pc lv (.int x :: r) mem = rn i nx lv (.long x.toInt64 :: r) mem := rfl
theorem ri_l2i {x : Int64} : rI (some (.l2i, nx, a, b, d, z, y)) i pc lv (.long x :: r) mem = rn i nx lv (.int x.toInt32 :: r) mem := rfl
theorem ri_lcmp {x1 x2 : Int64} : rI (some (.lcmp, nx, a, b, d, z, y)) i pc lv (.long x2 :: .long x1 :: r) mem = rn i nx lv (.int (lg_cmp x1 x2) :: r) mem := rfl
theorem ri_dup_int {x : Int32} : rI (some (.dup, nx, a, b, d, z, y)) i pc lv (.int x :: r) mem = rn i nx lv (.int x :: .int x :: r) mem := rfl
theorem ri_pop_int {x : Int32} : rI (some (.pop, nx, a, b, d, z, y)) i pc lv (.int x :: r) mem = rn i nx lv r mem := rfl
theorem ri_dup_ref {x : Nat} : rI (some (.dup, nx, a, b, d, z, y)) i pc lv (.ref x :: r) mem = rn i nx lv (.ref x :: .ref x :: r) mem := rfl
theorem ri_pop_ref {x : Nat} : rI (some (.pop, nx, a, b, d, z, y)) i pc lv (.ref x :: r) mem = rn i nx lv r mem := rfl
theorem ri_dup2 {x : Int32} {w : Nat} : rI (some (.dup2, nx, a, b, d, z, y)) i pc lv (.int x :: .ref w :: r) mem = rn i nx lv (.int x :: .ref w :: .int x :: .ref w :: r) mem := rfl
theorem ri_if_eq {n : Int} {x : Int32} : rI (some (.ifCond .eq n, nx, a, b, d, z, y)) i pc lv (.int x :: r) mem = if x = 0 then rn i a lv r mem else rn i nx lv r mem := by
  show rn i (if ci_v .eq x 0 = true then a else nx) lv r mem = _
  by_cases h : x = 0 <;> simp [ci_v, h]
theorem ri_ic_eq {n : Int} {x1 x2 : Int32} : rI (some (.if_icmp .eq n, nx, a, b, d, z, y)) i pc lv (.int x2 :: .int x1 :: r) mem = if x1 = x2 then rn i a lv r mem else rn i nx lv r mem := by
  show rn i (if ci_v .eq x1 x2 = true then a else nx) lv r mem = _
  by_cases h : x1 = x2 <;> simp [ci_v, h]
theorem ri_if_ne {n : Int} {x : Int32} : rI (some (.ifCond .ne n, nx, a, b, d, z, y)) i pc lv (.int x :: r) mem = if x = 0 then rn i nx lv r mem else rn i a lv r mem := by
  show rn i (if ci_v .ne x 0 = true then a else nx) lv r mem = _
  by_cases h : x = 0 <;> simp [ci_v, h]
theorem ri_ic_ne {n : Int} {x1 x2 : Int32} : rI (some (.if_icmp .ne n, nx, a, b, d, z, y)) i pc lv (.int x2 :: .int x1 :: r) mem = if x1 = x2 then rn i nx lv r mem else rn i a lv r mem := by
  show rn i (if ci_v .ne x1 x2 = true then a else nx) lv r mem = _
  by_cases h : x1 = x2 <;> simp [ci_v, h]
theorem ri_if_lt {n : Int} {x : Int32} : rI (some (.ifCond .lt n, nx, a, b, d, z, y)) i pc lv (.int x :: r) mem = if x < 0 then rn i a lv r mem else rn i nx lv r mem := by
  show rn i (if ci_v .lt x 0 = true then a else nx) lv r mem = _
  by_cases h : x < 0 <;> simp [ci_v, h]
theorem ri_ic_lt {n : Int} {x1 x2 : Int32} : rI (some (.if_icmp .lt n, nx, a, b, d, z, y)) i pc lv (.int x2 :: .int x1 :: r) mem = if x1 < x2 then rn i a lv r mem else rn i nx lv r mem := by
  show rn i (if ci_v .lt x1 x2 = true then a else nx) lv r mem = _
  by_cases h : x1 < x2 <;> simp [ci_v, h]
theorem ri_if_ge {n : Int} {x : Int32} : rI (some (.ifCond .ge n, nx, a, b, d, z, y)) i pc lv (.int x :: r) mem = if 0 ≤ x then rn i a lv r mem else rn i nx lv r mem := by
  show rn i (if ci_v .ge x 0 = true then a else nx) lv r mem = _
  by_cases h : 0 ≤ x <;> simp [ci_v, h]
theorem ri_ic_ge {n : Int} {x1 x2 : Int32} : rI (some (.if_icmp .ge n, nx, a, b, d, z, y)) i pc lv (.int x2 :: .int x1 :: r) mem = if x2 ≤ x1 then rn i a lv r mem else rn i nx lv r mem := by
  show rn i (if ci_v .ge x1 x2 = true then a else nx) lv r mem = _
  by_cases h : x2 ≤ x1 <;> simp [ci_v, h]
theorem ri_if_gt {n : Int} {x : Int32} : rI (some (.ifCond .gt n, nx, a, b, d, z, y)) i pc lv (.int x :: r) mem = if 0 < x then rn i a lv r mem else rn i nx lv r mem := by
  show rn i (if ci_v .gt x 0 = true then a else nx) lv r mem = _
  by_cases h : 0 < x <;> simp [ci_v, h]
theorem ri_ic_gt {n : Int} {x1 x2 : Int32} : rI (some (.if_icmp .gt n, nx, a, b, d, z, y)) i pc lv (.int x2 :: .int x1 :: r) mem = if x2 < x1 then rn i a lv r mem else rn i nx lv r mem := by
  show rn i (if ci_v .gt x1 x2 = true then a else nx) lv r mem = _
  by_cases h : x2 < x1 <;> simp [ci_v, h]
theorem ri_if_le {n : Int} {x : Int32} : rI (some (.ifCond .le n, nx, a, b, d, z, y)) i pc lv (.int x :: r) mem = if x ≤ 0 then rn i a lv r mem else rn i nx lv r mem := by
  show rn i (if ci_v .le x 0 = true then a else nx) lv r mem = _
  by_cases h : x ≤ 0 <;> simp [ci_v, h]
theorem ri_ic_le {n : Int} {x1 x2 : Int32} : rI (some (.if_icmp .le n, nx, a, b, d, z, y)) i pc lv (.int x2 :: .int x1 :: r) mem = if x1 ≤ x2 then rn i a lv r mem else rn i nx lv r mem := by
  show rn i (if ci_v .le x1 x2 = true then a else nx) lv r mem = _
  by_cases h : x1 ≤ x2 <;> simp [ci_v, h]
theorem ri_goto {n : Int} : rI (some (.goto n, nx, a, b, d, z, y)) i pc lv st mem = rn i a lv st mem := rfl
theorem ri_switch {df lo hi : Int} {offs : Array Int} {x : Int32} : rI (some (.tableswitch df lo hi offs, nx, a, b, d, z, y)) i pc lv (.int x :: r) mem = rn i (sw_n pc offs.toList 0 x a) lv r mem := rfl
theorem ri_getfield {ix w : Nat} : rI (some (.getfield ix, nx, a, b, d, z, y)) i pc lv (.ref w :: r) mem = ob_v (mem w) a (fun fs => vl_v (fs[b]?) (fun v => rn i nx lv (v :: r) mem)) := by
  show (ob_v (mem w) a _).bind _ = _
  simp only [ob_bd, vl_bd]
  rfl
theorem ri_putfield {ix w : Nat} {v : Value} : rI (some (.putfield ix, nx, a, b, d, z, y)) i pc lv (v :: .ref w :: r) mem = ob_v (mem w) a (fun fs => on_v (decide (b < fs.length) && ok_v (tyk_m a b) v) (rn i nx lv r (up_m mem w (.inl (a, fs.set b v))))) := by
  show (ob_v (mem w) a _).bind _ = _
  simp only [ob_bd, on_bd]
  rfl
theorem ri_iaload {j : Int32} {w : Nat} : rI (some (.iaload, nx, a, b, d, z, y)) i pc lv (.int j :: .ref w :: r) mem = ai_v (mem w) 0 (fun n f => ix_v j n (fun j => rn i nx lv (.int (f j) :: r) mem)) := by
  show (ai_v (mem w) 0 _).bind _ = _
  simp only [ai_bd, al_bd, ix_bd]
  rfl
theorem ri_baload {j : Int32} {w : Nat} : rI (some (.baload, nx, a, b, d, z, y)) i pc lv (.int j :: .ref w :: r) mem = ai_v (mem w) 2 (fun n f => ix_v j n (fun j => rn i nx lv (.int (f j) :: r) mem)) := by
  show (ai_v (mem w) 2 _).bind _ = _
  simp only [ai_bd, al_bd, ix_bd]
  rfl
theorem ri_laload {j : Int32} {w : Nat} : rI (some (.laload, nx, a, b, d, z, y)) i pc lv (.int j :: .ref w :: r) mem = al_v (mem w) 1 (fun n f => ix_v j n (fun j => rn i nx lv (.long (f j) :: r) mem)) := by
  show (al_v (mem w) 1 _).bind _ = _
  simp only [ai_bd, al_bd, ix_bd]
  rfl
theorem ri_aaload {j : Int32} {w : Nat} : rI (some (.aaload, nx, a, b, d, z, y)) i pc lv (.int j :: .ref w :: r) mem = ar_v (mem w) (fun n f => ix_v j n (fun j => rf_v (f j) (fun b => rn i nx lv (.ref b :: r) mem))) := by
  show (ar_v (mem w) _).bind _ = _
  simp only [ar_bd, ix_bd, rf_bd]
  rfl
theorem ri_iastore {j x : Int32} {w : Nat} : rI (some (.iastore, nx, a, b, d, z, y)) i pc lv (.int x :: .int j :: .ref w :: r) mem = ai_v (mem w) 0 (fun n f => ix_v j n (fun j => rn i nx lv r (up_m mem w (.inr (0, n, .inl (upd f j x)))))) := by
  show (ai_v (mem w) 0 _).bind _ = _
  simp only [ai_bd, ix_bd]
  rfl
theorem ri_bastore {j x : Int32} {w : Nat} : rI (some (.bastore, nx, a, b, d, z, y)) i pc lv (.int x :: .int j :: .ref w :: r) mem = ai_v (mem w) 2 (fun n f => ix_v j n (fun j => on_v (x == 0 || x == 1) (rn i nx lv r (up_m mem w (.inr (2, n, .inl (upd f j x))))))) := by
  show (ai_v (mem w) 2 _).bind _ = _
  simp only [ai_bd, ix_bd, on_bd]
  rfl
theorem ri_lastore {j : Int32} {x : Int64} {w : Nat} : rI (some (.lastore, nx, a, b, d, z, y)) i pc lv (.long x :: .int j :: .ref w :: r) mem = al_v (mem w) 1 (fun n f => ix_v j n (fun j => rn i nx lv r (up_m mem w (.inr (1, n, .inr (.inl (vp_updL f j x))))))) := by
  show (al_v (mem w) 1 _).bind _ = _
  simp only [al_bd, ix_bd]
  rfl
theorem ri_arraylength {w : Nat} : rI (some (.arraylength, nx, a, b, d, z, y)) i pc lv (.ref w :: r) mem = le_v (mem w) (fun n => rn i nx lv (.int (nI n) :: r) mem) := by
  show (le_v (mem w) _).bind _ = _
  simp only [le_bd]
  rfl
theorem ri_ireturn {x : Int32} : rI (some (.ireturn, nx, a, b, d, z, y)) i pc lv [.int x] mem = if (mt_m i).2.2.2.1 = some .int then some (some (.int x), mem) else if (mt_m i).2.2.2.1 = some .boolean then on_v (x == 0 || x == 1) (some (some (.int x), mem)) else none := by
  show (if (mt_m i).2.2.2.1 = some .int then _ else _ : SR).bind _ = _
  split
  · rfl
  · split
    · unfold on_v
      split <;> rfl
    · rfl
theorem ri_lreturn {x : Int64} : rI (some (.lreturn, nx, a, b, d, z, y)) i pc lv [.long x] mem = if (mt_m i).2.2.2.1 = some .long then some (some (.long x), mem) else none := by
  show (if (mt_m i).2.2.2.1 = some .long then _ else _ : SR).bind _ = _
  split <;> rfl
theorem ri_return : rI (some (.return_, nx, a, b, d, z, y)) i pc lv [] mem = if (mt_m i).2.2.2.1 = none then some (none, mem) else none := by
  show (if (mt_m i).2.2.2.1 = none then _ else _ : SR).bind _ = _
  split <;> rfl
/-- a call, as the rest sees it -/
noncomputable def ca_v (j i nx : Nat) (lv : LVs) (st : List Value) (mem : Mem) : Option Rs := match pop_v (mt_m j).2.2.2.2.1 [] st with
  | none => none
  | some (as, rest) => if (mt_m j).2.2.2.2.2.1 = true then (if cs_v rest ≤ 8 ∧ cs_v as ≤ (mt_m j).2.2.1 then (cl j as mem).bind (fun w => rn i nx lv (w.1.toList ++ rest) w.2) else none)
    else w1_r rest (fun a rest => ob_v (mem a) (mt_m j).2.2.2.2.2.2.1 (fun _ => if cs_v rest ≤ 8 ∧ cs_v as + 1 ≤ (mt_m j).2.2.1 then (cl j (.ref a :: as) mem).bind (fun w => rn i nx lv (w.1.toList ++ rest) w.2) else none))
theorem cv_eq (q : Ins) : (cl_v mt_m q st mem).bind (rj_o mt_m ft_m i q.2.1 lv mem) = ca_v q.2.2.1 i q.2.1 lv st mem := by
  unfold cl_v ca_v
  cases pop_v (mt_m q.2.2.1).2.2.2.2.1 [] st with
  | none => rfl
  | some w =>
    obtain ⟨as, rest⟩ := w
    simp only [if_bd, w1r_bd, ob_bd]
    rfl
theorem ri_virt {ix : Nat} : rI (some (.invokevirtual ix, nx, a, b, d, z, y)) i pc lv st mem = ca_v a i nx lv st mem := cv_eq (.invokevirtual ix, nx, a, b, d, z, y)
theorem ri_stat {ix : Nat} (h : a < 1000) : rI (some (.invokestatic ix, nx, a, b, d, z, y)) i pc lv st mem = ca_v a i nx lv st mem := by
  rw [← cv_eq (i := i) (lv := lv) (st := st) (mem := mem) (.invokestatic ix, nx, a, b, d, z, y)]
  show ((if 1000 ≤ a then _ else _ : SR)).bind _ = _
  rw [if_neg (by omega)]
theorem ri_abs {ix : Nat} {x : Int32} : rI (some (.invokestatic ix, nx, 1001, b, d, z, y)) i pc lv (.int x :: r) mem = if cs_v r ≤ 8 then rn i nx lv (.int (if 0 ≤ x then x else 0 - x) :: r) mem else none := by
  show (on_v (decide (cs_v r ≤ 8)) _).bind _ = _
  by_cases h : cs_v r ≤ 8 <;> simp [on_v, h] <;> rfl
theorem ri_labs {ix : Nat} {x : Int64} : rI (some (.invokestatic ix, nx, 1002, b, d, z, y)) i pc lv (.long x :: r) mem = if cs_v r ≤ 8 then rn i nx lv (.long (if 0 < x then x else -x) :: r) mem else none := by
  show (on_v (decide (cs_v r ≤ 8)) _).bind _ = _
  by_cases h : cs_v r ≤ 8 <;> simp [on_v, h] <;> rfl
theorem ri_lmax {ix : Nat} {x1 x2 : Int64} : rI (some (.invokestatic ix, nx, 1003, b, d, z, y)) i pc lv (.long x2 :: .long x1 :: r) mem = if cs_v r ≤ 8 then rn i nx lv (.long (if x2 < x1 then x1 else x2) :: r) mem else none := by
  show (on_v (decide (cs_v r ≤ 8)) _).bind _ = _
  by_cases h : cs_v r ≤ 8 <;> simp [on_v, h] <;> rfl
theorem ri_imin {ix : Nat} {x1 x2 : Int32} : rI (some (.invokestatic ix, nx, 1004, b, d, z, y)) i pc lv (.int x2 :: .int x1 :: r) mem = if cs_v r ≤ 8 then rn i nx lv (.int (if x2 < x1 then x2 else x1) :: r) mem else none := by
  show (on_v (decide (cs_v r ≤ 8)) _).bind _ = _
  by_cases h : cs_v r ≤ 8 <;> simp [on_v, h] <;> rfl
end RI
section SH
variable {α : Type}
theorem li_ok {x : Int32} {K : Int32 → Option α} : li_v (some (some (.int x))) K = K x := rfl
theorem ll_ok {x : Int64} {K : Int64 → Option α} : ll_v (some (some (.long x))) K = K x := rfl
theorem lr_ok {x : Nat} {K : Nat → Option α} : lr_v (some (some (.ref x))) K = K x := rfl
theorem ob_ok {c : Nat} {fs : List Value} {K : List Value → Option α} : ob_v (some (.inl (c, fs))) c K = K fs := by simp [ob_v]
theorem vl_ok {v : Value} {K : Value → Option α} : vl_v (some v) K = K v := rfl
theorem ai_ok {t n : Nat} {f : Nat → Int32} {K : Nat → (Nat → Int32) → Option α} : ai_v (some (.inr (t, n, .inl f))) t K = K n f := by simp [ai_v]
theorem al_ok {t n : Nat} {f : Nat → Int64} {K : Nat → (Nat → Int64) → Option α} : al_v (some (.inr (t, n, .inr (.inl f)))) t K = K n f := by simp [al_v]
theorem ar_ok {t n : Nat} {f : Nat → Option Nat} {K : Nat → (Nat → Option Nat) → Option α} (h : 3 ≤ t) (h2 : t ≤ 7) : ar_v (some (.inr (t, n, .inr (.inr (.inr (.inr f)))))) K = K n f := by simp [ar_v, h, h2]
theorem le_ok {t n : Nat} {f : (Nat → Int32) ⊕ (Nat → Int64) ⊕ (Nat → UInt32) ⊕ (Nat → UInt64) ⊕ (Nat → Option Nat)} {K : Nat → Option α} (h2 : t ≤ 7) : le_v (some (.inr (t, n, f))) K = K n := by simp [le_v, h2]
theorem rf_ok {a : Nat} {K : Nat → Option α} : rf_v (some a) K = K a := rfl
theorem w1_r_ok {a : Nat} {r : List Value} {K : Nat → List Value → Option α} : w1_r (.ref a :: r) K = K a r := rfl
theorem ix_ok {j n : Nat} {K : Nat → Option α} (h : j < n) (h2 : n < 2147483648) : ix_v (nI j) n K = K j := by
  unfold ix_v
  rw [nI_clamp (show j < 2 ^ 31 by omega), if_neg (by rintro (q | q); exact nI_pos (show j < 2 ^ 31 by omega) q; omega)]
theorem on_tt {K : Option α} : on_v true K = K := rfl
end SH
theorem up_self {mem : Mem} {a : Nat} {e : mE} : up_m mem a e a = some e := by simp [up_m]
theorem up_ne {mem : Mem} {a b : Nat} {e : mE} (h : b ≠ a) : up_m mem a e b = mem b := by simp [up_m, h]
theorem up_up {mem : Mem} {a : Nat} {e e' : mE} : up_m (up_m mem a e) a e' = up_m mem a e' := by
  funext b
  unfold up_m
  split <;> rfl
theorem ok_i {x : Int32} : ok_v .int (.int x) = true := rfl
theorem ok_l {x : Int64} : ok_v .long (.long x) = true := rfl
theorem ok_b0 : ok_v .boolean (.int (nI 0)) = true := rfl
theorem ok_b1 : ok_v .boolean (.int (nI 1)) = true := rfl
theorem ok_a {x : Nat} {t : FieldType} : ok_v (.array t) (.ref x) = true := rfl
theorem ok_o {x : Nat} {t : String} : ok_v (.object t) (.ref x) = true := rfl
theorem b01_0 : (nI 0 == 0 || nI 0 == 1) = true := rfl
theorem b01_1 : (nI 1 == 0 || nI 1 == 1) = true := rfl
theorem cs_nil : cs_v [] = 0 := rfl
theorem cs_i {x : Int32} {r : List Value} : cs_v (.int x :: r) = 1 + cs_v r := rfl
theorem cs_l {x : Int64} {r : List Value} : cs_v (.long x :: r) = 2 + cs_v r := rfl
theorem cs_r {x : Nat} {r : List Value} : cs_v (.ref x :: r) = 1 + cs_v r := rfl
theorem pad_0 {vs : List Value} : pad_v 0 vs = [] := by cases vs <;> rfl
theorem pad_n {n : Nat} : pad_v (n + 1) [] = none :: pad_v n [] := rfl
theorem pad_1i {x : Int32} {vs : List Value} : pad_v 1 (.int x :: vs) = [some (.int x)] := rfl
theorem pad_1r {x : Nat} {vs : List Value} : pad_v 1 (.ref x :: vs) = [some (.ref x)] := rfl
theorem pad_i {n : Nat} {x : Int32} {vs : List Value} : pad_v (n + 2) (.int x :: vs) = some (.int x) :: pad_v (n + 1) vs := rfl
theorem pad_r {n : Nat} {x : Nat} {vs : List Value} : pad_v (n + 2) (.ref x :: vs) = some (.ref x) :: pad_v (n + 1) vs := rfl
theorem pad_l {n : Nat} {x : Int64} {vs : List Value} : pad_v (n + 2) (.long x :: vs) = some (.long x) :: none :: pad_v n vs := rfl
theorem pop_0 {acc st : List Value} : pop_v 0 acc st = some (acc, st) := rfl
theorem pop_n {n : Nat} {acc st : List Value} {v : Value} : pop_v (n + 1) acc (v :: st) = pop_v n (v :: acc) st := rfl
theorem kl_i {x : Int32} : kl_v (some (.int x)) = some (.int x) := rfl
theorem kl_r {x : Nat} : kl_v (some (.ref x)) = some (.ref x) := rfl
theorem kl_l {x : Int64} : kl_v (some (.long x)) = none := rfl
theorem kl_n : kl_v none = none := rfl
theorem s1_0 {o : Option Value} {l : LVs} {v : Value} : s1_v (o :: l) 0 v = some v :: l := by cases l <;> rfl
theorem s1_1 {o o2 : Option Value} {l : LVs} {v : Value} : s1_v (o :: o2 :: l) 1 v = kl_v o :: some v :: l := rfl
theorem s1_n {o : Option Value} {l : LVs} {v : Value} {n : Nat} : s1_v (o :: l) (n + 2) v = o :: s1_v l (n + 1) v := by cases l <;> rfl
theorem s2_0 {o o2 : Option Value} {l : LVs} {v : Value} : s2_v (o :: o2 :: l) 0 v = some v :: none :: l := rfl
theorem s2_1 {o o2 o3 : Option Value} {l : LVs} {v : Value} : s2_v (o :: o2 :: o3 :: l) 1 v = kl_v o :: some v :: none :: l := rfl
theorem s2_n {o : Option Value} {l : LVs} {v : Value} {n : Nat} : s2_v (o :: l) (n + 2) v = o :: s2_v l (n + 1) v := by cases l <;> rfl
theorem i64_tri (x y : Int64) : x < y ∨ x = y ∨ y < x := by
  rcases Int.lt_trichotomy x.toInt y.toInt with h | h | h
  · exact Or.inl (Int64.lt_iff_toInt_lt.mpr h)
  · exact Or.inr (Or.inl (Int64.toInt_inj.mp h))
  · exact Or.inr (Or.inr (Int64.lt_iff_toInt_lt.mpr h))
theorem lc_lt {x y : Int64} : (lg_cmp x y < 0) = (x < y) := by
  unfold lg_cmp
  rcases i64_tri x y with h | h | h
  · have h1 : ¬ y < x := Int64.lt_asymm h
    have h2 : ¬ x = y := Int64.ne_of_lt h
    simp [h, h1, h2]
  · subst h; simp [Int64.lt_irrefl]
  · have h1 : ¬ x < y := Int64.lt_asymm h
    simp [h, h1]
theorem lc_gt {x y : Int64} : (0 < lg_cmp x y) = (y < x) := by
  unfold lg_cmp
  rcases i64_tri x y with h | h | h
  · have h1 : ¬ y < x := Int64.lt_asymm h
    have h2 : ¬ x = y := Int64.ne_of_lt h
    simp [h1, h2]
  · subst h; simp [Int64.lt_irrefl]
  · simp [h]
theorem lc_eq {x y : Int64} : (lg_cmp x y = 0) = (x = y) := by
  unfold lg_cmp
  rcases i64_tri x y with h | h | h
  · have h1 : ¬ y < x := Int64.lt_asymm h
    have h2 : ¬ x = y := Int64.ne_of_lt h
    simp [h1, h2]
  · subst h; simp [Int64.lt_irrefl]
  · have h2 : ¬ x = y := fun q => Int64.ne_of_lt h q.symm
    simp [h, h2]
theorem lc_le {x y : Int64} : (lg_cmp x y ≤ 0) = (x ≤ y) := by
  rw [← Int32.not_lt, lc_gt, Int64.not_lt]
theorem lc_ge {x y : Int64} : (0 ≤ lg_cmp x y) = (y ≤ x) := by
  rw [← Int32.not_lt, lc_lt, Int64.not_lt]
theorem tq_0_0 : tyk_m 0 0 = .long := rfl
theorem tq_0_1 : tyk_m 0 1 = .long := rfl
theorem tq_0_2 : tyk_m 0 2 = .int := rfl
theorem tq_1_0 : tyk_m 1 0 = .long := rfl
theorem tq_1_1 : tyk_m 1 1 = .long := rfl
theorem tq_1_2 : tyk_m 1 2 = .long := rfl
theorem tq_1_3 : tyk_m 1 3 = .long := rfl
theorem tq_1_4 : tyk_m 1 4 = .long := rfl
theorem tq_1_5 : tyk_m 1 5 = .long := rfl
theorem tq_1_6 : tyk_m 1 6 = .long := rfl
theorem tq_1_7 : tyk_m 1 7 = .long := rfl
theorem tq_1_8 : tyk_m 1 8 = .long := rfl
theorem tq_1_9 : tyk_m 1 9 = .long := rfl
theorem tq_2_0 : tyk_m 2 0 = .array (.object "FilterBench$Signal") := rfl
theorem tq_2_1 : tyk_m 2 1 = .array .int := rfl
theorem tq_3_0 : tyk_m 3 0 = .array .long := rfl
theorem tq_3_1 : tyk_m 3 1 = .int := rfl
theorem tq_3_2 : tyk_m 3 2 = .int := rfl
theorem tq_3_3 : tyk_m 3 3 = .long := rfl
theorem tq_3_4 : tyk_m 3 4 = .long := rfl
theorem tq_3_5 : tyk_m 3 5 = .long := rfl
theorem tq_3_6 : tyk_m 3 6 = .long := rfl
theorem tq_3_7 : tyk_m 3 7 = .long := rfl
theorem tq_4_0 : tyk_m 4 0 = .array .int := rfl
theorem tq_4_1 : tyk_m 4 1 = .array .int := rfl
theorem tq_4_2 : tyk_m 4 2 = .array (.array .long) := rfl
theorem tq_4_3 : tyk_m 4 3 = .array (.array .long) := rfl
theorem tq_4_4 : tyk_m 4 4 = .array (.array .int) := rfl
theorem tq_4_5 : tyk_m 4 5 = .object "FilterBench$Bounds" := rfl
theorem tq_4_6 : tyk_m 4 6 = .int := rfl
theorem tq_4_7 : tyk_m 4 7 = .int := rfl
theorem tq_4_8 : tyk_m 4 8 = .int := rfl
theorem tq_4_9 : tyk_m 4 9 = .int := rfl
theorem tq_4_10 : tyk_m 4 10 = .int := rfl
theorem tq_4_11 : tyk_m 4 11 = .int := rfl
theorem tq_4_12 : tyk_m 4 12 = .int := rfl
theorem tq_4_13 : tyk_m 4 13 = .long := rfl
theorem tq_5_0 : tyk_m 5 0 = .int := rfl
theorem tq_5_1 : tyk_m 5 1 = .int := rfl
theorem tq_5_2 : tyk_m 5 2 = .int := rfl
theorem tq_5_3 : tyk_m 5 3 = .int := rfl
theorem tq_5_4 : tyk_m 5 4 = .int := rfl
theorem tq_5_5 : tyk_m 5 5 = .long := rfl
theorem tq_5_6 : tyk_m 5 6 = .long := rfl
theorem tq_5_7 : tyk_m 5 7 = .boolean := rfl
theorem tq_5_8 : tyk_m 5 8 = .int := rfl
theorem tq_5_9 : tyk_m 5 9 = .long := rfl
theorem tq_5_10 : tyk_m 5 10 = .long := rfl
theorem tq_5_11 : tyk_m 5 11 = .long := rfl
theorem tq_5_12 : tyk_m 5 12 = .long := rfl
theorem tq_6_0 : tyk_m 6 0 = .array .int := rfl
theorem tq_6_1 : tyk_m 6 1 = .array .int := rfl
theorem tq_6_2 : tyk_m 6 2 = .array .int := rfl
theorem tq_7_0 : tyk_m 7 0 = .array (.object "FilterBench$Section") := rfl
theorem tq_7_1 : tyk_m 7 1 = .array (.object "FilterBench$Place") := rfl
theorem tq_7_2 : tyk_m 7 2 = .array .long := rfl
theorem tq_7_3 : tyk_m 7 3 = .object "FilterBench$Echoes" := rfl
theorem tq_7_4 : tyk_m 7 4 = .object "FilterBench$Bounds" := rfl
theorem tq_7_5 : tyk_m 7 5 = .object "FilterBench$Search" := rfl
theorem tq_7_6 : tyk_m 7 6 = .object "FilterBench$ExactFilter" := rfl
theorem tq_7_7 : tyk_m 7 7 = .int := rfl
theorem tq_7_8 : tyk_m 7 8 = .boolean := rfl
theorem tq_7_9 : tyk_m 7 9 = .int := rfl
theorem tq_7_10 : tyk_m 7 10 = .int := rfl
theorem tq_7_11 : tyk_m 7 11 = .int := rfl
theorem tq_7_12 : tyk_m 7 12 = .int := rfl
theorem tq_7_13 : tyk_m 7 13 = .int := rfl
theorem tq_7_14 : tyk_m 7 14 = .int := rfl
theorem tq_7_15 : tyk_m 7 15 = .int := rfl
theorem tq_7_16 : tyk_m 7 16 = .long := rfl
theorem tq_8_0 : tyk_m 8 0 = .int := rfl
theorem tq_8_1 : tyk_m 8 1 = .array .int := rfl
theorem tq_8_2 : tyk_m 8 2 = .array .boolean := rfl
theorem tq_8_3 : tyk_m 8 3 = .array .long := rfl
theorem tq_8_4 : tyk_m 8 4 = .boolean := rfl
theorem tq_8_5 : tyk_m 8 5 = .int := rfl
theorem tq_8_6 : tyk_m 8 6 = .int := rfl
theorem tq_8_7 : tyk_m 8 7 = .int := rfl
theorem tq_8_8 : tyk_m 8 8 = .int := rfl
theorem tq_8_9 : tyk_m 8 9 = .array .long := rfl
theorem tq_8_10 : tyk_m 8 10 = .array .int := rfl
theorem tq_8_11 : tyk_m 8 11 = .array .long := rfl
theorem tq_8_12 : tyk_m 8 12 = .array .long := rfl
theorem tq_8_13 : tyk_m 8 13 = .array .long := rfl
theorem tq_8_14 : tyk_m 8 14 = .array .long := rfl
theorem tq_8_15 : tyk_m 8 15 = .array .long := rfl
theorem tq_8_16 : tyk_m 8 16 = .array .long := rfl
theorem tq_8_17 : tyk_m 8 17 = .array .long := rfl
theorem tq_8_18 : tyk_m 8 18 = .int := rfl
theorem tq_8_19 : tyk_m 8 19 = .long := rfl
theorem tq_8_20 : tyk_m 8 20 = .long := rfl
theorem tq_8_21 : tyk_m 8 21 = .int := rfl
theorem tq_8_22 : tyk_m 8 22 = .array .int := rfl
theorem tq_8_23 : tyk_m 8 23 = .array .long := rfl
theorem tq_8_24 : tyk_m 8 24 = .int := rfl
theorem tq_8_25 : tyk_m 8 25 = .int := rfl
theorem tq_8_26 : tyk_m 8 26 = .int := rfl
theorem tq_8_27 : tyk_m 8 27 = .int := rfl
theorem tq_8_28 : tyk_m 8 28 = .array .int := rfl
theorem tq_8_29 : tyk_m 8 29 = .long := rfl
theorem tq_8_30 : tyk_m 8 30 = .array .long := rfl
theorem tq_8_31 : tyk_m 8 31 = .array .long := rfl
theorem tq_8_32 : tyk_m 8 32 = .array .long := rfl
theorem mq_0 : mt_m 0 = mt_0 := rfl
theorem mq_1 : mt_m 1 = mt_1 := rfl
theorem mq_2 : mt_m 2 = mt_2 := rfl
theorem mq_3 : mt_m 3 = mt_3 := rfl
theorem mq_4 : mt_m 4 = mt_4 := rfl
theorem mq_5 : mt_m 5 = mt_5 := rfl
theorem mq_6 : mt_m 6 = mt_6 := rfl
theorem mq_7 : mt_m 7 = mt_7 := rfl
theorem mq_8 : mt_m 8 = mt_8 := rfl
theorem mq_9 : mt_m 9 = mt_9 := rfl
theorem mq_10 : mt_m 10 = mt_10 := rfl
theorem mq_11 : mt_m 11 = mt_11 := rfl
theorem mq_12 : mt_m 12 = mt_12 := rfl
theorem mq_13 : mt_m 13 = mt_13 := rfl
theorem mq_14 : mt_m 14 = mt_14 := rfl
theorem mq_15 : mt_m 15 = mt_15 := rfl
theorem mq_16 : mt_m 16 = mt_16 := rfl
theorem mq_17 : mt_m 17 = mt_17 := rfl
theorem mq_18 : mt_m 18 = mt_18 := rfl
theorem mq_19 : mt_m 19 = mt_19 := rfl
theorem mq_20 : mt_m 20 = mt_20 := rfl
theorem mq_21 : mt_m 21 = mt_21 := rfl
theorem mq_22 : mt_m 22 = mt_22 := rfl
theorem mq_23 : mt_m 23 = mt_23 := rfl
theorem mq_24 : mt_m 24 = mt_24 := rfl
theorem mq_25 : mt_m 25 = mt_25 := rfl
theorem mq_26 : mt_m 26 = mt_26 := rfl
theorem mq_27 : mt_m 27 = mt_27 := rfl
theorem mq_28 : mt_m 28 = mt_28 := rfl
theorem mq_29 : mt_m 29 = mt_29 := rfl
theorem mq_30 : mt_m 30 = mt_30 := rfl
theorem mq_31 : mt_m 31 = mt_31 := rfl
theorem mq_32 : mt_m 32 = mt_32 := rfl
theorem mq_33 : mt_m 33 = mt_33 := rfl
theorem mq_34 : mt_m 34 = mt_34 := rfl
theorem mq_35 : mt_m 35 = mt_35 := rfl
theorem mq_36 : mt_m 36 = mt_36 := rfl
theorem mq_37 : mt_m 37 = mt_37 := rfl
theorem mq_38 : mt_m 38 = mt_38 := rfl
theorem mq_39 : mt_m 39 = mt_39 := rfl
theorem mq_40 : mt_m 40 = mt_40 := rfl
theorem mq_41 : mt_m 41 = mt_41 := rfl
theorem mq_42 : mt_m 42 = mt_42 := rfl
theorem mq_43 : mt_m 43 = mt_43 := rfl
theorem mq_44 : mt_m 44 = mt_44 := rfl
theorem mq_45 : mt_m 45 = mt_45 := rfl
theorem mq_46 : mt_m 46 = mt_46 := rfl
theorem mq_47 : mt_m 47 = mt_47 := rfl
theorem mq_48 : mt_m 48 = mt_48 := rfl
theorem mq_49 : mt_m 49 = mt_49 := rfl
theorem mq_50 : mt_m 50 = mt_50 := rfl
theorem mq_51 : mt_m 51 = mt_51 := rfl
theorem mq_52 : mt_m 52 = mt_52 := rfl
theorem mq_53 : mt_m 53 = mt_53 := rfl
theorem mq_54 : mt_m 54 = mt_54 := rfl
theorem mq_55 : mt_m 55 = mt_55 := rfl
theorem mq_56 : mt_m 56 = mt_56 := rfl
theorem mq_57 : mt_m 57 = mt_57 := rfl
theorem mq_58 : mt_m 58 = mt_58 := rfl
theorem mq_59 : mt_m 59 = mt_59 := rfl
theorem mq_60 : mt_m 60 = mt_60 := rfl
theorem mq_61 : mt_m 61 = mt_61 := rfl
theorem mq_62 : mt_m 62 = mt_62 := rfl
theorem mq_63 : mt_m 63 = mt_63 := rfl
theorem mq_64 : mt_m 64 = mt_64 := rfl
theorem mq_65 : mt_m 65 = mt_65 := rfl
theorem mq_66 : mt_m 66 = mt_66 := rfl
theorem mq_67 : mt_m 67 = mt_67 := rfl
theorem mq_68 : mt_m 68 = mt_68 := rfl
theorem mq_69 : mt_m 69 = mt_69 := rfl
theorem mq_70 : mt_m 70 = mt_70 := rfl
theorem mq_71 : mt_m 71 = mt_71 := rfl
theorem mq_72 : mt_m 72 = mt_72 := rfl
theorem mq_73 : mt_m 73 = mt_73 := rfl
theorem mq_74 : mt_m 74 = mt_74 := rfl
theorem mq_75 : mt_m 75 = mt_75 := rfl
theorem mq_76 : mt_m 76 = mt_76 := rfl
theorem mq_77 : mt_m 77 = mt_77 := rfl
theorem mq_78 : mt_m 78 = mt_78 := rfl
theorem mq_79 : mt_m 79 = mt_79 := rfl
theorem mq_80 : mt_m 80 = mt_80 := rfl
theorem mq_81 : mt_m 81 = mt_81 := rfl
theorem mq_82 : mt_m 82 = mt_82 := rfl
theorem mq_83 : mt_m 83 = mt_83 := rfl
theorem mq_84 : mt_m 84 = mt_84 := rfl
theorem mq_85 : mt_m 85 = mt_85 := rfl
theorem mq_86 : mt_m 86 = mt_86 := rfl
theorem mq_87 : mt_m 87 = mt_87 := rfl
theorem mq_88 : mt_m 88 = mt_88 := rfl
theorem mq_89 : mt_m 89 = mt_89 := rfl
theorem mq_90 : mt_m 90 = mt_90 := rfl
theorem mq_91 : mt_m 91 = mt_91 := rfl
theorem mq_92 : mt_m 92 = mt_92 := rfl
theorem mq_93 : mt_m 93 = mt_93 := rfl
theorem mq_94 : mt_m 94 = mt_94 := rfl
theorem mq_95 : mt_m 95 = mt_95 := rfl
theorem mq_96 : mt_m 96 = mt_96 := rfl
theorem mq_97 : mt_m 97 = mt_97 := rfl
theorem mq_98 : mt_m 98 = mt_98 := rfl
theorem mq_99 : mt_m 99 = mt_99 := rfl
theorem mq_100 : mt_m 100 = mt_100 := rfl
theorem mq_101 : mt_m 101 = mt_101 := rfl
theorem mq_102 : mt_m 102 = mt_102 := rfl
theorem mq_103 : mt_m 103 = mt_103 := rfl
theorem mq_104 : mt_m 104 = mt_104 := rfl
theorem mq_105 : mt_m 105 = mt_105 := rfl
theorem mq_106 : mt_m 106 = mt_106 := rfl
theorem mq_107 : mt_m 107 = mt_107 := rfl
theorem mq_108 : mt_m 108 = mt_108 := rfl
theorem mq_109 : mt_m 109 = mt_109 := rfl
theorem mq_110 : mt_m 110 = mt_110 := rfl
theorem mq_111 : mt_m 111 = mt_111 := rfl
theorem mq_112 : mt_m 112 = mt_112 := rfl
theorem mq_113 : mt_m 113 = mt_113 := rfl
theorem mq_114 : mt_m 114 = mt_114 := rfl

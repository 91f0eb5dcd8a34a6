section MO
variable {p : Program} {l : Launch} {e : Env} {R : Room} {s : State} {m : MethodId} {args : Array Value} {below : List Frame} {meth : Method} {c : Code} {H : Heap} {locs : List Loc} {cells slots : Nat} {Q : State → Prop}
variable {cA cy : ClassId} {N K i : Nat} {dv : Value} {T U : State}
/-- an array of arrays, of whose rows i are made; h: its address -/
def mo_a (cA : ClassId) (N h i : Nat) : Cell := arrV cA N (fun j => va_rf (if j < i then some (h + 1 + j) else none))
theorem mo_a0 {h : Nat} : ({ cls := cA, slots := Array.replicate N .null, vm := .none } : Cell) = mo_a cA N h 0 := by
  rw [arrV_new, mo_a]
  refine congrArg (arrV cA N) (funext fun j => ?_)
  rw [if_neg (Nat.not_lt_zero j)]
  rfl
theorem mo_aS {h : Nat} : (mo_a cA N h i).setSlot i (.ref (h + 1 + i)) = mo_a cA N h (i + 1) := by
  rw [mo_a, arrV_store, mo_a]
  refine congrArg (arrV cA N) (funext fun j => ?_)
  unfold updV
  by_cases e : j = i
  · rw [if_pos e, if_pos (by omega), e]
    rfl
  · rw [if_neg e]
    dsimp only
    by_cases h : j < i
    · rw [if_pos h, if_pos (by omega)]
    · rw [if_neg h, if_neg (by omega)]
/-- what stands when i rows are made -/
def mo_I (p : Program) (l : Launch) (e : Env) (R : Room) (s : State) (m : MethodId) (args : Array Value) (below : List Frame) (meth : Method) (c : Code) (locs : List Loc) (cells slots : Nat) (cA cy : ClassId) (N K : Nat) (dv : Value) (T : State) (i : Nat) (U : State) : Prop :=
  Stand p l e R s m args below meth c U locs (cells + 1 + i) (slots + N + i * K) ∧ U.vm = T.vm ∧ U.heap.size = T.heap.size + 1 + i ∧ U.slotsUsed = T.slotsUsed + N + i * K ∧ U.heap[T.heap.size]? = some (mo_a cA N T.heap.size i) ∧ (∀ x, x < T.heap.size → U.heap[x]? = T.heap[x]?) ∧ ∀ j, j < i → U.heap[T.heap.size + 1 + j]? = some (arrV cy K (fun _ => dv))
theorem mo_I0 (X : Stand p l e R s m args below meth c T locs cells slots) : mo_I p l e R s m args below meth c locs cells slots cA cy N K dv T 0 (T.pushCell (mo_a cA N T.heap.size 0)) := by
  have h := X.pushed (mo_a cA N T.heap.size 0)
  have hz : (mo_a cA N T.heap.size 0).slots.size = N := arrV_size _ _ _
  rw [hz] at h
  refine ⟨by simpa using h, rfl, by simp, by simp [hz], State.heap_pushCell_size _ _, fun x hx => State.heap_pushCell_of_lt _ _ hx, fun j hj => absurd hj (Nat.not_lt_zero j)⟩
theorem mo_IS (h0 : s.heap.size ≤ T.heap.size) (h : mo_I p l e R s m args below meth c locs cells slots cA cy N K dv T i U) : mo_I p l e R s m args below meth c locs cells slots cA cy N K dv T (i + 1) ((U.pushCell (arrV cy K (fun _ => dv))).setCell T.heap.size (mo_a cA N T.heap.size (i + 1))) := by
  obtain ⟨X, h1, h2, h3, h4, h5, h6⟩ := h
  have hz : (arrV cy K (fun _ => dv)).slots.size = K := arrV_size _ _ _
  have hlt : T.heap.size < U.heap.size := by omega
  have hc : (U.pushCell (arrV cy K (fun _ => dv))).heap[T.heap.size]? = some (mo_a cA N T.heap.size i) := by rw [State.heap_pushCell_of_lt (h := hlt)]; exact h4
  have Y := ((X.pushed (arrV cy K (fun _ => dv))).stored hc i (.ref (T.heap.size + 1 + i))).dropFresh (fun x hx => by rw [List.mem_singleton.mp hx]; exact h0)
  rw [mo_aS, hz] at Y
  have hm : (i + 1) * K = i * K + K := Nat.succ_mul i K
  have ho : ∀ x, x ≠ T.heap.size → x < U.heap.size → ((U.pushCell (arrV cy K (fun _ => dv))).setCell T.heap.size (mo_a cA N T.heap.size (i + 1))).heap[x]? = U.heap[x]? := fun x hx hl => by
    rw [State.heap_setCell_other (Ne.symm hx), State.heap_pushCell_of_lt (h := hl)]
  refine ⟨?_, by simp [h1], ?_, ?_, State.heap_setCell_self hc, fun x hx => (ho x (by omega) (by omega)).trans (h5 x hx), fun j hj => ?_⟩
  · rw [hm, ← Nat.add_assoc, ← Nat.add_assoc]
    exact Y
  · simp [State.setCell, h2]
    omega
  · simp [State.setCell, h3, hz, hm]
    omega
  · by_cases hji : j < i
    · exact (ho _ (by omega) (by omega)).trans (h6 j hji)
    · have hj : j = i := by omega
      subst hj
      rw [State.heap_setCell_other (show T.heap.size ≠ T.heap.size + 1 + j by omega), ← h2]
      exact State.heap_pushCell_size _ _
/-- the state when i rows are made -/
def mo_U (T : State) (cA cy : ClassId) (N K : Nat) (dv : Value) : Nat → State
  | 0 => T.pushCell (mo_a cA N T.heap.size 0)
  | i + 1 => ((mo_U T cA cy N K dv i).pushCell (arrV cy K (fun _ => dv))).setCell T.heap.size (mo_a cA N T.heap.size (i + 1))
theorem mo_UI (X : Stand p l e R s m args below meth c T locs cells slots) (h0 : s.heap.size ≤ T.heap.size) : ∀ i, mo_I p l e R s m args below meth c locs cells slots cA cy N K dv T i (mo_U T cA cy N K dv i)
  | 0 => mo_I0 X
  | i + 1 => mo_IS h0 (mo_UI X h0 i)
section MOW
variable {E : CtlPost} {d : Bool} {acts : List Action}
theorem mo_fit {t : FieldType} {a : Nat} (h : t.isReference = true) : fits t (.ref a) = true := by
  cases t <;> first | rfl | cases h
theorem mo_fit0 {t : FieldType} (h : t.isReference = true) : fits t .null = true := by
  cases t <;> first | rfl | cases h
theorem mo_row {cc : ClassId} {kc : Class} {ty : FieldType} {k : Int32} {V : State} (hkc : V.vm.classes[cy]? = some kc) (hkind : kc.kind = .array cc ty) (hk : ¬ k < 0) (hl : ¬ k.toNatClampNeg > e.platform.arrayLengthLimit) (hh : ¬ k.toNatClampNeg * componentBytes ty > e.platform.maxHeapBytes) (hf : fits ty (defaultValue ty) = true) (h1 : V.heap.size < e.platform.maxCells) (h2 : V.slotsUsed + k.toNatClampNeg ≤ e.platform.maxSlots) {P : Addr → Pre}
    (hq : ∀ acts', P V.heap.size d acts' (V.pushCell (arrV cy k.toNatClampNeg (fun _ => defaultValue ty)))) : wp (multianewarray.make cy [k]) P E e d acts V := by
  unfold multianewarray.make
  simp only [wp_bind', W.ite, hk, if_false, wp_pure', W.theClass, hkc, hkind, Option.some.injEq, exists_eq_left']
  refine W.newArray_of hkc hkind hl hh h1 h2 hf (fun acts' => ?_)
  rw [arrV_new]
  exact hq acts'
theorem mo_make {cc : ClassId} {ka kc : Class} {t0 ty : FieldType} {n k : Int32} {f : JFrame} (X : Stand p l e R s m args below meth c T locs cells slots) (h0 : s.heap.size ≤ T.heap.size) (hka : T.vm.classes[cA]? = some ka) (hkinda : ka.kind = .array cy t0) (href : t0.isReference = true) (hkc : T.vm.classes[cy]? = some kc) (hkind : kc.kind = .array cc ty) (hn : ¬ n < 0) (hk : ¬ k < 0)
    (hl1 : ¬ n.toNatClampNeg > e.platform.arrayLengthLimit) (hh1 : ¬ n.toNatClampNeg * componentBytes t0 > e.platform.maxHeapBytes) (hl2 : ¬ k.toNatClampNeg > e.platform.arrayLengthLimit) (hh2 : ¬ k.toNatClampNeg * componentBytes ty > e.platform.maxHeapBytes) (hf : fits ty (defaultValue ty) = true) (h1 : T.heap.size + (1 + n.toNatClampNeg) ≤ e.platform.maxCells) (h2 : T.slotsUsed + (n.toNatClampNeg + n.toNatClampNeg * k.toNatClampNeg) ≤ e.platform.maxSlots) {P : Addr → Pre}
    (hq : ∀ d' acts', P T.heap.size d' acts' ((mo_U T cA cy n.toNatClampNeg k.toNatClampNeg (defaultValue ty) n.toNatClampNeg).setTop f)) : wp (multianewarray.make cA [n, k]) P E e d acts (T.setTop f) := by
  have hka' : (T.setTop f).vm.classes[cA]? = some ka := hka
  have hnone : ([k].find? (· < 0)) = none := by simp [hk]
  unfold multianewarray.make
  simp only [wp_bind', W.ite, hn, if_false, wp_pure', W.theClass, hka', hkinda, Option.some.injEq, exists_eq_left']
  refine W.newArray_of hka' hkinda hl1 hh1 (show T.heap.size < _ by omega) (show T.slotsUsed + _ ≤ _ by omega) (mo_fit0 href) (fun acts' => ?_)
  simp only [hnone, ite_self, wp_bind', wp_pure']
  rw [Std.Legacy.Range.forIn_eq_forIn_range']
  rw [show ([:n.toNatClampNeg] : Std.Legacy.Range).size = n.toNatClampNeg by simp [Std.Legacy.Range.size]]
  refine wp_forIn_inv (fun r V => ∃ i, r = List.range' i (n.toNatClampNeg - i) ∧ V = (mo_U T cA cy n.toNatClampNeg k.toNatClampNeg (defaultValue ty) i).setTop f ∧ i ≤ n.toNatClampNeg) _ _ ?_ ?_ ?_
  · refine ⟨0, rfl, ?_, Nat.zero_le _⟩
    rw [mo_U, ← mo_a0]
    rfl
  · rintro x r V d' acts1 P' ⟨i, hr, rfl, hi⟩ hnext
    have hlt : i < n.toNatClampNeg := by
      rcases Nat.lt_or_ge i n.toNatClampNeg with h | h
      · exact h
      · rw [Nat.sub_eq_zero_of_le h] at hr
        cases hr
    have hs : n.toNatClampNeg - i = (n.toNatClampNeg - (i + 1)) + 1 := by omega
    rw [hs, List.range'_succ] at hr
    obtain ⟨rfl, rfl⟩ := List.cons.inj hr
    obtain ⟨Y, g1, g2, g3, g4, g5, g6⟩ := mo_UI (cA := cA) (cy := cy) (N := n.toNatClampNeg) (K := k.toNatClampNeg) (dv := defaultValue ty) X h0 x
    have hS : mo_U T cA cy n.toNatClampNeg k.toNatClampNeg (defaultValue ty) (x + 1) = _ := mo_U.eq_2 _ _ _ _ _ _ _
    generalize mo_U T cA cy n.toNatClampNeg k.toNatClampNeg (defaultValue ty) x = U at Y g1 g2 g3 g4 g5 g6 hS ⊢
    have hmul : x * k.toNatClampNeg + k.toNatClampNeg ≤ n.toNatClampNeg * k.toNatClampNeg := by
      rw [← Nat.succ_mul]
      exact Nat.mul_le_mul_right _ hlt
    simp only [wp_bind']
    refine mo_row (V := U.setTop f) (kc := kc) (cc := cc) (ty := ty) (by show U.vm.classes[cy]? = _; rw [g1]; exact hkc) hkind hk hl2 hh2 hf (show U.heap.size < _ by omega) (show U.slotsUsed + _ ≤ _ by omega) (fun acts2 => ?_)
    have hlo : T.heap.size < U.heap.size := by omega
    simp only [wp_bind', W.writeLoc, wp_pure']
    refine ⟨mo_a cA n.toNatClampNeg T.heap.size x, ?_, ?_, ?_, ?_, hnext _ _ _ ⟨x + 1, rfl, ?_, hlt⟩⟩
    · show (U.pushCell _).heap[T.heap.size]? = _
      rw [State.heap_pushCell_of_lt (h := hlo)]
      exact g4
    · exact fun h => by cases h
    · exact lt_of_lt_of_eq hlt (arrV_size _ _ _).symm
    · show State.fitsSlot _ cA .none x _ = true
      have hka1 : U.vm.classes[cA]? = some ka := by rw [g1]; exact hka
      simp [State.fitsSlot, State.slotType?, hka1, hkinda, mo_fit href]
    · show ((U.pushCell _).setCell T.heap.size ((mo_a cA n.toNatClampNeg T.heap.size x).setSlot x (.ref U.heap.size))).setTop f = _
      rw [g2, mo_aS, hS]
  · rintro V d' acts1 ⟨i, hr, rfl, hi⟩
    have he : i = n.toNatClampNeg := by
      rcases Nat.lt_or_ge i n.toNatClampNeg with h | h
      · rw [show n.toNatClampNeg - i = (n.toNatClampNeg - (i + 1)) + 1 by omega, List.range'_succ] at hr
        cases hr
      · omega
    subst he
    exact hq _ _
end MOW
/-- cA: the class of arrays of cy's arrays of ty -/
def ra_m (U : State) (cA cy : ClassId) (ty : FieldType) : Prop := ∃ ka : Class, U.vm.classes[cA]? = some ka ∧ ka.kind = .array cy (.array ty)
theorem ra_m.moved {u U : State} {ty : FieldType} (hvm : u.vm.Alike U.vm) (h : ra_m u cA cy ty) : ra_m U cA cy ty := by
  obtain ⟨ka, h1, h2⟩ := h
  obtain ⟨kb, h3, h4⟩ := hvm.2.2 _ _ h1
  exact ⟨kb, h3, by rw [h4]; exact h2⟩
theorem ra_m.of {U : State} {a : Array Value} {ty : FieldType} (h : (Cond.arrayOver (.array ty)).before a U = true) (hA : U.vm.findClass ("[" ++ (FieldType.array ty).toString) = some cA) (hC : U.vm.findClass (FieldType.array ty).toString = some cy) : ra_m U cA cy ty := by
  obtain ⟨comp, c1, k, h1, -, h2, h3, h4⟩ := arrayOverA_spec h
  cases hA.symm.trans h4
  cases hC.symm.trans h1
  exact ⟨k, h2, h3⟩
theorem mo_mna {cc : ByteArray} {pc index : Nat} {own : String} {ty : FieldType} {n k : Int32} {ls : Array Slot} {rest : List Value} (hexec : p.tables.exec = Jvm.exec) (hb : c.code = cc) (hown : s.vm.findClass own = some m.cls) (hclink : (Cond.classLink own index ("[" ++ (FieldType.array ty).toString)).before args s = true) (hra : ra_m s cA cy ty) (hfA : s.vm.findClass ("[" ++ (FieldType.array ty).toString) = some cA) (hC : ArrOfT s cy ty) (hn : ¬ n < 0) (hk : ¬ k < 0) (hN : n.toNatClampNeg = N) (hK : k.toNatClampNeg = K)
    (hb1 : N * 4 ≤ 536870912) (hb2 : K * componentBytes ty ≤ 536870912) (hb3 : K ≤ 536870912) (hf : fits ty (defaultValue ty) = true) (hcells : cells + (1 + N) ≤ R.cells) (hslots : slots + (N + N * K) ≤ R.slots) (hd : decode cc pc = .ok (.multianewarray index 2, 4))
    (kk : ∀ H1 : Heap, H1.size = H.size + 1 + N → H1[H.size]? = some (mo_a cA N H.size N) → (∀ x, x < H.size → H1[x]? = H[x]?) → (∀ j, j < N → H1[H.size + 1 + j]? = some (arrV cy K (fun _ => defaultValue ty))) → W p l e R s m args below meth c H1 locs (cells + 1 + N) (slots + N + N * K) Q (F0 m (pc + 4) ls (.ref H.size :: rest))) : W p l e R s m args below meth c H locs cells slots Q (F0 m pc ls (.int k :: .int n :: rest)) := by
  intro T hT X
  subst hT; subst hb; subst hN; subst hK
  have hpl : e.platform.magicAccessors = ({} : Platform).magicAccessors := by rw [X.admits.platform]
  obtain ⟨c0, hfc, hcl⟩ := Cond.classLink_spec hown hclink e.platform hpl
  cases hfA.symm.trans hfc
  obtain ⟨hg₁, hwarm₁, hready₁⟩ := State.classEntry (e := e) X.warmed hcl
  generalize T.vm.noted m.cls index (.cls cA) = vm₁ at hg₁ hwarm₁ hready₁
  have hal : s.vm.Alike vm₁ := hwarm₁.alike
  obtain ⟨ka, hka, hkinda⟩ := hra
  obtain ⟨-, kc, hkc, cm, hkindc⟩ := hC 0 (fun _ => .null)
  obtain ⟨ka1, hka1, hea⟩ := hal.2.2 _ _ hka
  obtain ⟨kc1, hkc1, hec⟩ := hal.2.2 _ _ hkc
  have hkinda1 : ka1.kind = .array cy (.array ty) := by rw [hea]; exact hkinda
  have hkindc1 : kc1.kind = .array cm ty := by rw [hec]; exact hkindc
  have X1 := X.noted hwarm₁
  obtain ⟨hr1, hr2⟩ := X.roomAbove hcells hslots
  have hl1 : ¬ n.toNatClampNeg > e.platform.arrayLengthLimit := by rw [Launch.admits_arrayLengthLimit X.admits]; omega
  have hh1 : ¬ n.toNatClampNeg * componentBytes (.array ty) > e.platform.maxHeapBytes := by rw [Launch.admits_maxHeapBytes X.admits]; exact Nat.not_lt.mpr hb1
  have hl2 : ¬ k.toNatClampNeg > e.platform.arrayLengthLimit := by rw [Launch.admits_arrayLengthLimit X.admits]; omega
  have hh2 : ¬ k.toNatClampNeg * componentBytes ty > e.platform.maxHeapBytes := by rw [Launch.admits_maxHeapBytes X.admits]; omega
  have h0 : s.heap.size ≤ T.heap.size := X.heapGrown
  obtain ⟨Y, g1, g2, g3, g4, g5, g6⟩ := mo_UI (cA := cA) (cy := cy) (N := n.toNatClampNeg) (K := k.toNatClampNeg) (dv := defaultValue ty) X1 h0 n.toNatClampNeg
  obtain ⟨t', a1, b1⟩ := kk _ g2 g4 g5 g6 _ rfl Y
  refine ⟨t', ?_, b1⟩
  jvm_step X.here [hexec, hd]
  simp only [multianewarray.sem, wp_bind', W.resolveClassAt_links (State.method?_setTop (F0 m pc ls (.int k :: .int n :: rest)) X.here.top) hg₁]
  rw [W.popN, if_neg (by decide)]
  refine ⟨F0 m pc ls (.int k :: .int n :: rest), State.topJava?_setTop' (s := T.setVm vm₁) _ X.here.top, [.int n, .int k], rest, rfl, rfl, ?_⟩
  simp only [List.mapM_cons, List.mapM_nil, wp_bind', wp_pure']
  have eS : ((T.setTop (F0 m pc ls (.int k :: .int n :: rest))).setVm vm₁).setTop { F0 m pc ls (.int k :: .int n :: rest) with stack := rest } = (T.setVm vm₁).setTop (F0 m pc ls rest) := by
    rw [State.setVm_setTop, State.setTop_setTop]
  rw [eS]
  refine mo_make (cc := cm) (ka := ka1) (kc := kc1) (t0 := .array ty) (ty := ty) X1 h0 hka1 hkinda1 rfl hkc1 hkindc1 hn hk hl1 hh1 hl2 hh2 hf hr1 hr2 (fun d' acts' => ?_)
  generalize mo_U (T.setVm vm₁) cA cy n.toNatClampNeg k.toNatClampNeg (defaultValue ty) n.toNatClampNeg = U at Y a1 ⊢
  simp only [wp_bind', W.mark, W.pushRef, State.topJava?_setTop' _ Y.here.top, Option.some.injEq, exists_eq_left', State.setTop_setTop, State.heap_setTop]
  intro acts
  simp [jvm, Y.here.top]
  exact a1
end MO
/-- the cells with a new array of arrays -/
def mr_m (mem : Mem) (z N : Nat) (o r : mE) : Mem := fun b => if b = z then some o else if z < b ∧ b ≤ z + N then some r else mem b
theorem dm_mr {mem : Mem} {zL z N : Nat} {o r : mE} (h : dm_m mem zL z) : dm_m (mr_m mem z N o r) zL (z + 1 + N) := by
  intro x h1 h2
  unfold mr_m
  by_cases hx : x = z
  · exact ⟨o, if_pos hx⟩
  · rw [if_neg hx]
    by_cases hl : x < z
    · rw [if_neg (by omega)]
      exact h x h1 hl
    · exact ⟨r, if_pos (by omega)⟩
/-- where all cells are there, the heap ends where they end -/
theorem sz_lo {D : va_G} {dA : Nat → ClassId} {A : Nat → Prop} {mem : Mem} {H H0 : Heap} {locs : List Loc} {zL ce : Nat} (hz : zL ≤ H0.size) (hw : mw_m D dA A mem H) (hdm : dm_m mem zL (H0.size + ce)) (hS : va_S A H0 H locs) : H0.size + ce ≤ H.size := by
  rcases Nat.eq_zero_or_pos ce with rfl | hc
  · exact hS.1
  · obtain ⟨ws, hP, -, hm⟩ := hw
    obtain ⟨e, he⟩ := hdm (H0.size + ce - 1) (by omega) (by omega)
    obtain ⟨k, hk⟩ := hm _ _ he
    have := (hP k _ hk).lt
    dsimp only at this
    omega
def nr_m (h n : Nat) (g : Nat → va_E) : va_W := (List.range n).map (fun j => (h + j, g j))
theorem nr_get {h n k : Nat} {g : Nat → va_E} {x : Nat × va_E} (hx : (nr_m h n g)[k]? = some x) : k < n ∧ x = (h + k, g k) := by
  unfold nr_m at hx
  rw [List.getElem?_map] at hx
  by_cases hk : k < n
  · rw [List.getElem?_range hk] at hx
    cases hx
    exact ⟨hk, rfl⟩
  · rw [List.getElem?_eq_none (by rw [List.length_range]; omega)] at hx
    cases hx
theorem nr_at {h n k : Nat} {g : Nat → va_E} (hk : k < n) : (nr_m h n g)[k]? = some (h + k, g k) := by
  unfold nr_m
  rw [List.getElem?_map, List.getElem?_range hk]
  rfl
theorem nr_D {A : Nat → Prop} {ws : va_W} {h n : Nat} {g : Nat → va_E} (hD : va_D A ws) (hlt : ∀ (k : Nat) (x : Nat × va_E), ws[k]? = some x → x.1 < h) (hA : ∀ q, h ≤ q → A q) : va_D A (ws ++ nr_m h n g) := by
  refine ⟨fun i j x y hi hj hxy => ?_, fun k x hx => ?_⟩
  · by_cases h1 : i < ws.length <;> by_cases h2 : j < ws.length
    · rw [List.getElem?_append_left h1] at hi
      rw [List.getElem?_append_left h2] at hj
      exact hD.1 i j x y hi hj hxy
    · rw [List.getElem?_append_left h1] at hi
      rw [List.getElem?_append_right (Nat.not_lt.mp h2)] at hj
      have a1 := hlt _ _ hi
      obtain ⟨-, rfl⟩ := nr_get hj
      dsimp only at hxy
      omega
    · rw [List.getElem?_append_right (Nat.not_lt.mp h1)] at hi
      rw [List.getElem?_append_left h2] at hj
      have a1 := hlt _ _ hj
      obtain ⟨-, rfl⟩ := nr_get hi
      dsimp only at hxy
      omega
    · rw [List.getElem?_append_right (Nat.not_lt.mp h1)] at hi
      rw [List.getElem?_append_right (Nat.not_lt.mp h2)] at hj
      obtain ⟨-, rfl⟩ := nr_get hi
      obtain ⟨-, rfl⟩ := nr_get hj
      dsimp only at hxy
      omega
  · by_cases h1 : k < ws.length
    · rw [List.getElem?_append_left h1] at hx
      exact hD.2 k x hx
    · rw [List.getElem?_append_right (Nat.not_lt.mp h1)] at hx
      obtain ⟨-, rfl⟩ := nr_get hx
      exact hA _ (Nat.le_add_right _ _)
theorem mw_mr {D : va_G} {dA : Nat → ClassId} {A : Nat → Prop} {mem : Mem} {H H1 : Heap} {N t t' : Nat} {o a0 : vp_A} (hA : ∀ q, H.size ≤ q → A q) (hw : mw_m D dA A mem H) (h2 : H1[H.size]? = some (vp_cell (dA t) o)) (h3 : ∀ x, x < H.size → H1[x]? = H[x]?) (h4 : ∀ j, j < N → H1[H.size + 1 + j]? = some (vp_cell (dA t') a0)) : mw_m D dA A (mr_m mem H.size N (.inr (t, o)) (.inr (t', a0))) H1 := by
  obtain ⟨ws, hP, hD, hm⟩ := hw
  have hlt : ∀ (k : Nat) (x : Nat × va_E), ws[k]? = some x → x.1 < H.size := fun k x hx => (hP k x hx).lt
  refine ⟨ws ++ nr_m H.size (N + 1) (fun j => if j = 0 then .inl (dA t, o) else .inl (dA t', a0)), ?_, nr_D hD hlt hA, fun b e hb => ?_⟩
  · refine (hP.kept (fun k x hx => h3 _ (hlt k x hx))).app (fun k x hx => ?_)
    obtain ⟨hk, rfl⟩ := nr_get hx
    rcases k with - | k
    · exact h2
    · have := h4 k (by omega)
      rw [Nat.add_assoc, Nat.add_comm 1 k] at this
      exact this
  · unfold mr_m at hb
    by_cases hbz : b = H.size
    · rw [if_pos hbz] at hb
      cases hb
      refine ⟨ws.length, ?_⟩
      rw [List.getElem?_append_right (Nat.le_refl _), Nat.sub_self, nr_at (Nat.succ_pos N), hbz]
      rfl
    · rw [if_neg hbz] at hb
      by_cases hr : H.size < b ∧ b ≤ H.size + N
      · rw [if_pos hr] at hb
        cases hb
        refine ⟨ws.length + (b - H.size), ?_⟩
        rw [List.getElem?_append_right (Nat.le_add_right _ _), Nat.add_sub_cancel_left, nr_at (by omega), if_neg (by omega), Nat.add_sub_cancel' (by omega)]
        rfl
      · rw [if_neg hr] at hb
        obtain ⟨k, hk⟩ := hm b e hb
        have hkl : k < ws.length := (List.getElem?_eq_some_iff.mp hk).1
        exact ⟨k, by rw [List.getElem?_append_left hkl]; exact hk⟩
section BM
variable {mt : Nat → Mth} {M i pc : Nat} {lv : LVs} {st : List Value} {mem : Mem} {D : va_G} {dA : Nat → ClassId} {A : Nat → Prop} {zL : Nat}
variable {p : Program} {l : Launch} {e : Env} {R : Room} {s : State} {m : MethodId} {args : Array Value} {below : List Frame} {meth : Method} {c : Code} {H : Heap} {locs : List Loc} {Q : State → Prop} {ls : Array Slot} {ce so : Nat}
theorem bk_mna {t t' ix N K : Nat} {ty : FieldType} {n k : Int32} {a0 : vp_A} (C : cx_m mt D dA i p s m args meth c) (hA : ∀ q, A q ↔ zL ≤ q) (hz : zL ≤ s.heap.size) (ht : (tys_m dA)[t]? = some (dA t, .array ty)) (ht' : (tys_m dA)[t']? = some (dA t', ty)) (w1 : Cond.classLink (mt i).1.cls ix ("[" ++ (FieldType.array ty).toString) ∈ gw_m) (hra : ra_m s (dA t) (dA t') ty) (ha : ∀ cA : ClassId, vp_cell cA a0 = arrV cA K (fun _ => defaultValue ty)) (hn : ¬ n < 0) (hk : ¬ k < 0) (hN : n.toNatClampNeg = N) (hK : k.toNatClampNeg = K)
    (hb1 : N * 4 ≤ 536870912) (hb2 : K * componentBytes ty ≤ 536870912) (hb3 : K ≤ 536870912) (hf : fits ty (defaultValue ty) = true) (hcells : ce + (1 + N) ≤ R.cells) (hslots : so + (N + N * K) ≤ R.slots) (hd : decode (mt i).2.1 pc = .ok (.multianewarray ix 2, 4)) (hw : mw_m D dA A mem H) (hdm : dm_m mem zL (s.heap.size + ce)) (hS : va_S A s.heap H locs)
    (kk : ∀ (H1 : Heap), mw_m D dA A (mr_m mem (s.heap.size + ce) N (.inr (t, N, .inr (.inr (.inr (.inr (fun j => if j < N then some (s.heap.size + ce + 1 + j) else none)))))) (.inr (t', a0))) H1 → va_S A s.heap H1 locs → W p l e R s m args below meth c H1 locs (ce + 1 + N) (so + N + N * K) Q (F0 m (pc + 4) ls (.ref (s.heap.size + ce) :: st))) : W p l e R s m args below meth c H locs ce so Q (F0 m pc ls (.int k :: .int n :: st)) := by
  refine W_sz fun hsz => ?_
  have hsz' : H.size = s.heap.size + ce := Nat.le_antisymm hsz (sz_lo hz hw hdm hS)
  obtain ⟨hexec, hb, hml, hown, hts, hnw, hrt, hlk, hKn⟩ := C
  refine mo_mna hexec hb hown (hts _ w1) hra (hKn.2 t _ ht).2 (hKn.2 t' _ ht').1 hn hk hN hK hb1 hb2 hb3 hf hcells hslots hd (fun H1 g1 g2 g3 g4 => ?_)
  have hw1 := mw_mr (t := t) (t' := t') (N := N) (o := (N, .inr (.inr (.inr (.inr (fun j => if j < N then some (H.size + 1 + j) else none)))))) (a0 := a0) (fun q hq => (hA q).mpr (by omega)) hw (by rw [g2, vp_cell_q]; rfl) g3 (fun j hj => by rw [g4 j hj, ha])
  rw [hsz'] at hw1 ⊢
  exact kk H1 hw1 ⟨by have := hS.1; omega, fun q h1 h2 => (g3 q (by omega)).trans (hS.2.1 q h1 h2), hS.2.2⟩
end BM

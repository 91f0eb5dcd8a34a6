theorem ra_inj {U : State} {a b : ClassId} {ty : FieldType} (ha : va_RA U a ty) (hb : va_RA U b ty) : a = b := by
  cases ty with
  | object C =>
    obtain ⟨_, _, -, -, -, h1⟩ := ha
    obtain ⟨_, _, -, -, -, h2⟩ := hb
    exact Option.some.inj (h1.symm.trans h2)
  | _ => exact Option.some.inj (ha.symm.trans hb)
theorem ra_eq {D : va_G} {dA : Nat → ClassId} {s : State} {cA : ClassId} {t : Nat} {ty : FieldType} (hK : va_K D cls_m (tys_m dA) s) (ht : (tys_m dA)[t]? = some (dA t, ty)) (h : va_K D cls_m (tys_m dA ++ [(cA, ty)]) s) : cA = dA t := by
  have h1 := (hK.2 t _ ht).2
  have h2 := (h.2 8 (cA, ty) rfl).2
  exact ra_inj h2 h1
section BK
variable {mt : Nat → Mth} {M i pc : Nat} {lv : LVs} {st : List Value} {mem : Mem} {D : va_G} {dA : Nat → ClassId} {A : Nat → Prop} {zL : Nat}
variable {p : Program} {l : Launch} {e : Env} {R : Room} {s : State} {m : MethodId} {args : Array Value} {below : List Frame} {meth : Method} {c : Code} {H : Heap} {locs : List Loc} {Q : State → Prop} {ls : Array Slot} {ce so : Nat}
theorem bk_new {ci ix N : Nat} {C0 : String} {T : u_T} {fs : List Value} (C : cx_m mt D dA i p s m args meth c) (hA : ∀ q, A q ↔ zL ≤ q) (hz : zL ≤ s.heap.size) (hcl : cls_m[ci]? = some (C0, T, N)) (w1 : Cond.classLink (mt i).1.cls ix C0 ∈ gw_m) (w2 : Cond.instantiable C0 N ∈ gw_m) (w3 : Cond.initialized C0 ∈ gw_m) (hfs : ∀ j, j < N → defaultValue (tyk_m ci j) = vp_V fs j) (hcells : ce + 1 ≤ R.cells) (hslots : so + N ≤ R.slots) (hd : decode (mt i).2.1 pc = .ok (.new ix, 3)) (hw : mw_m D dA A mem H) (hdm : dm_m mem zL (s.heap.size + ce)) (hS : va_S A s.heap H locs)
    (kk : ∀ (H1 : Heap), mw_m D dA A (up_m mem (s.heap.size + ce) (.inl (ci, fs))) H1 → va_S A s.heap H1 locs → W p l e R s m args below meth c H1 locs (ce + 1) (so + N) Q (F0 m (pc + 3) ls (.ref (s.heap.size + ce) :: st))) : W p l e R s m args below meth c H locs ce so Q (F0 m pc ls st) := by
  obtain ⟨hexec, hb, hml, hown, hts, hnw, hrt, hlk, hK⟩ := C
  obtain ⟨hc1, hc2, hc3, hc4⟩ := kls_all ci (C0, T, N) hcl
  obtain ⟨ws, hP, hD, hmm⟩ := hw
  refine va_new hexec hb hts hc2 (tyk_m ci) hc3 hown (hts _ w1) (hts _ w2) (hts _ w3) hK hP hD hS (fun q hq => (hA q).mpr (by omega)) hcl hfs hcells hslots hd (fun q H1 h1 h2 h3 => W_sz fun hsz => ?_)
  have hq := nw_ad (mem := mem) (dA := dA) (fun q hq => (hA q).mp hq) h1 h2 hmm hdm (by omega)
  subst hq
  exact kk H1 (mw_nw (e := .inl (ci, fs)) h1 h2 hmm) h3
theorem bk_newa {t N' : Nat} {atype : ArrayType} {ty : FieldType} {n : Int32} {a0 : vp_A} (C : cx_m mt D dA i p s m args meth c) (hA : ∀ q, A q ↔ zL ≤ q) (hz : zL ≤ s.heap.size) (ht : (tys_m dA)[t]? = some (dA t, ty)) (hty : newarray.typeOf atype = ty) (w1 : Cond.arrayClass (newarray.typeOf atype) ∈ gw_m) (ha : ∀ cA : ClassId, vp_cell cA a0 = arrV cA N' (fun _ => defaultValue ty)) (hn : ¬ n < 0) (hN : n.toNatClampNeg = N') (hbytes : N' * componentBytes ty ≤ 536870912) (hcells : ce + 1 ≤ R.cells) (hslots : so + N' ≤ R.slots) (hd : decode (mt i).2.1 pc = .ok (.newarray atype, 2)) (hw : mw_m D dA A mem H) (hdm : dm_m mem zL (s.heap.size + ce)) (hS : va_S A s.heap H locs)
    (kk : ∀ (H1 : Heap), mw_m D dA A (up_m mem (s.heap.size + ce) (.inr (t, a0))) H1 → va_S A s.heap H1 locs → W p l e R s m args below meth c H1 locs (ce + 1) (so + N') Q (F0 m (pc + 2) ls (.ref (s.heap.size + ce) :: st))) : W p l e R s m args below meth c H locs ce so Q (F0 m pc ls (.int n :: st)) := by
  obtain ⟨hexec, hb, hml, hown, hts, hnw, hrt, hlk, hK⟩ := C
  obtain ⟨ws, hP, hD, hmm⟩ := hw
  refine va_newa hexec hb (hts _ w1) hty hK hP hD hS (fun q hq => (hA q).mpr (by omega)) ha hn hN hbytes hcells hslots hd (fun q cA H1 h0 h1 h2 h3 => W_sz fun hsz => ?_)
  have hcA := ra_eq hK ht h0
  subst hcA
  have hq := nw_ad (mem := mem) (dA := dA) (fun q hq => (hA q).mp hq) h1 h2 hmm hdm (by omega)
  subst hq
  exact kk H1 (mw_nw (e := .inr (t, a0)) h1 h2 hmm) h3
theorem bk_newq {t N' ix : Nat} {C0 : String} {n : Int32} (C : cx_m mt D dA i p s m args meth c) (hA : ∀ q, A q ↔ zL ≤ q) (hz : zL ≤ s.heap.size) (ht : (tys_m dA)[t]? = some (dA t, .object C0)) (w1 : Cond.classLink (mt i).1.cls ix C0 ∈ gw_m) (hover : va_AO C0 s) (hn : ¬ n < 0) (hN : n.toNatClampNeg = N') (hbytes : N' * 4 ≤ 536870912) (hcells : ce + 1 ≤ R.cells) (hslots : so + N' ≤ R.slots) (hd : decode (mt i).2.1 pc = .ok (.anewarray ix, 3)) (hw : mw_m D dA A mem H) (hdm : dm_m mem zL (s.heap.size + ce)) (hS : va_S A s.heap H locs)
    (kk : ∀ (H1 : Heap), mw_m D dA A (up_m mem (s.heap.size + ce) (.inr (t, N', .inr (.inr (.inr (.inr (fun _ => none))))))) H1 → va_S A s.heap H1 locs → W p l e R s m args below meth c H1 locs (ce + 1) (so + N') Q (F0 m (pc + 3) ls (.ref (s.heap.size + ce) :: st))) : W p l e R s m args below meth c H locs ce so Q (F0 m pc ls (.int n :: st)) := by
  obtain ⟨hexec, hb, hml, hown, hts, hnw, hrt, hlk, hK⟩ := C
  obtain ⟨ws, hP, hD, hmm⟩ := hw
  refine va_newq hexec hb hown (hts _ w1) hover hK hP hD hS (fun q hq => (hA q).mpr (by omega)) hn hN hbytes hcells hslots hd (fun q cA H1 h0 h1 h2 h3 => W_sz fun hsz => ?_)
  have hcA := ra_eq hK ht h0
  subst hcA
  have hq := nw_ad (mem := mem) (dA := dA) (fun q hq => (hA q).mp hq) h1 h2 hmm hdm (by omega)
  subst hq
  exact kk H1 (mw_nw (e := .inr (t, N', .inr (.inr (.inr (.inr (fun _ => none)))))) h1 h2 hmm) h3
/-- a final field, in its class's constructor -/
theorem bk_putF {ci k ix a : Nat} {C0 : String} {T : u_T} {N : Nat} {fs : List Value} {v : Value} (C : cx_m mt D dA i p s m args meth c) (hcl : cls_m[ci]? = some (C0, T, N)) (hk : k < N) (w1 : Cond.fieldLink (mt i).1.cls ix (T k).1 (T k).2.1 (T k).2.2.1 ∈ gw_m) (hfin : (T k).2.2.2 = true) (hin2 : meth.name = "<init>") (hdecl : (T k).1 = (mt i).1.cls) (hok : ok_v (tyk_m ci k) v = true) (hl : k < fs.length) (hd : decode (mt i).2.1 pc = .ok (.putfield ix, 3)) (hm : mem a = some (.inl (ci, fs))) (hw : mw_m D dA A mem H) (hS : va_S A s.heap H locs)
    (kk : ∀ (H1 : Heap) (locs1 : List Loc), mw_m D dA A (up_m mem a (.inl (ci, fs.set k v))) H1 → va_S A s.heap H1 locs1 → W p l e R s m args below meth c H1 locs1 ce so Q (F0 m (pc + 3) ls st)) : W p l e R s m args below meth c H locs ce so Q (F0 m pc ls (v :: .ref a :: st)) := by
  obtain ⟨hexec, hb, hml, hown, hts, hnw, hrt, hlk, hK⟩ := C
  obtain ⟨hc1, hc2, hc3, hc4⟩ := kls_all ci (C0, T, N) hcl
  obtain ⟨ws, hP, hD, hmm⟩ := hw
  obtain ⟨k0, hk0⟩ := hmm a _ hm
  obtain ⟨o1, o2⟩ := ok_spec hok
  exact va_putF hexec hb hts hc2 (tyk_m ci) hc3 hc4 hown hK hP hD hS k0 hk0 hc1 k hk (hts _ w1) (fun _ h => h) hfin hin2 hdecl (hc3 k hk) o1 o2 hl hd (fun H1 locs1 h1 h2 h3 => kk H1 locs1 (mw_set hD hk0 hmm h1 h2) h3)
theorem bk_aast {ci t a v n N : Nat} {C0 : String} {T : u_T} {vs : List Value} {f : Nat → Option Nat} {j : Int32} (C : cx_m mt D dA i p s m args meth c) (hcl : cls_m[ci]? = some (C0, T, N)) (ht : (tys_m dA)[t]? = some (dA t, .object C0)) (ha : mem a = some (.inr (t, n, .inr (.inr (.inr (.inr f)))))) (hv : mem v = some (.inl (ci, vs))) (hin : vp_in j n) (hd : decode (mt i).2.1 pc = .ok (.aastore, 1)) (hw : mw_m D dA A mem H) (hS : va_S A s.heap H locs)
    (kk : ∀ (H1 : Heap) (locs1 : List Loc), mw_m D dA A (up_m mem a (.inr (t, n, .inr (.inr (.inr (.inr (va_up f j.toNatClampNeg (some v)))))))) H1 → va_S A s.heap H1 locs1 → W p l e R s m args below meth c H1 locs1 ce so Q (F0 m (pc + 1) ls st)) : W p l e R s m args below meth c H locs ce so Q (F0 m pc ls (.ref v :: .int j :: .ref a :: st)) := by
  obtain ⟨hexec, hb, hml, hown, hts, hnw, hrt, hlk, hK⟩ := C
  obtain ⟨ws, hP, hD, hmm⟩ := hw
  obtain ⟨k0, hk0⟩ := hmm a _ ha
  obtain ⟨k1, hk1⟩ := hmm v _ hv
  exact va_astq (r := (C0, T, N)) hexec hb hK hP hD hS k0 t k1 ci hk0 ht hk1 hcl hin hd (fun H1 locs1 h1 h2 h3 => kk H1 locs1 (mw_set (e := .inr (t, n, .inr (.inr (.inr (.inr (va_up f j.toNatClampNeg (some v))))))) hD hk0 hmm h1 h2) h3)
theorem bk_obj {ix a : Nat} (C : cx_m mt D dA i p s m args meth c) (w1 : Cond.methodLink (mt i).1.cls ix objectInit ∈ gw_m) (w2 : Cond.instanceMethod objectInit ∈ gw_m) (w3 : Cond.code objectInit ⟨#[0xb1]⟩ 1 none ∈ gw_m) (hl : lr_m ls (mt i).2.2.1 lv) (hfr : 1 ≤ R.frames) (hlo : cs_v st + 12 ≤ R.locals) (hd : decode (mt i).2.1 pc = .ok (.invokespecial ix, 3)) (kk : W p l e R s m args below meth c H locs ce so Q (F0 m (pc + 3) ls st)) : W p l e R s m args below meth c H locs ce so Q (F0 m pc ls (.ref a :: st)) := by
  obtain ⟨hexec, hb, hml, hown, hts, hnw, hrt, hlk, hK⟩ := C
  refine W.objInit hexec hb hown (hts _ w1) (hts _ w2) (hts _ w3) rfl (by rw [hml]; exact hl.1) rfl hd ?_ ?_ kk
  · exact hfr
  · rw [← cs_eq]
    show 2 * 0 + _ + 12 ≤ _
    omega
end BK

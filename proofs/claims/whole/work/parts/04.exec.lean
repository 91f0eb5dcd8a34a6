abbrev Rs : Type := Option Value × Mem
def ex_m (mt : Nat → Mth) (ft : Nat → Nat → Option Ins) : Nat → Nat → Nat → LVs → List Value → Mem → Option Rs
  | 0, _, _, _, _, _ => none
  | n + 1, i, pc, lv, st, mem => match ft i pc with
    | none => none
    | some q => match step_m mt (mt i).2.2.2.1 pc q lv st mem with
      | none => none
      | some (.inl (pc', lv', st', mem')) => ex_m mt ft n i pc' lv' st' mem'
      | some (.inr (.inl r)) => some (r, mem)
      | some (.inr (.inr (j, as, rest))) => match ex_m mt ft n j 0 (pad_v (mt j).2.2.1 as) [] mem with
        | none => none
        | some (r, mem') => ex_m mt ft n i q.2.1 lv (r.toList ++ rest) mem'
theorem ex_mono {mt : Nat → Mth} {ft : Nat → Nat → Option Ins} : ∀ (n i pc : Nat) (lv : LVs) (st : List Value) (mem : Mem) (r : Rs), ex_m mt ft n i pc lv st mem = some r → ex_m mt ft (n + 1) i pc lv st mem = some r := by
  intro n
  induction n with
  | zero => intro i pc lv st mem r h; simp [ex_m] at h
  | succ n ih =>
    intro i pc lv st mem r h
    rw [ex_m] at h
    rw [ex_m]
    cases hf : ft i pc with
    | none => rw [hf] at h; exact h
    | some q =>
      rw [hf] at h
      dsimp only at h ⊢
      cases hs : step_m mt (mt i).2.2.2.1 pc q lv st mem with
      | none => rw [hs] at h; exact h
      | some z =>
        rw [hs] at h
        match z, h with
        | .inl (pc', lv', st', mem'), h => exact ih _ _ _ _ _ _ h
        | .inr (.inl r'), h => exact h
        | .inr (.inr (j, as, rest)), h =>
          dsimp only at h ⊢
          cases hc : ex_m mt ft n j 0 (pad_v (mt j).2.2.1 as) [] mem with
          | none => rw [hc] at h; cases h
          | some w =>
            rw [hc] at h
            rw [ih _ _ _ _ _ _ hc]
            exact ih _ _ _ _ _ _ h
theorem ex_mono_le {mt : Nat → Mth} {ft : Nat → Nat → Option Ins} {n m i pc : Nat} {lv : LVs} {st : List Value} {mem : Mem} {r : Rs} (h : n ≤ m) (he : ex_m mt ft n i pc lv st mem = some r) : ex_m mt ft m i pc lv st mem = some r := by
  induction h with
  | refl => exact he
  | step _ ih => exact ex_mono _ _ _ _ _ _ _ ih
theorem ex_det {mt : Nat → Mth} {ft : Nat → Nat → Option Ins} {n m i pc : Nat} {lv : LVs} {st : List Value} {mem : Mem} {r r' : Rs} (h : ex_m mt ft n i pc lv st mem = some r) (h' : ex_m mt ft m i pc lv st mem = some r') : r = r' := by
  have h1 := ex_mono_le (Nat.le_max_left n m) h
  have h2 := ex_mono_le (Nat.le_max_right n m) h'
  exact Option.some.inj (h1.symm.trans h2)
/-- what the method's rest answers, if it ends -/
noncomputable def rn_o (mt : Nat → Mth) (ft : Nat → Nat → Option Ins) (i pc : Nat) (lv : LVs) (st : List Value) (mem : Mem) : Option Rs :=
  @dite _ (∃ r n, ex_m mt ft n i pc lv st mem = some r) (Classical.propDecidable _) (fun h => some h.choose) (fun _ => none)
theorem rn_some {mt : Nat → Mth} {ft : Nat → Nat → Option Ins} {i pc : Nat} {lv : LVs} {st : List Value} {mem : Mem} {r : Rs} : rn_o mt ft i pc lv st mem = some r ↔ ∃ n, ex_m mt ft n i pc lv st mem = some r := by
  unfold rn_o
  constructor
  · intro h
    split at h
    · rename_i hx
      have e := Option.some.inj h
      obtain ⟨n, hn⟩ := hx.choose_spec
      exact ⟨n, by rw [← e]; exact hn⟩
    · cases h
  · intro ⟨n, hn⟩
    have hx : ∃ r n, ex_m mt ft n i pc lv st mem = some r := ⟨r, n, hn⟩
    rw [dif_pos hx]
    obtain ⟨m, hm⟩ := hx.choose_spec
    rw [ex_det hm hn]
theorem rn_ext {x y : Option Rs} (h : ∀ r, x = some r ↔ y = some r) : x = y := by
  cases x with
  | none => cases y with
    | none => rfl
    | some b => exact ((h b).mpr rfl)
  | some a => exact ((h a).mp rfl).symm
noncomputable def rj_o (mt : Nat → Mth) (ft : Nat → Nat → Option Ins) (i nx : Nat) (lv : LVs) (mem : Mem) (z : (Nat × LVs × List Value × Mem) ⊕ (Option Value ⊕ (Nat × List Value × List Value))) : Option Rs := match z with
  | .inl (pc', lv', st', mem') => rn_o mt ft i pc' lv' st' mem'
  | .inr (.inl r) => some (r, mem)
  | .inr (.inr (j, as, rest)) => (rn_o mt ft j 0 (pad_v (mt j).2.2.1 as) [] mem).bind (fun w => rn_o mt ft i nx lv (w.1.toList ++ rest) w.2)
theorem rn_eq_o (mt : Nat → Mth) (ft : Nat → Nat → Option Ins) (i pc : Nat) (lv : LVs) (st : List Value) (mem : Mem) : rn_o mt ft i pc lv st mem = (ft i pc).bind (fun q => (step_m mt (mt i).2.2.2.1 pc q lv st mem).bind (rj_o mt ft i q.2.1 lv mem)) := by
  refine rn_ext fun r => ?_
  rw [rn_some]
  constructor
  · intro ⟨n, hn⟩
    cases n with
    | zero => simp [ex_m] at hn
    | succ n =>
      rw [ex_m] at hn
      cases hf : ft i pc with
      | none => rw [hf] at hn; cases hn
      | some q =>
        rw [hf] at hn
        dsimp only [Option.bind_some] at hn ⊢
        cases hs : step_m mt (mt i).2.2.2.1 pc q lv st mem with
        | none => rw [hs] at hn; cases hn
        | some z =>
          rw [hs] at hn
          match z, hn with
          | .inl (pc', lv', st', mem'), hn => exact rn_some.mpr ⟨n, hn⟩
          | .inr (.inl r'), hn => exact hn
          | .inr (.inr (j, as, rest)), hn =>
            dsimp only at hn
            show (rn_o mt ft j 0 (pad_v (mt j).2.2.1 as) [] mem).bind (fun w => rn_o mt ft i q.2.1 lv (w.1.toList ++ rest) w.2) = some r
            cases hc : ex_m mt ft n j 0 (pad_v (mt j).2.2.1 as) [] mem with
            | none => rw [hc] at hn; cases hn
            | some w =>
              rw [hc] at hn
              rw [rn_some.mpr ⟨n, hc⟩]
              exact rn_some.mpr ⟨n, hn⟩
  · intro h
    cases hf : ft i pc with
    | none => rw [hf] at h; cases h
    | some q =>
      rw [hf] at h
      dsimp only [Option.bind_some] at h
      cases hs : step_m mt (mt i).2.2.2.1 pc q lv st mem with
      | none => rw [hs] at h; cases h
      | some z =>
        rw [hs] at h
        match z, h, hs with
        | .inl (pc', lv', st', mem'), h, hs =>
          obtain ⟨n, hn⟩ := rn_some.mp h
          exact ⟨n + 1, by rw [ex_m, hf]; dsimp only; rw [hs]; exact hn⟩
        | .inr (.inl r'), h, hs => exact ⟨1, by rw [ex_m, hf]; dsimp only; rw [hs]; exact h⟩
        | .inr (.inr (j, as, rest)), h, hs =>
          have h : (rn_o mt ft j 0 (pad_v (mt j).2.2.1 as) [] mem).bind (fun w => rn_o mt ft i q.2.1 lv (w.1.toList ++ rest) w.2) = some r := h
          cases hc : rn_o mt ft j 0 (pad_v (mt j).2.2.1 as) [] mem with
          | none => rw [hc] at h; cases h
          | some w =>
            rw [hc] at h
            obtain ⟨n1, h1⟩ := rn_some.mp hc
            obtain ⟨n2, h2⟩ := rn_some.mp h
            refine ⟨max n1 n2 + 1, ?_⟩
            rw [ex_m, hf]
            dsimp only
            rw [hs]
            dsimp only
            rw [ex_mono_le (Nat.le_max_left n1 n2) h1]
            exact ex_mono_le (Nat.le_max_right n1 n2) h2

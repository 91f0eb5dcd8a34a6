section SoundD
variable {mt : Nat → Mth} {rt : Option FieldType} {pc : Nat} {q : Ins} {lv lv' : LVs} {st st' : List Value} {mem mem' : Mem} {pc' : Nat}
theorem step_d (hns : ∀ ix, q.1 ≠ .invokestatic ix) (hstep : step_m mt rt pc q lv st mem = some (.inl (pc', lv', st', mem'))) : mem' = mem ∨ ∃ a e, mem' = up_m mem a e := by
  obtain ⟨ins, nx, ia, ib, id1, iz, iy⟩ := q
  cases ins with
  | iadd =>
    obtain ⟨x, y, r, rfl, hstep⟩ := w2_i_inv hstep
    obtain ⟨rfl, rfl, rfl, rfl⟩ := nx_v_inv hstep
    first | exact Or.inl rfl | exact Or.inr ⟨_, _, rfl⟩
  | isub =>
    obtain ⟨x, y, r, rfl, hstep⟩ := w2_i_inv hstep
    obtain ⟨rfl, rfl, rfl, rfl⟩ := nx_v_inv hstep
    first | exact Or.inl rfl | exact Or.inr ⟨_, _, rfl⟩
  | imul =>
    obtain ⟨x, y, r, rfl, hstep⟩ := w2_i_inv hstep
    obtain ⟨rfl, rfl, rfl, rfl⟩ := nx_v_inv hstep
    first | exact Or.inl rfl | exact Or.inr ⟨_, _, rfl⟩
  | iand =>
    obtain ⟨x, y, r, rfl, hstep⟩ := w2_i_inv hstep
    obtain ⟨rfl, rfl, rfl, rfl⟩ := nx_v_inv hstep
    first | exact Or.inl rfl | exact Or.inr ⟨_, _, rfl⟩
  | ior =>
    obtain ⟨x, y, r, rfl, hstep⟩ := w2_i_inv hstep
    obtain ⟨rfl, rfl, rfl, rfl⟩ := nx_v_inv hstep
    first | exact Or.inl rfl | exact Or.inr ⟨_, _, rfl⟩
  | ishl =>
    obtain ⟨x, y, r, rfl, hstep⟩ := w2_i_inv hstep
    obtain ⟨rfl, rfl, rfl, rfl⟩ := nx_v_inv hstep
    first | exact Or.inl rfl | exact Or.inr ⟨_, _, rfl⟩
  | ishr =>
    obtain ⟨x, y, r, rfl, hstep⟩ := w2_i_inv hstep
    obtain ⟨rfl, rfl, rfl, rfl⟩ := nx_v_inv hstep
    first | exact Or.inl rfl | exact Or.inr ⟨_, _, rfl⟩
  | ineg =>
    obtain ⟨x, r, rfl, hstep⟩ := w1_i_inv hstep
    obtain ⟨rfl, rfl, rfl, rfl⟩ := nx_v_inv hstep
    first | exact Or.inl rfl | exact Or.inr ⟨_, _, rfl⟩
  | ladd =>
    obtain ⟨x, y, r, rfl, hstep⟩ := w2_l_inv hstep
    obtain ⟨rfl, rfl, rfl, rfl⟩ := nx_v_inv hstep
    first | exact Or.inl rfl | exact Or.inr ⟨_, _, rfl⟩
  | lsub =>
    obtain ⟨x, y, r, rfl, hstep⟩ := w2_l_inv hstep
    obtain ⟨rfl, rfl, rfl, rfl⟩ := nx_v_inv hstep
    first | exact Or.inl rfl | exact Or.inr ⟨_, _, rfl⟩
  | lmul =>
    obtain ⟨x, y, r, rfl, hstep⟩ := w2_l_inv hstep
    obtain ⟨rfl, rfl, rfl, rfl⟩ := nx_v_inv hstep
    first | exact Or.inl rfl | exact Or.inr ⟨_, _, rfl⟩
  | land =>
    obtain ⟨x, y, r, rfl, hstep⟩ := w2_l_inv hstep
    obtain ⟨rfl, rfl, rfl, rfl⟩ := nx_v_inv hstep
    first | exact Or.inl rfl | exact Or.inr ⟨_, _, rfl⟩
  | lor =>
    obtain ⟨x, y, r, rfl, hstep⟩ := w2_l_inv hstep
    obtain ⟨rfl, rfl, rfl, rfl⟩ := nx_v_inv hstep
    first | exact Or.inl rfl | exact Or.inr ⟨_, _, rfl⟩
  | lneg =>
    obtain ⟨x, r, rfl, hstep⟩ := w1_l_inv hstep
    obtain ⟨rfl, rfl, rfl, rfl⟩ := nx_v_inv hstep
    first | exact Or.inl rfl | exact Or.inr ⟨_, _, rfl⟩
  | lshl =>
    obtain ⟨x, y, r, rfl, hstep⟩ := w2_s_inv hstep
    obtain ⟨rfl, rfl, rfl, rfl⟩ := nx_v_inv hstep
    first | exact Or.inl rfl | exact Or.inr ⟨_, _, rfl⟩
  | lshr =>
    obtain ⟨x, y, r, rfl, hstep⟩ := w2_s_inv hstep
    obtain ⟨rfl, rfl, rfl, rfl⟩ := nx_v_inv hstep
    first | exact Or.inl rfl | exact Or.inr ⟨_, _, rfl⟩
  | i2l =>
    obtain ⟨x, r, rfl, hstep⟩ := w1_i_inv hstep
    obtain ⟨rfl, rfl, rfl, rfl⟩ := nx_v_inv hstep
    first | exact Or.inl rfl | exact Or.inr ⟨_, _, rfl⟩
  | l2i =>
    obtain ⟨x, r, rfl, hstep⟩ := w1_l_inv hstep
    obtain ⟨rfl, rfl, rfl, rfl⟩ := nx_v_inv hstep
    first | exact Or.inl rfl | exact Or.inr ⟨_, _, rfl⟩
  | lcmp =>
    obtain ⟨x, y, r, rfl, hstep⟩ := w2_l_inv hstep
    obtain ⟨rfl, rfl, rfl, rfl⟩ := nx_v_inv hstep
    first | exact Or.inl rfl | exact Or.inr ⟨_, _, rfl⟩
  | idiv =>
    obtain ⟨x, y, r, rfl, hstep⟩ := w2_i_inv hstep
    obtain ⟨hz, hstep⟩ := on_v_inv hstep
    obtain ⟨rfl, rfl, rfl, rfl⟩ := nx_v_inv hstep
    first | exact Or.inl rfl | exact Or.inr ⟨_, _, rfl⟩
  | irem =>
    obtain ⟨x, y, r, rfl, hstep⟩ := w2_i_inv hstep
    obtain ⟨hz, hstep⟩ := on_v_inv hstep
    obtain ⟨rfl, rfl, rfl, rfl⟩ := nx_v_inv hstep
    first | exact Or.inl rfl | exact Or.inr ⟨_, _, rfl⟩
  | ldiv =>
    obtain ⟨x, y, r, rfl, hstep⟩ := w2_l_inv hstep
    obtain ⟨hz, hstep⟩ := on_v_inv hstep
    obtain ⟨rfl, rfl, rfl, rfl⟩ := nx_v_inv hstep
    first | exact Or.inl rfl | exact Or.inr ⟨_, _, rfl⟩
  | lrem =>
    obtain ⟨x, y, r, rfl, hstep⟩ := w2_l_inv hstep
    obtain ⟨hz, hstep⟩ := on_v_inv hstep
    obtain ⟨rfl, rfl, rfl, rfl⟩ := nx_v_inv hstep
    first | exact Or.inl rfl | exact Or.inr ⟨_, _, rfl⟩
  | iconst n =>
    obtain ⟨rfl, rfl, rfl, rfl⟩ := nx_v_inv hstep
    first | exact Or.inl rfl | exact Or.inr ⟨_, _, rfl⟩
  | bipush n =>
    obtain ⟨rfl, rfl, rfl, rfl⟩ := nx_v_inv hstep
    first | exact Or.inl rfl | exact Or.inr ⟨_, _, rfl⟩
  | sipush n =>
    obtain ⟨rfl, rfl, rfl, rfl⟩ := nx_v_inv hstep
    first | exact Or.inl rfl | exact Or.inr ⟨_, _, rfl⟩
  | lconst n =>
    obtain ⟨rfl, rfl, rfl, rfl⟩ := nx_v_inv hstep
    first | exact Or.inl rfl | exact Or.inr ⟨_, _, rfl⟩
  | ldc2_w ix =>
    obtain ⟨rfl, rfl, rfl, rfl⟩ := nx_v_inv hstep
    first | exact Or.inl rfl | exact Or.inr ⟨_, _, rfl⟩
  | iload_n k =>
    obtain ⟨x, hx1, hstep⟩ := li_v_inv hstep
    obtain ⟨rfl, rfl, rfl, rfl⟩ := nx_v_inv hstep
    first | exact Or.inl rfl | exact Or.inr ⟨_, _, rfl⟩
  | iload k =>
    obtain ⟨x, hx1, hstep⟩ := li_v_inv hstep
    obtain ⟨rfl, rfl, rfl, rfl⟩ := nx_v_inv hstep
    first | exact Or.inl rfl | exact Or.inr ⟨_, _, rfl⟩
  | lload_n k =>
    obtain ⟨x, hx1, hstep⟩ := ll_v_inv hstep
    obtain ⟨rfl, rfl, rfl, rfl⟩ := nx_v_inv hstep
    first | exact Or.inl rfl | exact Or.inr ⟨_, _, rfl⟩
  | lload k =>
    obtain ⟨x, hx1, hstep⟩ := ll_v_inv hstep
    obtain ⟨rfl, rfl, rfl, rfl⟩ := nx_v_inv hstep
    first | exact Or.inl rfl | exact Or.inr ⟨_, _, rfl⟩
  | aload_n k =>
    obtain ⟨x, hx1, hstep⟩ := lr_v_inv hstep
    obtain ⟨rfl, rfl, rfl, rfl⟩ := nx_v_inv hstep
    first | exact Or.inl rfl | exact Or.inr ⟨_, _, rfl⟩
  | aload k =>
    obtain ⟨x, hx1, hstep⟩ := lr_v_inv hstep
    obtain ⟨rfl, rfl, rfl, rfl⟩ := nx_v_inv hstep
    first | exact Or.inl rfl | exact Or.inr ⟨_, _, rfl⟩
  | istore_n k =>
    obtain ⟨x, r, rfl, hstep⟩ := w1_i_inv hstep
    obtain ⟨rfl, rfl, rfl, rfl⟩ := nx_v_inv hstep
    first | exact Or.inl rfl | exact Or.inr ⟨_, _, rfl⟩
  | istore k =>
    obtain ⟨x, r, rfl, hstep⟩ := w1_i_inv hstep
    obtain ⟨rfl, rfl, rfl, rfl⟩ := nx_v_inv hstep
    first | exact Or.inl rfl | exact Or.inr ⟨_, _, rfl⟩
  | lstore_n k =>
    obtain ⟨x, r, rfl, hstep⟩ := w1_l_inv hstep
    obtain ⟨rfl, rfl, rfl, rfl⟩ := nx_v_inv hstep
    first | exact Or.inl rfl | exact Or.inr ⟨_, _, rfl⟩
  | lstore k =>
    obtain ⟨x, r, rfl, hstep⟩ := w1_l_inv hstep
    obtain ⟨rfl, rfl, rfl, rfl⟩ := nx_v_inv hstep
    first | exact Or.inl rfl | exact Or.inr ⟨_, _, rfl⟩
  | astore_n k =>
    obtain ⟨x, r, rfl, hstep⟩ := w1_r_inv hstep
    obtain ⟨rfl, rfl, rfl, rfl⟩ := nx_v_inv hstep
    first | exact Or.inl rfl | exact Or.inr ⟨_, _, rfl⟩
  | astore k =>
    obtain ⟨x, r, rfl, hstep⟩ := w1_r_inv hstep
    obtain ⟨rfl, rfl, rfl, rfl⟩ := nx_v_inv hstep
    first | exact Or.inl rfl | exact Or.inr ⟨_, _, rfl⟩
  | iinc k n =>
    obtain ⟨x, hx1, hstep⟩ := li_v_inv hstep
    obtain ⟨rfl, rfl, rfl, rfl⟩ := nx_v_inv hstep
    first | exact Or.inl rfl | exact Or.inr ⟨_, _, rfl⟩
  | dup =>
    obtain ⟨v, r, rfl, hstep⟩ := w1_v_inv hstep
    obtain ⟨hz, hstep⟩ := on_v_inv hstep
    obtain ⟨rfl, rfl, rfl, rfl⟩ := nx_v_inv hstep
    first | exact Or.inl rfl | exact Or.inr ⟨_, _, rfl⟩
  | pop =>
    obtain ⟨v, r, rfl, hstep⟩ := w1_v_inv hstep
    obtain ⟨hz, hstep⟩ := on_v_inv hstep
    obtain ⟨rfl, rfl, rfl, rfl⟩ := nx_v_inv hstep
    first | exact Or.inl rfl | exact Or.inr ⟨_, _, rfl⟩
  | dup2 =>
    obtain ⟨v, w, r, rfl, hstep⟩ := w2_v_inv hstep
    obtain ⟨hz, hstep⟩ := on_v_inv hstep
    obtain ⟨rfl, rfl, rfl, rfl⟩ := nx_v_inv hstep
    first | exact Or.inl rfl | exact Or.inr ⟨_, _, rfl⟩
  | ifCond cc off =>
    obtain ⟨x, r, rfl, hstep⟩ := w1_i_inv hstep
    obtain ⟨rfl, rfl, rfl, rfl⟩ := go_v_inv hstep
    first | exact Or.inl rfl | exact Or.inr ⟨_, _, rfl⟩
  | if_icmp cc off =>
    obtain ⟨x, y, r, rfl, hstep⟩ := w2_i_inv hstep
    obtain ⟨rfl, rfl, rfl, rfl⟩ := go_v_inv hstep
    first | exact Or.inl rfl | exact Or.inr ⟨_, _, rfl⟩
  | goto off =>
    obtain ⟨rfl, rfl, rfl, rfl⟩ := go_v_inv hstep
    first | exact Or.inl rfl | exact Or.inr ⟨_, _, rfl⟩
  | tableswitch df lo hi offs =>
    obtain ⟨x, r, rfl, hstep⟩ := w1_i_inv hstep
    obtain ⟨rfl, rfl, rfl, rfl⟩ := go_v_inv hstep
    first | exact Or.inl rfl | exact Or.inr ⟨_, _, rfl⟩
  | getfield ix =>
    obtain ⟨a, r, rfl, hstep⟩ := w1_r_inv hstep
    obtain ⟨fs, hm, hstep⟩ := ob_v_inv hstep
    obtain ⟨v, hv, hstep⟩ := vl_v_inv hstep
    obtain ⟨rfl, rfl, rfl, rfl⟩ := nx_v_inv hstep
    first | exact Or.inl rfl | exact Or.inr ⟨_, _, rfl⟩
  | putfield ix =>
    obtain ⟨v, r0, rfl, hstep⟩ := w1_v_inv hstep
    obtain ⟨a, r, rfl, hstep⟩ := w1_r_inv hstep
    obtain ⟨fs, hm, hstep⟩ := ob_v_inv hstep
    obtain ⟨hz, hstep⟩ := on_v_inv hstep
    obtain ⟨rfl, rfl, rfl, rfl⟩ := nx_v_inv hstep
    first | exact Or.inl rfl | exact Or.inr ⟨_, _, rfl⟩
  | iaload =>
    obtain ⟨a, j, r, rfl, hstep⟩ := w2_r_inv hstep
    obtain ⟨n, f, hm, hstep⟩ := ai_v_inv hstep
    obtain ⟨hi, hstep⟩ := ix_v_inv hstep
    obtain ⟨rfl, rfl, rfl, rfl⟩ := nx_v_inv hstep
    first | exact Or.inl rfl | exact Or.inr ⟨_, _, rfl⟩
  | baload =>
    obtain ⟨a, j, r, rfl, hstep⟩ := w2_r_inv hstep
    obtain ⟨n, f, hm, hstep⟩ := ai_v_inv hstep
    obtain ⟨hi, hstep⟩ := ix_v_inv hstep
    obtain ⟨rfl, rfl, rfl, rfl⟩ := nx_v_inv hstep
    first | exact Or.inl rfl | exact Or.inr ⟨_, _, rfl⟩
  | laload =>
    obtain ⟨a, j, r, rfl, hstep⟩ := w2_r_inv hstep
    obtain ⟨n, f, hm, hstep⟩ := al_v_inv hstep
    obtain ⟨hi, hstep⟩ := ix_v_inv hstep
    obtain ⟨rfl, rfl, rfl, rfl⟩ := nx_v_inv hstep
    first | exact Or.inl rfl | exact Or.inr ⟨_, _, rfl⟩
  | aaload =>
    obtain ⟨a, j, r, rfl, hstep⟩ := w2_r_inv hstep
    obtain ⟨t, n, f, hm, ht, hstep⟩ := ar_v_inv hstep
    obtain ⟨hi, hstep⟩ := ix_v_inv hstep
    obtain ⟨b, hfb, hstep⟩ := rf_v_inv hstep
    obtain ⟨rfl, rfl, rfl, rfl⟩ := nx_v_inv hstep
    first | exact Or.inl rfl | exact Or.inr ⟨_, _, rfl⟩
  | iastore =>
    obtain ⟨a, j, x, r, rfl, hstep⟩ := w3_i_inv hstep
    obtain ⟨n, f, hm, hstep⟩ := ai_v_inv hstep
    obtain ⟨hi, hstep⟩ := ix_v_inv hstep
    obtain ⟨rfl, rfl, rfl, rfl⟩ := nx_v_inv hstep
    first | exact Or.inl rfl | exact Or.inr ⟨_, _, rfl⟩
  | lastore =>
    obtain ⟨a, j, x, r, rfl, hstep⟩ := w3_l_inv hstep
    obtain ⟨n, f, hm, hstep⟩ := al_v_inv hstep
    obtain ⟨hi, hstep⟩ := ix_v_inv hstep
    obtain ⟨rfl, rfl, rfl, rfl⟩ := nx_v_inv hstep
    first | exact Or.inl rfl | exact Or.inr ⟨_, _, rfl⟩
  | bastore =>
    obtain ⟨a, j, x, r, rfl, hstep⟩ := w3_i_inv hstep
    obtain ⟨n, f, hm, hstep⟩ := ai_v_inv hstep
    obtain ⟨hi, hstep⟩ := ix_v_inv hstep
    obtain ⟨hz, hstep⟩ := on_v_inv hstep
    obtain ⟨rfl, rfl, rfl, rfl⟩ := nx_v_inv hstep
    first | exact Or.inl rfl | exact Or.inr ⟨_, _, rfl⟩
  | arraylength =>
    obtain ⟨a, r, rfl, hstep⟩ := w1_r_inv hstep
    obtain ⟨t, n, f, hm, ht, hstep⟩ := le_v_inv hstep
    obtain ⟨rfl, rfl, rfl, rfl⟩ := nx_v_inv hstep
    first | exact Or.inl rfl | exact Or.inr ⟨_, _, rfl⟩
  | ireturn =>
    exfalso
    simp only [step_m] at hstep
    split at hstep
    · split at hstep
      · cases hstep
      · split at hstep
        · obtain ⟨-, h⟩ := on_v_inv hstep; cases h
        · cases hstep
    · cases hstep
  | lreturn =>
    exfalso
    simp only [step_m] at hstep
    split at hstep
    · split at hstep <;> cases hstep
    · cases hstep
  | return_ =>
    exfalso
    simp only [step_m] at hstep
    split at hstep
    · split at hstep <;> cases hstep
    · cases hstep
  | invokevirtual ix => exact absurd hstep (cl_no _ _ _ _)
  | invokestatic ix => exact absurd rfl (hns ix)
  | _ => exact absurd hstep (by simp [step_m])
end SoundD
/-- the heap's size, where cells are counted -/
theorem W_sz {p : Program} {l : Launch} {e : Env} {R : Room} {s : State} {m : MethodId} {args : Array Value} {below : List Frame} {meth : Method} {c : Code} {H : Heap} {locs : List Loc} {ce so : Nat} {Q : State → Prop} {g : JFrame} (h : H.size ≤ s.heap.size + ce → W p l e R s m args below meth c H locs ce so Q g) : W p l e R s m args below meth c H locs ce so Q g := fun T hT X => h (by rw [← hT]; exact X.heapSize) T hT X
/-- all cells from zL up to z are there -/
def dm_m (mem : Mem) (zL z : Nat) : Prop := ∀ x, zL ≤ x → x < z → ∃ e, mem x = some e
theorem dm_up {mem : Mem} {zL z a : Nat} {e : mE} (h : dm_m mem zL z) : dm_m (up_m mem a e) zL z := by
  intro x h1 h2
  by_cases hx : x = a
  · exact ⟨e, by rw [hx]; exact up_self⟩
  · obtain ⟨y, hy⟩ := h x h1 h2
    exact ⟨y, by rw [up_ne hx]; exact hy⟩
theorem dm_st {mt : Nat → Mth} {rt : Option FieldType} {pc : Nat} {q : Ins} {lv lv' : LVs} {st st' : List Value} {mem mem' : Mem} {pc' zL z : Nat} (hns : ∀ ix, q.1 ≠ .invokestatic ix) (hstep : step_m mt rt pc q lv st mem = some (.inl (pc', lv', st', mem'))) (h : dm_m mem zL z) : dm_m mem' zL z := by
  rcases step_d hns hstep with rfl | ⟨a, e, rfl⟩
  · exact h
  · exact dm_up h
/-- a new cell's address -/
theorem nw_ad {D : va_G} {dA : Nat → ClassId} {A : Nat → Prop} {ws : va_W} {mem : Mem} {H1 : Heap} {zL z q : Nat} {x : va_E} (hA : ∀ q, A q → zL ≤ q) (hP : va_P D cls_m (ws ++ [(q, x)]) H1) (hD : va_D A (ws ++ [(q, x)])) (hm : ∀ (a : Nat) (e : mE), mem a = some e → ∃ k : Nat, ws[k]? = some (a, tr_m dA e)) (hdm : dm_m mem zL z) (hz : H1.size ≤ z + 1) : q = z := by
  have hq : (ws ++ [(q, x)])[ws.length]? = some (q, x) := by simp
  have h1 : q < H1.size := (hP _ _ hq).lt
  have h2 : zL ≤ q := hA q (hD.2 _ _ hq)
  by_cases hc : q < z
  · obtain ⟨e, he⟩ := hdm q h2 hc
    obtain ⟨k, hk⟩ := hm q e he
    have hkl : k < ws.length := (List.getElem?_eq_some_iff.mp hk).1
    have hk' : (ws ++ [(q, x)])[k]? = some (q, tr_m dA e) := by rw [List.getElem?_append_left hkl]; exact hk
    have := hD.1 k ws.length _ _ hk' hq rfl
    omega
  · omega
theorem mw_nw {D : va_G} {dA : Nat → ClassId} {A : Nat → Prop} {ws : va_W} {mem : Mem} {H1 : Heap} {z : Nat} {e : mE} (hP : va_P D cls_m (ws ++ [(z, tr_m dA e)]) H1) (hD : va_D A (ws ++ [(z, tr_m dA e)])) (hm : ∀ (a : Nat) (e : mE), mem a = some e → ∃ k : Nat, ws[k]? = some (a, tr_m dA e)) : mw_m D dA A (up_m mem z e) H1 := by
  refine ⟨_, hP, hD, fun b f hb => ?_⟩
  by_cases hbz : b = z
  · subst hbz
    have : f = e := by have := hb.symm.trans (up_self (mem := mem) (a := b) (e := e)); exact Option.some.inj this
    subst this
    exact ⟨ws.length, by simp⟩
  · rw [up_ne hbz] at hb
    obtain ⟨k, hk⟩ := hm b f hb
    have hkl : k < ws.length := (List.getElem?_eq_some_iff.mp hk).1
    exact ⟨k, by rw [List.getElem?_append_left hkl]; exact hk⟩

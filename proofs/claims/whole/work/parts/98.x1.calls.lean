section LC
variable {mt : Nat → Mth} {i pc : Nat} {lv : LVs} {mem mem' : Mem} {D : va_G} {dA : Nat → ClassId} {A : Nat → Prop}
variable {p : Program} {l : Launch} {e : Env} {R : Room} {s : State} {m : MethodId} {args : Array Value} {below : List Frame} {meth : Method} {c : Code} {H : Heap} {locs : List Loc} {Q : State → Prop} {ls : Array Slot} {ce so : Nat}
/-- a small method is called, on an object -/
theorem lv_call {ix j a n0 : Nat} {as rest fs : List Value} {r : Option Value} (C : cx_m mt D dA i p s m args meth c) (hj : j < 115) (hns : (mt_m j).2.2.2.2.2.1 = false) (hpar : as.length = (mt_m j).2.2.2.2.1) (hR1 : (mt_m j).2.2.2.2.2.2.2.1 + 1 ≤ R.frames) (hR2 : 8 + ((mt_m j).2.2.1 + 11) + (mt_m j).2.2.2.2.2.2.2.2 ≤ R.locals) (hlink : lw_tbl[n0]? = some (.methodLink (mt i).1.cls ix (mt_m j).1)) (hd : decode (mt i).2.1 pc = .ok (.invokevirtual ix, 3)) (hcs : cs_v rest ≤ 8) (hca : cs_v (.ref a :: as) ≤ (mt_m j).2.2.1) (ha : mem a = some (.inl ((mt_m j).2.2.2.2.2.2.1, fs))) (h : cl j (.ref a :: as) mem = some (r, mem')) (hce : ce ≤ R.cells) (hso : so ≤ R.slots) (hw : mw_m D dA A mem H) (hS : va_S A s.heap H locs) (hl : lr_m ls (mt i).2.2.1 lv)
    (kk : ∀ (H1 : Heap) (locs1 : List Loc), mw_m D dA A mem' H1 → va_S A s.heap H1 locs1 → W p l e R s m args below meth c H1 locs1 ce so Q (F0 m (pc + 3) ls (r.toList ++ rest))) : W p l e R s m args below meth c H locs ce so Q (F0 m pc ls (as.reverse ++ .ref a :: rest)) := by
  obtain ⟨hexec, hb, hml, hown, hts, hnw, hrt, hlk, hK⟩ := C
  have hM := met_c l D dA A hj hca h
  have hPre : ∀ U : State, U.heap = H → s.WarmedH U.vm → pc_m D dA A (.ref a :: as) mem (Value.ref a :: as).toArray U := fun U hU hW => ⟨rfl, by rw [hU]; exact hw, va_K.moved hW.alike hK, nw_warm hW hnw⟩
  obtain ⟨m1, m2, m3, m4, m5⟩ := me_all j hj
  rw [if_neg (by rw [hns]; decide)] at m5
  have hsub : ∀ w ∈ Cond.code (mt_m j).1 (mt_m j).2.1 (mt_m j).2.2.1 (mt_m j).2.2.2.1 :: gw_m, w ∈ gw_m := fun w hw => by
    rcases List.mem_cons.mp hw with rfl | h
    · exact gw_in m1 rfl
    · exact h
  have hrv := rv_m hK hw ha m5.2.2
  refine call_rowB (mc := 0) (ms := 0) (va_runV (C := (mt_m j).1.cls) (b := a) (As := as) (rest := rest) ⟨hexec, hb, hml, hown, hts⟩ hM (cwV (mt_m j).2.2.2.2.1 hts (gi_m (fun w hw => ?_)) rfl rfl rfl ⟨rfl, m4⟩ ⟨hR1, hR2⟩) ⟨pc_blind, hrv, hPre⟩ rfl hpar hl.1 rfl (lv_room (by rw [← cs_eq]; exact hcs)) hd ⟨hce, hso⟩) hS kk
  unfold wsV at hw
  rcases List.mem_append.mp hw with h | h
  · simp only [List.mem_cons, List.not_mem_nil, or_false] at h
    rcases h with rfl | rfl | rfl | rfl
    · exact gw_in (List.mem_of_getElem? hlink) rfl
    · exact gw_in m5.1 rfl
    · exact gw_in m5.2.1 rfl
    · exact gw_in m2 rfl
  · exact hsub w h
end LC

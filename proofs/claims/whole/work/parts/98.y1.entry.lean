theorem lw_cx {p : Program} {s : State} {m : MethodId} {meth : Method} {c : Code} {b L : Nat} {xs : Nat → Int32} {D : va_G} {dA : Nat → ClassId} (C0 : lw_At p s m meth c b L xs) (hK : va_K D cls_m (tys_m dA) s) : cx_m lt_m D dA 9 p s m #[Value.ref b] meth c :=
  ⟨C0.1, C0.2.1, C0.2.2.2.1, C0.2.2.2.2.1, fun w hw => C0.2.2.2.2.2.1 w (List.mem_filter.mp hw).1, nw_of C0.2.2.2.2.2.1, C0.2.2.1, C0.2.2.2.2.2.2.2.2.1, hK⟩
theorem kn_all {s : State} {args : Array Value} (hts : ∀ w ∈ gw_m, w.before args s = true) : ∃ D : va_G, ∀ (c : Nat) (q : vw_C), cls_m[c]? = some q → u_Kn s q.1 q.2.1 q.2.2 (D.1 c) (D.2 c) := by
  have h : ∀ c : Nat, ∃ x : ClassId × (Nat → Nat), ∀ q : vw_C, cls_m[c]? = some q → u_Kn s q.1 q.2.1 q.2.2 x.1 x.2 := by
    intro c
    cases hq : cls_m[c]? with
    | none => exact ⟨(0, fun _ => 0), fun q h => by cases h⟩
    | some q =>
      obtain ⟨cC, iS, h⟩ := u_known hts (kls_all c q hq).2.1 (hts _ (bw_1 c q hq).1)
      exact ⟨(cC, iS), fun q' h' => by cases h'; exact h⟩
  exact ⟨(fun c => (h c).choose.1, fun c => (h c).choose.2), fun c q hq => (h c).choose_spec q hq⟩

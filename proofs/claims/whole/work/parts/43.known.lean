/-! the classes at the law's entry -/
theorem arr_of {s : State} {cA comp : ClassId} {k : Class} {ty : FieldType} (h1 : s.vm.classes[cA]? = some k) (h2 : k.kind = .array comp ty) : ArrOfT s cA ty := fun N z => ⟨(fun k h => by cases h), k, h1, comp, h2⟩
theorem law_K {s : State} {b : Nat} (hts : ∀ w ∈ lw_tbl, w.before #[Value.ref b] s = true) : ∃ (dC : Nat → ClassId) (dI : Nat → Nat → Nat) (cy : Nat → ClassId), va_K (dC, dI) vwCl (tyL cy) s := by
  obtain ⟨c0, i0, k0⟩ := u_known (C := RJx4a65c) (T := TJx4a65c) (N := 3) (n := 3) hts (by decide +kernel) (hts _ (by decide +kernel))
  obtain ⟨c1, i1, k1⟩ := u_known (C := RX0) (T := TX0) (N := 5) (n := 5) hts (by decide +kernel) (hts _ (by decide +kernel))
  obtain ⟨c2, i2, k2⟩ := u_known (C := RX1) (T := TX1) (N := 4) (n := 4) hts (by decide +kernel) (hts _ (by decide +kernel))
  obtain ⟨c3, i3, k3⟩ := u_known (C := RX2) (T := TX2) (N := 5) (n := 5) hts (by decide +kernel) (hts _ (by decide +kernel))
  obtain ⟨c4, i4, k4⟩ := u_known (C := RX3) (T := TX3) (N := 6) (n := 6) hts (by decide +kernel) (hts _ (by decide +kernel))
  obtain ⟨c5, i5, k5⟩ := u_known (C := RX4) (T := TX4) (N := 22) (n := 22) hts (by decide +kernel) (hts _ (by decide +kernel))
  obtain ⟨t0, q0, p0, a1, a2, a3⟩ := Cond.arrayClass_spec (type := .int) (hts _ (by decide +kernel))
  obtain ⟨t1, q1, p1, b1, b2, b3⟩ := Cond.arrayClass_spec (type := .boolean) (hts _ (by decide +kernel))
  obtain ⟨t5, q5, p5, f1, f2, f3⟩ := Cond.arrayClass_spec (type := .long) (hts _ (by decide +kernel))
  obtain ⟨p2, t2, q2, g1, -, g2, g3, g4⟩ := Cond.arrayOver_spec (n := "ClauseShop$Version") (hts _ (by decide +kernel))
  obtain ⟨p3, t3, q3, h1, -, h2, h3, h4⟩ := Cond.arrayOver_spec (n := "java/lang/Object") (hts _ (by decide +kernel))
  obtain ⟨p4, t4, q4, -, d2, d3, d4⟩ := Cond.arrayOver_specA (t := .int) (hts _ (by decide +kernel))
  refine ⟨fun i => [c0, c1, c2, c3, c4, c5].getD i 0, fun i => [i0, i1, i2, i3, i4, i5].getD i (fun _ => 0), fun i => [t0, t1, t2, t3, t4, t5].getD i 0, fun c q hq => ?_, fun k q hq => ?_⟩
  · match c, hq with
    | 0, hq => cases hq; exact k0
    | 1, hq => cases hq; exact k1
    | 2, hq => cases hq; exact k2
    | 3, hq => cases hq; exact k3
    | 4, hq => cases hq; exact k4
    | 5, hq => cases hq; exact k5
    | c + 6, hq => cases hq
  · match k, hq with
    | 0, hq => cases hq; exact ⟨arr_of a2 a3, a1⟩
    | 1, hq => cases hq; exact ⟨arr_of b2 b3, b1⟩
    | 2, hq => cases hq; exact ⟨arr_of g2 g3, q2, p2, g2, g3, g1, g4⟩
    | 3, hq => cases hq; exact ⟨arr_of h2 h3, q3, p3, h2, h3, h1, h4⟩
    | 4, hq => cases hq; exact ⟨arr_of d2 d3, d4⟩
    | 5, hq => cases hq; exact ⟨arr_of f2 f3, f1⟩
    | k + 6, hq => cases hq

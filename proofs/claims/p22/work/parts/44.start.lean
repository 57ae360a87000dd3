/-! what holds at the law's entry -/
abbrev freshA (s : State) : Nat → Prop := fun q => s.heap.size ≤ q
theorem tb_strs : ∀ x ∈ strs, Cond.stringRef RX3 x.1 x.2 ∈ lw_tbl := by decide +kernel
theorem tb_casts : ∀ x ∈ casts, Cond.castable x.1 x.2 ∈ lw_tbl := by decide +kernel
theorem tb_decls : ∀ x ∈ decls, Cond.declares x ∈ lw_tbl := by decide +kernel
theorem law_am {s : State} {b : Nat} (hts : ∀ w ∈ lw_tbl, w.before #[Value.ref b] s = true) (hgv : (Jvm.Cond.and given_1 narrow_1).before #[Value.ref b] s = true) : ∃ e0 mi : Nat, amL e0 mi (freshA s) s s.heap := by
  have hs := flat_of_before _ hgv
  have hA : ∀ a : Nat, a < s.heap.size → ¬ freshA s a := fun a h q => Nat.lt_irrefl _ (Nat.lt_of_lt_of_le h q)
  have g1 : (Cond.isRef (.static "java/lang/Throwable" "UNASSIGNED_STACK" "[Ljava/lang/StackTraceElement;")).before #[Value.ref b] s = true := hs _ (by decide +kernel)
  have g2 : (Cond.isRef (.static "java/lang/Throwable" "SUPPRESSED_SENTINEL" "Ljava/util/List;")).before #[Value.ref b] s = true := hs _ (by decide +kernel)
  have g3 : (Cond.arrayOf (.static "java/util/ArrayList" "DEFAULTCAPACITY_EMPTY_ELEMENTDATA" "[Ljava/lang/Object;") (.object "java/lang/Object")).before #[Value.ref b] s = true := hs _ (by decide +kernel)
  have g4 : (Cond.eq (.length (.static "java/util/ArrayList" "DEFAULTCAPACITY_EMPTY_ELEMENTDATA" "[Ljava/lang/Object;")) (.int 0)).before #[Value.ref b] s = true := hs _ (by decide +kernel)
  have g5 : (Cond.isRef (.mirror "[Ljava/lang/Object;")).before #[Value.ref b] s = true := hs _ (by decide +kernel)
  obtain ⟨e0, he0, hT⟩ := va_Tof (N := 0) (f := fun _ => .null) (A := freshA s) (by decide) g3 (va_eqt g4) (fun j hj => absurd hj (Nat.not_lt_zero _)) hA
  obtain ⟨mi, hmi⟩ := va_Mi.of g5
  have gs : ∀ x ∈ strs, (Cond.exactly (.string RX3 x.1) "java/lang/String").before #[Value.ref b] s = true := by
    have e : ∀ x ∈ strs, Cond.exactly (.string RX3 x.1) "java/lang/String" ∈ flatC (Jvm.Cond.and given_1 narrow_1) := by decide +kernel
    exact fun x hx => hs _ (e x hx)
  have gn : ∀ x ∈ ncasts, (Cond.not (.castable x.1 x.2)).before #[Value.ref b] s = true := by
    have e : ∀ x ∈ ncasts, Cond.not (.castable x.1 x.2) ∈ flatC (Jvm.Cond.and given_1 narrow_1) := by decide +kernel
    exact fun x hx => hs _ (e x hx)
  refine ⟨e0, mi, ⟨vx_Zqof (hts _ (by decide +kernel)) (hts _ (by decide +kernel)) g1 hA, vx_Zqof (hts _ (by decide +kernel)) (hts _ (by decide +kernel)) g2 hA, va_Zref (hts _ (by decide +kernel)) (hts _ (by decide +kernel)) he0 hA, hT, fun x hx => ?_, fun x hx => va_Nw.of rfl (hts _ (tb_casts x hx)), fun x hx => va_Nw.of rfl (hts _ (tb_decls x hx)), hmi, va_AO.of (hts _ (by decide +kernel)), va_AO.of (hts _ (by decide +kernel)), va_AOA.of (hts _ (by decide +kernel)), va_Nw.of rfl (hts _ (by decide +kernel))⟩, fun x hx => va_Nc.of (gn x hx)⟩
  obtain ⟨a, c, cell, k, h1, -⟩ := Cond.exactly_spec (gs x hx)
  exact ⟨a, vk_R.of (hts _ (tb_strs x hx)) h1⟩
theorem arr_of {s : State} {cA comp : ClassId} {k : Class} {ty : FieldType} (h1 : s.vm.classes[cA]? = some k) (h2 : k.kind = .array comp ty) : ArrOfT s cA ty := fun N z => ⟨(fun k h => by cases h), k, h1, comp, h2⟩

theorem law_K {s : State} {b : Nat} (hts : ∀ w ∈ lw_tbl, w.before #[Value.ref b] s = true) : ∃ (dC : Nat → ClassId) (dI : Nat → Nat → Nat) (cy : Nat → ClassId), va_K (dC, dI) vwCl (tyL cy) s := by
  obtain ⟨c0, i0, k0⟩ := u_known (C := RJx4a65c) (T := TJx4a65c) (N := 3) (n := 3) hts (by decide +kernel) (hts _ (by decide +kernel))
  obtain ⟨c1, i1, k1⟩ := u_known (C := RX0) (T := TX0) (N := 5) (n := 5) hts (by decide +kernel) (hts _ (by decide +kernel))
  obtain ⟨c2, i2, k2⟩ := u_known (C := RX1) (T := TX1) (N := 4) (n := 4) hts (by decide +kernel) (hts _ (by decide +kernel))
  obtain ⟨c3, i3, k3⟩ := u_known (C := RX2) (T := TX2) (N := 5) (n := 5) hts (by decide +kernel) (hts _ (by decide +kernel))
  obtain ⟨c4, i4, k4⟩ := u_known (C := RX3) (T := TX3) (N := 6) (n := 6) hts (by decide +kernel) (hts _ (by decide +kernel))
  obtain ⟨t0, q0, p0, a1, a2, a3⟩ := Cond.arrayClass_spec (type := .int) (hts _ (by decide +kernel))
  obtain ⟨t1, q1, p1, b1, b2, b3⟩ := Cond.arrayClass_spec (type := .boolean) (hts _ (by decide +kernel))
  obtain ⟨p2, t2, q2, g1, -, g2, g3, g4⟩ := Cond.arrayOver_spec (n := "ClauseShop$Version") (hts _ (by decide +kernel))
  obtain ⟨p3, t3, q3, h1, -, h2, h3, h4⟩ := Cond.arrayOver_spec (n := "java/lang/Object") (hts _ (by decide +kernel))
  obtain ⟨p4, t4, q4, -, d2, d3, d4⟩ := Cond.arrayOver_specA (t := .int) (hts _ (by decide +kernel))
  refine ⟨fun i => [c0, c1, c2, c3, c4].getD i 0, fun i => [i0, i1, i2, i3, i4].getD i (fun _ => 0), fun i => [t0, t1, t2, t3, t4].getD i 0, fun c q hq => ?_, fun k q hq => ?_⟩
  · match c, hq with
    | 0, hq => cases hq; exact k0
    | 1, hq => cases hq; exact k1
    | 2, hq => cases hq; exact k2
    | 3, hq => cases hq; exact k3
    | 4, hq => cases hq; exact k4
    | c + 5, hq => cases hq
  · match k, hq with
    | 0, hq => cases hq; exact ⟨arr_of a2 a3, a1⟩
    | 1, hq => cases hq; exact ⟨arr_of b2 b3, b1⟩
    | 2, hq => cases hq; exact ⟨arr_of g2 g3, q2, p2, g2, g3, g1, g4⟩
    | 3, hq => cases hq; exact ⟨arr_of h2 h3, q3, p3, h2, h3, h1, h4⟩
    | 4, hq => cases hq; exact ⟨arr_of d2 d3, d4⟩
    | k + 5, hq => cases hq

abbrev S00 : SS := fun _ _ _ => nI 0
abbrev N00 : NN := fun _ _ _ => 0
abbrev L00 : List Lc := [(10, 0), (11, 0), (12, 0), (13, 0), (14, 0), (16, 0)]
theorem mem_00 {k i : Nat} (h : (k, i) ∈ L00) : (10 ≤ k ∧ k ≤ 14 ∨ k = 16) ∧ i = 0 := by
  simp only [L00, List.mem_cons, Prod.mk.injEq, List.not_mem_nil, or_false] at h
  omega
theorem okC_00 : okC L00 N00 := ⟨⟨fun k i _ h => absurd h (Nat.not_lt_zero _), fun j h => absurd h (Nat.not_lt_zero _), fun c n _ h => absurd h (Nat.not_lt_zero _), fun k h => by
    rcases (show k = 10 ∨ k = 11 ∨ k = 12 ∨ k = 13 ∨ k = 14 ∨ k = 16 by omega) with rfl | rfl | rfl | rfl | rfl | rfl <;> decide, fun h => absurd rfl h, fun h => absurd rfl h⟩, fun i c h _ => absurd h (Nat.not_lt_zero _), fun c _ => Nat.zero_le _, fun v => by show 0 < 2; decide, fun j h => absurd h (Nat.not_lt_zero _), Nat.zero_le _, Nat.zero_le _, Nat.le_refl _, Nat.le_refl _, Nat.zero_le _, Nat.zero_le _⟩
theorem okX_00 : okX L00 N00 := ⟨fun k i h1 h2 => by have := mem_00 h2; omega, fun j h => by have := mem_00 h; omega, fun v h => by have := mem_00 h; omega, fun k i _ h => (mem_00 h).2, fun h => by have := mem_00 h; omega, fun h => by have := mem_00 h; omega, Or.inl rfl, Nat.zero_le _⟩

theorem RZ_00 : RZ S00 N00 (fun _ _ => 0) (fun _ => nI 0) (nI 0) 0 0 := by
  have n0 : ∀ b, isN (nI 0) b := fun b => ⟨by decide, by show ix (nI 0) ≤ b; rw [ix_nI (by decide)]; exact Nat.zero_le _⟩
  refine ⟨fun c hc => ⟨rfl, n0 _, n0 _, (by show 0 = ix (nI 0) + 1024 * ix (nI 0); decide), fun n hn => absurd hn (Nat.not_lt_zero _)⟩, fun c _ _ => rfl, fun i hi => ⟨fun c hc => ⟨fun _ => rfl, fun h => absurd rfl h⟩, fun _ _ => rfl⟩, fun i hi => ⟨n0 _, n0 _, (by show 0 = ix (nI 0) + 2 * ix (nI 0) + ix (nI 0) * ix (nI 0); decide), fun _ => ⟨rfl, rfl⟩⟩, fun j hj => absurd hj (Nat.not_lt_zero _), fun i hi b hb => ⟨rfl, nI_00⟩, ⟨rfl, rfl, rfl, Nat.zero_le _⟩, fun _ _ => Nat.le_of_ble_eq_true rfl⟩
abbrev ad00 (q : Nat) (f : Nat → Nat) : Lc → Nat := fun x => if x.1 = 10 then q else f x.1
theorem cw_00 (cy : Nat → ClassId) (e0 q : Nat) (f : Nat → Nat) : cw cy e0 (ad00 q f) L00 S00 N00 = [(q, .inr (4, [.ref (f 11), .ref (f 12), .ref (f 13), .ref (f 14), .ref (f 16), .int (nI 0)])), (f 11, .inl (cy 2, 10, .inr (.inr (.inr (.inr (fun _ => none)))))), (f 12, .inl (cy 0, 10, .inl (fun _ => nI 0))), (f 13, .inl (cy 0, 10, .inl (fun _ => nI 0))), (f 14, .inr (0, [.int (nI 0), .ref e0, .int 0])), (f 16, .inr (0, [.int (nI 0), .ref e0, .int 0]))] := by
  rw [← nI_00]
  rfl
theorem pk_flags {l : Launch} (h : l.flags = flags0) : l.stackTraces = false := by
  unfold Launch.stackTraces
  rw [h]
  decide +kernel

theorem gf_00 : gf (nI 0) 0 0 = fun _ => nI 0 := by
  funext j
  unfold gf
  split
  · rfl
  · split
    · rfl
    · split
      · rfl
      · exact nI_00.symm
theorem yw_00 (cy : Nat → ClassId) (n0 n1 n2 n3 n4 n5 n6 n7 : Nat) : yw (fun k => [n0, n1, n2, n3, n4, n5, n6, n7].getD k 0) cy (fun _ _ => 0) (fun _ => nI 0) (nI 0) 0 0 = [(n0, .inl (cy 0, 6, .inl (fun _ => nI 0))), (n1, .inl (cy 0, 6, .inl (fun _ => nI 0))), (n2, .inl (cy 0, 54, .inl (fun _ => nI 0))), (n3, .inl (cy 0, 60, .inl (fun _ => nI 0))), (n4, .inl (cy 0, 10, .inl (fun _ => nI 0))), (n5, .inl (cy 0, 60, .inl (fun _ => nI 0))), (n6, .inl (cy 0, 60, .inl (fun _ => nI 0))), (n7, .inl (cy 0, 3, .inl (fun _ => nI 0)))] := by
  unfold yw
  rw [gf_00]
  rfl
/-- what the law's walk stands on -/
def LF (p : Program) (l : Launch) (s : State) (m : MethodId) (c : Code) (sb Ls : Nat) (xs : Nat → Int32) (dC : Nat → ClassId) (dI : Nat → Nat → Nat) (cy : Nat → ClassId) (e0 mi : Nat) : Prop :=
  p.tables.exec = Jvm.exec ∧ c.code = cL_law ∧ c.maxLocals = 15 ∧ s.vm.findClass RL = some m.cls ∧ (∀ w ∈ wsL_law, w.before #[Value.ref sb] s = true) ∧ va_X sb Ls xs s s.heap ∧ sb < s.heap.size ∧ va_K (dC, dI) vwCl (tyL cy) s ∧ amL e0 mi (freshA s) s s.heap ∧ l.stackTraces = false
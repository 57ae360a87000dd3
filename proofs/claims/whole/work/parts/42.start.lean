/-! what holds at the law's entry -/
abbrev freshA (s : State) : Nat → Prop := fun q => s.heap.size ≤ q
theorem tb_strs : ∀ x ∈ strs, Cond.stringRef RX3 x.1 x.2 ∈ lw_tbl := by decide +kernel
theorem tb_casts : ∀ x ∈ casts, Cond.castable x.1 x.2 ∈ lw_tbl := by decide +kernel
theorem tb_decls : ∀ x ∈ decls, Cond.declares x ∈ lw_tbl := by decide +kernel
theorem law_am {s : State} {b : Nat} (hts : ∀ w ∈ lw_tbl, w.before #[Value.ref b] s = true) (hgv : (Jvm.Cond.and given_1 narrow_1).before #[Value.ref b] s = true) : ∃ e0 mi : Nat, amL e0 mi (freshA s) s s.heap := by
  have hs := flat_of_before _ hgv
  have hA : ∀ a : Nat, a < s.heap.size → ¬ freshA s a := fun a h q => Nat.lt_irrefl _ (Nat.lt_of_lt_of_le h q)
  have g1 : (Cond.isRef (.static "java/lang/Throwable" "UNASSIGNED_STACK" "[Ljava/lang/StackTraceElement;")).before #[Value.ref b] s = true := hs _ (by decide +kernel)
  have g2 : (Cond.isRef (.static "java/lang/Throwable" "SUPPRESSED_SENTINEL" "Ljava/util/List;")).before #[Value.ref b] s = true := hs _ (by decide +kernel)
  have g3 : (Cond.arrayOf (.static "java/util/ArrayList" "DEFAULTCAPACITY_EMPTY_ELEMENTDATA" "[Ljava/lang/Object;") (.object "java/lang/Object")).before #[Value.ref b] s = true := hs _ (by decide +kernel)
  have g4 : (Cond.eq (.length (.static "java/util/ArrayList" "DEFAULTCAPACITY_EMPTY_ELEMENTDATA" "[Ljava/lang/Object;")) (.int 0)).before #[Value.ref b] s = true := hs _ (by decide +kernel)
  have g5 : (Cond.isRef (.mirror "[Ljava/lang/Object;")).before #[Value.ref b] s = true := hs _ (by decide +kernel)
  obtain ⟨e0, he0, hT⟩ := va_Tof (N := 0) (f := fun _ => .null) (A := freshA s) (by decide) g3 (va_eqt g4) (fun j hj => absurd hj (Nat.not_lt_zero _)) hA
  obtain ⟨mi, hmi⟩ := va_Mi.of g5
  have gs : ∀ x ∈ strs, (Cond.exactly (.string RX3 x.1) "java/lang/String").before #[Value.ref b] s = true := by
    have e : ∀ x ∈ strs, Cond.exactly (.string RX3 x.1) "java/lang/String" ∈ flatC (Jvm.Cond.and given_1 narrow_1) := by decide +kernel
    exact fun x hx => hs _ (e x hx)
  have gn : ∀ x ∈ ncasts, (Cond.not (.castable x.1 x.2)).before #[Value.ref b] s = true := by
    have e : ∀ x ∈ ncasts, Cond.not (.castable x.1 x.2) ∈ flatC (Jvm.Cond.and given_1 narrow_1) := by decide +kernel
    exact fun x hx => hs _ (e x hx)
  refine ⟨e0, mi, ⟨vx_Zqof (hts _ (by decide +kernel)) (hts _ (by decide +kernel)) g1 hA, vx_Zqof (hts _ (by decide +kernel)) (hts _ (by decide +kernel)) g2 hA, va_Zref (hts _ (by decide +kernel)) (hts _ (by decide +kernel)) he0 hA, hT, fun x hx => ?_, fun x hx => va_Nw.of rfl (hts _ (tb_casts x hx)), fun x hx => va_Nw.of rfl (hts _ (tb_decls x hx)), hmi, va_AO.of (hts _ (by decide +kernel)), va_AO.of (hts _ (by decide +kernel)), va_AOA.of (hts _ (by decide +kernel)), va_Nw.of rfl (hts _ (by decide +kernel))⟩, fun x hx => va_Nc.of (gn x hx)⟩
  obtain ⟨a, c, cell, k, h1, -⟩ := Cond.exactly_spec (gs x hx)
  exact ⟨a, vk_R.of (hts _ (tb_strs x hx)) h1⟩

/-! duties; the first world; the loop -/
set_option maxHeartbeats 4000000 in
set_option maxRecDepth 100000 in
theorem s_duties {p : Program} {l : Launch} {e : Env} {s : State} {m : MethodId} {below : List Frame} {meth : Method} {c : Code} {b Ls : Nat} {xs : Nat → Int32} {dC : Nat → ClassId} {dI : Nat → Nat → Nat} {cy : Nat → ClassId} {e0 mi oa : Nat} {ad : Lc → Nat} {L : List Lc} {S : SS} {N : NN} {f0 : Nat → Int64} {ad2 : Nat → Nat} {F : Nat → Int32} {C : Nat → Nat} {R : Nat → Nat → Int32} {T : Nat → Nat → Nat} {H : Heap} {ls : Array Slot} {t cells slots : Nat} {Q : State → Prop}
    (hF : LF p l s m c b Ls xs dC dI cy e0 mi) (hLs : Ls ≤ 3072) (ht : 6 * t + 6 ≤ Ls) (hc : cells + 100 ≤ 601024) (hsl : slots + 5000 ≤ 7293034) (hI0 : LI dC dI cy e0 oa ad2 s H ((ad, L, S, N), f0) (F, C, R, T)) (hl : lv_has ls 7 (lvL b oa t ad ad2))
    (kk : ∀ (H : Heap) (u : LU) (v : MS) (ls : Array Slot), LI dC dI cy e0 oa ad2 s H u v → lv_has ls 7 (lvL b oa t u.1.1 ad2) → W p l e room_1 s m (#[Value.ref b] : Array Value) below meth c H [] (cells + 100) (slots + 5000) Q (F0 m 1303 ls [])) :
    W p l e room_1 s m (#[Value.ref b] : Array Value) below meth c H [] cells slots Q (F0 m 872 ls []) := by
  obtain ⟨hx, hb, hml, hown, hts, hXs, hbl, hK, ham, hst⟩ := hF
  obtain ⟨hP, hD, hS, ⟨hI, hX⟩, hJ, hM⟩ := hI0
  have hA : ∀ q, s.heap.size ≤ q → freshA s q := fun q h => h
  have hP1 : va_P (dC, dI) vwCl (cw cy e0 ad L S N ++ ([(oa, .inl (cy 5, 1, .inr (.inl f0)))] ++ mwU ad2 cy (F, C, R, T))) H := by rw [← List.append_assoc]; exact hP
  have hD1 : va_D (freshA s) (cw cy e0 ad L S N ++ ([(oa, .inl (cy 5, 1, .inr (.inl f0)))] ++ mwU ad2 cy (F, C, R, T))) := by rw [← List.append_assoc]; exact hD
  obtain ⟨z10, hz10⟩ := pl_get (ad := ad) (f := cc cy e0 ad S N) (hI.1.2.2.2.1 10 (by decide))
  refine lv_aload_n hx hb dL_law_872 rfl (lv_at hl 3 rfl) ?_
  refine callY_i hP1 (va_runV (As := []) (rest := []) ⟨hx, hb, hml, hown, hts⟩ (qX3_duties l dC dI cy e0 mi ad L S N H.size hI) (cwV 0 hts gL_law_X3_duties rfl rfl rfl (by decide +kernel) ⟨Nat.le_of_ble_eq_true rfl, Nat.le_of_ble_eq_true rfl⟩) (preV hK (w_leftP hP1) (w_leftD hD1) (w_recv (ci := 4) (q0 := z10) hK (w_leftP hP1) hz10 rfl)) rfl rfl hl.1 rfl (lv_room (Nat.le_of_ble_eq_true rfl)) dL_law_873 ⟨by show _ ≤ 601024; omega, by show _ ≤ 7293034; omega⟩) hD1 hS hA (fun r1 u1 H locs hw hP hD hS => ?_)
  obtain ⟨e1, e2⟩ := hw
  subst e2
  have hP : va_P (dC, dI) vwCl (lwU cy e0 oa ((ad, L, S, N), f0) ++ mwU ad2 cy (F, C, R, T)) H := by
    show va_P _ _ ((cw cy e0 ad L S N ++ [(oa, .inl (cy 5, 1, .inr (.inl f0)))]) ++ mwU ad2 cy (F, C, R, T)) H
    rw [List.append_assoc]; exact hP
  have hD : va_D (freshA s) (lwU cy e0 oa ((ad, L, S, N), f0) ++ mwU ad2 cy (F, C, R, T)) := by
    show va_D _ ((cw cy e0 ad L S N ++ [(oa, .inl (cy 5, 1, .inr (.inl f0)))]) ++ mwU ad2 cy (F, C, R, T))
    rw [List.append_assoc]; exact hD
  refine lv_aload_n hx hb dL_law_876 rfl (lv_at hl 2 rfl) ?_
  have hPm := w_swP hP
  have hDm := w_swD hD
  refine callY_i hPm (va_runV (As := []) (rest := [.int r1]) ⟨hx, hb, hml, hown, hts⟩ (qX4_duties l dC dI cy ad2 F C R T H.size) (cwV 0 hts gL_law_X4_duties rfl rfl rfl (by decide +kernel) ⟨Nat.le_of_ble_eq_true rfl, Nat.le_of_ble_eq_true rfl⟩) (preV hK (w_leftP hPm) (w_leftD hDm) (w_recv (ci := 5) (q0 := 0) hK (w_leftP hPm) rfl rfl)) rfl rfl hl.1 rfl (lv_room (Nat.le_of_ble_eq_true rfl)) dL_law_877 ⟨by show _ ≤ 601024; omega, by show _ ≤ 7293034; omega⟩) hDm hS hA (fun r2 v2 H locs hw2 hP hD hS => ?_)
  obtain ⟨e3, e4⟩ := hw2
  subst e4
  have hP := w_swP hP
  have hD := w_swD hD
  have f3 : C 14 = N 5 0 0 := hJ.1.2.2.1
  refine lv_icmp_eq (tgt := 1303) hx hb dL_law_880 (by decide) (fun _ => ?_) (fun h9 => absurd (by rw [e1, e3, f3]) h9)
  exact va_forget (fun q hq => hS.2.2 q hq) (W.widen (k := cells + 100) (n := slots + 5000) (by omega) (by omega) (kk H ((ad, L, S, N), f0) (va_up F 0 0, C, R, T) _ ⟨hP, hD, ⟨hS.1, hS.2.1, fun _ h => by cases h⟩, ⟨hI, hX⟩, JJ_F 0 hJ, hM⟩ (lv_sub hl [0, 1, 2, 3, 4] rfl)))
/-! the first states -/
abbrev S00 : SS := fun _ _ _ => nI 0
abbrev N00 : NN := fun _ _ _ => 0
abbrev L00 : List Lc := [(10, 0), (11, 0), (12, 0), (13, 0), (14, 0), (16, 0)]
abbrev v00 : MS := (fun _ => 0, fun _ => 0, fun _ _ => nI 0, fun _ _ => 0)
theorem okC_00 : okC L00 N00 := ⟨⟨fun k i _ h => absurd h (Nat.not_lt_zero _), fun j h => absurd h (Nat.not_lt_zero _), fun c n _ h => absurd h (Nat.not_lt_zero _), fun k h => by
    rcases (show k = 10 ∨ k = 11 ∨ k = 12 ∨ k = 13 ∨ k = 14 ∨ k = 16 by omega) with rfl | rfl | rfl | rfl | rfl | rfl <;> decide, fun h => absurd rfl h, fun h => absurd rfl h⟩, fun i c h _ => absurd h (Nat.not_lt_zero _), fun c _ => Nat.zero_le _, fun v => by show 0 < 2; decide, fun j h => absurd h (Nat.not_lt_zero _), Nat.zero_le _, Nat.zero_le _, Nat.le_refl _, Nat.le_refl _, Nat.zero_le _, Nat.zero_le _⟩
theorem mem_00 {k i : Nat} (h : (k, i) ∈ L00) : (10 ≤ k ∧ k ≤ 14 ∨ k = 16) ∧ i = 0 := by
  simp only [L00, List.mem_cons, Prod.mk.injEq, List.not_mem_nil, or_false] at h
  omega
theorem okX_00 : okX L00 N00 := ⟨fun k i h1 h2 => by have := mem_00 h2; omega, fun j h => by have := mem_00 h; omega, fun v h => by have := mem_00 h; omega, fun k i _ h => (mem_00 h).2, fun h => by have := mem_00 h; omega, fun h => by have := mem_00 h; omega, Or.inl rfl, Nat.zero_le _⟩
theorem JJ_00 : JJ (S00, N00) v00 := by
  refine ⟨⟨nI_00.symm, rfl, rfl, Nat.zero_le _⟩, fun c hc => ⟨rfl, rfl, rfl, fun n hn => absurd hn (Nat.not_lt_zero _)⟩, fun i hi c hc => ⟨rfl, fun h => absurd rfl h, fun _ => ⟨rfl, rfl⟩, fun _ => rfl⟩, fun i hi => ⟨Or.inl rfl, Or.inl rfl, ?_, ?_, fun _ => ⟨rfl, rfl⟩⟩, ⟨fun j hj => absurd hj (Nat.not_lt_zero _), fun j _ _ => rfl⟩, fun i hi b hb => ⟨rfl, ?_⟩⟩
  · show nI 0 = (if nI 0 = nI 0 then nI 0 else nI 1) + (if nI 0 = nI 0 then nI 0 else nI 2)
    decide
  · show nI 0 = if nI 0 = 0 ∨ nI 0 = 0 then nI 0 else nI 1
    decide
  · exact nI_00
theorem jM_00 : jM (S00, N00) := fun i hi c hc h => absurd rfl h
theorem and31 (x : Int32) : ∃ j : Nat, j < 32 ∧ x &&& nI 31 = nI j := by
  refine ⟨x.toBitVec.toNat &&& 31, Nat.lt_of_le_of_lt Nat.and_le_right (by decide), ?_⟩
  apply Int32.toBitVec_inj.mp
  apply BitVec.eq_of_toNat_eq
  rw [Int32.toBitVec_and, BitVec.toNat_and]
  show x.toBitVec.toNat &&& 31 = (x.toBitVec.toNat &&& 31) % 2 ^ 32
  rw [Nat.mod_eq_of_lt (Nat.lt_of_le_of_lt Nat.and_le_right (by decide))]
theorem lt6 : ∀ n : Fin 6, nI n.val - nI 6 < nI 0 := by decide +kernel
theorem loop_in {Ls t : Nat} (hL : Ls ≤ 3072) (ht : 6 * t ≤ 3072) (h : ¬ nI Ls - nI 6 < nI (6 * t)) : 6 * t + 6 ≤ Ls := by
  by_cases h6 : 6 ≤ Ls
  · rw [pk_sub (a := Ls) (b := 6) h6] at h
    have h7 : ¬ Ls - 6 < 6 * t := fun q => h ((nI_ltI (a := Ls - 6) (b := 6 * t) (by omega) (by omega)).mpr q)
    omega
  · exact absurd (Int32.lt_of_lt_of_le (lt6 ⟨Ls, by omega⟩) (nI_le (Nat.zero_le _) (by omega))) h

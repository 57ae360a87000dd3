set_option maxHeartbeats 4000000 in
set_option maxRecDepth 100000 in
/-- from the entry, for every script of at most 3072 ints, the law comes to its end with true -/
theorem whole_start {p : Program} {e : Env} {s : State} {m : MethodId} {below : List Frame} {meth : Method} {c : Code} (l : Launch) (hflags : l.flags = flags0) {b L : Nat} {xs : Nat → Int32} (hL : L ≤ 3072) (C0 : lw_At p s m meth c b L xs) : W p l e room_1 s m #[Value.ref b] below meth c s.heap [] 0 0 (lw_Z below #[Value.ref b] s) (entryFrame m ([Value.ref b] : List Value).toArray 7) := by
  obtain ⟨hx, hb, hr, hml, hown, hts0, hXs, hbl, hlocks, hgv⟩ := C0
  obtain ⟨e0, mi, ham⟩ := law_am hts0 hgv
  obtain ⟨dC, dI, cy, hK⟩ := law_K hts0
  have hst := pk_flags hflags
  have hts : ∀ w ∈ wsL_law, w.before #[Value.ref b] s = true := fun w h => hts0 w (wsL_law_in w h)
  have hF : LF p l s m c b L xs dC dI cy e0 mi := ⟨hx, hb, hml, hown, hts, hXs, hbl, hK, ham, hst⟩
  have hA : ∀ q, s.heap.size ≤ q → freshA s q := fun q h => h
  have w1 : (Cond.classLink RL 8 RX3).before #[Value.ref b] s = true := hts0 _ (by decide +kernel)
  have w2 : (Cond.instantiable RX3 6).before #[Value.ref b] s = true := hts0 _ (by decide +kernel)
  have w3 : (Cond.initialized RX3).before #[Value.ref b] s = true := hts0 _ (by decide +kernel)
  have w4 : (Cond.classLink RL 78 RX4).before #[Value.ref b] s = true := hts0 _ (by decide +kernel)
  have w5 : (Cond.instantiable RX4 22).before #[Value.ref b] s = true := hts0 _ (by decide +kernel)
  have w6 : (Cond.initialized RX4).before #[Value.ref b] s = true := hts0 _ (by decide +kernel)
  have w7 : (Cond.methodLink RL 77 yX3_init).before #[Value.ref b] s = true := hts0 _ (by decide +kernel)
  have w8 : (Cond.instanceMethod yX3_init).before #[Value.ref b] s = true := hts0 _ (by decide +kernel)
  have w9 : (Cond.methodLink RL 80 yX4_init).before #[Value.ref b] s = true := hts0 _ (by decide +kernel)
  have w10 : (Cond.instanceMethod yX4_init).before #[Value.ref b] s = true := hts0 _ (by decide +kernel)
  have w11 : (Cond.arrayClass .long).before #[Value.ref b] s = true := hts0 _ (by decide +kernel)
  have hl := lv_entry [Value.ref b] (n := 7) (Nat.le_of_ble_eq_true rfl)
  rw [show lv_args 0 [Value.ref b] = [(0, .ref b)] from rfl] at hl
  rw [lg_entry_eq]
  have hP : va_P (dC, dI) vwCl [] s.heap := fun k q h => by cases h
  have hD : va_D (freshA s) [] := ⟨(fun i j p q h => by cases h), (fun k q h => by cases h)⟩
  have hS : va_S (freshA s) s.heap s.heap [] := va_S.rf
  refine va_new (D := (dC, dI)) (ci := 4) (C := RX3) (T := TX3) (N := 6) (fs := [.null, .null, .null, .null, .null, .int 0]) hx hb hts inlX3 tyX3 tyX3_ok hown w1 w2 w3 hK hP hD hS hA rfl (by decide +kernel) (Nat.le_of_ble_eq_true rfl) (Nat.le_of_ble_eq_true rfl) dL_law_0 (fun q1 H hP hD hS => ?_)
  have hP : va_P (dC, dI) vwCl [(q1, .inr (4, [.null, .null, .null, .null, .null, .int 0]))] H := hP
  have hD : va_D (freshA s) [(q1, .inr (4, [.null, .null, .null, .null, .null, .int 0]))] := hD
  refine lv_dup hx hb dL_law_3 rfl ?_
  refine call_v (va_runI (As := []) (rest := [.ref q1]) ⟨hx, hb, hml, hown, hts⟩ (qX3_init l dC dI cy e0 mi [(q1, .inr (4, [.null, .null, .null, .null, .null, .int 0]))] H.size q1 0 rfl) (cwI 0 hts gL_law_X3_init rfl rfl rfl w3 w7 w8 rfl (by decide +kernel) ⟨Nat.le_of_ble_eq_true rfl, Nat.le_of_ble_eq_true rfl⟩) (preXS (As := [.ref q1]) hK hP hD hS hA ham.1) rfl rfl hl.1 rfl (lv_room (Nat.le_of_ble_eq_true rfl)) dL_law_4 ⟨Nat.le_of_ble_eq_true rfl, Nat.le_of_ble_eq_true rfl⟩) hD hS hA (fun f1 H locs _ hP hD hS => ?_)
  have hP : va_P (dC, dI) vwCl (cw cy e0 (ad00 q1 f1) L00 S00 N00) H := by rw [cw_00]; exact hP
  have hD : va_D (freshA s) (cw cy e0 (ad00 q1 f1) L00 S00 N00) := by rw [cw_00]; exact hD
  refine lv_astore_n (lv' := [(1, .ref q1), (0, .ref b)]) hx hb dL_law_7 rfl hl (by decide) rfl (fun ls hl => ?_)
  generalize hX0 : cw cy e0 (ad00 q1 f1) L00 S00 N00 = X0 at hP hD
  refine va_new (D := (dC, dI)) (ci := 5) (C := RX4) (T := TX4) (N := 22) (fs := [.int 0, .int 0, .null, .null, .null, .null, .null, .null, .null, .int 0, .null, .null, .null, .null, .int 0, .null, .null, .null, .null, .null, .null, .null]) hx hb hts inlX4 tyX4 tyX4_ok hown w4 w5 w6 hK hP hD hS hA rfl (by decide +kernel) (Nat.le_of_ble_eq_true rfl) (Nat.le_of_ble_eq_true rfl) dL_law_8 (fun q2 H hP hD hS => ?_)
  refine lv_dup hx hb dL_law_11 rfl ?_
  refine call_v (va_runI (As := []) (rest := [.ref q2]) ⟨hx, hb, hml, hown, hts⟩ (qX4_init l dC dI cy e0 mi (X0 ++ [(q2, .inr (5, [.int 0, .int 0, .null, .null, .null, .null, .null, .null, .null, .int 0, .null, .null, .null, .null, .int 0, .null, .null, .null, .null, .null, .null, .null]))]) H.size q2 (X0.length + 0) (app_r rfl)) (cwI 0 hts gL_law_X4_init rfl rfl rfl w6 w9 w10 rfl (by decide +kernel) ⟨Nat.le_of_ble_eq_true rfl, Nat.le_of_ble_eq_true rfl⟩) (preS (As := [.ref q2]) hK hP hD) rfl rfl hl.1 rfl (lv_room (Nat.le_of_ble_eq_true rfl)) dL_law_12 ⟨Nat.le_of_ble_eq_true rfl, Nat.le_of_ble_eq_true rfl⟩) hD hS hA (fun f2 H locs _ hP hD hS => ?_)
  rw [app_setr, List.append_assoc] at hP hD
  have hP : va_P (dC, dI) vwCl (X0 ++ mwU (ae00 q2 f2) cy v00) H := by rw [mw_00]; exact hP
  have hD : va_D (freshA s) (X0 ++ mwU (ae00 q2 f2) cy v00) := by rw [mw_00]; exact hD
  refine lv_astore_n (lv' := [(2, .ref q2), (1, .ref q1), (0, .ref b)]) hx hb dL_law_15 rfl hl (by decide) rfl (fun ls hl => ?_)
  refine lv_iconst (v := nI 1) hx hb dL_law_16 (by decide) ?_
  refine va_newa (atype := .long) (ty := .long) (N' := 1) (a0 := (1, .inr (.inl (fun _ => 0)))) hx hb w11 rfl hK hP hD hS hA (fun cA => rfl) (by decide) (nI_clamp (by decide)) (by decide) (Nat.le_of_ble_eq_true rfl) (Nat.le_of_ble_eq_true rfl) dL_law_17 (fun q3 cA H hK1 hP hD hS => ?_)
  have ec : cA = cy 5 := K_cA hK1 (t0 := 5) rfl
  subst ec
  have hP := va_P.swap hP
  have hD := va_D.swap hD
  rw [← hX0] at hP hD
  refine lv_astore_n (lv' := [(3, .ref q3), (2, .ref q2), (1, .ref q1), (0, .ref b)]) hx hb dL_law_19 rfl hl (by decide) rfl (fun ls hl => ?_)
  refine lv_iconst (v := nI 0) hx hb dL_law_20 (by decide) ?_
  refine lv_istore (lv' := lvL b q3 0 (ad00 q1 f1) (ae00 q2 f2)) hx hb dL_law_21 hl (by decide) rfl (fun ls hl => ?_)
  exact va_forget (fun q hq => hS.2.2 q hq) (W.widen (k := 40 + 100 * 0) (n := 2000 + 5000 * 0) (by decide) (by decide) (law_loop hF hL hr hlocks 512 0 rfl (Nat.zero_le _) H ((ad00 q1 f1, L00, S00, N00), fun _ => 0) v00 ls ⟨hP, hD, ⟨hS.1, hS.2.1, fun _ h => by cases h⟩, ⟨okC_00, okX_00⟩, JJ_00, jM_00⟩ hl))

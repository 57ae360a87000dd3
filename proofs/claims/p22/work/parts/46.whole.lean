set_option maxHeartbeats 8000000 in
set_option maxRecDepth 100000 in
/-- from the entry, for every script of at most 260 ints, the law comes to its end with true -/
theorem whole_start {p : Program} {e : Env} {s : State} {m : MethodId} {below : List Frame} {meth : Method} {c : Code} (l : Launch) (hflags : l.flags = flags0) {b L : Nat} {xs : Nat → Int32} (hL : L ≤ 260) (C0 : lw_At p s m meth c b L xs) : W p l e room_1 s m #[Value.ref b] below meth c s.heap [] 0 0 (lw_Z below #[Value.ref b] s) (entryFrame m ([Value.ref b] : List Value).toArray 15) := by
  obtain ⟨hx, hb, hr, hml, hown, hts0, hXs, hbl, hlocks, hgv⟩ := C0
  obtain ⟨e0, mi, ham⟩ := law_am hts0 hgv
  obtain ⟨dC, dI, cy, hK⟩ := law_K hts0
  have hst := pk_flags hflags
  have hts : ∀ w ∈ wsL_law, w.before #[Value.ref b] s = true := fun w h => hts0 w (wsL_law_in w h)
  have hF : LF p l s m c b L xs dC dI cy e0 mi := ⟨hx, hb, hml, hown, hts, hXs, hbl, hK, ham, hst⟩
  have hA : ∀ q, s.heap.size ≤ q → freshA s q := fun q h => h
  have w1 : (Cond.classLink RL 9 RX3).before #[Value.ref b] s = true := hts0 _ (by decide +kernel)
  have w2 : (Cond.instantiable RX3 6).before #[Value.ref b] s = true := hts0 _ (by decide +kernel)
  have w3 : (Cond.initialized RX3).before #[Value.ref b] s = true := hts0 _ (by decide +kernel)
  have w7 : (Cond.methodLink RL 144 yX3_init).before #[Value.ref b] s = true := hts0 _ (by decide +kernel)
  have w8 : (Cond.instanceMethod yX3_init).before #[Value.ref b] s = true := hts0 _ (by decide +kernel)
  have w11 : (Cond.arrayClass .int).before #[Value.ref b] s = true := hts0 _ (by decide +kernel)
  have hl := lv_entry [Value.ref b] (n := 15) (Nat.le_of_ble_eq_true rfl)
  rw [show lv_args 0 [Value.ref b] = [(0, .ref b)] from rfl] at hl
  rw [lg_entry_eq]
  have hP : va_P (dC, dI) vwCl [] s.heap := fun k q h => by cases h
  have hD : va_D (freshA s) [] := ⟨(fun i j p q h => by cases h), (fun k q h => by cases h)⟩
  have hS : va_S (freshA s) s.heap s.heap [] := va_S.rf
  refine va_new (D := (dC, dI)) (ci := 4) (C := RX3) (T := TX3) (N := 6) (fs := [.null, .null, .null, .null, .null, .int 0]) hx hb hts inlX3 tyX3 tyX3_ok hown w1 w2 w3 hK hP hD hS hA rfl (by decide +kernel) (Nat.le_of_ble_eq_true rfl) (Nat.le_of_ble_eq_true rfl) dL_law_0 (fun q1 H hP hD hS => ?_)
  have hP : va_P (dC, dI) vwCl [(q1, .inr (4, [.null, .null, .null, .null, .null, .int 0]))] H := hP
  have hD : va_D (freshA s) [(q1, .inr (4, [.null, .null, .null, .null, .null, .int 0]))] := hD
  refine lv_dup hx hb dL_law_3 rfl ?_
  refine call_v (va_runI (As := []) (rest := [.ref q1]) ⟨hx, hb, hml, hown, hts⟩ (qX3_init l dC dI cy e0 mi [(q1, .inr (4, [.null, .null, .null, .null, .null, .int 0]))] H.size q1 0 rfl) (cwI 0 hts gL_law_X3_init rfl rfl rfl w3 w7 w8 rfl (by decide +kernel) ⟨Nat.le_of_ble_eq_true rfl, Nat.le_of_ble_eq_true rfl⟩) (preXS (As := [.ref q1]) hK hP hD hS hA ham.1) rfl rfl hl.1 rfl (lv_room (Nat.le_of_ble_eq_true rfl)) dL_law_4 ⟨Nat.le_of_ble_eq_true rfl, Nat.le_of_ble_eq_true rfl⟩) hD hS hA (fun f1 H locs _ hP hD hS => ?_)
  have hP : va_P (dC, dI) vwCl (cw cy e0 (ad00 q1 f1) L00 S00 N00) H := by rw [cw_00]; exact hP
  have hD : va_D (freshA s) (cw cy e0 (ad00 q1 f1) L00 S00 N00) := by rw [cw_00]; exact hD
  generalize hX0 : cw cy e0 (ad00 q1 f1) L00 S00 N00 = X0 at hP hD
  refine lv_astore_n (lv' := [(1, .ref q1), (0, .ref b)]) hx hb dL_law_7 rfl hl (by decide) rfl (fun ls hl => ?_)
  refine lv_bipush (v := nI 6) hx hb dL_law_8 (by decide) ?_
  refine x_newi hx hb w11 hK hP hD hS hA (N := 6) (cA := cy 0) 0 rfl (by omega) (Nat.le_of_ble_eq_true rfl) (Nat.le_of_ble_eq_true rfl) dL_law_10 (fun n0 H hP hD hS => ?_)
  refine lv_astore_n (lv' := [(2, .ref n0), (1, .ref q1), (0, .ref b)]) hx hb dL_law_12 rfl hl (by decide) rfl (fun ls hl => ?_)
  refine lv_bipush (v := nI 6) hx hb dL_law_13 (by decide) ?_
  refine x_newi hx hb w11 hK hP hD hS hA (N := 6) (cA := cy 0) 0 rfl (by omega) (Nat.le_of_ble_eq_true rfl) (Nat.le_of_ble_eq_true rfl) dL_law_15 (fun n1 H hP hD hS => ?_)
  refine lv_astore_n (lv' := [(3, .ref n1), (2, .ref n0), (1, .ref q1), (0, .ref b)]) hx hb dL_law_17 rfl hl (by decide) rfl (fun ls hl => ?_)
  refine lv_bipush (v := nI 54) hx hb dL_law_18 (by decide) ?_
  refine x_newi hx hb w11 hK hP hD hS hA (N := 54) (cA := cy 0) 0 rfl (by omega) (Nat.le_of_ble_eq_true rfl) (Nat.le_of_ble_eq_true rfl) dL_law_20 (fun n2 H hP hD hS => ?_)
  refine lv_astore (lv' := [(4, .ref n2), (3, .ref n1), (2, .ref n0), (1, .ref q1), (0, .ref b)]) hx hb dL_law_22 hl (by decide) rfl (fun ls hl => ?_)
  refine lv_bipush (v := nI 60) hx hb dL_law_24 (by decide) ?_
  refine x_newi hx hb w11 hK hP hD hS hA (N := 60) (cA := cy 0) 0 rfl (by omega) (Nat.le_of_ble_eq_true rfl) (Nat.le_of_ble_eq_true rfl) dL_law_26 (fun n3 H hP hD hS => ?_)
  refine lv_astore (lv' := [(5, .ref n3), (4, .ref n2), (3, .ref n1), (2, .ref n0), (1, .ref q1), (0, .ref b)]) hx hb dL_law_28 hl (by decide) rfl (fun ls hl => ?_)
  refine lv_bipush (v := nI 10) hx hb dL_law_30 (by decide) ?_
  refine x_newi hx hb w11 hK hP hD hS hA (N := 10) (cA := cy 0) 0 rfl (by omega) (Nat.le_of_ble_eq_true rfl) (Nat.le_of_ble_eq_true rfl) dL_law_32 (fun n4 H hP hD hS => ?_)
  refine lv_astore (lv' := [(6, .ref n4), (5, .ref n3), (4, .ref n2), (3, .ref n1), (2, .ref n0), (1, .ref q1), (0, .ref b)]) hx hb dL_law_34 hl (by decide) rfl (fun ls hl => ?_)
  refine lv_bipush (v := nI 60) hx hb dL_law_36 (by decide) ?_
  refine x_newi hx hb w11 hK hP hD hS hA (N := 60) (cA := cy 0) 0 rfl (by omega) (Nat.le_of_ble_eq_true rfl) (Nat.le_of_ble_eq_true rfl) dL_law_38 (fun n5 H hP hD hS => ?_)
  refine lv_astore (lv' := [(7, .ref n5), (6, .ref n4), (5, .ref n3), (4, .ref n2), (3, .ref n1), (2, .ref n0), (1, .ref q1), (0, .ref b)]) hx hb dL_law_40 hl (by decide) rfl (fun ls hl => ?_)
  refine lv_bipush (v := nI 60) hx hb dL_law_42 (by decide) ?_
  refine x_newi hx hb w11 hK hP hD hS hA (N := 60) (cA := cy 0) 0 rfl (by omega) (Nat.le_of_ble_eq_true rfl) (Nat.le_of_ble_eq_true rfl) dL_law_44 (fun n6 H hP hD hS => ?_)
  refine lv_astore (lv' := [(8, .ref n6), (7, .ref n5), (6, .ref n4), (5, .ref n3), (4, .ref n2), (3, .ref n1), (2, .ref n0), (1, .ref q1), (0, .ref b)]) hx hb dL_law_46 hl (by decide) rfl (fun ls hl => ?_)
  refine lv_iconst (v := nI 3) hx hb dL_law_48 (by decide) ?_
  refine x_newi hx hb w11 hK hP hD hS hA (N := 3) (cA := cy 0) 0 rfl (by omega) (Nat.le_of_ble_eq_true rfl) (Nat.le_of_ble_eq_true rfl) dL_law_49 (fun n7 H hP hD hS => ?_)
  refine lv_astore (lv' := [(9, .ref n7), (8, .ref n6), (7, .ref n5), (6, .ref n4), (5, .ref n3), (4, .ref n2), (3, .ref n1), (2, .ref n0), (1, .ref q1), (0, .ref b)]) hx hb dL_law_51 hl (by decide) rfl (fun ls hl => ?_)
  simp only [List.append_assoc, List.cons_append, List.nil_append] at hP hD
  have hP : va_P (dC, dI) vwCl (X0 ++ yw (fun k => [n0, n1, n2, n3, n4, n5, n6, n7].getD k 0) cy (fun _ _ => 0) (fun _ => nI 0) (nI 0) 0 0) H := by rw [yw_00]; exact hP
  have hD : va_D (freshA s) (X0 ++ yw (fun k => [n0, n1, n2, n3, n4, n5, n6, n7].getD k 0) cy (fun _ _ => 0) (fun _ => nI 0) (nI 0) 0 0) := by rw [yw_00]; exact hD
  rw [← hX0] at hP hD
  exact W.widen (k := 20) (n := 400) (by decide) (by decide) (law_go hF hL hr hlocks hP hD hS (lv_sub hl [9, 8, 7, 6, 5, 4, 3, 2, 1, 0] rfl) okC_00 okX_00 rfl RZ_00)

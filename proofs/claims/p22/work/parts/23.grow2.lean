set_option maxHeartbeats 4000000 in
set_option maxRecDepth 100000 in
/-- grow(1) of an empty list -/
theorem qgrow1_A (l : Launch) (dC : Nat → ClassId) (dI : Nat → Nat → Nat) (cy : Nat → ClassId) (e0 mi : Nat) (ws : va_W) (sz : Nat) (a0 k0 : Nat) (mc0 : Int32) (hk0 : ws[k0]? = some (a0, .inr (0, [.int mc0, .ref e0, .int (nI 0)]))) : Met l yJx4a65c_grow_92f84 wsJx4a65c_grow_92f84 ({ frames := 1, cells := 1, slots := 400, locals := 40 }) (va_Pc [.ref a0, .int (nI 1)] (wPreX (dC, dI) (tyL cy) e0 mi (ws) sz)) (QR (dC, dI) (tyL cy) (fun (r : Nat) (b : Nat) => r = b) (fun (b : Nat) => ws.set k0 (a0, .inr (0, [.int mc0, .ref b, .int (nI 0)])) ++ [(b, .inl (cy 3, 10, .inr (.inr (.inr (.inr (fun _ => none))))))]) (va_A (ws) sz)) 1 400 (va_A (ws) sz) := by
  refine enA (cc := cJx4a65c_grow_92f84) (maxL := 4) (ret := (some (.array (.object "java/lang/Object")))) (own := RJx4a65c) (lv := [(0, .ref a0), (1, .int (nI 1))]) (by decide) rfl rfl (Nat.le_of_ble_eq_true rfl) rfl ?_
  intro p e s m below meth c ls A H locs hx hb hr hts hown hlocks hml hin hsz hK hP hD hS hA hl ham
  generalize hQQ : MQ below _ _ s _ _ A = QQ
  have inJx4a65c_ : ∀ w ∈ wsJx4a65c0, w ∈ wsJx4a65c_grow_92f84 := fun _ h => List.mem_cons_of_mem _ (List.mem_append_right _ h)
  have lk0 : (Cond.fieldLink RJx4a65c 9 "java/util/ArrayList" "elementData" "[Ljava/lang/Object;").before (([.ref a0, .int (nI 1)] : List Value).toArray) s = true := hts _ (List.mem_of_getElem? (i := 1) rfl)
  have lk1 : (Cond.fieldLink RJx4a65c 39 "java/util/ArrayList" "DEFAULTCAPACITY_EMPTY_ELEMENTDATA" "[Ljava/lang/Object;").before (([.ref a0, .int (nI 1)] : List Value).toArray) s = true := hts _ (List.mem_of_getElem? (i := 2) rfl)
  have lk2 : (Cond.methodLink RJx4a65c 79 Lib.Math.max.name).before (([.ref a0, .int (nI 1)] : List Value).toArray) s = true := hts _ (List.mem_of_getElem? (i := 3) rfl)
  have lk3 : (Cond.static Lib.Math.max.name).before (([.ref a0, .int (nI 1)] : List Value).toArray) s = true := hts _ (List.mem_of_getElem? (i := 4) rfl)
  have lk4 : (Cond.initialized "java/lang/Math").before (([.ref a0, .int (nI 1)] : List Value).toArray) s = true := hts _ (List.mem_of_getElem? (i := 5) rfl)
  have lk5 : (Cond.code Lib.Math.max.name Lib.Math.max.code 2 (some .int)).before (([.ref a0, .int (nI 1)] : List Value).toArray) s = true := hts _ (List.mem_of_getElem? (i := 6) rfl)
  have lk6 : (Cond.classLink RJx4a65c 7 "java/lang/Object").before (([.ref a0, .int (nI 1)] : List Value).toArray) s = true := hts _ (List.mem_of_getElem? (i := 7) rfl)
  refine lv_aload_n hx hb dJx4a65c_grow_92f84_0 rfl (lv_at hl 0 rfl) ?_
  refine va_get (D := (dC, dI)) (ci := 0) (v := .ref e0) (C := RJx4a65c) (T := TJx4a65c) (N := 3) hx hb hts inJx4a65c_ hown hK hP k0 hk0 rfl 1 (by decide) lk0 (fun _ h9 => h9) rfl dJx4a65c_grow_92f84_1 ?_
  refine va_tlen hx hb ham.2.2.2.1 hS (v := nI 0) rfl dJx4a65c_grow_92f84_4 ?_
  refine lv_istore_n (lv' := [(2, .int (nI 0)), (0, .ref a0), (1, .int (nI 1))]) hx hb dJx4a65c_grow_92f84_5 rfl hl (by decide) rfl (fun ls hl => ?_)
  refine lv_iload_n hx hb dJx4a65c_grow_92f84_6 rfl (lv_at hl 0 rfl) ?_
  refine lv_if_gt (tgt := 20) hx hb dJx4a65c_grow_92f84_7 (by decide) (fun h9 => absurd h9 (by decide)) (fun _ => ?_)
  refine lv_aload_n hx hb dJx4a65c_grow_92f84_10 rfl (lv_at hl 1 rfl) ?_
  refine va_get (D := (dC, dI)) (ci := 0) (v := .ref e0) (C := RJx4a65c) (T := TJx4a65c) (N := 3) hx hb hts inJx4a65c_ hown hK hP k0 hk0 rfl 1 (by decide) lk0 (fun _ h9 => h9) rfl dJx4a65c_grow_92f84_11 ?_
  refine va_gets hx hb ham.2.2.1 hS hown lk1 (fun _ h9 => h9) dJx4a65c_grow_92f84_14 ?_
  refine lv_acmp_eq (rx := some e0) (ry := some e0) (tgt := 45) hx hb dJx4a65c_grow_92f84_17 (by decide) (fun _ => ?_) (fun h9 => absurd rfl h9)
  refine lv_aload_n hx hb dJx4a65c_grow_92f84_45 rfl (lv_at hl 1 rfl) ?_
  refine lv_bipush (v := nI 10) hx hb dJx4a65c_grow_92f84_46 (by decide) ?_
  refine lv_iload_n hx hb dJx4a65c_grow_92f84_48 rfl (lv_at hl 2 rfl) ?_
  refine va_mmax hx hb (hml.trans hl.1.symm) hown lk2 lk3 lk4 lk5 (Nat.le_of_ble_eq_true rfl) (Nat.le_of_ble_eq_true rfl) (Nat.zero_le _) (Nat.zero_le _) dJx4a65c_grow_92f84_49 ?_
  refine to_i (y := nI 10) (by decide) ?_
  refine x_newq hx hb hown lk6 ham.2.2.2.2.2.2.2.2.2.1 hK hP hD hS hA (cA := cy 3) 3 rfl (by omega) (Nat.le_of_ble_eq_true rfl) (by show 0 + 10 ≤ 400; omega) dJx4a65c_grow_92f84_52 (fun b H hP hD hS => ?_)
  have hP : va_P (dC, dI) vwCl (ws ++ [(b, .inl (cy 3, 10, .inr (.inr (.inr (.inr (fun _ => none))))))]) H := hP
  have hD : va_D A (ws ++ [(b, .inl (cy 3, 10, .inr (.inr (.inr (.inr (fun _ => none))))))]) := hD
  refine lv_dup_x1 hx hb dJx4a65c_grow_92f84_55 rfl rfl ?_
  refine va_put (D := (dC, dI)) (ci := 0) (v := .ref b) (ty := .array (.object "java/lang/Object")) (C := RJx4a65c) (T := TJx4a65c) (N := 3) hx hb hts inJx4a65c_ tyJx4a65c tyJx4a65c_ok nmJx4a65c hown hK hP hD hS k0 (app_at hk0) rfl 1 (by decide) lk0 (fun _ h9 => h9) rfl (by decide +kernel) rfl rfl (Nat.le_of_ble_eq_true rfl) dJx4a65c_grow_92f84_56 (fun H locs hP hD hS => ?_)
  rw [app_set hk0] at hP hD
  have hP : va_P (dC, dI) vwCl ((ws.set k0 (a0, .inr (0, [.int mc0, .ref b, .int (nI 0)]))) ++ [(b, .inl (cy 3, 10, .inr (.inr (.inr (.inr (fun _ => none))))))]) H := hP
  have hD : va_D A ((ws.set k0 (a0, .inr (0, [.int mc0, .ref b, .int (nI 0)]))) ++ [(b, .inl (cy 3, 10, .inr (.inr (.inr (.inr (fun _ => none))))))]) := hD
  rw [← hQQ]; exact end_r (u := b) hx hb hr (Or.inr ⟨_, rfl⟩) hlocks dJx4a65c_grow_92f84_59 hK hP hD hS rfl (Nat.le_of_ble_eq_true rfl) (by show 0 + 10 ≤ 400; omega)

set_option maxHeartbeats 4000000 in
set_option maxRecDepth 100000 in
/-- grow(n + 1) of a full list -/
theorem qgrow1_C (l : Launch) (dC : Nat → ClassId) (dI : Nat → Nat → Nat) (cy : Nat → ClassId) (e0 mi : Nat) (ws : va_W) (sz : Nat) (a0 b0 k0 k1 n : Nat) (mc0 : Int32) (row : Nat → Option Nat) (hk0 : ws[k0]? = some (a0, .inr (0, [.int mc0, .ref b0, .int (nI n)]))) (hk1 : ws[k1]? = some (b0, .inl (cy 3, n, .inr (.inr (.inr (.inr row)))))) (hel : (∀ i : Nat, i < n → ∀ y : Nat, row i = some y → ∃ (k9 ci : Nat) (fs : List Value) (r9 : vw_C), ws[k9]? = some (y, .inr (ci, fs)) ∧ vwCl[ci]? = some r9 ∧ (r9.1, "java/lang/Object") ∈ casts)) (hn : n ≤ 200) (hn1 : ¬ n = 0) : Met l yJx4a65c_grow_92f84 wsJx4a65c_grow_92f84 ({ frames := 4, cells := 1, slots := 400, locals := 124 }) (va_Pc [.ref a0, .int (nI (n + 1))] (wPreX (dC, dI) (tyL cy) e0 mi (ws) sz)) (QR (dC, dI) (tyL cy) (fun (r : Nat) (b : Nat) => r = b) (fun (b : Nat) => ws.set k0 (a0, .inr (0, [.int mc0, .ref b, .int (nI n)])) ++ [(b, .inl (cy 3, n + mx n, .inr (.inr (.inr (.inr (fun i => if i < n then row i else none))))))]) (va_A (ws) sz)) 1 400 (va_A (ws) sz) := by
  refine enA (cc := cJx4a65c_grow_92f84) (maxL := 4) (ret := (some (.array (.object "java/lang/Object")))) (own := RJx4a65c) (lv := [(0, .ref a0), (1, .int (nI (n + 1)))]) (by decide) rfl rfl (Nat.le_of_ble_eq_true rfl) rfl ?_
  intro p e s m below meth c ls A H locs hx hb hr hts hown hlocks hml hin hsz hK hP hD hS hA hl ham
  generalize hQQ : MQ below _ _ s _ _ A = QQ
  have inJx4a65c_ : ∀ w ∈ wsJx4a65c0, w ∈ wsJx4a65c_grow_92f84 := fun _ h => List.mem_cons_of_mem _ (List.mem_append_right _ h)
  have lk0 : (Cond.fieldLink RJx4a65c 9 "java/util/ArrayList" "elementData" "[Ljava/lang/Object;").before (([.ref a0, .int (nI (n + 1))] : List Value).toArray) s = true := hts _ (List.mem_of_getElem? (i := 1) rfl)
  have hmn := mx_le n
  refine lv_aload_n hx hb dJx4a65c_grow_92f84_0 rfl (lv_at hl 0 rfl) ?_
  refine va_get (D := (dC, dI)) (ci := 0) (v := .ref b0) (C := RJx4a65c) (T := TJx4a65c) (N := 3) hx hb hts inJx4a65c_ hown hK hP k0 hk0 rfl 1 (by decide) lk0 (fun _ h9 => h9) rfl dJx4a65c_grow_92f84_1 ?_
  refine va_alen hx hb hK hP k1 3 hk1 rfl (v := nI n) rfl dJx4a65c_grow_92f84_4 ?_
  refine lv_istore_n (lv' := [(2, .int (nI n)), (0, .ref a0), (1, .int (nI (n + 1)))]) hx hb dJx4a65c_grow_92f84_5 rfl hl (by decide) rfl (fun ls hl => ?_)
  refine lv_iload_n hx hb dJx4a65c_grow_92f84_6 rfl (lv_at hl 0 rfl) ?_
  refine n_if_gt (tgt := 20) hx hb dJx4a65c_grow_92f84_7 (by decide) (by omega) (fun _ => ?_) (fun h9 => by omega)
  refine lv_iload_n hx hb dJx4a65c_grow_92f84_20 rfl (lv_at hl 0 rfl) ?_
  refine lv_iload_n hx hb dJx4a65c_grow_92f84_21 rfl (lv_at hl 2 rfl) ?_
  refine lv_iload_n hx hb dJx4a65c_grow_92f84_22 rfl (lv_at hl 0 rfl) ?_
  refine lv_isub hx hb dJx4a65c_grow_92f84_23 ?_
  refine to_i (y := nI 1) ((pk_sub (by omega)).trans (congrArg nI (by omega))) ?_
  refine lv_iload_n hx hb dJx4a65c_grow_92f84_24 rfl (lv_at hl 0 rfl) ?_
  refine lv_iconst (v := nI 1) hx hb dJx4a65c_grow_92f84_25 (by decide) ?_
  refine lv_ishr hx hb dJx4a65c_grow_92f84_26 ?_
  refine to_i (y := nI (n / 2)) (nI_shr ⟨n, by omega⟩) ?_
  refine call_i (va_runS (As := [.int (nI n), .int (nI 1), .int (nI (n / 2))]) (rest := []) ⟨hx, hb, hml, hown, hts⟩ (qJ8_newLength_cabcc l dC dI cy e0 mi ws H.size n hn) (va_cwS 3 hts gJx4a65c_grow_92f84_J8_newLength_cabcc rfl rfl rfl (by decide +kernel) ⟨Nat.le_of_ble_eq_true rfl, Nat.le_of_ble_eq_true rfl⟩) (preS hK hP hD) rfl rfl hl.1 rfl (lv_room (Nat.le_of_ble_eq_true rfl)) dJx4a65c_grow_92f84_27 ⟨Nat.le_of_ble_eq_true rfl, Nat.le_of_ble_eq_true rfl⟩) hD hS hA (fun r_1 _ H locs w_2 hP hD hS => ?_)
  subst w_2
  have hP : va_P (dC, dI) vwCl (ws) H := hP
  have hD : va_D A (ws) := hD
  refine lv_istore_n (lv' := [(3, .int (nI (n + mx n))), (2, .int (nI n)), (0, .ref a0), (1, .int (nI (n + 1)))]) hx hb dJx4a65c_grow_92f84_30 rfl hl (by decide) rfl (fun ls hl => ?_)
  refine lv_aload_n hx hb dJx4a65c_grow_92f84_31 rfl (lv_at hl 2 rfl) ?_
  refine lv_aload_n hx hb dJx4a65c_grow_92f84_32 rfl (lv_at hl 2 rfl) ?_
  refine va_get (D := (dC, dI)) (ci := 0) (v := .ref b0) (C := RJx4a65c) (T := TJx4a65c) (N := 3) hx hb hts inJx4a65c_ hown hK hP k0 hk0 rfl 1 (by decide) lk0 (fun _ h9 => h9) rfl dJx4a65c_grow_92f84_33 ?_
  refine lv_iload_n hx hb dJx4a65c_grow_92f84_36 rfl (lv_at hl 0 rfl) ?_
  refine call_r (va_runS (As := [.ref b0, .int (nI (n + mx n))]) (rest := [.ref a0]) ⟨hx, hb, hml, hown, hts⟩ (qJ7_copyOf_1904c l dC dI cy e0 mi ws H.size b0 k1 n (n + mx n) row hk1 hel (by omega) (by omega) (by omega)) (va_cwS 2 hts gJx4a65c_grow_92f84_J7_copyOf_1904c rfl rfl rfl (by decide +kernel) ⟨Nat.le_of_ble_eq_true rfl, Nat.le_of_ble_eq_true rfl⟩) (preXS hK hP hD hS hA ham) rfl rfl hl.1 rfl (lv_room (Nat.le_of_ble_eq_true rfl)) dJx4a65c_grow_92f84_37 ⟨Nat.le_of_ble_eq_true rfl, Nat.le_of_ble_eq_true rfl⟩) hD hS hA (fun r_3 u H locs w_4 hP hD hS => ?_)
  subst w_4
  have hP : va_P (dC, dI) vwCl (ws ++ [(r_3, .inl (cy 3, n + mx n, .inr (.inr (.inr (.inr (fun i => if i < n then row i else none))))))]) H := hP
  have hD : va_D A (ws ++ [(r_3, .inl (cy 3, n + mx n, .inr (.inr (.inr (.inr (fun i => if i < n then row i else none))))))]) := hD
  refine lv_dup_x1 hx hb dJx4a65c_grow_92f84_40 rfl rfl ?_
  refine va_put (D := (dC, dI)) (ci := 0) (v := .ref r_3) (ty := .array (.object "java/lang/Object")) (C := RJx4a65c) (T := TJx4a65c) (N := 3) hx hb hts inJx4a65c_ tyJx4a65c tyJx4a65c_ok nmJx4a65c hown hK hP hD hS k0 (app_at hk0) rfl 1 (by decide) lk0 (fun _ h9 => h9) rfl (by decide +kernel) rfl rfl (Nat.le_of_ble_eq_true rfl) dJx4a65c_grow_92f84_41 (fun H locs hP hD hS => ?_)
  rw [app_set hk0] at hP hD
  have hP : va_P (dC, dI) vwCl ((ws.set k0 (a0, .inr (0, [.int mc0, .ref r_3, .int (nI n)]))) ++ [(r_3, .inl (cy 3, n + mx n, .inr (.inr (.inr (.inr (fun i => if i < n then row i else none))))))]) H := hP
  have hD : va_D A ((ws.set k0 (a0, .inr (0, [.int mc0, .ref r_3, .int (nI n)]))) ++ [(r_3, .inl (cy 3, n + mx n, .inr (.inr (.inr (.inr (fun i => if i < n then row i else none))))))]) := hD
  rw [← hQQ]; exact end_r (u := r_3) hx hb hr (Or.inr ⟨_, rfl⟩) hlocks dJx4a65c_grow_92f84_44 hK hP hD hS rfl (Nat.le_of_ble_eq_true rfl) (Nat.le_of_ble_eq_true rfl)

set_option maxHeartbeats 4000000 in
set_option maxRecDepth 100000 in
/-- grow() of an empty list -/
theorem qgrow0_A (l : Launch) (dC : Nat → ClassId) (dI : Nat → Nat → Nat) (cy : Nat → ClassId) (e0 mi : Nat) (ws : va_W) (sz : Nat) (a0 k0 : Nat) (mc0 : Int32) (hk0 : ws[k0]? = some (a0, .inr (0, [.int mc0, .ref e0, .int (nI 0)]))) : Met l yJx4a65c_grow_d5877 wsJx4a65c_grow_d5877 ({ frames := 5, cells := 1, slots := 400, locals := 147 }) (va_Pc [.ref a0] (wPreX (dC, dI) (tyL cy) e0 mi (ws) sz)) (QR (dC, dI) (tyL cy) (fun (r : Nat) (b : Nat) => r = b) (fun (b : Nat) => ws.set k0 (a0, .inr (0, [.int mc0, .ref b, .int (nI 0)])) ++ [(b, .inl (cy 3, 10, .inr (.inr (.inr (.inr (fun _ => none))))))]) (va_A (ws) sz)) 1 400 (va_A (ws) sz) := by
  refine enA (cc := cJx4a65c_grow_d5877) (maxL := 1) (ret := (some (.array (.object "java/lang/Object")))) (own := RJx4a65c) (lv := [(0, .ref a0)]) (by decide) rfl rfl (Nat.le_of_ble_eq_true rfl) rfl ?_
  intro p e s m below meth c ls A H locs hx hb hr hts hown hlocks hml hin hsz hK hP hD hS hA hl ham
  generalize hQQ : MQ below _ _ s _ _ A = QQ
  have inJx4a65c_ : ∀ w ∈ wsJx4a65c0, w ∈ wsJx4a65c_grow_d5877 := fun _ h => List.mem_cons_of_mem _ (List.mem_append_right _ h)
  have lk0 : (Cond.fieldLink RJx4a65c 48 "java/util/ArrayList" "size" "I").before (([.ref a0] : List Value).toArray) s = true := hts _ (List.mem_of_getElem? (i := 1) rfl)
  refine lv_aload_n hx hb dJx4a65c_grow_d5877_0 rfl (lv_at hl 0 rfl) ?_
  refine lv_aload_n hx hb dJx4a65c_grow_d5877_1 rfl (lv_at hl 0 rfl) ?_
  refine va_get (D := (dC, dI)) (ci := 0) (v := .int (nI 0)) (C := RJx4a65c) (T := TJx4a65c) (N := 3) hx hb hts inJx4a65c_ hown hK hP k0 hk0 rfl 2 (by decide) lk0 (fun _ h9 => h9) rfl dJx4a65c_grow_d5877_2 ?_
  refine lv_iconst (v := nI 1) hx hb dJx4a65c_grow_d5877_5 (by decide) ?_
  refine lv_iadd hx hb dJx4a65c_grow_d5877_6 ?_
  refine to_i (y := nI (1)) (nI_add _ _) ?_
  refine call_r (va_runV (As := [.int (nI 1)]) (rest := []) ⟨hx, hb, hml, hown, hts⟩ (qgrow1_A l dC dI cy e0 mi ws H.size a0 k0 mc0 hk0) (cwV 1 hts gJx4a65c_grow_d5877_Jx4a65c_grow_92f84 rfl rfl rfl (by decide +kernel) ⟨Nat.le_of_ble_eq_true rfl, Nat.le_of_ble_eq_true rfl⟩) (preXV hK hP hD hS hA ham (w_recv (ci := 0) (q0 := k0) hK hP hk0 rfl)) rfl rfl hl.1 rfl (lv_room (Nat.le_of_ble_eq_true rfl)) dJx4a65c_grow_d5877_7 ⟨Nat.le_of_ble_eq_true rfl, Nat.le_of_ble_eq_true rfl⟩) hD hS hA (fun r_1 u H locs w_2 hP hD hS => ?_)
  subst w_2
  have hP : va_P (dC, dI) vwCl ((ws.set k0 (a0, .inr (0, [.int mc0, .ref r_1, .int (nI 0)]))) ++ [(r_1, .inl (cy 3, 10, .inr (.inr (.inr (.inr (fun _ => none))))))]) H := hP
  have hD : va_D A ((ws.set k0 (a0, .inr (0, [.int mc0, .ref r_1, .int (nI 0)]))) ++ [(r_1, .inl (cy 3, 10, .inr (.inr (.inr (.inr (fun _ => none))))))]) := hD
  rw [← hQQ]; exact end_r (u := r_1) hx hb hr (Or.inr ⟨_, rfl⟩) hlocks dJx4a65c_grow_d5877_10 hK hP hD hS rfl (Nat.le_of_ble_eq_true rfl) (Nat.le_of_ble_eq_true rfl)

set_option maxHeartbeats 4000000 in
set_option maxRecDepth 100000 in
/-- grow() of a full list -/
theorem qgrow0_C (l : Launch) (dC : Nat → ClassId) (dI : Nat → Nat → Nat) (cy : Nat → ClassId) (e0 mi : Nat) (ws : va_W) (sz : Nat) (a0 b0 k0 k1 n : Nat) (mc0 : Int32) (row : Nat → Option Nat) (hk0 : ws[k0]? = some (a0, .inr (0, [.int mc0, .ref b0, .int (nI n)]))) (hk1 : ws[k1]? = some (b0, .inl (cy 3, n, .inr (.inr (.inr (.inr row)))))) (hel : (∀ i : Nat, i < n → ∀ y : Nat, row i = some y → ∃ (k9 ci : Nat) (fs : List Value) (r9 : vw_C), ws[k9]? = some (y, .inr (ci, fs)) ∧ vwCl[ci]? = some r9 ∧ (r9.1, "java/lang/Object") ∈ casts)) (hn : n ≤ 200) (hn1 : ¬ n = 0) : Met l yJx4a65c_grow_d5877 wsJx4a65c_grow_d5877 ({ frames := 5, cells := 1, slots := 400, locals := 147 }) (va_Pc [.ref a0] (wPreX (dC, dI) (tyL cy) e0 mi (ws) sz)) (QR (dC, dI) (tyL cy) (fun (r : Nat) (b : Nat) => r = b) (fun (b : Nat) => ws.set k0 (a0, .inr (0, [.int mc0, .ref b, .int (nI n)])) ++ [(b, .inl (cy 3, n + mx n, .inr (.inr (.inr (.inr (fun i => if i < n then row i else none))))))]) (va_A (ws) sz)) 1 400 (va_A (ws) sz) := by
  refine enA (cc := cJx4a65c_grow_d5877) (maxL := 1) (ret := (some (.array (.object "java/lang/Object")))) (own := RJx4a65c) (lv := [(0, .ref a0)]) (by decide) rfl rfl (Nat.le_of_ble_eq_true rfl) rfl ?_
  intro p e s m below meth c ls A H locs hx hb hr hts hown hlocks hml hin hsz hK hP hD hS hA hl ham
  generalize hQQ : MQ below _ _ s _ _ A = QQ
  have inJx4a65c_ : ∀ w ∈ wsJx4a65c0, w ∈ wsJx4a65c_grow_d5877 := fun _ h => List.mem_cons_of_mem _ (List.mem_append_right _ h)
  have lk0 : (Cond.fieldLink RJx4a65c 48 "java/util/ArrayList" "size" "I").before (([.ref a0] : List Value).toArray) s = true := hts _ (List.mem_of_getElem? (i := 1) rfl)
  refine lv_aload_n hx hb dJx4a65c_grow_d5877_0 rfl (lv_at hl 0 rfl) ?_
  refine lv_aload_n hx hb dJx4a65c_grow_d5877_1 rfl (lv_at hl 0 rfl) ?_
  refine va_get (D := (dC, dI)) (ci := 0) (v := .int (nI n)) (C := RJx4a65c) (T := TJx4a65c) (N := 3) hx hb hts inJx4a65c_ hown hK hP k0 hk0 rfl 2 (by decide) lk0 (fun _ h9 => h9) rfl dJx4a65c_grow_d5877_2 ?_
  refine lv_iconst (v := nI 1) hx hb dJx4a65c_grow_d5877_5 (by decide) ?_
  refine lv_iadd hx hb dJx4a65c_grow_d5877_6 ?_
  refine to_i (y := nI (n + 1)) (nI_add _ _) ?_
  refine call_r (va_runV (As := [.int (nI (n + 1))]) (rest := []) ⟨hx, hb, hml, hown, hts⟩ (qgrow1_C l dC dI cy e0 mi ws H.size a0 b0 k0 k1 n mc0 row hk0 hk1 hel hn hn1) (cwV 1 hts gJx4a65c_grow_d5877_Jx4a65c_grow_92f84 rfl rfl rfl (by decide +kernel) ⟨Nat.le_of_ble_eq_true rfl, Nat.le_of_ble_eq_true rfl⟩) (preXV hK hP hD hS hA ham (w_recv (ci := 0) (q0 := k0) hK hP hk0 rfl)) rfl rfl hl.1 rfl (lv_room (Nat.le_of_ble_eq_true rfl)) dJx4a65c_grow_d5877_7 ⟨Nat.le_of_ble_eq_true rfl, Nat.le_of_ble_eq_true rfl⟩) hD hS hA (fun r_1 u H locs w_2 hP hD hS => ?_)
  subst w_2
  have hP : va_P (dC, dI) vwCl ((ws.set k0 (a0, .inr (0, [.int mc0, .ref r_1, .int (nI n)]))) ++ [(r_1, .inl (cy 3, n + mx n, .inr (.inr (.inr (.inr (fun i => if i < n then row i else none))))))]) H := hP
  have hD : va_D A ((ws.set k0 (a0, .inr (0, [.int mc0, .ref r_1, .int (nI n)]))) ++ [(r_1, .inl (cy 3, n + mx n, .inr (.inr (.inr (.inr (fun i => if i < n then row i else none))))))]) := hD
  rw [← hQQ]; exact end_r (u := r_1) hx hb hr (Or.inr ⟨_, rfl⟩) hlocks dJx4a65c_grow_d5877_10 hK hP hD hS rfl (Nat.le_of_ble_eq_true rfl) (Nat.le_of_ble_eq_true rfl)

set_option maxHeartbeats 4000000 in
set_option maxRecDepth 100000 in
/-- add(e, data, n): there is room -/
theorem qadd3_B (l : Launch) (dC : Nat → ClassId) (dI : Nat → Nat → Nat) (cy : Nat → ClassId) (e0 mi : Nat) (ws : va_W) (sz : Nat) (a0 b0 k0 k1 n cap : Nat) (mc0 : Int32) (row : Nat → Option Nat) (x0 kx cx : Nat) (fx : List Value) (r9 : vw_C) (hk0 : ws[k0]? = some (a0, .inr (0, [.int mc0, .ref b0, .int (nI n)]))) (hk1 : ws[k1]? = some (b0, .inl (cy 3, cap, .inr (.inr (.inr (.inr row)))))) (hn : n < cap) (hcap : cap ≤ 400) (hne : k1 ≠ k0) (hkx : ws[kx]? = some (x0, .inr (cx, fx))) (hcx : vwCl[cx]? = some r9) (hca : (r9.1, "java/lang/Object") ∈ casts) : Met l yJx4a65c_add_72be8 wsJx4a65c_add_72be8 ({ frames := 6, cells := 1, slots := 400, locals := 167 }) (va_Pc [.ref a0, .ref x0, .ref b0, .int (nI n)] (wPreX (dC, dI) (tyL cy) e0 mi (ws) sz)) (QV (dC, dI) (tyL cy) (fun (_ : Unit) => True) (fun (_ : Unit) => (ws.set k1 (b0, .inl (cy 3, cap, .inr (.inr (.inr (.inr (va_up row n (some x0)))))))).set k0 (a0, .inr (0, [.int mc0, .ref b0, .int (nI (n + 1))]))) (va_A (ws) sz)) 1 400 (va_A (ws) sz) := by
  refine enA (cc := cJx4a65c_add_72be8) (maxL := 4) (ret := none) (own := RJx4a65c) (lv := [(0, .ref a0), (1, .ref x0), (2, .ref b0), (3, .int (nI n))]) (by decide) rfl rfl (Nat.le_of_ble_eq_true rfl) rfl ?_
  intro p e s m below meth c ls A H locs hx hb hr hts hown hlocks hml hin hsz hK hP hD hS hA hl ham
  generalize hQQ : MQ below _ _ s _ _ A = QQ
  have inJx4a65c_ : ∀ w ∈ wsJx4a65c0, w ∈ wsJx4a65c_add_72be8 := fun _ h => List.mem_cons_of_mem _ (List.mem_append_right _ h)
  have lk0 : (Cond.fieldLink RJx4a65c 48 "java/util/ArrayList" "size" "I").before (([.ref a0, .ref x0, .ref b0, .int (nI n)] : List Value).toArray) s = true := hts _ (List.mem_of_getElem? (i := 1) rfl)
  refine lv_iload_n hx hb dJx4a65c_add_72be8_0 rfl (lv_at hl 3 rfl) ?_
  refine lv_aload_n hx hb dJx4a65c_add_72be8_1 rfl (lv_at hl 2 rfl) ?_
  refine va_alen hx hb hK hP k1 3 hk1 rfl (v := nI cap) rfl dJx4a65c_add_72be8_2 ?_
  refine n_ne (tgt := 11) hx hb dJx4a65c_add_72be8_3 (by decide) (by omega) (by omega) (fun _ => ?_) (fun h9 => by omega)
  refine lv_aload_n hx hb dJx4a65c_add_72be8_11 rfl (lv_at hl 2 rfl) ?_
  refine lv_iload_n hx hb dJx4a65c_add_72be8_12 rfl (lv_at hl 3 rfl) ?_
  refine lv_aload_n hx hb dJx4a65c_add_72be8_13 rfl (lv_at hl 1 rfl) ?_
  refine va_astqM (E := "java/lang/Object") hx hb hK hP hD hS k1 3 hk1 rfl (va_rAny hK hP hkx hcx (asg_obj (ham.2.2.2.2.2.1 _ hca))) (vp_in_nI (show n < _ by omega) (by omega)) dJx4a65c_add_72be8_14 (fun H locs hP hD hS => ?_)
  rw [nI_clamp (show n < 2 ^ 31 by omega)] at hP hD
  have hP : va_P (dC, dI) vwCl ((ws.set k1 (b0, .inl (cy 3, cap, .inr (.inr (.inr (.inr (va_up row n (some x0))))))))) H := hP
  have hD : va_D A ((ws.set k1 (b0, .inl (cy 3, cap, .inr (.inr (.inr (.inr (va_up row n (some x0))))))))) := hD
  refine lv_aload_n hx hb dJx4a65c_add_72be8_15 rfl (lv_at hl 0 rfl) ?_
  refine lv_iload_n hx hb dJx4a65c_add_72be8_16 rfl (lv_at hl 3 rfl) ?_
  refine lv_iconst (v := nI 1) hx hb dJx4a65c_add_72be8_17 (by decide) ?_
  refine lv_iadd hx hb dJx4a65c_add_72be8_18 ?_
  refine to_i (y := nI (n + 1)) (nI_add _ _) ?_
  refine va_put (D := (dC, dI)) (ci := 0) (v := .int (nI (n + 1))) (ty := .int) (C := RJx4a65c) (T := TJx4a65c) (N := 3) hx hb hts inJx4a65c_ tyJx4a65c tyJx4a65c_ok nmJx4a65c hown hK hP hD hS k0 (set_no hk0 hne) rfl 2 (by decide) lk0 (fun _ h9 => h9) rfl (by decide +kernel) rfl rfl (Nat.le_of_ble_eq_true rfl) dJx4a65c_add_72be8_19 (fun H locs hP hD hS => ?_)
  have hP : va_P (dC, dI) vwCl (((ws.set k1 (b0, .inl (cy 3, cap, .inr (.inr (.inr (.inr (va_up row n (some x0)))))))).set k0 (a0, .inr (0, [.int mc0, .ref b0, .int (nI (n + 1))])))) H := hP
  have hD : va_D A (((ws.set k1 (b0, .inl (cy 3, cap, .inr (.inr (.inr (.inr (va_up row n (some x0)))))))).set k0 (a0, .inr (0, [.int mc0, .ref b0, .int (nI (n + 1))])))) := hD
  rw [← hQQ]; exact end_v (u := ()) hx hb hr hlocks dJx4a65c_add_72be8_22 hK hP hD hS trivial (Nat.le_of_ble_eq_true rfl) (Nat.le_of_ble_eq_true rfl)

set_option maxHeartbeats 4000000 in
set_option maxRecDepth 100000 in
/-- add(e, data, 0): the first -/
theorem qadd3_A (l : Launch) (dC : Nat → ClassId) (dI : Nat → Nat → Nat) (cy : Nat → ClassId) (e0 mi : Nat) (ws : va_W) (sz : Nat) (a0 k0 : Nat) (mc0 : Int32) (x0 kx cx : Nat) (fx : List Value) (r9 : vw_C) (hk0 : ws[k0]? = some (a0, .inr (0, [.int mc0, .ref e0, .int (nI 0)]))) (hkx : ws[kx]? = some (x0, .inr (cx, fx))) (hcx : vwCl[cx]? = some r9) (hca : (r9.1, "java/lang/Object") ∈ casts) (hnx : k0 ≠ kx) : Met l yJx4a65c_add_72be8 wsJx4a65c_add_72be8 ({ frames := 6, cells := 1, slots := 400, locals := 167 }) (va_Pc [.ref a0, .ref x0, .ref e0, .int (nI 0)] (wPreX (dC, dI) (tyL cy) e0 mi (ws) sz)) (QV (dC, dI) (tyL cy) (fun (_ : Nat) => True) (fun (b : Nat) => ws.set k0 (a0, .inr (0, [.int mc0, .ref b, .int (nI 1)])) ++ [(b, .inl (cy 3, 10, .inr (.inr (.inr (.inr (va_up (fun _ => none) 0 (some x0)))))))]) (va_A (ws) sz)) 1 400 (va_A (ws) sz) := by
  refine enA (cc := cJx4a65c_add_72be8) (maxL := 4) (ret := none) (own := RJx4a65c) (lv := [(0, .ref a0), (1, .ref x0), (2, .ref e0), (3, .int (nI 0))]) (by decide) rfl rfl (Nat.le_of_ble_eq_true rfl) rfl ?_
  intro p e s m below meth c ls A H locs hx hb hr hts hown hlocks hml hin hsz hK hP hD hS hA hl ham
  generalize hQQ : MQ below _ _ s _ _ A = QQ
  have inJx4a65c_ : ∀ w ∈ wsJx4a65c0, w ∈ wsJx4a65c_add_72be8 := fun _ h => List.mem_cons_of_mem _ (List.mem_append_right _ h)
  have lk0 : (Cond.fieldLink RJx4a65c 48 "java/util/ArrayList" "size" "I").before (([.ref a0, .ref x0, .ref e0, .int (nI 0)] : List Value).toArray) s = true := hts _ (List.mem_of_getElem? (i := 1) rfl)
  refine lv_iload_n hx hb dJx4a65c_add_72be8_0 rfl (lv_at hl 3 rfl) ?_
  refine lv_aload_n hx hb dJx4a65c_add_72be8_1 rfl (lv_at hl 2 rfl) ?_
  refine va_tlen hx hb ham.2.2.2.1 hS (v := nI 0) rfl dJx4a65c_add_72be8_2 ?_
  refine lv_icmp_ne (tgt := 11) hx hb dJx4a65c_add_72be8_3 (by decide) (fun h9 => absurd h9 (by decide)) (fun _ => ?_)
  refine lv_aload_n hx hb dJx4a65c_add_72be8_6 rfl (lv_at hl 0 rfl) ?_
  refine call_r (va_runV (As := []) (rest := []) ⟨hx, hb, hml, hown, hts⟩ (qgrow0_A l dC dI cy e0 mi ws H.size a0 k0 mc0 hk0) (cwV 0 hts gJx4a65c_add_72be8_Jx4a65c_grow_d5877 rfl rfl rfl (by decide +kernel) ⟨Nat.le_of_ble_eq_true rfl, Nat.le_of_ble_eq_true rfl⟩) (preXV hK hP hD hS hA ham (w_recv (ci := 0) (q0 := k0) hK hP hk0 rfl)) rfl rfl hl.1 rfl (lv_room (Nat.le_of_ble_eq_true rfl)) dJx4a65c_add_72be8_7 ⟨Nat.le_of_ble_eq_true rfl, Nat.le_of_ble_eq_true rfl⟩) hD hS hA (fun r_2 u H locs w_3 hP hD hS => ?_)
  subst w_3
  have hP : va_P (dC, dI) vwCl ((ws.set k0 (a0, .inr (0, [.int mc0, .ref r_2, .int (nI 0)]))) ++ [(r_2, .inl (cy 3, 10, .inr (.inr (.inr (.inr (fun _ => none))))))]) H := hP
  have hD : va_D A ((ws.set k0 (a0, .inr (0, [.int mc0, .ref r_2, .int (nI 0)]))) ++ [(r_2, .inl (cy 3, 10, .inr (.inr (.inr (.inr (fun _ => none))))))]) := hD
  refine lv_astore_n (lv' := [(2, .ref r_2), (0, .ref a0), (1, .ref x0), (3, .int (nI 0))]) hx hb dJx4a65c_add_72be8_10 rfl hl (by decide) rfl (fun ls hl => ?_)
  refine lv_aload_n hx hb dJx4a65c_add_72be8_11 rfl (lv_at hl 0 rfl) ?_
  refine lv_iload_n hx hb dJx4a65c_add_72be8_12 rfl (lv_at hl 3 rfl) ?_
  refine lv_aload_n hx hb dJx4a65c_add_72be8_13 rfl (lv_at hl 2 rfl) ?_
  refine va_astqM (E := "java/lang/Object") hx hb hK hP hD hS ((ws.set k0 (a0, .inr (0, [.int mc0, .ref r_2, .int (nI 0)]))).length + 0) 3 (app_r (w := (ws.set k0 (a0, .inr (0, [.int mc0, .ref r_2, .int (nI 0)])))) (y := [(r_2, .inl (cy 3, 10, .inr (.inr (.inr (.inr (fun _ => none))))))]) (k := 0) rfl) rfl (va_rAny hK hP (app_at (set_no hkx hnx)) hcx (asg_obj (ham.2.2.2.2.2.1 _ hca))) (vp_in_nI (show 0 < _ by omega) (by omega)) dJx4a65c_add_72be8_14 (fun H locs hP hD hS => ?_)
  rw [nI_clamp (show 0 < 2 ^ 31 by omega)] at hP hD
  rw [app_setr] at hP hD
  have hP : va_P (dC, dI) vwCl ((ws.set k0 (a0, .inr (0, [.int mc0, .ref r_2, .int (nI 0)]))) ++ [(r_2, .inl (cy 3, 10, .inr (.inr (.inr (.inr (va_up (fun _ => none) 0 (some x0)))))))]) H := hP
  have hD : va_D A ((ws.set k0 (a0, .inr (0, [.int mc0, .ref r_2, .int (nI 0)]))) ++ [(r_2, .inl (cy 3, 10, .inr (.inr (.inr (.inr (va_up (fun _ => none) 0 (some x0)))))))]) := hD
  refine lv_aload_n hx hb dJx4a65c_add_72be8_15 rfl (lv_at hl 1 rfl) ?_
  refine lv_iload_n hx hb dJx4a65c_add_72be8_16 rfl (lv_at hl 3 rfl) ?_
  refine lv_iconst (v := nI 1) hx hb dJx4a65c_add_72be8_17 (by decide) ?_
  refine lv_iadd hx hb dJx4a65c_add_72be8_18 ?_
  refine to_i (y := nI (1)) (nI_add _ _) ?_
  refine va_put (D := (dC, dI)) (ci := 0) (v := .int (nI 1)) (ty := .int) (C := RJx4a65c) (T := TJx4a65c) (N := 3) hx hb hts inJx4a65c_ tyJx4a65c tyJx4a65c_ok nmJx4a65c hown hK hP hD hS k0 (app_at (set_at hk0)) rfl 2 (by decide) lk0 (fun _ h9 => h9) rfl (by decide +kernel) rfl rfl (Nat.le_of_ble_eq_true rfl) dJx4a65c_add_72be8_19 (fun H locs hP hD hS => ?_)
  rw [app_set (set_at hk0), List.set_set] at hP hD
  have hP : va_P (dC, dI) vwCl ((ws.set k0 (a0, .inr (0, [.int mc0, .ref r_2, .int (nI 1)]))) ++ [(r_2, .inl (cy 3, 10, .inr (.inr (.inr (.inr (va_up (fun _ => none) 0 (some x0)))))))]) H := hP
  have hD : va_D A ((ws.set k0 (a0, .inr (0, [.int mc0, .ref r_2, .int (nI 1)]))) ++ [(r_2, .inl (cy 3, 10, .inr (.inr (.inr (.inr (va_up (fun _ => none) 0 (some x0)))))))]) := hD
  rw [← hQQ]; exact end_v (u := r_2) hx hb hr hlocks dJx4a65c_add_72be8_22 hK hP hD hS trivial (Nat.le_of_ble_eq_true rfl) (Nat.le_of_ble_eq_true rfl)

set_option maxHeartbeats 4000000 in
set_option maxRecDepth 100000 in
/-- add(e, data, n): it is full -/
theorem qadd3_C (l : Launch) (dC : Nat → ClassId) (dI : Nat → Nat → Nat) (cy : Nat → ClassId) (e0 mi : Nat) (ws : va_W) (sz : Nat) (a0 b0 k0 k1 n : Nat) (mc0 : Int32) (row : Nat → Option Nat) (x0 kx cx : Nat) (fx : List Value) (r9 : vw_C) (hk0 : ws[k0]? = some (a0, .inr (0, [.int mc0, .ref b0, .int (nI n)]))) (hk1 : ws[k1]? = some (b0, .inl (cy 3, n, .inr (.inr (.inr (.inr row)))))) (hel : (∀ i : Nat, i < n → ∀ y : Nat, row i = some y → ∃ (k9 ci : Nat) (fs : List Value) (r9 : vw_C), ws[k9]? = some (y, .inr (ci, fs)) ∧ vwCl[ci]? = some r9 ∧ (r9.1, "java/lang/Object") ∈ casts)) (hn : n ≤ 200) (hn1 : ¬ n = 0) (hkx : ws[kx]? = some (x0, .inr (cx, fx))) (hcx : vwCl[cx]? = some r9) (hca : (r9.1, "java/lang/Object") ∈ casts) (hnx : k0 ≠ kx) : Met l yJx4a65c_add_72be8 wsJx4a65c_add_72be8 ({ frames := 6, cells := 1, slots := 400, locals := 167 }) (va_Pc [.ref a0, .ref x0, .ref b0, .int (nI n)] (wPreX (dC, dI) (tyL cy) e0 mi (ws) sz)) (QV (dC, dI) (tyL cy) (fun (_ : Nat) => True) (fun (b : Nat) => ws.set k0 (a0, .inr (0, [.int mc0, .ref b, .int (nI ((n + 1)))])) ++ [(b, .inl (cy 3, n + mx n, .inr (.inr (.inr (.inr (va_up (fun i => if i < n then row i else none) n (some x0)))))))]) (va_A (ws) sz)) 1 400 (va_A (ws) sz) := by
  refine enA (cc := cJx4a65c_add_72be8) (maxL := 4) (ret := none) (own := RJx4a65c) (lv := [(0, .ref a0), (1, .ref x0), (2, .ref b0), (3, .int (nI n))]) (by decide) rfl rfl (Nat.le_of_ble_eq_true rfl) rfl ?_
  intro p e s m below meth c ls A H locs hx hb hr hts hown hlocks hml hin hsz hK hP hD hS hA hl ham
  generalize hQQ : MQ below _ _ s _ _ A = QQ
  have inJx4a65c_ : ∀ w ∈ wsJx4a65c0, w ∈ wsJx4a65c_add_72be8 := fun _ h => List.mem_cons_of_mem _ (List.mem_append_right _ h)
  have lk0 : (Cond.fieldLink RJx4a65c 48 "java/util/ArrayList" "size" "I").before (([.ref a0, .ref x0, .ref b0, .int (nI n)] : List Value).toArray) s = true := hts _ (List.mem_of_getElem? (i := 1) rfl)
  have hmn := mx_le n
  have hmp := mx_pos n
  refine lv_iload_n hx hb dJx4a65c_add_72be8_0 rfl (lv_at hl 3 rfl) ?_
  refine lv_aload_n hx hb dJx4a65c_add_72be8_1 rfl (lv_at hl 2 rfl) ?_
  refine va_alen hx hb hK hP k1 3 hk1 rfl (v := nI n) rfl dJx4a65c_add_72be8_2 ?_
  refine n_ne (tgt := 11) hx hb dJx4a65c_add_72be8_3 (by decide) (by omega) (by omega) (fun h9 => absurd rfl h9) (fun _ => ?_)
  refine lv_aload_n hx hb dJx4a65c_add_72be8_6 rfl (lv_at hl 0 rfl) ?_
  refine call_r (va_runV (As := []) (rest := []) ⟨hx, hb, hml, hown, hts⟩ (qgrow0_C l dC dI cy e0 mi ws H.size a0 b0 k0 k1 n mc0 row hk0 hk1 hel hn hn1) (cwV 0 hts gJx4a65c_add_72be8_Jx4a65c_grow_d5877 rfl rfl rfl (by decide +kernel) ⟨Nat.le_of_ble_eq_true rfl, Nat.le_of_ble_eq_true rfl⟩) (preXV hK hP hD hS hA ham (w_recv (ci := 0) (q0 := k0) hK hP hk0 rfl)) rfl rfl hl.1 rfl (lv_room (Nat.le_of_ble_eq_true rfl)) dJx4a65c_add_72be8_7 ⟨Nat.le_of_ble_eq_true rfl, Nat.le_of_ble_eq_true rfl⟩) hD hS hA (fun r_1 u H locs w_2 hP hD hS => ?_)
  subst w_2
  have hP : va_P (dC, dI) vwCl ((ws.set k0 (a0, .inr (0, [.int mc0, .ref r_1, .int (nI n)]))) ++ [(r_1, .inl (cy 3, n + mx n, .inr (.inr (.inr (.inr (fun i => if i < n then row i else none))))))]) H := hP
  have hD : va_D A ((ws.set k0 (a0, .inr (0, [.int mc0, .ref r_1, .int (nI n)]))) ++ [(r_1, .inl (cy 3, n + mx n, .inr (.inr (.inr (.inr (fun i => if i < n then row i else none))))))]) := hD
  refine lv_astore_n (lv' := [(2, .ref r_1), (0, .ref a0), (1, .ref x0), (3, .int (nI n))]) hx hb dJx4a65c_add_72be8_10 rfl hl (by decide) rfl (fun ls hl => ?_)
  refine lv_aload_n hx hb dJx4a65c_add_72be8_11 rfl (lv_at hl 0 rfl) ?_
  refine lv_iload_n hx hb dJx4a65c_add_72be8_12 rfl (lv_at hl 3 rfl) ?_
  refine lv_aload_n hx hb dJx4a65c_add_72be8_13 rfl (lv_at hl 2 rfl) ?_
  refine va_astqM (E := "java/lang/Object") hx hb hK hP hD hS ((ws.set k0 (a0, .inr (0, [.int mc0, .ref r_1, .int (nI n)]))).length + 0) 3 (app_r (w := (ws.set k0 (a0, .inr (0, [.int mc0, .ref r_1, .int (nI n)])))) (y := [(r_1, .inl (cy 3, n + mx n, .inr (.inr (.inr (.inr (fun i => if i < n then row i else none))))))]) (k := 0) rfl) rfl (va_rAny hK hP (app_at (set_no hkx hnx)) hcx (asg_obj (ham.2.2.2.2.2.1 _ hca))) (vp_in_nI (show n < _ by omega) (by omega)) dJx4a65c_add_72be8_14 (fun H locs hP hD hS => ?_)
  rw [nI_clamp (show n < 2 ^ 31 by omega)] at hP hD
  rw [app_setr] at hP hD
  have hP : va_P (dC, dI) vwCl ((ws.set k0 (a0, .inr (0, [.int mc0, .ref r_1, .int (nI n)]))) ++ [(r_1, .inl (cy 3, n + mx n, .inr (.inr (.inr (.inr (va_up (fun i => if i < n then row i else none) n (some x0)))))))]) H := hP
  have hD : va_D A ((ws.set k0 (a0, .inr (0, [.int mc0, .ref r_1, .int (nI n)]))) ++ [(r_1, .inl (cy 3, n + mx n, .inr (.inr (.inr (.inr (va_up (fun i => if i < n then row i else none) n (some x0)))))))]) := hD
  refine lv_aload_n hx hb dJx4a65c_add_72be8_15 rfl (lv_at hl 1 rfl) ?_
  refine lv_iload_n hx hb dJx4a65c_add_72be8_16 rfl (lv_at hl 3 rfl) ?_
  refine lv_iconst (v := nI 1) hx hb dJx4a65c_add_72be8_17 (by decide) ?_
  refine lv_iadd hx hb dJx4a65c_add_72be8_18 ?_
  refine to_i (y := nI (n + 1)) (nI_add _ _) ?_
  refine va_put (D := (dC, dI)) (ci := 0) (v := .int (nI (n + 1))) (ty := .int) (C := RJx4a65c) (T := TJx4a65c) (N := 3) hx hb hts inJx4a65c_ tyJx4a65c tyJx4a65c_ok nmJx4a65c hown hK hP hD hS k0 (app_at (set_at hk0)) rfl 2 (by decide) lk0 (fun _ h9 => h9) rfl (by decide +kernel) rfl rfl (Nat.le_of_ble_eq_true rfl) dJx4a65c_add_72be8_19 (fun H locs hP hD hS => ?_)
  rw [app_set (set_at hk0), List.set_set] at hP hD
  have hP : va_P (dC, dI) vwCl ((ws.set k0 (a0, .inr (0, [.int mc0, .ref r_1, .int (nI (n + 1))]))) ++ [(r_1, .inl (cy 3, n + mx n, .inr (.inr (.inr (.inr (va_up (fun i => if i < n then row i else none) n (some x0)))))))]) H := hP
  have hD : va_D A ((ws.set k0 (a0, .inr (0, [.int mc0, .ref r_1, .int (nI (n + 1))]))) ++ [(r_1, .inl (cy 3, n + mx n, .inr (.inr (.inr (.inr (va_up (fun i => if i < n then row i else none) n (some x0)))))))]) := hD
  rw [← hQQ]; exact end_v (u := r_1) hx hb hr hlocks dJx4a65c_add_72be8_22 hK hP hD hS trivial (Nat.le_of_ble_eq_true rfl) (Nat.le_of_ble_eq_true rfl)

set_option maxHeartbeats 4000000 in
set_option maxRecDepth 100000 in
/-- add(e): there is room -/
theorem qadd_B (l : Launch) (dC : Nat → ClassId) (dI : Nat → Nat → Nat) (cy : Nat → ClassId) (e0 mi : Nat) (ws : va_W) (sz : Nat) (a0 b0 k0 k1 n cap : Nat) (mc0 : Int32) (row : Nat → Option Nat) (x0 kx cx : Nat) (fx : List Value) (r9 : vw_C) (hk0 : ws[k0]? = some (a0, .inr (0, [.int mc0, .ref b0, .int (nI n)]))) (hk1 : ws[k1]? = some (b0, .inl (cy 3, cap, .inr (.inr (.inr (.inr row)))))) (hn : n < cap) (hcap : cap ≤ 400) (hne : k1 ≠ k0) (hkx : ws[kx]? = some (x0, .inr (cx, fx))) (hcx : vwCl[cx]? = some r9) (hca : (r9.1, "java/lang/Object") ∈ casts) (hnx : k0 ≠ kx) : Met l yJx4a65c_add_9ea2d wsJx4a65c_add_9ea2d ({ frames := 7, cells := 1, slots := 400, locals := 190 }) (va_Pc [.ref a0, .ref x0] (wPreX (dC, dI) (tyL cy) e0 mi (ws) sz)) (QI (dC, dI) (tyL cy) (fun (r : Int32) (_ : Unit) => r = nI 1) (fun (_ : Unit) => (ws.set k1 (b0, .inl (cy 3, cap, .inr (.inr (.inr (.inr (va_up row n (some x0)))))))).set k0 (a0, .inr (0, [.int (mc0 + nI 1), .ref b0, .int (nI (n + 1))]))) (va_A (ws) sz)) 1 400 (va_A (ws) sz) := by
  refine enA (cc := cJx4a65c_add_9ea2d) (maxL := 2) (ret := (some .boolean)) (own := RJx4a65c) (lv := [(0, .ref a0), (1, .ref x0)]) (by decide) rfl rfl (Nat.le_of_ble_eq_true rfl) rfl ?_
  intro p e s m below meth c ls A H locs hx hb hr hts hown hlocks hml hin hsz hK hP hD hS hA hl ham
  generalize hQQ : MQ below _ _ s _ _ A = QQ
  have inJx4a65c_ : ∀ w ∈ wsJx4a65c0, w ∈ wsJx4a65c_add_9ea2d := fun _ h => List.mem_cons_of_mem _ (List.mem_append_right _ h)
  have lk0 : (Cond.fieldLink RJx4a65c 63 "java/util/ArrayList" "modCount" "I").before (([.ref a0, .ref x0] : List Value).toArray) s = true := hts _ (List.mem_of_getElem? (i := 1) rfl)
  have lk1 : (Cond.sameField "java/util/ArrayList" "java/util/AbstractList" "modCount" "I").before (([.ref a0, .ref x0] : List Value).toArray) s = true := hts _ (List.mem_of_getElem? (i := 2) rfl)
  have lk2 : (Cond.fieldLink RJx4a65c 9 "java/util/ArrayList" "elementData" "[Ljava/lang/Object;").before (([.ref a0, .ref x0] : List Value).toArray) s = true := hts _ (List.mem_of_getElem? (i := 3) rfl)
  have lk3 : (Cond.fieldLink RJx4a65c 48 "java/util/ArrayList" "size" "I").before (([.ref a0, .ref x0] : List Value).toArray) s = true := hts _ (List.mem_of_getElem? (i := 4) rfl)
  refine lv_aload_n hx hb dJx4a65c_add_9ea2d_0 rfl (lv_at hl 0 rfl) ?_
  refine lv_dup hx hb dJx4a65c_add_9ea2d_1 rfl ?_
  refine va_get (D := (dC, dI)) (ci := 0) (v := .int mc0) (C := RJx4a65c) (T := TJx4a65c) (N := 3) hx hb hts inJx4a65c_ hown hK hP k0 hk0 rfl 0 (by decide) lk0 (u_same lk1) rfl dJx4a65c_add_9ea2d_2 ?_
  refine lv_iconst (v := nI 1) hx hb dJx4a65c_add_9ea2d_5 (by decide) ?_
  refine lv_iadd hx hb dJx4a65c_add_9ea2d_6 ?_
  refine va_put (D := (dC, dI)) (ci := 0) (v := .int (mc0 + (nI 1))) (ty := .int) (C := RJx4a65c) (T := TJx4a65c) (N := 3) hx hb hts inJx4a65c_ tyJx4a65c tyJx4a65c_ok nmJx4a65c hown hK hP hD hS k0 hk0 rfl 0 (by decide) lk0 (u_same lk1) rfl (by decide +kernel) rfl rfl (Nat.le_of_ble_eq_true rfl) dJx4a65c_add_9ea2d_7 (fun H locs hP hD hS => ?_)
  have hP : va_P (dC, dI) vwCl ((ws.set k0 (a0, .inr (0, [.int (mc0 + (nI 1)), .ref b0, .int (nI n)])))) H := hP
  have hD : va_D A ((ws.set k0 (a0, .inr (0, [.int (mc0 + (nI 1)), .ref b0, .int (nI n)])))) := hD
  refine lv_aload_n hx hb dJx4a65c_add_9ea2d_10 rfl (lv_at hl 0 rfl) ?_
  refine lv_aload_n hx hb dJx4a65c_add_9ea2d_11 rfl (lv_at hl 1 rfl) ?_
  refine lv_aload_n hx hb dJx4a65c_add_9ea2d_12 rfl (lv_at hl 0 rfl) ?_
  refine va_get (D := (dC, dI)) (ci := 0) (v := .ref b0) (C := RJx4a65c) (T := TJx4a65c) (N := 3) hx hb hts inJx4a65c_ hown hK hP k0 (set_at hk0) rfl 1 (by decide) lk2 (fun _ h9 => h9) rfl dJx4a65c_add_9ea2d_13 ?_
  refine lv_aload_n hx hb dJx4a65c_add_9ea2d_16 rfl (lv_at hl 0 rfl) ?_
  refine va_get (D := (dC, dI)) (ci := 0) (v := .int (nI n)) (C := RJx4a65c) (T := TJx4a65c) (N := 3) hx hb hts inJx4a65c_ hown hK hP k0 (set_at hk0) rfl 2 (by decide) lk3 (fun _ h9 => h9) rfl dJx4a65c_add_9ea2d_17 ?_
  refine call_v (va_runV (As := [.ref x0, .ref b0, .int (nI n)]) (rest := []) ⟨hx, hb, hml, hown, hts⟩ (qadd3_B l dC dI cy e0 mi ((ws.set k0 (a0, .inr (0, [.int (mc0 + (nI 1)), .ref b0, .int (nI n)])))) H.size a0 b0 k0 k1 n cap (mc0 + nI 1) row x0 kx cx fx r9 (set_at hk0) (set_no hk1 (Ne.symm hne)) hn hcap hne (set_no hkx hnx) hcx hca) (cwV 3 hts gJx4a65c_add_9ea2d_Jx4a65c_add_72be8 rfl rfl rfl (by decide +kernel) ⟨Nat.le_of_ble_eq_true rfl, Nat.le_of_ble_eq_true rfl⟩) (preXV hK hP hD hS hA ham (w_recv (ci := 0) (q0 := k0) hK hP (set_at hk0) rfl)) rfl rfl hl.1 rfl (lv_room (Nat.le_of_ble_eq_true rfl)) dJx4a65c_add_9ea2d_20 ⟨Nat.le_of_ble_eq_true rfl, Nat.le_of_ble_eq_true rfl⟩) hD hS hA (fun u H locs w_2 hP hD hS => ?_)
  rw [List.set_comm _ _ (Ne.symm hne), List.set_set] at hP hD
  have hP : va_P (dC, dI) vwCl (((ws.set k1 (b0, .inl (cy 3, cap, .inr (.inr (.inr (.inr (va_up row n (some x0)))))))).set k0 (a0, .inr (0, [.int (mc0 + nI 1), .ref b0, .int (nI (n + 1))])))) H := hP
  have hD : va_D A (((ws.set k1 (b0, .inl (cy 3, cap, .inr (.inr (.inr (.inr (va_up row n (some x0)))))))).set k0 (a0, .inr (0, [.int (mc0 + nI 1), .ref b0, .int (nI (n + 1))])))) := hD
  refine lv_iconst (v := nI 1) hx hb dJx4a65c_add_9ea2d_23 (by decide) ?_
  rw [← hQQ]; exact end_z (u := ()) hx hb hr hlocks dJx4a65c_add_9ea2d_24 hK hP hD hS (by rfl) rfl (Nat.le_of_ble_eq_true rfl) (Nat.le_of_ble_eq_true rfl)

set_option maxHeartbeats 4000000 in
set_option maxRecDepth 100000 in
/-- add(e): the first -/
theorem qadd_A (l : Launch) (dC : Nat → ClassId) (dI : Nat → Nat → Nat) (cy : Nat → ClassId) (e0 mi : Nat) (ws : va_W) (sz : Nat) (a0 k0 : Nat) (mc0 : Int32) (x0 kx cx : Nat) (fx : List Value) (r9 : vw_C) (hk0 : ws[k0]? = some (a0, .inr (0, [.int mc0, .ref e0, .int (nI 0)]))) (hkx : ws[kx]? = some (x0, .inr (cx, fx))) (hcx : vwCl[cx]? = some r9) (hca : (r9.1, "java/lang/Object") ∈ casts) (hnx : k0 ≠ kx) : Met l yJx4a65c_add_9ea2d wsJx4a65c_add_9ea2d ({ frames := 7, cells := 1, slots := 400, locals := 190 }) (va_Pc [.ref a0, .ref x0] (wPreX (dC, dI) (tyL cy) e0 mi (ws) sz)) (QI (dC, dI) (tyL cy) (fun (r : Int32) (_ : Nat) => r = nI 1) (fun (b : Nat) => ws.set k0 (a0, .inr (0, [.int (mc0 + nI 1), .ref b, .int (nI 1)])) ++ [(b, .inl (cy 3, 10, .inr (.inr (.inr (.inr (va_up (fun _ => none) 0 (some x0)))))))]) (va_A (ws) sz)) 1 400 (va_A (ws) sz) := by
  refine enA (cc := cJx4a65c_add_9ea2d) (maxL := 2) (ret := (some .boolean)) (own := RJx4a65c) (lv := [(0, .ref a0), (1, .ref x0)]) (by decide) rfl rfl (Nat.le_of_ble_eq_true rfl) rfl ?_
  intro p e s m below meth c ls A H locs hx hb hr hts hown hlocks hml hin hsz hK hP hD hS hA hl ham
  generalize hQQ : MQ below _ _ s _ _ A = QQ
  have inJx4a65c_ : ∀ w ∈ wsJx4a65c0, w ∈ wsJx4a65c_add_9ea2d := fun _ h => List.mem_cons_of_mem _ (List.mem_append_right _ h)
  have lk0 : (Cond.fieldLink RJx4a65c 63 "java/util/ArrayList" "modCount" "I").before (([.ref a0, .ref x0] : List Value).toArray) s = true := hts _ (List.mem_of_getElem? (i := 1) rfl)
  have lk1 : (Cond.sameField "java/util/ArrayList" "java/util/AbstractList" "modCount" "I").before (([.ref a0, .ref x0] : List Value).toArray) s = true := hts _ (List.mem_of_getElem? (i := 2) rfl)
  have lk2 : (Cond.fieldLink RJx4a65c 9 "java/util/ArrayList" "elementData" "[Ljava/lang/Object;").before (([.ref a0, .ref x0] : List Value).toArray) s = true := hts _ (List.mem_of_getElem? (i := 3) rfl)
  have lk3 : (Cond.fieldLink RJx4a65c 48 "java/util/ArrayList" "size" "I").before (([.ref a0, .ref x0] : List Value).toArray) s = true := hts _ (List.mem_of_getElem? (i := 4) rfl)
  refine lv_aload_n hx hb dJx4a65c_add_9ea2d_0 rfl (lv_at hl 0 rfl) ?_
  refine lv_dup hx hb dJx4a65c_add_9ea2d_1 rfl ?_
  refine va_get (D := (dC, dI)) (ci := 0) (v := .int mc0) (C := RJx4a65c) (T := TJx4a65c) (N := 3) hx hb hts inJx4a65c_ hown hK hP k0 hk0 rfl 0 (by decide) lk0 (u_same lk1) rfl dJx4a65c_add_9ea2d_2 ?_
  refine lv_iconst (v := nI 1) hx hb dJx4a65c_add_9ea2d_5 (by decide) ?_
  refine lv_iadd hx hb dJx4a65c_add_9ea2d_6 ?_
  refine va_put (D := (dC, dI)) (ci := 0) (v := .int (mc0 + (nI 1))) (ty := .int) (C := RJx4a65c) (T := TJx4a65c) (N := 3) hx hb hts inJx4a65c_ tyJx4a65c tyJx4a65c_ok nmJx4a65c hown hK hP hD hS k0 hk0 rfl 0 (by decide) lk0 (u_same lk1) rfl (by decide +kernel) rfl rfl (Nat.le_of_ble_eq_true rfl) dJx4a65c_add_9ea2d_7 (fun H locs hP hD hS => ?_)
  have hP : va_P (dC, dI) vwCl ((ws.set k0 (a0, .inr (0, [.int (mc0 + (nI 1)), .ref e0, .int (nI 0)])))) H := hP
  have hD : va_D A ((ws.set k0 (a0, .inr (0, [.int (mc0 + (nI 1)), .ref e0, .int (nI 0)])))) := hD
  refine lv_aload_n hx hb dJx4a65c_add_9ea2d_10 rfl (lv_at hl 0 rfl) ?_
  refine lv_aload_n hx hb dJx4a65c_add_9ea2d_11 rfl (lv_at hl 1 rfl) ?_
  refine lv_aload_n hx hb dJx4a65c_add_9ea2d_12 rfl (lv_at hl 0 rfl) ?_
  refine va_get (D := (dC, dI)) (ci := 0) (v := .ref e0) (C := RJx4a65c) (T := TJx4a65c) (N := 3) hx hb hts inJx4a65c_ hown hK hP k0 (set_at hk0) rfl 1 (by decide) lk2 (fun _ h9 => h9) rfl dJx4a65c_add_9ea2d_13 ?_
  refine lv_aload_n hx hb dJx4a65c_add_9ea2d_16 rfl (lv_at hl 0 rfl) ?_
  refine va_get (D := (dC, dI)) (ci := 0) (v := .int (nI 0)) (C := RJx4a65c) (T := TJx4a65c) (N := 3) hx hb hts inJx4a65c_ hown hK hP k0 (set_at hk0) rfl 2 (by decide) lk3 (fun _ h9 => h9) rfl dJx4a65c_add_9ea2d_17 ?_
  refine call_v (va_runV (As := [.ref x0, .ref e0, .int (nI 0)]) (rest := []) ⟨hx, hb, hml, hown, hts⟩ (qadd3_A l dC dI cy e0 mi ((ws.set k0 (a0, .inr (0, [.int (mc0 + (nI 1)), .ref e0, .int (nI 0)])))) H.size a0 k0 (mc0 + nI 1) x0 kx cx fx r9 (set_at hk0) (set_no hkx hnx) hcx hca hnx) (cwV 3 hts gJx4a65c_add_9ea2d_Jx4a65c_add_72be8 rfl rfl rfl (by decide +kernel) ⟨Nat.le_of_ble_eq_true rfl, Nat.le_of_ble_eq_true rfl⟩) (preXV hK hP hD hS hA ham (w_recv (ci := 0) (q0 := k0) hK hP (set_at hk0) rfl)) rfl rfl hl.1 rfl (lv_room (Nat.le_of_ble_eq_true rfl)) dJx4a65c_add_9ea2d_20 ⟨Nat.le_of_ble_eq_true rfl, Nat.le_of_ble_eq_true rfl⟩) hD hS hA (fun u H locs w_2 hP hD hS => ?_)
  rw [List.set_set] at hP hD
  have hP : va_P (dC, dI) vwCl ((ws.set k0 (a0, .inr (0, [.int (mc0 + nI 1), .ref u, .int (nI 1)]))) ++ [(u, .inl (cy 3, 10, .inr (.inr (.inr (.inr (va_up (fun _ => none) 0 (some x0)))))))]) H := hP
  have hD : va_D A ((ws.set k0 (a0, .inr (0, [.int (mc0 + nI 1), .ref u, .int (nI 1)]))) ++ [(u, .inl (cy 3, 10, .inr (.inr (.inr (.inr (va_up (fun _ => none) 0 (some x0)))))))]) := hD
  refine lv_iconst (v := nI 1) hx hb dJx4a65c_add_9ea2d_23 (by decide) ?_
  rw [← hQQ]; exact end_z (u := u) hx hb hr hlocks dJx4a65c_add_9ea2d_24 hK hP hD hS (by rfl) rfl (Nat.le_of_ble_eq_true rfl) (Nat.le_of_ble_eq_true rfl)

set_option maxHeartbeats 4000000 in
set_option maxRecDepth 100000 in
/-- add(e): it is full -/
theorem qadd_C (l : Launch) (dC : Nat → ClassId) (dI : Nat → Nat → Nat) (cy : Nat → ClassId) (e0 mi : Nat) (ws : va_W) (sz : Nat) (a0 b0 k0 k1 n : Nat) (mc0 : Int32) (row : Nat → Option Nat) (x0 kx cx : Nat) (fx : List Value) (r9 : vw_C) (hk0 : ws[k0]? = some (a0, .inr (0, [.int mc0, .ref b0, .int (nI n)]))) (hk1 : ws[k1]? = some (b0, .inl (cy 3, n, .inr (.inr (.inr (.inr row)))))) (hel : (∀ i : Nat, i < n → ∀ y : Nat, row i = some y → ∃ (k9 ci : Nat) (fs : List Value) (r8 : vw_C), k0 ≠ k9 ∧ ws[k9]? = some (y, .inr (ci, fs)) ∧ vwCl[ci]? = some r8 ∧ (r8.1, "java/lang/Object") ∈ casts)) (hn : n ≤ 200) (hn1 : ¬ n = 0) (hne : k1 ≠ k0) (hkx : ws[kx]? = some (x0, .inr (cx, fx))) (hcx : vwCl[cx]? = some r9) (hca : (r9.1, "java/lang/Object") ∈ casts) (hnx : k0 ≠ kx) : Met l yJx4a65c_add_9ea2d wsJx4a65c_add_9ea2d ({ frames := 7, cells := 1, slots := 400, locals := 190 }) (va_Pc [.ref a0, .ref x0] (wPreX (dC, dI) (tyL cy) e0 mi (ws) sz)) (QI (dC, dI) (tyL cy) (fun (r : Int32) (_ : Nat) => r = nI 1) (fun (b : Nat) => ws.set k0 (a0, .inr (0, [.int (mc0 + nI 1), .ref b, .int (nI ((n + 1)))])) ++ [(b, .inl (cy 3, n + mx n, .inr (.inr (.inr (.inr (va_up (fun i => if i < n then row i else none) n (some x0)))))))]) (va_A (ws) sz)) 1 400 (va_A (ws) sz) := by
  refine enA (cc := cJx4a65c_add_9ea2d) (maxL := 2) (ret := (some .boolean)) (own := RJx4a65c) (lv := [(0, .ref a0), (1, .ref x0)]) (by decide) rfl rfl (Nat.le_of_ble_eq_true rfl) rfl ?_
  intro p e s m below meth c ls A H locs hx hb hr hts hown hlocks hml hin hsz hK hP hD hS hA hl ham
  generalize hQQ : MQ below _ _ s _ _ A = QQ
  have inJx4a65c_ : ∀ w ∈ wsJx4a65c0, w ∈ wsJx4a65c_add_9ea2d := fun _ h => List.mem_cons_of_mem _ (List.mem_append_right _ h)
  have lk0 : (Cond.fieldLink RJx4a65c 63 "java/util/ArrayList" "modCount" "I").before (([.ref a0, .ref x0] : List Value).toArray) s = true := hts _ (List.mem_of_getElem? (i := 1) rfl)
  have lk1 : (Cond.sameField "java/util/ArrayList" "java/util/AbstractList" "modCount" "I").before (([.ref a0, .ref x0] : List Value).toArray) s = true := hts _ (List.mem_of_getElem? (i := 2) rfl)
  have lk2 : (Cond.fieldLink RJx4a65c 9 "java/util/ArrayList" "elementData" "[Ljava/lang/Object;").before (([.ref a0, .ref x0] : List Value).toArray) s = true := hts _ (List.mem_of_getElem? (i := 3) rfl)
  have lk3 : (Cond.fieldLink RJx4a65c 48 "java/util/ArrayList" "size" "I").before (([.ref a0, .ref x0] : List Value).toArray) s = true := hts _ (List.mem_of_getElem? (i := 4) rfl)
  refine lv_aload_n hx hb dJx4a65c_add_9ea2d_0 rfl (lv_at hl 0 rfl) ?_
  refine lv_dup hx hb dJx4a65c_add_9ea2d_1 rfl ?_
  refine va_get (D := (dC, dI)) (ci := 0) (v := .int mc0) (C := RJx4a65c) (T := TJx4a65c) (N := 3) hx hb hts inJx4a65c_ hown hK hP k0 hk0 rfl 0 (by decide) lk0 (u_same lk1) rfl dJx4a65c_add_9ea2d_2 ?_
  refine lv_iconst (v := nI 1) hx hb dJx4a65c_add_9ea2d_5 (by decide) ?_
  refine lv_iadd hx hb dJx4a65c_add_9ea2d_6 ?_
  refine va_put (D := (dC, dI)) (ci := 0) (v := .int (mc0 + (nI 1))) (ty := .int) (C := RJx4a65c) (T := TJx4a65c) (N := 3) hx hb hts inJx4a65c_ tyJx4a65c tyJx4a65c_ok nmJx4a65c hown hK hP hD hS k0 hk0 rfl 0 (by decide) lk0 (u_same lk1) rfl (by decide +kernel) rfl rfl (Nat.le_of_ble_eq_true rfl) dJx4a65c_add_9ea2d_7 (fun H locs hP hD hS => ?_)
  have hP : va_P (dC, dI) vwCl ((ws.set k0 (a0, .inr (0, [.int (mc0 + (nI 1)), .ref b0, .int (nI n)])))) H := hP
  have hD : va_D A ((ws.set k0 (a0, .inr (0, [.int (mc0 + (nI 1)), .ref b0, .int (nI n)])))) := hD
  refine lv_aload_n hx hb dJx4a65c_add_9ea2d_10 rfl (lv_at hl 0 rfl) ?_
  refine lv_aload_n hx hb dJx4a65c_add_9ea2d_11 rfl (lv_at hl 1 rfl) ?_
  refine lv_aload_n hx hb dJx4a65c_add_9ea2d_12 rfl (lv_at hl 0 rfl) ?_
  refine va_get (D := (dC, dI)) (ci := 0) (v := .ref b0) (C := RJx4a65c) (T := TJx4a65c) (N := 3) hx hb hts inJx4a65c_ hown hK hP k0 (set_at hk0) rfl 1 (by decide) lk2 (fun _ h9 => h9) rfl dJx4a65c_add_9ea2d_13 ?_
  refine lv_aload_n hx hb dJx4a65c_add_9ea2d_16 rfl (lv_at hl 0 rfl) ?_
  refine va_get (D := (dC, dI)) (ci := 0) (v := .int (nI n)) (C := RJx4a65c) (T := TJx4a65c) (N := 3) hx hb hts inJx4a65c_ hown hK hP k0 (set_at hk0) rfl 2 (by decide) lk3 (fun _ h9 => h9) rfl dJx4a65c_add_9ea2d_17 ?_
  have hel2 : (∀ i : Nat, i < n → ∀ y : Nat, row i = some y → ∃ (k9 ci : Nat) (fs : List Value) (r9 : vw_C), ((ws.set k0 (a0, .inr (0, [.int (mc0 + (nI 1)), .ref b0, .int (nI n)]))))[k9]? = some (y, .inr (ci, fs)) ∧ vwCl[ci]? = some r9 ∧ (r9.1, "java/lang/Object") ∈ casts) := fun i hi y hy => by
    obtain ⟨k9, ci, fs, r8, e0, e1, e2, e3⟩ := hel i hi y hy
    exact ⟨k9, ci, fs, r8, set_no e1 e0, e2, e3⟩
  refine call_v (va_runV (As := [.ref x0, .ref b0, .int (nI n)]) (rest := []) ⟨hx, hb, hml, hown, hts⟩ (qadd3_C l dC dI cy e0 mi ((ws.set k0 (a0, .inr (0, [.int (mc0 + (nI 1)), .ref b0, .int (nI n)])))) H.size a0 b0 k0 k1 n (mc0 + nI 1) row x0 kx cx fx r9 (set_at hk0) (set_no hk1 (Ne.symm hne)) hel2 hn hn1 (set_no hkx hnx) hcx hca hnx) (cwV 3 hts gJx4a65c_add_9ea2d_Jx4a65c_add_72be8 rfl rfl rfl (by decide +kernel) ⟨Nat.le_of_ble_eq_true rfl, Nat.le_of_ble_eq_true rfl⟩) (preXV hK hP hD hS hA ham (w_recv (ci := 0) (q0 := k0) hK hP (set_at hk0) rfl)) rfl rfl hl.1 rfl (lv_room (Nat.le_of_ble_eq_true rfl)) dJx4a65c_add_9ea2d_20 ⟨Nat.le_of_ble_eq_true rfl, Nat.le_of_ble_eq_true rfl⟩) hD hS hA (fun u H locs w_2 hP hD hS => ?_)
  rw [List.set_set] at hP hD
  have hP : va_P (dC, dI) vwCl ((ws.set k0 (a0, .inr (0, [.int (mc0 + nI 1), .ref u, .int (nI (n + 1))]))) ++ [(u, .inl (cy 3, n + mx n, .inr (.inr (.inr (.inr (va_up (fun i => if i < n then row i else none) n (some x0)))))))]) H := hP
  have hD : va_D A ((ws.set k0 (a0, .inr (0, [.int (mc0 + nI 1), .ref u, .int (nI (n + 1))]))) ++ [(u, .inl (cy 3, n + mx n, .inr (.inr (.inr (.inr (va_up (fun i => if i < n then row i else none) n (some x0)))))))]) := hD
  refine lv_iconst (v := nI 1) hx hb dJx4a65c_add_9ea2d_23 (by decide) ?_
  rw [← hQQ]; exact end_z (u := u) hx hb hr hlocks dJx4a65c_add_9ea2d_24 hK hP hD hS (by rfl) rfl (Nat.le_of_ble_eq_true rfl) (Nat.le_of_ble_eq_true rfl)

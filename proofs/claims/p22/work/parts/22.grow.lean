/-! the lists grow -/
theorem set_no {ws : va_W} {k k0 : Nat} {x z : Nat × va_E} (h : ws[k]? = some x) (hne : k0 ≠ k) : (ws.set k0 z)[k]? = some x := by rw [List.getElem?_set_ne hne]; exact h
def mx (n : Nat) : Nat := if 1 < n / 2 then n / 2 else 1
theorem mx_le (n : Nat) : mx n ≤ n / 2 + 1 := by unfold mx; split <;> omega
theorem mx_pos (n : Nat) : 1 ≤ mx n := by unfold mx; split <;> omega
theorem nI_shr : ∀ n : Fin 201, nI n.val >>> (nI 1 &&& 31) = nI (n.val / 2) := by decide +kernel
theorem nI_mx : ∀ n : Fin 201, (if nI 1 < nI (n.val / 2) then nI (n.val / 2) else nI 1) = nI (mx n.val) := by decide +kernel
theorem nI_big : ∀ n : Fin 401, ¬ (2147483639 : Int32) < nI n.val := by decide +kernel
theorem asg_obj {s : State} {C : String} (h : va_Nw (.castable C "java/lang/Object") s) (comp c0 : ClassId) (h1 : s.vm.findClass "java/lang/Object" = some comp) (h2 : s.vm.findClass C = some c0) : s.vm.assignable c0 comp = true := by
  obtain ⟨c, t, e1, e2, e3⟩ := Cond.castable_spec h
  cases h1.symm.trans e2
  cases h2.symm.trans e1
  exact e3

set_option maxHeartbeats 4000000 in
set_option maxRecDepth 100000 in
/-- AbstractCollection() -/
theorem qJxa1e45_init_da8c8 (l : Launch) (dC : Nat → ClassId) (dI : Nat → Nat → Nat) (cy : Nat → ClassId) (e0 mi : Nat) (ws : va_W) (sz : Nat) (a0 k0 : Nat) (hk0 : ws[k0]? = some (a0, .inr (0, [.int 0, .null, .int 0]))) : Met l yJxa1e45_init_da8c8 wsJxa1e45_init_da8c8 ({ frames := 1, cells := 0, slots := 0, locals := 40 }) (va_Pc [.ref a0] (wPre (dC, dI) (tyL cy) (ws) sz)) (QV (dC, dI) (tyL cy) (fun (_ : Unit) => True) (fun _ => ws) (va_A (ws) sz)) 0 0 (va_A (ws) sz) := by
  refine en (cc := cJxa1e45_init_da8c8) (maxL := 1) (ret := none) (own := RJxa1e45) (lv := [(0, .ref a0)]) (by decide) rfl rfl (Nat.le_of_ble_eq_true rfl) rfl ?_
  intro p e s m below meth c ls A H locs hx hb hr hts hown hlocks hml hin hsz hK hP hD hS hA hl
  generalize hQQ : MQ below _ _ s _ _ A = QQ
  have lk0 : (Cond.methodLink RJxa1e45 1 objectInit).before (([.ref a0] : List Value).toArray) s = true := hts _ (List.mem_of_getElem? (i := 1) rfl)
  have lk1 : (Cond.instanceMethod objectInit).before (([.ref a0] : List Value).toArray) s = true := hts _ (List.mem_of_getElem? (i := 2) rfl)
  refine lv_aload_n hx hb dJxa1e45_init_da8c8_0 rfl (lv_at hl 0 rfl) ?_
  refine W.objInit hx hb hown lk0 lk1 (hts _ (List.mem_of_getElem? (i := 3) rfl)) rfl (by rw [hml]; exact hl.1) rfl dJxa1e45_init_da8c8_1 (Nat.le_of_ble_eq_true rfl) (Nat.le_of_ble_eq_true rfl) ?_
  refine W.eq (g2 := F0 m 4 ls []) rfl ?_
  rw [← hQQ]; exact end_v (u := ()) hx hb hr hlocks dJxa1e45_init_da8c8_4 hK hP hD hS trivial (Nat.le_of_ble_eq_true rfl) (Nat.le_of_ble_eq_true rfl)

set_option maxHeartbeats 4000000 in
set_option maxRecDepth 100000 in
/-- AbstractList() -/
theorem qJxc12de_init_da8c8 (l : Launch) (dC : Nat → ClassId) (dI : Nat → Nat → Nat) (cy : Nat → ClassId) (e0 mi : Nat) (ws : va_W) (sz : Nat) (a0 k0 : Nat) (hk0 : ws[k0]? = some (a0, .inr (0, [.int 0, .null, .int 0]))) : Met l yJxc12de_init_da8c8 wsJxc12de_init_da8c8 ({ frames := 2, cells := 0, slots := 0, locals := 60 }) (va_Pc [.ref a0] (wPre (dC, dI) (tyL cy) (ws) sz)) (QV (dC, dI) (tyL cy) (fun (_ : Unit) => True) (fun _ => ws.set k0 (a0, .inr (0, [.int (nI 0), .null, .int 0]))) (va_A (ws) sz)) 0 0 (va_A (ws) sz) := by
  refine en (cc := cJxc12de_init_da8c8) (maxL := 1) (ret := none) (own := RJxc12de) (lv := [(0, .ref a0)]) (by decide) rfl rfl (Nat.le_of_ble_eq_true rfl) rfl ?_
  intro p e s m below meth c ls A H locs hx hb hr hts hown hlocks hml hin hsz hK hP hD hS hA hl
  generalize hQQ : MQ below _ _ s _ _ A = QQ
  have inJx4a65c_ : ∀ w ∈ wsJx4a65c0, w ∈ wsJxc12de_init_da8c8 := fun _ h => List.mem_cons_of_mem _ (List.mem_append_right _ h)
  have lk0 : (Cond.initialized RJxa1e45).before (([.ref a0] : List Value).toArray) s = true := hts _ (List.mem_of_getElem? (i := 4) rfl)
  have lk1 : (Cond.instanceMethod yJxa1e45_init_da8c8).before (([.ref a0] : List Value).toArray) s = true := hts _ (List.mem_of_getElem? (i := 3) rfl)
  have lk2 : (Cond.methodLink RJxc12de 1 yJxa1e45_init_da8c8).before (([.ref a0] : List Value).toArray) s = true := hts _ (List.mem_of_getElem? (i := 2) rfl)
  have lk3 : (Cond.fieldLink RJxc12de 7 "java/util/AbstractList" "modCount" "I").before (([.ref a0] : List Value).toArray) s = true := hts _ (List.mem_of_getElem? (i := 1) rfl)
  refine lv_aload_n hx hb dJxc12de_init_da8c8_0 rfl (lv_at hl 0 rfl) ?_
  refine call_v (va_runI (As := []) (rest := []) ⟨hx, hb, hml, hown, hts⟩ (qJxa1e45_init_da8c8 l dC dI cy e0 mi ws H.size a0 k0 hk0) (cwI 0 hts gJxc12de_init_da8c8_Jxa1e45_init_da8c8 rfl rfl rfl lk0 lk2 lk1 rfl (by decide +kernel) ⟨Nat.le_of_ble_eq_true rfl, Nat.le_of_ble_eq_true rfl⟩) (preS (As := [.ref a0]) hK hP hD) rfl rfl hl.1 rfl (lv_room (Nat.le_of_ble_eq_true rfl)) dJxc12de_init_da8c8_1 ⟨Nat.le_of_ble_eq_true rfl, Nat.le_of_ble_eq_true rfl⟩) hD hS hA (fun _ H locs w_1 hP hD hS => ?_)
  have hP : va_P (dC, dI) vwCl (ws) H := hP
  have hD : va_D A (ws) := hD
  refine lv_aload_n hx hb dJxc12de_init_da8c8_4 rfl (lv_at hl 0 rfl) ?_
  refine lv_iconst (v := nI 0) hx hb dJxc12de_init_da8c8_5 (by decide) ?_
  refine va_put (D := (dC, dI)) (ci := 0) (v := .int (nI 0)) (ty := .int) (C := RJx4a65c) (T := TJx4a65c) (N := 3) hx hb hts inJx4a65c_ tyJx4a65c tyJx4a65c_ok nmJx4a65c hown hK hP hD hS k0 hk0 rfl 0 (by decide) lk3 (fun _ h9 => h9) rfl (by decide +kernel) rfl rfl (Nat.le_of_ble_eq_true rfl) dJxc12de_init_da8c8_6 (fun H locs hP hD hS => ?_)
  have hP : va_P (dC, dI) vwCl ((ws.set k0 (a0, .inr (0, [.int (nI 0), .null, .int 0])))) H := hP
  have hD : va_D A ((ws.set k0 (a0, .inr (0, [.int (nI 0), .null, .int 0])))) := hD
  rw [← hQQ]; exact end_v (u := ()) hx hb hr hlocks dJxc12de_init_da8c8_9 hK hP hD hS trivial (Nat.le_of_ble_eq_true rfl) (Nat.le_of_ble_eq_true rfl)

set_option maxHeartbeats 4000000 in
set_option maxRecDepth 100000 in
/-- ArrayList() -/
theorem qJx4a65c_init_da8c8 (l : Launch) (dC : Nat → ClassId) (dI : Nat → Nat → Nat) (cy : Nat → ClassId) (e0 mi : Nat) (ws : va_W) (sz : Nat) (a0 k0 : Nat) (hk0 : ws[k0]? = some (a0, .inr (0, [.int 0, .null, .int 0]))) : Met l yJx4a65c_init_da8c8 wsJx4a65c_init_da8c8 ({ frames := 3, cells := 0, slots := 0, locals := 80 }) (va_Pc [.ref a0] (wPreX (dC, dI) (tyL cy) e0 mi (ws) sz)) (QV (dC, dI) (tyL cy) (fun (_ : Unit) => True) (fun _ => ws.set k0 (a0, .inr (0, [.int (nI 0), .ref e0, .int 0]))) (va_A (ws) sz)) 0 0 (va_A (ws) sz) := by
  refine enA (cc := cJx4a65c_init_da8c8) (maxL := 1) (ret := none) (own := RJx4a65c) (lv := [(0, .ref a0)]) (by decide) rfl rfl (Nat.le_of_ble_eq_true rfl) rfl ?_
  intro p e s m below meth c ls A H locs hx hb hr hts hown hlocks hml hin hsz hK hP hD hS hA hl ham
  generalize hQQ : MQ below _ _ s _ _ A = QQ
  have inJx4a65c_ : ∀ w ∈ wsJx4a65c0, w ∈ wsJx4a65c_init_da8c8 := fun _ h => List.mem_cons_of_mem _ (List.mem_append_right _ h)
  have lk0 : (Cond.initialized RJxc12de).before (([.ref a0] : List Value).toArray) s = true := hts _ (List.mem_of_getElem? (i := 5) rfl)
  have lk1 : (Cond.instanceMethod yJxc12de_init_da8c8).before (([.ref a0] : List Value).toArray) s = true := hts _ (List.mem_of_getElem? (i := 4) rfl)
  have lk2 : (Cond.methodLink RJx4a65c 1 yJxc12de_init_da8c8).before (([.ref a0] : List Value).toArray) s = true := hts _ (List.mem_of_getElem? (i := 3) rfl)
  have lk3 : (Cond.fieldLink RJx4a65c 39 "java/util/ArrayList" "DEFAULTCAPACITY_EMPTY_ELEMENTDATA" "[Ljava/lang/Object;").before (([.ref a0] : List Value).toArray) s = true := hts _ (List.mem_of_getElem? (i := 1) rfl)
  have lk4 : (Cond.fieldLink RJx4a65c 9 "java/util/ArrayList" "elementData" "[Ljava/lang/Object;").before (([.ref a0] : List Value).toArray) s = true := hts _ (List.mem_of_getElem? (i := 2) rfl)
  refine lv_aload_n hx hb dJx4a65c_init_da8c8_0 rfl (lv_at hl 0 rfl) ?_
  refine call_v (va_runI (As := []) (rest := []) ⟨hx, hb, hml, hown, hts⟩ (qJxc12de_init_da8c8 l dC dI cy e0 mi ws H.size a0 k0 hk0) (cwI 0 hts gJx4a65c_init_da8c8_Jxc12de_init_da8c8 rfl rfl rfl lk0 lk2 lk1 rfl (by decide +kernel) ⟨Nat.le_of_ble_eq_true rfl, Nat.le_of_ble_eq_true rfl⟩) (preS (As := [.ref a0]) hK hP hD) rfl rfl hl.1 rfl (lv_room (Nat.le_of_ble_eq_true rfl)) dJx4a65c_init_da8c8_1 ⟨Nat.le_of_ble_eq_true rfl, Nat.le_of_ble_eq_true rfl⟩) hD hS hA (fun _ H locs w_1 hP hD hS => ?_)
  have hP : va_P (dC, dI) vwCl ((ws.set k0 (a0, .inr (0, [.int (nI 0), .null, .int 0])))) H := hP
  have hD : va_D A ((ws.set k0 (a0, .inr (0, [.int (nI 0), .null, .int 0])))) := hD
  refine lv_aload_n hx hb dJx4a65c_init_da8c8_4 rfl (lv_at hl 0 rfl) ?_
  refine va_gets hx hb ham.2.2.1 hS hown lk3 (fun _ h9 => h9) dJx4a65c_init_da8c8_5 ?_
  refine va_put (D := (dC, dI)) (ci := 0) (v := .ref e0) (ty := .array (.object "java/lang/Object")) (C := RJx4a65c) (T := TJx4a65c) (N := 3) hx hb hts inJx4a65c_ tyJx4a65c tyJx4a65c_ok nmJx4a65c hown hK hP hD hS k0 (set_at hk0) rfl 1 (by decide) lk4 (fun _ h9 => h9) rfl (by decide +kernel) rfl rfl (Nat.le_of_ble_eq_true rfl) dJx4a65c_init_da8c8_8 (fun H locs hP hD hS => ?_)
  rw [List.set_set] at hP hD
  have hP : va_P (dC, dI) vwCl ((ws.set k0 (a0, .inr (0, [.int (nI 0), .ref e0, .int 0])))) H := hP
  have hD : va_D A ((ws.set k0 (a0, .inr (0, [.int (nI 0), .ref e0, .int 0])))) := hD
  rw [← hQQ]; exact end_v (u := ()) hx hb hr hlocks dJx4a65c_init_da8c8_11 hK hP hD hS trivial (Nat.le_of_ble_eq_true rfl) (Nat.le_of_ble_eq_true rfl)

set_option maxHeartbeats 4000000 in
set_option maxRecDepth 100000 in
/-- newLength -/
theorem qJ8_newLength_cabcc (l : Launch) (dC : Nat → ClassId) (dI : Nat → Nat → Nat) (cy : Nat → ClassId) (e0 mi : Nat) (ws : va_W) (sz : Nat) (n : Nat) (hn : n ≤ 200) : Met l yJ8_newLength_cabcc wsJ8_newLength_cabcc ({ frames := 1, cells := 0, slots := 0, locals := 30 }) (va_Pc [.int (nI n), .int (nI 1), .int (nI (n / 2))] (wPre (dC, dI) (tyL cy) (ws) sz)) (QI (dC, dI) (tyL cy) (fun (r : Int32) (_ : Unit) => r = nI (n + mx n)) (fun _ => ws) (va_A (ws) sz)) 0 0 (va_A (ws) sz) := by
  refine en (cc := cJ8_newLength_cabcc) (maxL := 4) (ret := (some .int)) (own := RJ8) (lv := [(0, .int (nI n)), (1, .int (nI 1)), (2, .int (nI (n / 2)))]) (by decide) rfl rfl (Nat.le_of_ble_eq_true rfl) rfl ?_
  intro p e s m below meth c ls A H locs hx hb hr hts hown hlocks hml hin hsz hK hP hD hS hA hl
  generalize hQQ : MQ below _ _ s _ _ A = QQ
  have lk0 : (Cond.methodLink RJ8 194 Lib.Math.max.name).before (([.int (nI n), .int (nI 1), .int (nI (n / 2))] : List Value).toArray) s = true := hts _ (List.mem_of_getElem? (i := 1) rfl)
  have lk1 : (Cond.static Lib.Math.max.name).before (([.int (nI n), .int (nI 1), .int (nI (n / 2))] : List Value).toArray) s = true := hts _ (List.mem_of_getElem? (i := 2) rfl)
  have lk2 : (Cond.initialized "java/lang/Math").before (([.int (nI n), .int (nI 1), .int (nI (n / 2))] : List Value).toArray) s = true := hts _ (List.mem_of_getElem? (i := 3) rfl)
  have lk3 : (Cond.code Lib.Math.max.name Lib.Math.max.code 2 (some .int)).before (([.int (nI n), .int (nI 1), .int (nI (n / 2))] : List Value).toArray) s = true := hts _ (List.mem_of_getElem? (i := 4) rfl)
  have lk4 : (Cond.constant RJ8 200 (2147483639)).before (([.int (nI n), .int (nI 1), .int (nI (n / 2))] : List Value).toArray) s = true := hts _ (List.mem_of_getElem? (i := 5) rfl)
  have hmn := mx_le n
  have hmp := mx_pos n
  refine lv_iload_n hx hb dJ8_newLength_cabcc_0 rfl (lv_at hl 0 rfl) ?_
  refine lv_iload_n hx hb dJ8_newLength_cabcc_1 rfl (lv_at hl 1 rfl) ?_
  refine lv_iload_n hx hb dJ8_newLength_cabcc_2 rfl (lv_at hl 2 rfl) ?_
  refine va_mmax hx hb (hml.trans hl.1.symm) hown lk0 lk1 lk2 lk3 (Nat.le_of_ble_eq_true rfl) (Nat.le_of_ble_eq_true rfl) (Nat.zero_le _) (Nat.zero_le _) dJ8_newLength_cabcc_3 ?_
  refine to_i (y := nI (mx n)) (nI_mx ⟨n, by omega⟩) ?_
  refine lv_iadd hx hb dJ8_newLength_cabcc_6 ?_
  refine to_i (y := nI (n + (mx n))) (nI_add _ _) ?_
  refine lv_istore_n (lv' := [(3, .int (nI (n + (mx n)))), (0, .int (nI n)), (1, .int (nI 1)), (2, .int (nI (n / 2)))]) hx hb dJ8_newLength_cabcc_7 rfl hl (by decide) rfl (fun ls hl => ?_)
  refine lv_iconst (v := nI 0) hx hb dJ8_newLength_cabcc_8 (by decide) ?_
  refine lv_iload_n hx hb dJ8_newLength_cabcc_9 rfl (lv_at hl 0 rfl) ?_
  refine n_ge (tgt := 21) hx hb dJ8_newLength_cabcc_10 (by decide) (by omega) (by omega) (fun h9 => absurd h9 (by omega)) (fun _ => ?_)
  refine lv_iload_n hx hb dJ8_newLength_cabcc_13 rfl (lv_at hl 0 rfl) ?_
  refine lv_ldc (v := 2147483639) hx hb hown lk4 dJ8_newLength_cabcc_14 ?_
  refine lv_icmp_gt (tgt := 21) hx hb dJ8_newLength_cabcc_16 (by decide) (fun h9 => absurd h9 (nI_big ⟨n + mx n, by omega⟩)) (fun _ => ?_)
  refine lv_iload_n hx hb dJ8_newLength_cabcc_19 rfl (lv_at hl 0 rfl) ?_
  rw [← hQQ]; exact end_i (u := ()) hx hb hr hlocks dJ8_newLength_cabcc_20 hK hP hD hS rfl (Nat.le_of_ble_eq_true rfl) (Nat.le_of_ble_eq_true rfl)

theorem nI_min {a b : Nat} (h : a ≤ b) (hb : b < 2 ^ 31) : (if nI b < nI a then nI b else nI a) = nI a := if_neg (Int32.not_lt.mpr (nI_le h hb))

set_option maxHeartbeats 4000000 in
set_option maxRecDepth 100000 in
/-- copyOf(Object[], int, Class) -/
theorem qJ7_copyOf_6403c (l : Launch) (dC : Nat → ClassId) (dI : Nat → Nat → Nat) (cy : Nat → ClassId) (e0 mi : Nat) (ws : va_W) (sz : Nat) (b0 k1 n kn : Nat) (row : Nat → Option Nat) (hk1 : ws[k1]? = some (b0, .inl (cy 3, n, .inr (.inr (.inr (.inr row)))))) (hel : (∀ i : Nat, i < n → ∀ y : Nat, row i = some y → ∃ (k9 ci : Nat) (fs : List Value) (r9 : vw_C), ws[k9]? = some (y, .inr (ci, fs)) ∧ vwCl[ci]? = some r9 ∧ (r9.1, "java/lang/Object") ∈ casts)) (hn : n ≤ 400) (hk : n ≤ kn) (hkk : kn ≤ 400) : Met l yJ7_copyOf_6403c wsJ7_copyOf_6403c ({ frames := 2, cells := 1, slots := 400, locals := 80 }) (va_Pc [.ref b0, .int (nI kn), .ref mi] (wPreX (dC, dI) (tyL cy) e0 mi (ws) sz)) (QR (dC, dI) (tyL cy) (fun (r : Nat) (b : Nat) => r = b) (fun (b : Nat) => ws ++ [(b, .inl (cy 3, kn, .inr (.inr (.inr (.inr (fun i => if i < n then row i else none))))))]) (va_A (ws) sz)) 1 400 (va_A (ws) sz) := by
  refine enA (cc := cJ7_copyOf_6403c) (maxL := 4) (ret := (some (.array (.object "java/lang/Object")))) (own := RJ7) (lv := [(0, .ref b0), (1, .int (nI kn)), (2, .ref mi)]) (by decide) rfl rfl (Nat.le_of_ble_eq_true rfl) rfl ?_
  intro p e s m below meth c ls A H locs hx hb hr hts hown hlocks hml hin hsz hK hP hD hS hA hl ham
  generalize hQQ : MQ below _ _ s _ _ A = QQ
  have lk0 : (Cond.classLink RJ7 110 "[Ljava/lang/Object;").before (([.ref b0, .int (nI kn), .ref mi] : List Value).toArray) s = true := hts _ (List.mem_of_getElem? (i := 1) rfl)
  have lk1 : (Cond.classLink RJ7 2 "java/lang/Object").before (([.ref b0, .int (nI kn), .ref mi] : List Value).toArray) s = true := hts _ (List.mem_of_getElem? (i := 2) rfl)
  have lk2 : (Cond.methodLink RJ7 304 Lib.Math.min.name).before (([.ref b0, .int (nI kn), .ref mi] : List Value).toArray) s = true := hts _ (List.mem_of_getElem? (i := 3) rfl)
  have lk3 : (Cond.static Lib.Math.min.name).before (([.ref b0, .int (nI kn), .ref mi] : List Value).toArray) s = true := hts _ (List.mem_of_getElem? (i := 4) rfl)
  have lk4 : (Cond.initialized "java/lang/Math").before (([.ref b0, .int (nI kn), .ref mi] : List Value).toArray) s = true := hts _ (List.mem_of_getElem? (i := 5) rfl)
  have lk5 : (Cond.code Lib.Math.min.name Lib.Math.min.code 2 (some .int)).before (([.ref b0, .int (nI kn), .ref mi] : List Value).toArray) s = true := hts _ (List.mem_of_getElem? (i := 6) rfl)
  have lk6 : (Cond.methodLink RJ7 150 arraycopyName).before (([.ref b0, .int (nI kn), .ref mi] : List Value).toArray) s = true := hts _ (List.mem_of_getElem? (i := 7) rfl)
  have lk7 : (Cond.native arraycopyName).before (([.ref b0, .int (nI kn), .ref mi] : List Value).toArray) s = true := hts _ (List.mem_of_getElem? (i := 8) rfl)
  have lk8 : (Cond.static arraycopyName).before (([.ref b0, .int (nI kn), .ref mi] : List Value).toArray) s = true := hts _ (List.mem_of_getElem? (i := 9) rfl)
  have lk9 : (Cond.initialized "java/lang/System").before (([.ref b0, .int (nI kn), .ref mi] : List Value).toArray) s = true := hts _ (List.mem_of_getElem? (i := 10) rfl)
  refine lv_aload_n hx hb dJ7_copyOf_6403c_0 rfl (lv_at hl 2 rfl) ?_
  refine va_ldcM hx hb hown lk0 ham.2.2.2.2.2.2.2.1 dJ7_copyOf_6403c_1 ?_
  refine lv_acmp_ne (rx := some mi) (ry := some mi) (tgt := 13) hx hb dJ7_copyOf_6403c_3 (by decide) (fun h9 => absurd rfl h9) (fun _ => ?_)
  refine lv_iload_n hx hb dJ7_copyOf_6403c_6 rfl (lv_at hl 1 rfl) ?_
  refine x_newq hx hb hown lk1 ham.2.2.2.2.2.2.2.2.2.1 hK hP hD hS hA (cA := cy 3) 3 rfl (by omega) (Nat.le_of_ble_eq_true rfl) (by show 0 + kn ≤ 400; omega) dJ7_copyOf_6403c_7 (fun b H hP hD hS => ?_)
  have hP : va_P (dC, dI) vwCl (ws ++ [(b, .inl (cy 3, kn, .inr (.inr (.inr (.inr (fun _ => none))))))]) H := hP
  have hD : va_D A (ws ++ [(b, .inl (cy 3, kn, .inr (.inr (.inr (.inr (fun _ => none))))))]) := hD
  refine lv_goto (tgt := 24) hx hb dJ7_copyOf_6403c_10 (by decide) ?_
  refine lv_astore_n (lv' := [(3, .ref b), (0, .ref b0), (1, .int (nI kn)), (2, .ref mi)]) hx hb dJ7_copyOf_6403c_24 rfl hl (by decide) rfl (fun ls hl => ?_)
  refine lv_aload_n hx hb dJ7_copyOf_6403c_25 rfl (lv_at hl 1 rfl) ?_
  refine lv_iconst (v := nI 0) hx hb dJ7_copyOf_6403c_26 (by decide) ?_
  refine lv_aload_n hx hb dJ7_copyOf_6403c_27 rfl (lv_at hl 0 rfl) ?_
  refine lv_iconst (v := nI 0) hx hb dJ7_copyOf_6403c_28 (by decide) ?_
  refine lv_aload_n hx hb dJ7_copyOf_6403c_29 rfl (lv_at hl 1 rfl) ?_
  refine va_alen hx hb hK hP k1 3 (app_at hk1) rfl (v := nI n) rfl dJ7_copyOf_6403c_30 ?_
  refine lv_iload_n hx hb dJ7_copyOf_6403c_31 rfl (lv_at hl 2 rfl) ?_
  refine va_mmin hx hb (hml.trans hl.1.symm) hown lk2 lk3 lk4 lk5 (Nat.le_of_ble_eq_true rfl) (Nat.le_of_ble_eq_true rfl) (by show 0 + 1 ≤ 1; omega) (by show 0 + kn ≤ 400; omega) dJ7_copyOf_6403c_32 ?_
  refine to_i (y := nI n) (nI_min hk (by omega)) ?_
  refine va_copyM (E0 := "java/lang/Object") (E1 := "java/lang/Object") hx hb (hml.trans hl.1.symm) hown lk6 lk7 lk8 lk9 hK hP hD hS k1 (ws.length + 0) 3 3 (app_at hk1) (app_r (w := ws) (y := [(b, .inl (cy 3, kn, .inr (.inr (.inr (.inr (fun _ => none))))))]) (k := 0) rfl) rfl rfl (by decide) (by decide) (fun h9 => absurd h9 (Int32.not_lt.mpr (nI_le (a := 0) (Nat.zero_le _) (by omega)))) (by rw [nI_clamp (show n < 2 ^ 31 by omega), show ((nI 0).toNatClampNeg) = 0 from nI_clamp (by omega)]; omega) (by rw [nI_clamp (show n < 2 ^ 31 by omega), show ((nI 0).toNatClampNeg) = 0 from nI_clamp (by omega)]; omega) ?_ (Nat.le_of_ble_eq_true rfl) (Nat.le_of_ble_eq_true rfl) dJ7_copyOf_6403c_35 (fun H locs hP hD hS => ?_)
  · rw [nI_clamp (show n < 2 ^ 31 by omega)]
    intro i hi y hy
    rw [show ((nI 0).toNatClampNeg) = 0 from nI_clamp (by omega), Nat.zero_add] at hy
    obtain ⟨k9, ci, fs, r9, e1, e2, e3⟩ := hel i hi y hy
    exact va_rAny hK hP (app_at e1) e2 (asg_obj (ham.2.2.2.2.2.1 _ e3))
  rw [nI_clamp (show n < 2 ^ 31 by omega), show ((nI 0).toNatClampNeg) = 0 from nI_clamp (by omega), app_setr] at hP hD
  rw [show va_cpy row (fun _ => none) 0 0 n = (fun i => if i < n then row i else none) from funext fun i => by simp [va_cpy]] at hP hD
  have hP : va_P (dC, dI) vwCl (ws ++ [(b, .inl (cy 3, kn, .inr (.inr (.inr (.inr (fun i => if i < n then row i else none))))))]) H := hP
  have hD : va_D A (ws ++ [(b, .inl (cy 3, kn, .inr (.inr (.inr (.inr (fun i => if i < n then row i else none))))))]) := hD
  refine lv_aload_n hx hb dJ7_copyOf_6403c_38 rfl (lv_at hl 0 rfl) ?_
  rw [← hQQ]; exact end_r (u := b) hx hb hr (Or.inr ⟨_, rfl⟩) hlocks dJ7_copyOf_6403c_39 hK hP hD hS rfl (Nat.le_of_ble_eq_true rfl) (by show 0 + kn ≤ 400; omega)

set_option maxHeartbeats 4000000 in
set_option maxRecDepth 100000 in
/-- copyOf(Object[], int) -/
theorem qJ7_copyOf_1904c (l : Launch) (dC : Nat → ClassId) (dI : Nat → Nat → Nat) (cy : Nat → ClassId) (e0 mi : Nat) (ws : va_W) (sz : Nat) (b0 k1 n kn : Nat) (row : Nat → Option Nat) (hk1 : ws[k1]? = some (b0, .inl (cy 3, n, .inr (.inr (.inr (.inr row)))))) (hel : (∀ i : Nat, i < n → ∀ y : Nat, row i = some y → ∃ (k9 ci : Nat) (fs : List Value) (r9 : vw_C), ws[k9]? = some (y, .inr (ci, fs)) ∧ vwCl[ci]? = some r9 ∧ (r9.1, "java/lang/Object") ∈ casts)) (hn : n ≤ 400) (hk : n ≤ kn) (hkk : kn ≤ 400) : Met l yJ7_copyOf_1904c wsJ7_copyOf_1904c ({ frames := 3, cells := 1, slots := 400, locals := 103 }) (va_Pc [.ref b0, .int (nI kn)] (wPreX (dC, dI) (tyL cy) e0 mi (ws) sz)) (QR (dC, dI) (tyL cy) (fun (r : Nat) (b : Nat) => r = b) (fun (b : Nat) => ws ++ [(b, .inl (cy 3, kn, .inr (.inr (.inr (.inr (fun i => if i < n then row i else none))))))]) (va_A (ws) sz)) 1 400 (va_A (ws) sz) := by
  refine enA (cc := cJ7_copyOf_1904c) (maxL := 2) (ret := (some (.array (.object "java/lang/Object")))) (own := RJ7) (lv := [(0, .ref b0), (1, .int (nI kn))]) (by decide) rfl rfl (Nat.le_of_ble_eq_true rfl) rfl ?_
  intro p e s m below meth c ls A H locs hx hb hr hts hown hlocks hml hin hsz hK hP hD hS hA hl ham
  generalize hQQ : MQ below _ _ s _ _ A = QQ
  have lk0 : (Cond.methodLink RJ7 86 ⟨"java/lang/Object", "getClass", "()Ljava/lang/Class;"⟩).before (([.ref b0, .int (nI kn)] : List Value).toArray) s = true := hts _ (List.mem_of_getElem? (i := 1) rfl)
  have lk1 : (Cond.selects "[Ljava/lang/Object;" ⟨"java/lang/Object", "getClass", "()Ljava/lang/Class;"⟩ ⟨"java/lang/Object", "getClass", "()Ljava/lang/Class;"⟩).before (([.ref b0, .int (nI kn)] : List Value).toArray) s = true := hts _ (List.mem_of_getElem? (i := 2) rfl)
  have lk2 : (Cond.instanceMethod ⟨"java/lang/Object", "getClass", "()Ljava/lang/Class;"⟩).before (([.ref b0, .int (nI kn)] : List Value).toArray) s = true := hts _ (List.mem_of_getElem? (i := 3) rfl)
  have lk3 : (Cond.native ⟨"java/lang/Object", "getClass", "()Ljava/lang/Class;"⟩).before (([.ref b0, .int (nI kn)] : List Value).toArray) s = true := hts _ (List.mem_of_getElem? (i := 4) rfl)
  refine lv_aload_n hx hb dJ7_copyOf_1904c_0 rfl (lv_at hl 0 rfl) ?_
  refine lv_iload_n hx hb dJ7_copyOf_1904c_1 rfl (lv_at hl 1 rfl) ?_
  refine lv_aload_n hx hb dJ7_copyOf_1904c_2 rfl (lv_at hl 0 rfl) ?_
  refine va_getC (C := "[Ljava/lang/Object;") hx hb (hml.trans hl.1.symm) hown lk0 (va_Nw.use rfl (ham.2.2.2.2.2.2.1 _ (by decide))) lk1 lk2 lk3 ham.2.2.2.2.2.2.2.1 ⟨_, hP _ _ hk1, by rw [vp_cell_q]; rfl, ?_⟩ (Nat.le_of_ble_eq_true rfl) (Nat.le_of_ble_eq_true rfl) dJ7_copyOf_1904c_3 ?_
  · obtain ⟨k1, c1, -, -, -, h9⟩ := (hK.2 3 _ rfl).2
    rw [vp_cell_q]
    rw [show ("[" ++ (FieldType.object "java/lang/Object").toString) = "[Ljava/lang/Object;" by decide +kernel] at h9
    exact h9
  refine call_r (va_runS (As := [.ref b0, .int (nI kn), .ref mi]) (rest := []) ⟨hx, hb, hml, hown, hts⟩ (qJ7_copyOf_6403c l dC dI cy e0 mi ws H.size b0 k1 n kn row hk1 hel hn hk hkk) (va_cwS 3 hts gJ7_copyOf_1904c_J7_copyOf_6403c rfl rfl rfl (by decide +kernel) ⟨Nat.le_of_ble_eq_true rfl, Nat.le_of_ble_eq_true rfl⟩) (preXS hK hP hD hS hA ham) rfl rfl hl.1 rfl (lv_room (Nat.le_of_ble_eq_true rfl)) dJ7_copyOf_1904c_6 ⟨Nat.le_of_ble_eq_true rfl, Nat.le_of_ble_eq_true rfl⟩) hD hS hA (fun r_1 u H locs w_2 hP hD hS => ?_)
  subst w_2
  have hP : va_P (dC, dI) vwCl (ws ++ [(r_1, .inl (cy 3, kn, .inr (.inr (.inr (.inr (fun i => if i < n then row i else none))))))]) H := hP
  have hD : va_D A (ws ++ [(r_1, .inl (cy 3, kn, .inr (.inr (.inr (.inr (fun i => if i < n then row i else none))))))]) := hD
  rw [← hQQ]; exact end_r (u := r_1) hx hb hr (Or.inr ⟨_, rfl⟩) hlocks dJ7_copyOf_1904c_9 hK hP hD hS rfl (Nat.le_of_ble_eq_true rfl) (Nat.le_of_ble_eq_true rfl)

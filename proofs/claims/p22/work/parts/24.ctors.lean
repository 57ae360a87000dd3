/-! constructors of the contract, the shop and the reference -/
def adF (l : List Nat) : Nat → Nat := fun k => l.getD k 0

set_option maxHeartbeats 4000000 in
set_option maxRecDepth 100000 in
/-- Contract() -/
theorem qX0_init (l : Launch) (dC : Nat → ClassId) (dI : Nat → Nat → Nat) (cy : Nat → ClassId) (e0 mi : Nat) (ws : va_W) (sz : Nat) (a0 k0 : Nat) (hk0 : ws[k0]? = some (a0, .inr (1, [.null, .null, .null, .null, .null]))) : Met l yX0_init wsX0_init ({ frames := 1, cells := 7, slots := 38, locals := 40 }) (va_Pc [.ref a0] (wPreX (dC, dI) (tyL cy) e0 mi (ws) sz)) (QV (dC, dI) (tyL cy) (fun (_ : Nat → Nat) => True) (fun (ad : Nat → Nat) => ws.set k0 (a0, .inr (1, [.ref (ad 1), .ref (ad 2), .ref (ad 5), .ref (ad 6), .ref (ad 7)])) ++ [(ad 1, .inl (cy 2, 10, .inr (.inr (.inr (.inr (fun _ => none)))))), (ad 2, .inl (cy 4, 2, .inr (.inr (.inr (.inr (fun s => if s = 0 then some (ad 3) else some (ad 4))))))), (ad 3, .inl (cy 0, 10, .inl (fun _ => nI 0))), (ad 4, .inl (cy 0, 10, .inl (fun _ => nI 0))), (ad 5, .inl (cy 1, 2, .inl (fun _ => nI 0))), (ad 6, .inl (cy 0, 2, .inl (fun _ => nI 0))), (ad 7, .inl (cy 0, 2, .inl (fun _ => nI 0)))]) (va_A (ws) sz)) 7 38 (va_A (ws) sz) := by
  refine enA (cc := cX0_init) (maxL := 1) (ret := none) (own := RX0) (lv := [(0, .ref a0)]) (by decide) rfl rfl (Nat.le_of_ble_eq_true rfl) rfl ?_
  intro p e s m below meth c ls A H locs hx hb hr hts hown hlocks hml hin hsz hK hP hD hS hA hl ham
  generalize hQQ : MQ below _ _ s _ _ A = QQ
  have inX0_ : ∀ w ∈ wsX00, w ∈ wsX0_init := fun _ h => List.mem_cons_of_mem _ (List.mem_append_right _ h)
  have lk0 : (Cond.methodLink RX0 3 objectInit).before (([.ref a0] : List Value).toArray) s = true := hts _ (List.mem_of_getElem? (i := 1) rfl)
  have lk1 : (Cond.instanceMethod objectInit).before (([.ref a0] : List Value).toArray) s = true := hts _ (List.mem_of_getElem? (i := 2) rfl)
  have lk2 : (Cond.classLink RX0 9 RX2).before (([.ref a0] : List Value).toArray) s = true := hts _ (List.mem_of_getElem? (i := 4) rfl)
  have lk3 : (Cond.fieldLink RX0 11 "ClauseShop$Contract" "items" "[LClauseShop$Version;").before (([.ref a0] : List Value).toArray) s = true := hts _ (List.mem_of_getElem? (i := 5) rfl)
  have lk4 : (Cond.classLink RX0 17 "[[I").before (([.ref a0] : List Value).toArray) s = true := hts _ (List.mem_of_getElem? (i := 6) rfl)
  have lk5 : (Cond.arrayClass .int).before (([.ref a0] : List Value).toArray) s = true := hts _ (List.mem_of_getElem? (i := 7) rfl)
  have lk6 : (Cond.fieldLink RX0 19 "ClauseShop$Contract" "marks" "[[I").before (([.ref a0] : List Value).toArray) s = true := hts _ (List.mem_of_getElem? (i := 8) rfl)
  have lk7 : (Cond.arrayClass .boolean).before (([.ref a0] : List Value).toArray) s = true := hts _ (List.mem_of_getElem? (i := 9) rfl)
  have lk8 : (Cond.fieldLink RX0 22 "ClauseShop$Contract" "signed" "[Z").before (([.ref a0] : List Value).toArray) s = true := hts _ (List.mem_of_getElem? (i := 10) rfl)
  have lk9 : (Cond.fieldLink RX0 26 "ClauseShop$Contract" "breaches" "[I").before (([.ref a0] : List Value).toArray) s = true := hts _ (List.mem_of_getElem? (i := 11) rfl)
  have lk10 : (Cond.fieldLink RX0 30 "ClauseShop$Contract" "penalties" "[I").before (([.ref a0] : List Value).toArray) s = true := hts _ (List.mem_of_getElem? (i := 12) rfl)
  refine lv_aload_n hx hb dX0_init_0 rfl (lv_at hl 0 rfl) ?_
  refine W.objInit hx hb hown lk0 lk1 (hts _ (List.mem_of_getElem? (i := 3) rfl)) rfl (by rw [hml]; exact hl.1) rfl dX0_init_1 (Nat.le_of_ble_eq_true rfl) (Nat.le_of_ble_eq_true rfl) ?_
  refine W.eq (g2 := F0 m 4 ls []) rfl ?_
  refine lv_aload_n hx hb dX0_init_4 rfl (lv_at hl 0 rfl) ?_
  refine lv_bipush (v := nI 10) hx hb dX0_init_5 (by decide) ?_
  refine x_newq hx hb hown lk2 ham.2.2.2.2.2.2.2.2.1 hK hP hD hS hA (N := 10) (cA := cy 2) 2 rfl (by omega) (Nat.le_of_ble_eq_true rfl) (Nat.le_of_ble_eq_true rfl) dX0_init_7 (fun q1 H hP hD hS => ?_)
  have hP : va_P (dC, dI) vwCl (ws ++ [(q1, .inl (cy 2, 10, .inr (.inr (.inr (.inr (fun _ => none))))))]) H := hP
  have hD : va_D A (ws ++ [(q1, .inl (cy 2, 10, .inr (.inr (.inr (.inr (fun _ => none))))))]) := hD
  refine va_putF (D := (dC, dI)) (ci := 1) (v := .ref q1) (ty := .array (.object "ClauseShop$Version")) (C := RX0) (T := TX0) (N := 5) hx hb hts inX0_ tyX0 tyX0_ok nmX0 hown hK hP hD hS k0 (app_at hk0) rfl 0 (by decide) lk3 (fun _ h9 => h9) rfl hin rfl (by decide +kernel) rfl rfl (Nat.le_of_ble_eq_true rfl) dX0_init_10 (fun H locs hP hD hS => ?_)
  rw [app_set hk0] at hP hD
  have hP : va_P (dC, dI) vwCl ((ws.set k0 (a0, .inr (1, [.ref q1, .null, .null, .null, .null]))) ++ [(q1, .inl (cy 2, 10, .inr (.inr (.inr (.inr (fun _ => none))))))]) H := hP
  have hD : va_D A ((ws.set k0 (a0, .inr (1, [.ref q1, .null, .null, .null, .null]))) ++ [(q1, .inl (cy 2, 10, .inr (.inr (.inr (.inr (fun _ => none))))))]) := hD
  refine lv_aload_n hx hb dX0_init_13 rfl (lv_at hl 0 rfl) ?_
  refine lv_iconst (v := nI 2) hx hb dX0_init_14 (by decide) ?_
  refine lv_bipush (v := nI 10) hx hb dX0_init_15 (by decide) ?_
  refine x_newm hx hb hown lk4 ham.2.2.2.2.2.2.2.2.2.2.1 lk5 hK hP hD hS hA (c0 := cy 0) (c4 := cy 4) 0 4 rfl rfl (Nat.le_of_ble_eq_true rfl) (Nat.le_of_ble_eq_true rfl) dX0_init_17 (fun q2 q3 q4 H hP hD hS => ?_)
  rw [List.append_assoc] at hP hD
  have hP : va_P (dC, dI) vwCl ((ws.set k0 (a0, .inr (1, [.ref q1, .null, .null, .null, .null]))) ++ [(q1, .inl (cy 2, 10, .inr (.inr (.inr (.inr (fun _ => none)))))), (q2, .inl (cy 4, 2, .inr (.inr (.inr (.inr (fun s => if s = 0 then some q3 else some q4)))))), (q3, .inl (cy 0, 10, .inl (fun _ => nI 0))), (q4, .inl (cy 0, 10, .inl (fun _ => nI 0)))]) H := hP
  have hD : va_D A ((ws.set k0 (a0, .inr (1, [.ref q1, .null, .null, .null, .null]))) ++ [(q1, .inl (cy 2, 10, .inr (.inr (.inr (.inr (fun _ => none)))))), (q2, .inl (cy 4, 2, .inr (.inr (.inr (.inr (fun s => if s = 0 then some q3 else some q4)))))), (q3, .inl (cy 0, 10, .inl (fun _ => nI 0))), (q4, .inl (cy 0, 10, .inl (fun _ => nI 0)))]) := hD
  refine va_putF (D := (dC, dI)) (ci := 1) (v := .ref q2) (ty := .array (.array .int)) (C := RX0) (T := TX0) (N := 5) hx hb hts inX0_ tyX0 tyX0_ok nmX0 hown hK hP hD hS k0 (app_at (set_at hk0)) rfl 1 (by decide) lk6 (fun _ h9 => h9) rfl hin rfl (by decide +kernel) rfl rfl (Nat.le_of_ble_eq_true rfl) dX0_init_21 (fun H locs hP hD hS => ?_)
  rw [app_set (set_at hk0), List.set_set] at hP hD
  have hP : va_P (dC, dI) vwCl ((ws.set k0 (a0, .inr (1, [.ref q1, .ref q2, .null, .null, .null]))) ++ [(q1, .inl (cy 2, 10, .inr (.inr (.inr (.inr (fun _ => none)))))), (q2, .inl (cy 4, 2, .inr (.inr (.inr (.inr (fun s => if s = 0 then some q3 else some q4)))))), (q3, .inl (cy 0, 10, .inl (fun _ => nI 0))), (q4, .inl (cy 0, 10, .inl (fun _ => nI 0)))]) H := hP
  have hD : va_D A ((ws.set k0 (a0, .inr (1, [.ref q1, .ref q2, .null, .null, .null]))) ++ [(q1, .inl (cy 2, 10, .inr (.inr (.inr (.inr (fun _ => none)))))), (q2, .inl (cy 4, 2, .inr (.inr (.inr (.inr (fun s => if s = 0 then some q3 else some q4)))))), (q3, .inl (cy 0, 10, .inl (fun _ => nI 0))), (q4, .inl (cy 0, 10, .inl (fun _ => nI 0)))]) := hD
  refine lv_aload_n hx hb dX0_init_24 rfl (lv_at hl 0 rfl) ?_
  refine lv_iconst (v := nI 2) hx hb dX0_init_25 (by decide) ?_
  refine x_newz hx hb lk7 hK hP hD hS hA (N := 2) 1 rfl (by omega) (Nat.le_of_ble_eq_true rfl) (Nat.le_of_ble_eq_true rfl) dX0_init_26 (fun q5 H hP hD hS => ?_)
  rw [List.append_assoc] at hP hD
  have hP : va_P (dC, dI) vwCl ((ws.set k0 (a0, .inr (1, [.ref q1, .ref q2, .null, .null, .null]))) ++ [(q1, .inl (cy 2, 10, .inr (.inr (.inr (.inr (fun _ => none)))))), (q2, .inl (cy 4, 2, .inr (.inr (.inr (.inr (fun s => if s = 0 then some q3 else some q4)))))), (q3, .inl (cy 0, 10, .inl (fun _ => nI 0))), (q4, .inl (cy 0, 10, .inl (fun _ => nI 0))), (q5, .inl (cy 1, 2, .inl (fun _ => nI 0)))]) H := hP
  have hD : va_D A ((ws.set k0 (a0, .inr (1, [.ref q1, .ref q2, .null, .null, .null]))) ++ [(q1, .inl (cy 2, 10, .inr (.inr (.inr (.inr (fun _ => none)))))), (q2, .inl (cy 4, 2, .inr (.inr (.inr (.inr (fun s => if s = 0 then some q3 else some q4)))))), (q3, .inl (cy 0, 10, .inl (fun _ => nI 0))), (q4, .inl (cy 0, 10, .inl (fun _ => nI 0))), (q5, .inl (cy 1, 2, .inl (fun _ => nI 0)))]) := hD
  refine va_putF (D := (dC, dI)) (ci := 1) (v := .ref q5) (ty := .array .boolean) (C := RX0) (T := TX0) (N := 5) hx hb hts inX0_ tyX0 tyX0_ok nmX0 hown hK hP hD hS k0 (app_at (set_at hk0)) rfl 2 (by decide) lk8 (fun _ h9 => h9) rfl hin rfl (by decide +kernel) rfl rfl (Nat.le_of_ble_eq_true rfl) dX0_init_28 (fun H locs hP hD hS => ?_)
  rw [app_set (set_at hk0), List.set_set] at hP hD
  have hP : va_P (dC, dI) vwCl ((ws.set k0 (a0, .inr (1, [.ref q1, .ref q2, .ref q5, .null, .null]))) ++ [(q1, .inl (cy 2, 10, .inr (.inr (.inr (.inr (fun _ => none)))))), (q2, .inl (cy 4, 2, .inr (.inr (.inr (.inr (fun s => if s = 0 then some q3 else some q4)))))), (q3, .inl (cy 0, 10, .inl (fun _ => nI 0))), (q4, .inl (cy 0, 10, .inl (fun _ => nI 0))), (q5, .inl (cy 1, 2, .inl (fun _ => nI 0)))]) H := hP
  have hD : va_D A ((ws.set k0 (a0, .inr (1, [.ref q1, .ref q2, .ref q5, .null, .null]))) ++ [(q1, .inl (cy 2, 10, .inr (.inr (.inr (.inr (fun _ => none)))))), (q2, .inl (cy 4, 2, .inr (.inr (.inr (.inr (fun s => if s = 0 then some q3 else some q4)))))), (q3, .inl (cy 0, 10, .inl (fun _ => nI 0))), (q4, .inl (cy 0, 10, .inl (fun _ => nI 0))), (q5, .inl (cy 1, 2, .inl (fun _ => nI 0)))]) := hD
  refine lv_aload_n hx hb dX0_init_31 rfl (lv_at hl 0 rfl) ?_
  refine lv_iconst (v := nI 2) hx hb dX0_init_32 (by decide) ?_
  refine x_newi hx hb lk5 hK hP hD hS hA (N := 2) 0 rfl (by omega) (Nat.le_of_ble_eq_true rfl) (Nat.le_of_ble_eq_true rfl) dX0_init_33 (fun q6 H hP hD hS => ?_)
  rw [List.append_assoc] at hP hD
  have hP : va_P (dC, dI) vwCl ((ws.set k0 (a0, .inr (1, [.ref q1, .ref q2, .ref q5, .null, .null]))) ++ [(q1, .inl (cy 2, 10, .inr (.inr (.inr (.inr (fun _ => none)))))), (q2, .inl (cy 4, 2, .inr (.inr (.inr (.inr (fun s => if s = 0 then some q3 else some q4)))))), (q3, .inl (cy 0, 10, .inl (fun _ => nI 0))), (q4, .inl (cy 0, 10, .inl (fun _ => nI 0))), (q5, .inl (cy 1, 2, .inl (fun _ => nI 0))), (q6, .inl (cy 0, 2, .inl (fun _ => nI 0)))]) H := hP
  have hD : va_D A ((ws.set k0 (a0, .inr (1, [.ref q1, .ref q2, .ref q5, .null, .null]))) ++ [(q1, .inl (cy 2, 10, .inr (.inr (.inr (.inr (fun _ => none)))))), (q2, .inl (cy 4, 2, .inr (.inr (.inr (.inr (fun s => if s = 0 then some q3 else some q4)))))), (q3, .inl (cy 0, 10, .inl (fun _ => nI 0))), (q4, .inl (cy 0, 10, .inl (fun _ => nI 0))), (q5, .inl (cy 1, 2, .inl (fun _ => nI 0))), (q6, .inl (cy 0, 2, .inl (fun _ => nI 0)))]) := hD
  refine va_putF (D := (dC, dI)) (ci := 1) (v := .ref q6) (ty := .array .int) (C := RX0) (T := TX0) (N := 5) hx hb hts inX0_ tyX0 tyX0_ok nmX0 hown hK hP hD hS k0 (app_at (set_at hk0)) rfl 3 (by decide) lk9 (fun _ h9 => h9) rfl hin rfl (by decide +kernel) rfl rfl (Nat.le_of_ble_eq_true rfl) dX0_init_35 (fun H locs hP hD hS => ?_)
  rw [app_set (set_at hk0), List.set_set] at hP hD
  have hP : va_P (dC, dI) vwCl ((ws.set k0 (a0, .inr (1, [.ref q1, .ref q2, .ref q5, .ref q6, .null]))) ++ [(q1, .inl (cy 2, 10, .inr (.inr (.inr (.inr (fun _ => none)))))), (q2, .inl (cy 4, 2, .inr (.inr (.inr (.inr (fun s => if s = 0 then some q3 else some q4)))))), (q3, .inl (cy 0, 10, .inl (fun _ => nI 0))), (q4, .inl (cy 0, 10, .inl (fun _ => nI 0))), (q5, .inl (cy 1, 2, .inl (fun _ => nI 0))), (q6, .inl (cy 0, 2, .inl (fun _ => nI 0)))]) H := hP
  have hD : va_D A ((ws.set k0 (a0, .inr (1, [.ref q1, .ref q2, .ref q5, .ref q6, .null]))) ++ [(q1, .inl (cy 2, 10, .inr (.inr (.inr (.inr (fun _ => none)))))), (q2, .inl (cy 4, 2, .inr (.inr (.inr (.inr (fun s => if s = 0 then some q3 else some q4)))))), (q3, .inl (cy 0, 10, .inl (fun _ => nI 0))), (q4, .inl (cy 0, 10, .inl (fun _ => nI 0))), (q5, .inl (cy 1, 2, .inl (fun _ => nI 0))), (q6, .inl (cy 0, 2, .inl (fun _ => nI 0)))]) := hD
  refine lv_aload_n hx hb dX0_init_38 rfl (lv_at hl 0 rfl) ?_
  refine lv_iconst (v := nI 2) hx hb dX0_init_39 (by decide) ?_
  refine x_newi hx hb lk5 hK hP hD hS hA (N := 2) 0 rfl (by omega) (Nat.le_of_ble_eq_true rfl) (Nat.le_of_ble_eq_true rfl) dX0_init_40 (fun q7 H hP hD hS => ?_)
  rw [List.append_assoc] at hP hD
  have hP : va_P (dC, dI) vwCl ((ws.set k0 (a0, .inr (1, [.ref q1, .ref q2, .ref q5, .ref q6, .null]))) ++ [(q1, .inl (cy 2, 10, .inr (.inr (.inr (.inr (fun _ => none)))))), (q2, .inl (cy 4, 2, .inr (.inr (.inr (.inr (fun s => if s = 0 then some q3 else some q4)))))), (q3, .inl (cy 0, 10, .inl (fun _ => nI 0))), (q4, .inl (cy 0, 10, .inl (fun _ => nI 0))), (q5, .inl (cy 1, 2, .inl (fun _ => nI 0))), (q6, .inl (cy 0, 2, .inl (fun _ => nI 0))), (q7, .inl (cy 0, 2, .inl (fun _ => nI 0)))]) H := hP
  have hD : va_D A ((ws.set k0 (a0, .inr (1, [.ref q1, .ref q2, .ref q5, .ref q6, .null]))) ++ [(q1, .inl (cy 2, 10, .inr (.inr (.inr (.inr (fun _ => none)))))), (q2, .inl (cy 4, 2, .inr (.inr (.inr (.inr (fun s => if s = 0 then some q3 else some q4)))))), (q3, .inl (cy 0, 10, .inl (fun _ => nI 0))), (q4, .inl (cy 0, 10, .inl (fun _ => nI 0))), (q5, .inl (cy 1, 2, .inl (fun _ => nI 0))), (q6, .inl (cy 0, 2, .inl (fun _ => nI 0))), (q7, .inl (cy 0, 2, .inl (fun _ => nI 0)))]) := hD
  refine va_putF (D := (dC, dI)) (ci := 1) (v := .ref q7) (ty := .array .int) (C := RX0) (T := TX0) (N := 5) hx hb hts inX0_ tyX0 tyX0_ok nmX0 hown hK hP hD hS k0 (app_at (set_at hk0)) rfl 4 (by decide) lk10 (fun _ h9 => h9) rfl hin rfl (by decide +kernel) rfl rfl (Nat.le_of_ble_eq_true rfl) dX0_init_42 (fun H locs hP hD hS => ?_)
  rw [app_set (set_at hk0), List.set_set] at hP hD
  have hP : va_P (dC, dI) vwCl ((ws.set k0 (a0, .inr (1, [.ref q1, .ref q2, .ref q5, .ref q6, .ref q7]))) ++ [(q1, .inl (cy 2, 10, .inr (.inr (.inr (.inr (fun _ => none)))))), (q2, .inl (cy 4, 2, .inr (.inr (.inr (.inr (fun s => if s = 0 then some q3 else some q4)))))), (q3, .inl (cy 0, 10, .inl (fun _ => nI 0))), (q4, .inl (cy 0, 10, .inl (fun _ => nI 0))), (q5, .inl (cy 1, 2, .inl (fun _ => nI 0))), (q6, .inl (cy 0, 2, .inl (fun _ => nI 0))), (q7, .inl (cy 0, 2, .inl (fun _ => nI 0)))]) H := hP
  have hD : va_D A ((ws.set k0 (a0, .inr (1, [.ref q1, .ref q2, .ref q5, .ref q6, .ref q7]))) ++ [(q1, .inl (cy 2, 10, .inr (.inr (.inr (.inr (fun _ => none)))))), (q2, .inl (cy 4, 2, .inr (.inr (.inr (.inr (fun s => if s = 0 then some q3 else some q4)))))), (q3, .inl (cy 0, 10, .inl (fun _ => nI 0))), (q4, .inl (cy 0, 10, .inl (fun _ => nI 0))), (q5, .inl (cy 1, 2, .inl (fun _ => nI 0))), (q6, .inl (cy 0, 2, .inl (fun _ => nI 0))), (q7, .inl (cy 0, 2, .inl (fun _ => nI 0)))]) := hD
  rw [← hQQ]; exact end_v (u := adF [a0, q1, q2, q3, q4, q5, q6, q7]) hx hb hr hlocks dX0_init_45 hK hP hD hS trivial (Nat.le_of_ble_eq_true rfl) (Nat.le_of_ble_eq_true rfl)

set_option maxHeartbeats 4000000 in
set_option maxRecDepth 100000 in
/-- ClauseShop() -/
theorem qX3_init (l : Launch) (dC : Nat → ClassId) (dI : Nat → Nat → Nat) (cy : Nat → ClassId) (e0 mi : Nat) (ws : va_W) (sz : Nat) (a0 k0 : Nat) (hk0 : ws[k0]? = some (a0, .inr (4, [.null, .null, .null, .null, .null, .int 0]))) : Met l yX3_init wsX3_init ({ frames := 4, cells := 5, slots := 36, locals := 100 }) (va_Pc [.ref a0] (wPreX (dC, dI) (tyL cy) e0 mi (ws) sz)) (QV (dC, dI) (tyL cy) (fun (_ : Nat → Nat) => True) (fun (ad : Nat → Nat) => ws.set k0 (a0, .inr (4, [.ref (ad 11), .ref (ad 12), .ref (ad 13), .ref (ad 14), .ref (ad 16), .int (nI 0)])) ++ [(ad 11, .inl (cy 2, 10, .inr (.inr (.inr (.inr (fun _ => none)))))), (ad 12, .inl (cy 0, 10, .inl (fun _ => nI 0))), (ad 13, .inl (cy 0, 10, .inl (fun _ => nI 0))), (ad 14, .inr (0, [.int (nI 0), .ref e0, .int 0])), (ad 16, .inr (0, [.int (nI 0), .ref e0, .int 0]))]) (va_A (ws) sz)) 5 36 (va_A (ws) sz) := by
  refine enA (cc := cX3_init) (maxL := 1) (ret := none) (own := RX3) (lv := [(0, .ref a0)]) (by decide) rfl rfl (Nat.le_of_ble_eq_true rfl) rfl ?_
  intro p e s m below meth c ls A H locs hx hb hr hts hown hlocks hml hin hsz hK hP hD hS hA hl ham
  generalize hQQ : MQ below _ _ s _ _ A = QQ
  have inX3_ : ∀ w ∈ wsX30, w ∈ wsX3_init := fun _ h => List.mem_cons_of_mem _ (List.mem_append_left _ (List.mem_append_right _ h))
  have inJx4a65c_ : ∀ w ∈ wsJx4a65c0, w ∈ wsX3_init := fun _ h => List.mem_cons_of_mem _ (List.mem_append_right _ h)
  have lk0 : (Cond.methodLink RX3 3 objectInit).before (([.ref a0] : List Value).toArray) s = true := hts _ (List.mem_of_getElem? (i := 1) rfl)
  have lk1 : (Cond.instanceMethod objectInit).before (([.ref a0] : List Value).toArray) s = true := hts _ (List.mem_of_getElem? (i := 2) rfl)
  have lk2 : (Cond.classLink RX3 9 RX2).before (([.ref a0] : List Value).toArray) s = true := hts _ (List.mem_of_getElem? (i := 4) rfl)
  have lk3 : (Cond.fieldLink RX3 11 "ClauseShop" "newest" "[LClauseShop$Version;").before (([.ref a0] : List Value).toArray) s = true := hts _ (List.mem_of_getElem? (i := 5) rfl)
  have lk4 : (Cond.arrayClass .int).before (([.ref a0] : List Value).toArray) s = true := hts _ (List.mem_of_getElem? (i := 6) rfl)
  have lk5 : (Cond.fieldLink RX3 15 "ClauseShop" "needs" "[I").before (([.ref a0] : List Value).toArray) s = true := hts _ (List.mem_of_getElem? (i := 7) rfl)
  have lk6 : (Cond.fieldLink RX3 19 "ClauseShop" "forbids" "[I").before (([.ref a0] : List Value).toArray) s = true := hts _ (List.mem_of_getElem? (i := 8) rfl)
  have lk7 : (Cond.classLink RX3 22 RJx4a65c).before (([.ref a0] : List Value).toArray) s = true := hts _ (List.mem_of_getElem? (i := 9) rfl)
  have lk8 : (Cond.instantiable RJx4a65c 3).before (([.ref a0] : List Value).toArray) s = true := hts _ (List.mem_of_getElem? (i := 10) rfl)
  have lk9 : (Cond.initialized RJx4a65c).before (([.ref a0] : List Value).toArray) s = true := hts _ (List.mem_of_getElem? (i := 11) rfl)
  have lk10 : (Cond.instanceMethod yJx4a65c_init_da8c8).before (([.ref a0] : List Value).toArray) s = true := hts _ (List.mem_of_getElem? (i := 16) rfl)
  have lk11 : (Cond.methodLink RX3 24 yJx4a65c_init_da8c8).before (([.ref a0] : List Value).toArray) s = true := hts _ (List.mem_of_getElem? (i := 15) rfl)
  have lk12 : (Cond.fieldLink RX3 25 "ClauseShop" "contracts" "Ljava/util/ArrayList;").before (([.ref a0] : List Value).toArray) s = true := hts _ (List.mem_of_getElem? (i := 12) rfl)
  have lk13 : (Cond.fieldLink RX3 29 "ClauseShop" "dutyList" "Ljava/util/ArrayList;").before (([.ref a0] : List Value).toArray) s = true := hts _ (List.mem_of_getElem? (i := 13) rfl)
  have lk14 : (Cond.fieldLink RX3 32 "ClauseShop" "today" "I").before (([.ref a0] : List Value).toArray) s = true := hts _ (List.mem_of_getElem? (i := 14) rfl)
  refine lv_aload_n hx hb dX3_init_0 rfl (lv_at hl 0 rfl) ?_
  refine W.objInit hx hb hown lk0 lk1 (hts _ (List.mem_of_getElem? (i := 3) rfl)) rfl (by rw [hml]; exact hl.1) rfl dX3_init_1 (Nat.le_of_ble_eq_true rfl) (Nat.le_of_ble_eq_true rfl) ?_
  refine W.eq (g2 := F0 m 4 ls []) rfl ?_
  refine lv_aload_n hx hb dX3_init_4 rfl (lv_at hl 0 rfl) ?_
  refine lv_bipush (v := nI 10) hx hb dX3_init_5 (by decide) ?_
  refine x_newq hx hb hown lk2 ham.2.2.2.2.2.2.2.2.1 hK hP hD hS hA (N := 10) (cA := cy 2) 2 rfl (by omega) (Nat.le_of_ble_eq_true rfl) (Nat.le_of_ble_eq_true rfl) dX3_init_7 (fun q11 H hP hD hS => ?_)
  have hP : va_P (dC, dI) vwCl (ws ++ [(q11, .inl (cy 2, 10, .inr (.inr (.inr (.inr (fun _ => none))))))]) H := hP
  have hD : va_D A (ws ++ [(q11, .inl (cy 2, 10, .inr (.inr (.inr (.inr (fun _ => none))))))]) := hD
  refine va_putF (D := (dC, dI)) (ci := 4) (v := .ref q11) (ty := .array (.object "ClauseShop$Version")) (C := RX3) (T := TX3) (N := 6) hx hb hts inX3_ tyX3 tyX3_ok nmX3 hown hK hP hD hS k0 (app_at hk0) rfl 0 (by decide) lk3 (fun _ h9 => h9) rfl hin rfl (by decide +kernel) rfl rfl (Nat.le_of_ble_eq_true rfl) dX3_init_10 (fun H locs hP hD hS => ?_)
  rw [app_set hk0] at hP hD
  have hP : va_P (dC, dI) vwCl ((ws.set k0 (a0, .inr (4, [.ref q11, .null, .null, .null, .null, .int 0]))) ++ [(q11, .inl (cy 2, 10, .inr (.inr (.inr (.inr (fun _ => none))))))]) H := hP
  have hD : va_D A ((ws.set k0 (a0, .inr (4, [.ref q11, .null, .null, .null, .null, .int 0]))) ++ [(q11, .inl (cy 2, 10, .inr (.inr (.inr (.inr (fun _ => none))))))]) := hD
  refine lv_aload_n hx hb dX3_init_13 rfl (lv_at hl 0 rfl) ?_
  refine lv_bipush (v := nI 10) hx hb dX3_init_14 (by decide) ?_
  refine x_newi hx hb lk4 hK hP hD hS hA (N := 10) 0 rfl (by omega) (Nat.le_of_ble_eq_true rfl) (Nat.le_of_ble_eq_true rfl) dX3_init_16 (fun q12 H hP hD hS => ?_)
  rw [List.append_assoc] at hP hD
  have hP : va_P (dC, dI) vwCl ((ws.set k0 (a0, .inr (4, [.ref q11, .null, .null, .null, .null, .int 0]))) ++ [(q11, .inl (cy 2, 10, .inr (.inr (.inr (.inr (fun _ => none)))))), (q12, .inl (cy 0, 10, .inl (fun _ => nI 0)))]) H := hP
  have hD : va_D A ((ws.set k0 (a0, .inr (4, [.ref q11, .null, .null, .null, .null, .int 0]))) ++ [(q11, .inl (cy 2, 10, .inr (.inr (.inr (.inr (fun _ => none)))))), (q12, .inl (cy 0, 10, .inl (fun _ => nI 0)))]) := hD
  refine va_putF (D := (dC, dI)) (ci := 4) (v := .ref q12) (ty := .array .int) (C := RX3) (T := TX3) (N := 6) hx hb hts inX3_ tyX3 tyX3_ok nmX3 hown hK hP hD hS k0 (app_at (set_at hk0)) rfl 1 (by decide) lk5 (fun _ h9 => h9) rfl hin rfl (by decide +kernel) rfl rfl (Nat.le_of_ble_eq_true rfl) dX3_init_18 (fun H locs hP hD hS => ?_)
  rw [app_set (set_at hk0), List.set_set] at hP hD
  have hP : va_P (dC, dI) vwCl ((ws.set k0 (a0, .inr (4, [.ref q11, .ref q12, .null, .null, .null, .int 0]))) ++ [(q11, .inl (cy 2, 10, .inr (.inr (.inr (.inr (fun _ => none)))))), (q12, .inl (cy 0, 10, .inl (fun _ => nI 0)))]) H := hP
  have hD : va_D A ((ws.set k0 (a0, .inr (4, [.ref q11, .ref q12, .null, .null, .null, .int 0]))) ++ [(q11, .inl (cy 2, 10, .inr (.inr (.inr (.inr (fun _ => none)))))), (q12, .inl (cy 0, 10, .inl (fun _ => nI 0)))]) := hD
  refine lv_aload_n hx hb dX3_init_21 rfl (lv_at hl 0 rfl) ?_
  refine lv_bipush (v := nI 10) hx hb dX3_init_22 (by decide) ?_
  refine x_newi hx hb lk4 hK hP hD hS hA (N := 10) 0 rfl (by omega) (Nat.le_of_ble_eq_true rfl) (Nat.le_of_ble_eq_true rfl) dX3_init_24 (fun q13 H hP hD hS => ?_)
  rw [List.append_assoc] at hP hD
  have hP : va_P (dC, dI) vwCl ((ws.set k0 (a0, .inr (4, [.ref q11, .ref q12, .null, .null, .null, .int 0]))) ++ [(q11, .inl (cy 2, 10, .inr (.inr (.inr (.inr (fun _ => none)))))), (q12, .inl (cy 0, 10, .inl (fun _ => nI 0))), (q13, .inl (cy 0, 10, .inl (fun _ => nI 0)))]) H := hP
  have hD : va_D A ((ws.set k0 (a0, .inr (4, [.ref q11, .ref q12, .null, .null, .null, .int 0]))) ++ [(q11, .inl (cy 2, 10, .inr (.inr (.inr (.inr (fun _ => none)))))), (q12, .inl (cy 0, 10, .inl (fun _ => nI 0))), (q13, .inl (cy 0, 10, .inl (fun _ => nI 0)))]) := hD
  refine va_putF (D := (dC, dI)) (ci := 4) (v := .ref q13) (ty := .array .int) (C := RX3) (T := TX3) (N := 6) hx hb hts inX3_ tyX3 tyX3_ok nmX3 hown hK hP hD hS k0 (app_at (set_at hk0)) rfl 2 (by decide) lk6 (fun _ h9 => h9) rfl hin rfl (by decide +kernel) rfl rfl (Nat.le_of_ble_eq_true rfl) dX3_init_26 (fun H locs hP hD hS => ?_)
  rw [app_set (set_at hk0), List.set_set] at hP hD
  have hP : va_P (dC, dI) vwCl ((ws.set k0 (a0, .inr (4, [.ref q11, .ref q12, .ref q13, .null, .null, .int 0]))) ++ [(q11, .inl (cy 2, 10, .inr (.inr (.inr (.inr (fun _ => none)))))), (q12, .inl (cy 0, 10, .inl (fun _ => nI 0))), (q13, .inl (cy 0, 10, .inl (fun _ => nI 0)))]) H := hP
  have hD : va_D A ((ws.set k0 (a0, .inr (4, [.ref q11, .ref q12, .ref q13, .null, .null, .int 0]))) ++ [(q11, .inl (cy 2, 10, .inr (.inr (.inr (.inr (fun _ => none)))))), (q12, .inl (cy 0, 10, .inl (fun _ => nI 0))), (q13, .inl (cy 0, 10, .inl (fun _ => nI 0)))]) := hD
  refine lv_aload_n hx hb dX3_init_29 rfl (lv_at hl 0 rfl) ?_
  refine va_new (D := (dC, dI)) (ci := 0) (C := RJx4a65c) (T := TJx4a65c) (N := 3) (fs := [.int 0, .null, .int 0]) hx hb hts inJx4a65c_ tyJx4a65c tyJx4a65c_ok hown lk7 lk8 lk9 hK hP hD hS hA rfl (by decide +kernel) (Nat.le_of_ble_eq_true rfl) (Nat.le_of_ble_eq_true rfl) dX3_init_30 (fun q14 H hP hD hS => ?_)
  rw [List.append_assoc] at hP hD
  have hP : va_P (dC, dI) vwCl ((ws.set k0 (a0, .inr (4, [.ref q11, .ref q12, .ref q13, .null, .null, .int 0]))) ++ [(q11, .inl (cy 2, 10, .inr (.inr (.inr (.inr (fun _ => none)))))), (q12, .inl (cy 0, 10, .inl (fun _ => nI 0))), (q13, .inl (cy 0, 10, .inl (fun _ => nI 0))), (q14, .inr (0, [.int 0, .null, .int 0]))]) H := hP
  have hD : va_D A ((ws.set k0 (a0, .inr (4, [.ref q11, .ref q12, .ref q13, .null, .null, .int 0]))) ++ [(q11, .inl (cy 2, 10, .inr (.inr (.inr (.inr (fun _ => none)))))), (q12, .inl (cy 0, 10, .inl (fun _ => nI 0))), (q13, .inl (cy 0, 10, .inl (fun _ => nI 0))), (q14, .inr (0, [.int 0, .null, .int 0]))]) := hD
  refine lv_dup hx hb dX3_init_33 rfl ?_
  refine call_v (va_runI (As := []) (rest := [.ref q14, .ref a0]) ⟨hx, hb, hml, hown, hts⟩ (qJx4a65c_init_da8c8 l dC dI cy e0 mi ((ws.set k0 (a0, .inr (4, [.ref q11, .ref q12, .ref q13, .null, .null, .int 0]))) ++ [(q11, .inl (cy 2, 10, .inr (.inr (.inr (.inr (fun _ => none)))))), (q12, .inl (cy 0, 10, .inl (fun _ => nI 0))), (q13, .inl (cy 0, 10, .inl (fun _ => nI 0))), (q14, .inr (0, [.int 0, .null, .int 0]))]) H.size q14 ((ws.set k0 (a0, .inr (4, [.ref q11, .ref q12, .ref q13, .null, .null, .int 0]))).length + 3) (app_r (w := (ws.set k0 (a0, .inr (4, [.ref q11, .ref q12, .ref q13, .null, .null, .int 0])))) (y := [(q11, .inl (cy 2, 10, .inr (.inr (.inr (.inr (fun _ => none)))))), (q12, .inl (cy 0, 10, .inl (fun _ => nI 0))), (q13, .inl (cy 0, 10, .inl (fun _ => nI 0))), (q14, .inr (0, [.int 0, .null, .int 0]))]) (k := 3) rfl)) (cwI 0 hts gX3_init_Jx4a65c_init_da8c8 rfl rfl rfl lk9 lk11 lk10 rfl (by decide +kernel) ⟨Nat.le_of_ble_eq_true rfl, Nat.le_of_ble_eq_true rfl⟩) (preXS (As := [.ref q14]) hK hP hD hS hA ham) rfl rfl hl.1 rfl (lv_room (Nat.le_of_ble_eq_true rfl)) dX3_init_34 ⟨Nat.le_of_ble_eq_true rfl, Nat.le_of_ble_eq_true rfl⟩) hD hS hA (fun _ H locs w_1 hP hD hS => ?_)
  rw [app_setr] at hP hD
  have hP : va_P (dC, dI) vwCl ((ws.set k0 (a0, .inr (4, [.ref q11, .ref q12, .ref q13, .null, .null, .int 0]))) ++ [(q11, .inl (cy 2, 10, .inr (.inr (.inr (.inr (fun _ => none)))))), (q12, .inl (cy 0, 10, .inl (fun _ => nI 0))), (q13, .inl (cy 0, 10, .inl (fun _ => nI 0))), (q14, .inr (0, [.int (nI 0), .ref e0, .int 0]))]) H := hP
  have hD : va_D A ((ws.set k0 (a0, .inr (4, [.ref q11, .ref q12, .ref q13, .null, .null, .int 0]))) ++ [(q11, .inl (cy 2, 10, .inr (.inr (.inr (.inr (fun _ => none)))))), (q12, .inl (cy 0, 10, .inl (fun _ => nI 0))), (q13, .inl (cy 0, 10, .inl (fun _ => nI 0))), (q14, .inr (0, [.int (nI 0), .ref e0, .int 0]))]) := hD
  refine va_putF (D := (dC, dI)) (ci := 4) (v := .ref q14) (ty := .object "java/util/ArrayList") (C := RX3) (T := TX3) (N := 6) hx hb hts inX3_ tyX3 tyX3_ok nmX3 hown hK hP hD hS k0 (app_at (set_at hk0)) rfl 3 (by decide) lk12 (fun _ h9 => h9) rfl hin rfl (by decide +kernel) rfl rfl (Nat.le_of_ble_eq_true rfl) dX3_init_37 (fun H locs hP hD hS => ?_)
  rw [app_set (set_at hk0), List.set_set] at hP hD
  have hP : va_P (dC, dI) vwCl ((ws.set k0 (a0, .inr (4, [.ref q11, .ref q12, .ref q13, .ref q14, .null, .int 0]))) ++ [(q11, .inl (cy 2, 10, .inr (.inr (.inr (.inr (fun _ => none)))))), (q12, .inl (cy 0, 10, .inl (fun _ => nI 0))), (q13, .inl (cy 0, 10, .inl (fun _ => nI 0))), (q14, .inr (0, [.int (nI 0), .ref e0, .int 0]))]) H := hP
  have hD : va_D A ((ws.set k0 (a0, .inr (4, [.ref q11, .ref q12, .ref q13, .ref q14, .null, .int 0]))) ++ [(q11, .inl (cy 2, 10, .inr (.inr (.inr (.inr (fun _ => none)))))), (q12, .inl (cy 0, 10, .inl (fun _ => nI 0))), (q13, .inl (cy 0, 10, .inl (fun _ => nI 0))), (q14, .inr (0, [.int (nI 0), .ref e0, .int 0]))]) := hD
  refine lv_aload_n hx hb dX3_init_40 rfl (lv_at hl 0 rfl) ?_
  refine va_new (D := (dC, dI)) (ci := 0) (C := RJx4a65c) (T := TJx4a65c) (N := 3) (fs := [.int 0, .null, .int 0]) hx hb hts inJx4a65c_ tyJx4a65c tyJx4a65c_ok hown lk7 lk8 lk9 hK hP hD hS hA rfl (by decide +kernel) (Nat.le_of_ble_eq_true rfl) (Nat.le_of_ble_eq_true rfl) dX3_init_41 (fun q16 H hP hD hS => ?_)
  rw [List.append_assoc] at hP hD
  have hP : va_P (dC, dI) vwCl ((ws.set k0 (a0, .inr (4, [.ref q11, .ref q12, .ref q13, .ref q14, .null, .int 0]))) ++ [(q11, .inl (cy 2, 10, .inr (.inr (.inr (.inr (fun _ => none)))))), (q12, .inl (cy 0, 10, .inl (fun _ => nI 0))), (q13, .inl (cy 0, 10, .inl (fun _ => nI 0))), (q14, .inr (0, [.int (nI 0), .ref e0, .int 0])), (q16, .inr (0, [.int 0, .null, .int 0]))]) H := hP
  have hD : va_D A ((ws.set k0 (a0, .inr (4, [.ref q11, .ref q12, .ref q13, .ref q14, .null, .int 0]))) ++ [(q11, .inl (cy 2, 10, .inr (.inr (.inr (.inr (fun _ => none)))))), (q12, .inl (cy 0, 10, .inl (fun _ => nI 0))), (q13, .inl (cy 0, 10, .inl (fun _ => nI 0))), (q14, .inr (0, [.int (nI 0), .ref e0, .int 0])), (q16, .inr (0, [.int 0, .null, .int 0]))]) := hD
  refine lv_dup hx hb dX3_init_44 rfl ?_
  refine call_v (va_runI (As := []) (rest := [.ref q16, .ref a0]) ⟨hx, hb, hml, hown, hts⟩ (qJx4a65c_init_da8c8 l dC dI cy e0 mi ((ws.set k0 (a0, .inr (4, [.ref q11, .ref q12, .ref q13, .ref q14, .null, .int 0]))) ++ [(q11, .inl (cy 2, 10, .inr (.inr (.inr (.inr (fun _ => none)))))), (q12, .inl (cy 0, 10, .inl (fun _ => nI 0))), (q13, .inl (cy 0, 10, .inl (fun _ => nI 0))), (q14, .inr (0, [.int (nI 0), .ref e0, .int 0])), (q16, .inr (0, [.int 0, .null, .int 0]))]) H.size q16 ((ws.set k0 (a0, .inr (4, [.ref q11, .ref q12, .ref q13, .ref q14, .null, .int 0]))).length + 4) (app_r (w := (ws.set k0 (a0, .inr (4, [.ref q11, .ref q12, .ref q13, .ref q14, .null, .int 0])))) (y := [(q11, .inl (cy 2, 10, .inr (.inr (.inr (.inr (fun _ => none)))))), (q12, .inl (cy 0, 10, .inl (fun _ => nI 0))), (q13, .inl (cy 0, 10, .inl (fun _ => nI 0))), (q14, .inr (0, [.int (nI 0), .ref e0, .int 0])), (q16, .inr (0, [.int 0, .null, .int 0]))]) (k := 4) rfl)) (cwI 0 hts gX3_init_Jx4a65c_init_da8c8 rfl rfl rfl lk9 lk11 lk10 rfl (by decide +kernel) ⟨Nat.le_of_ble_eq_true rfl, Nat.le_of_ble_eq_true rfl⟩) (preXS (As := [.ref q16]) hK hP hD hS hA ham) rfl rfl hl.1 rfl (lv_room (Nat.le_of_ble_eq_true rfl)) dX3_init_45 ⟨Nat.le_of_ble_eq_true rfl, Nat.le_of_ble_eq_true rfl⟩) hD hS hA (fun _ H locs w_2 hP hD hS => ?_)
  rw [app_setr] at hP hD
  have hP : va_P (dC, dI) vwCl ((ws.set k0 (a0, .inr (4, [.ref q11, .ref q12, .ref q13, .ref q14, .null, .int 0]))) ++ [(q11, .inl (cy 2, 10, .inr (.inr (.inr (.inr (fun _ => none)))))), (q12, .inl (cy 0, 10, .inl (fun _ => nI 0))), (q13, .inl (cy 0, 10, .inl (fun _ => nI 0))), (q14, .inr (0, [.int (nI 0), .ref e0, .int 0])), (q16, .inr (0, [.int (nI 0), .ref e0, .int 0]))]) H := hP
  have hD : va_D A ((ws.set k0 (a0, .inr (4, [.ref q11, .ref q12, .ref q13, .ref q14, .null, .int 0]))) ++ [(q11, .inl (cy 2, 10, .inr (.inr (.inr (.inr (fun _ => none)))))), (q12, .inl (cy 0, 10, .inl (fun _ => nI 0))), (q13, .inl (cy 0, 10, .inl (fun _ => nI 0))), (q14, .inr (0, [.int (nI 0), .ref e0, .int 0])), (q16, .inr (0, [.int (nI 0), .ref e0, .int 0]))]) := hD
  refine va_putF (D := (dC, dI)) (ci := 4) (v := .ref q16) (ty := .object "java/util/ArrayList") (C := RX3) (T := TX3) (N := 6) hx hb hts inX3_ tyX3 tyX3_ok nmX3 hown hK hP hD hS k0 (app_at (set_at hk0)) rfl 4 (by decide) lk13 (fun _ h9 => h9) rfl hin rfl (by decide +kernel) rfl rfl (Nat.le_of_ble_eq_true rfl) dX3_init_48 (fun H locs hP hD hS => ?_)
  rw [app_set (set_at hk0), List.set_set] at hP hD
  have hP : va_P (dC, dI) vwCl ((ws.set k0 (a0, .inr (4, [.ref q11, .ref q12, .ref q13, .ref q14, .ref q16, .int 0]))) ++ [(q11, .inl (cy 2, 10, .inr (.inr (.inr (.inr (fun _ => none)))))), (q12, .inl (cy 0, 10, .inl (fun _ => nI 0))), (q13, .inl (cy 0, 10, .inl (fun _ => nI 0))), (q14, .inr (0, [.int (nI 0), .ref e0, .int 0])), (q16, .inr (0, [.int (nI 0), .ref e0, .int 0]))]) H := hP
  have hD : va_D A ((ws.set k0 (a0, .inr (4, [.ref q11, .ref q12, .ref q13, .ref q14, .ref q16, .int 0]))) ++ [(q11, .inl (cy 2, 10, .inr (.inr (.inr (.inr (fun _ => none)))))), (q12, .inl (cy 0, 10, .inl (fun _ => nI 0))), (q13, .inl (cy 0, 10, .inl (fun _ => nI 0))), (q14, .inr (0, [.int (nI 0), .ref e0, .int 0])), (q16, .inr (0, [.int (nI 0), .ref e0, .int 0]))]) := hD
  refine lv_aload_n hx hb dX3_init_51 rfl (lv_at hl 0 rfl) ?_
  refine lv_iconst (v := nI 0) hx hb dX3_init_52 (by decide) ?_
  refine va_put (D := (dC, dI)) (ci := 4) (v := .int (nI 0)) (ty := .int) (C := RX3) (T := TX3) (N := 6) hx hb hts inX3_ tyX3 tyX3_ok nmX3 hown hK hP hD hS k0 (app_at (set_at hk0)) rfl 5 (by decide) lk14 (fun _ h9 => h9) rfl (by decide +kernel) rfl rfl (Nat.le_of_ble_eq_true rfl) dX3_init_53 (fun H locs hP hD hS => ?_)
  rw [app_set (set_at hk0), List.set_set] at hP hD
  have hP : va_P (dC, dI) vwCl ((ws.set k0 (a0, .inr (4, [.ref q11, .ref q12, .ref q13, .ref q14, .ref q16, .int (nI 0)]))) ++ [(q11, .inl (cy 2, 10, .inr (.inr (.inr (.inr (fun _ => none)))))), (q12, .inl (cy 0, 10, .inl (fun _ => nI 0))), (q13, .inl (cy 0, 10, .inl (fun _ => nI 0))), (q14, .inr (0, [.int (nI 0), .ref e0, .int 0])), (q16, .inr (0, [.int (nI 0), .ref e0, .int 0]))]) H := hP
  have hD : va_D A ((ws.set k0 (a0, .inr (4, [.ref q11, .ref q12, .ref q13, .ref q14, .ref q16, .int (nI 0)]))) ++ [(q11, .inl (cy 2, 10, .inr (.inr (.inr (.inr (fun _ => none)))))), (q12, .inl (cy 0, 10, .inl (fun _ => nI 0))), (q13, .inl (cy 0, 10, .inl (fun _ => nI 0))), (q14, .inr (0, [.int (nI 0), .ref e0, .int 0])), (q16, .inr (0, [.int (nI 0), .ref e0, .int 0]))]) := hD
  rw [← hQQ]; exact end_v (u := adF [0, 0, 0, 0, 0, 0, 0, 0, 0, 0, 0, q11, q12, q13, q14, 0, q16]) hx hb hr hlocks dX3_init_56 hK hP hD hS trivial (Nat.le_of_ble_eq_true rfl) (Nat.le_of_ble_eq_true rfl)


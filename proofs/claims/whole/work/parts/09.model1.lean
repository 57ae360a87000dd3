/-! the reference: its world, its contracts -/
abbrev tyL (cy : Nat → ClassId) : List (ClassId × FieldType) := [(cy 0, .int), (cy 1, .boolean), (cy 2, .object "ClauseShop$Version"), (cy 3, .object "java/lang/Object"), (cy 4, .array .int), (cy 5, .long)]
theorem upd_nI (f : Nat → Nat) (t v : Nat) : upd (fun j => nI (f j)) t (nI v) = fun j => nI (va_up f t v j) := by
  funext j
  by_cases h : j = t <;> simp [upd, va_up, h]
theorem pk_m1s (n : Nat) : nI (n + 1) - nI 1 = nI n := by
  have h := nI_pred n
  exact h
abbrev MS : Type := (Nat → Int32) × (Nat → Nat) × (Nat → Nat → Int32) × (Nat → Nat → Nat)
/-- the cells of the reference: its object, its rows (T: rows of naturals; R: other rows; C: naturals; F: thrown, day) -/
def mw (ad : Nat → Nat) (cy : Nat → ClassId) (F : Nat → Int32) (C : Nat → Nat) (R : Nat → Nat → Int32) (T : Nat → Nat → Nat) : va_W := [(ad 0, .inr (5, [.int (F 0), .int (F 1), .ref (ad 2), .ref (ad 3), .ref (ad 4), .ref (ad 5), .ref (ad 6), .ref (ad 7), .ref (ad 8), .int (nI (C 9)), .ref (ad 10), .ref (ad 11), .ref (ad 12), .ref (ad 13), .int (nI (C 14)), .ref (ad 15), .ref (ad 16), .ref (ad 17), .ref (ad 18), .ref (ad 19), .ref (ad 20), .ref (ad 21)])),
  (ad 2, .inl (cy 0, 10, .inl (fun j => nI (T 2 j)))),
  (ad 3, .inl (cy 0, 90, .inl (R 3))),
  (ad 4, .inl (cy 0, 90, .inl (R 4))),
  (ad 5, .inl (cy 0, 90, .inl (R 5))),
  (ad 6, .inl (cy 0, 90, .inl (R 6))),
  (ad 7, .inl (cy 0, 10, .inl (R 7))),
  (ad 8, .inl (cy 0, 10, .inl (R 8))),
  (ad 10, .inl (cy 1, 10, .inl (R 10))),
  (ad 11, .inl (cy 0, 10, .inl (R 11))),
  (ad 12, .inl (cy 0, 100, .inl (fun j => nI (T 12 j)))),
  (ad 13, .inl (cy 0, 200, .inl (R 13))),
  (ad 15, .inl (cy 0, 100, .inl (fun j => nI (T 15 j)))),
  (ad 16, .inl (cy 0, 100, .inl (R 16))),
  (ad 17, .inl (cy 0, 100, .inl (R 17))),
  (ad 18, .inl (cy 0, 100, .inl (R 18))),
  (ad 19, .inl (cy 0, 100, .inl (R 19))),
  (ad 20, .inl (cy 0, 100, .inl (R 20))),
  (ad 21, .inl (cy 1, 100, .inl (R 21)))]
def mwU (ad : Nat → Nat) (cy : Nat → ClassId) (u : MS) : va_W := mw ad cy u.1 u.2.1 u.2.2.1 u.2.2.2
theorem cl_of {x : Int32} (h : (0 : Int32) ≤ x ∧ x ≤ 9) : ∃ j : Nat, j < 10 ∧ x = nI j ∧ (nI j).toNatClampNeg = j := by
  obtain ⟨j, h1, h2⟩ := nI_of2 (x := x) (M := 9) (n := 9) (by decide) (fun q => Int32.not_lt.mpr h.1 q) h.2
  exact ⟨j, by omega, h2, nI_clamp (by omega)⟩
theorem sd_of {x : Int32} (h : (0 : Int32) ≤ x ∧ x ≤ 1) : ∃ j : Nat, j < 2 ∧ x = nI j ∧ (nI j).toNatClampNeg = j := by
  obtain ⟨j, h1, h2⟩ := nI_of2 (x := x) (M := 1) (n := 1) (by decide) (fun q => Int32.not_lt.mpr h.1 q) h.2
  exact ⟨j, by omega, h2, nI_clamp (by omega)⟩

set_option maxHeartbeats 4000000 in
set_option maxRecDepth 100000 in
/-- v in low .. high -/
theorem qX4_in (l : Launch) (dC : Nat → ClassId) (dI : Nat → Nat → Nat) (cy : Nat → ClassId) (ws : va_W) (sz : Nat) (v lo hi : Int32) : Met l yX4_in wsX4_in ({ frames := 0, cells := 0, slots := 0, locals := 0 }) (va_Pc [.int v, .int lo, .int hi] (wPre (dC, dI) (tyL cy) (ws) sz)) (QI (dC, dI) (tyL cy) (fun (r : Int32) (_ : Unit) => r = bi (lo ≤ v ∧ v ≤ hi)) (fun _ => ws) (va_A (ws) sz)) 0 0 (va_A (ws) sz) := by
  refine en (cc := cX4_in) (maxL := 3) (ret := (some .boolean)) (own := RX4) (lv := [(0, .int v), (1, .int lo), (2, .int hi)]) (by decide) rfl rfl (Nat.le_of_ble_eq_true rfl) rfl ?_
  intro p e s m below meth c ls A H locs hx hb hr hts hown hlocks hml hin hsz hK hP hD hS hA hl
  generalize hQQ : MQ below _ _ s _ _ A = QQ
  refine lv_iload_n hx hb dX4_in_0 rfl (lv_at hl 0 rfl) ?_
  refine lv_iload_n hx hb dX4_in_1 rfl (lv_at hl 1 rfl) ?_
  refine lv_icmp_lt (tgt := 14) hx hb dX4_in_2 (by decide) (fun c_1 => ?_) (fun c_1 => ?_)
  · refine lv_iconst (v := nI 0) hx hb dX4_in_14 (by decide) ?_
    rw [← hQQ]; exact end_z (u := ()) hx hb hr hlocks dX4_in_15 hK hP hD hS (by rfl) (bi_f (fun q => absurd c_1 (Int32.not_lt.mpr q.1))).symm (Nat.zero_le _) (Nat.zero_le _)
  · refine lv_iload_n hx hb dX4_in_5 rfl (lv_at hl 0 rfl) ?_
    refine lv_iload_n hx hb dX4_in_6 rfl (lv_at hl 2 rfl) ?_
    refine lv_icmp_gt (tgt := 14) hx hb dX4_in_7 (by decide) (fun c_2 => ?_) (fun c_2 => ?_)
    · refine lv_iconst (v := nI 0) hx hb dX4_in_14 (by decide) ?_
      rw [← hQQ]; exact end_z (u := ()) hx hb hr hlocks dX4_in_15 hK hP hD hS (by rfl) (bi_f (fun q => absurd c_2 (Int32.not_lt.mpr q.2))).symm (Nat.zero_le _) (Nat.zero_le _)
    · refine lv_iconst (v := nI 1) hx hb dX4_in_10 (by decide) ?_
      refine lv_goto (tgt := 15) hx hb dX4_in_11 (by decide) ?_
      rw [← hQQ]; exact end_z (u := ()) hx hb hr hlocks dX4_in_15 hK hP hD hS (by rfl) (bi_t ⟨Int32.not_lt.mp c_1, Int32.not_lt.mp c_2⟩).symm (Nat.zero_le _) (Nat.zero_le _)

set_option maxHeartbeats 4000000 in
set_option maxRecDepth 100000 in
/-- a clause -/
theorem qX4_isClause (l : Launch) (dC : Nat → ClassId) (dI : Nat → Nat → Nat) (cy : Nat → ClassId) (ws : va_W) (sz : Nat) (x : Int32) : Met l yX4_isClause wsX4_isClause ({ frames := 1, cells := 0, slots := 0, locals := 22 }) (va_Pc [.int x] (wPre (dC, dI) (tyL cy) (ws) sz)) (QI (dC, dI) (tyL cy) (fun (r : Int32) (_ : Unit) => r = bi ((0 : Int32) ≤ x ∧ x ≤ 9)) (fun _ => ws) (va_A (ws) sz)) 0 0 (va_A (ws) sz) := by
  refine en (cc := cX4_isClause) (maxL := 1) (ret := (some .boolean)) (own := RX4) (lv := [(0, .int x)]) (by decide) rfl rfl (Nat.le_of_ble_eq_true rfl) rfl ?_
  intro p e s m below meth c ls A H locs hx hb hr hts hown hlocks hml hin hsz hK hP hD hS hA hl
  generalize hQQ : MQ below _ _ s _ _ A = QQ
  refine lv_iload_n hx hb dX4_isClause_0 rfl (lv_at hl 0 rfl) ?_
  refine lv_iconst (v := nI 0) hx hb dX4_isClause_1 (by decide) ?_
  refine lv_bipush (v := nI 9) hx hb dX4_isClause_2 (by decide) ?_
  refine call_i (va_runS (As := [.int x, .int (nI 0), .int (nI 9)]) (rest := []) ⟨hx, hb, hml, hown, hts⟩ (qX4_in l dC dI cy ws H.size x (nI 0) (nI 9)) (va_cwS 3 hts gX4_isClause_X4_in rfl rfl rfl (by decide +kernel) ⟨Nat.le_of_ble_eq_true rfl, Nat.le_of_ble_eq_true rfl⟩) (preS hK hP hD) rfl rfl hl.1 rfl (lv_room (Nat.le_of_ble_eq_true rfl)) dX4_isClause_4 ⟨Nat.zero_le _, Nat.zero_le _⟩) hD hS hA (fun r_1 u H locs w_2 hP hD hS => ?_)
  subst w_2
  have hP : va_P (dC, dI) vwCl ws H := hP
  have hD : va_D A ws := hD
  rw [← hQQ]; exact end_z (u := ()) hx hb hr hlocks dX4_isClause_7 hK hP hD hS bi_nar rfl (Nat.zero_le _) (Nat.zero_le _)

set_option maxHeartbeats 4000000 in
set_option maxRecDepth 100000 in
/-- a side -/
theorem qX4_isSide (l : Launch) (dC : Nat → ClassId) (dI : Nat → Nat → Nat) (cy : Nat → ClassId) (ws : va_W) (sz : Nat) (x : Int32) : Met l yX4_isSide wsX4_isSide ({ frames := 1, cells := 0, slots := 0, locals := 22 }) (va_Pc [.int x] (wPre (dC, dI) (tyL cy) (ws) sz)) (QI (dC, dI) (tyL cy) (fun (r : Int32) (_ : Unit) => r = bi ((0 : Int32) ≤ x ∧ x ≤ 1)) (fun _ => ws) (va_A (ws) sz)) 0 0 (va_A (ws) sz) := by
  refine en (cc := cX4_isSide) (maxL := 1) (ret := (some .boolean)) (own := RX4) (lv := [(0, .int x)]) (by decide) rfl rfl (Nat.le_of_ble_eq_true rfl) rfl ?_
  intro p e s m below meth c ls A H locs hx hb hr hts hown hlocks hml hin hsz hK hP hD hS hA hl
  generalize hQQ : MQ below _ _ s _ _ A = QQ
  refine lv_iload_n hx hb dX4_isSide_0 rfl (lv_at hl 0 rfl) ?_
  refine lv_iconst (v := nI 0) hx hb dX4_isSide_1 (by decide) ?_
  refine lv_iconst (v := nI 1) hx hb dX4_isSide_2 (by decide) ?_
  refine call_i (va_runS (As := [.int x, .int (nI 0), .int (nI 1)]) (rest := []) ⟨hx, hb, hml, hown, hts⟩ (qX4_in l dC dI cy ws H.size x (nI 0) (nI 1)) (va_cwS 3 hts gX4_isSide_X4_in rfl rfl rfl (by decide +kernel) ⟨Nat.le_of_ble_eq_true rfl, Nat.le_of_ble_eq_true rfl⟩) (preS hK hP hD) rfl rfl hl.1 rfl (lv_room (Nat.le_of_ble_eq_true rfl)) dX4_isSide_3 ⟨Nat.zero_le _, Nat.zero_le _⟩) hD hS hA (fun r_1 u H locs w_2 hP hD hS => ?_)
  subst w_2
  have hP : va_P (dC, dI) vwCl ws H := hP
  have hD : va_D A ws := hD
  rw [← hQQ]; exact end_z (u := ()) hx hb hr hlocks dX4_isSide_6 hK hP hD hS bi_nar rfl (Nat.zero_le _) (Nat.zero_le _)

set_option maxHeartbeats 4000000 in
set_option maxRecDepth 100000 in
/-- which exception -/
theorem qX4_thrown (l : Launch) (dC : Nat → ClassId) (dI : Nat → Nat → Nat) (cy : Nat → ClassId) (ad : Nat → Nat) (F : Nat → Int32) (C : Nat → Nat) (R : Nat → Nat → Int32) (T : Nat → Nat → Nat) (sz : Nat) : Met l yX4_thrown wsX4_thrown ({ frames := 0, cells := 0, slots := 0, locals := 0 }) (va_Pc [.ref ((ad 0))] (wPre (dC, dI) (tyL cy) (mw ad cy F C R T) sz)) (QI (dC, dI) (tyL cy) (fun (r : Int32) (u : MS) => r = F 0 ∧ u = (F, C, R, T)) (mwU ad cy) (va_A (mw ad cy F C R T) sz)) 0 0 (va_A (mw ad cy F C R T) sz) := by
  refine en (cc := cX4_thrown) (maxL := 1) (ret := (some .int)) (own := RX4) (lv := [(0, .ref ((ad 0)))]) (by decide) rfl rfl (Nat.le_of_ble_eq_true rfl) rfl ?_
  intro p e s m below meth c ls A H locs hx hb hr hts hown hlocks hml hin hsz hK hP hD hS hA hl
  generalize hQQ : MQ below _ _ s _ _ A = QQ
  have inM : ∀ w ∈ wsX40, w ∈ wsX4_thrown := fun _ h => List.mem_cons_of_mem _ (List.mem_append_right _ h)
  have lk0 : (Cond.fieldLink RX4 65 "ClauseShopModel" "thrown" "I").before (([.ref ((ad 0))] : List Value).toArray) s = true := hts _ (List.mem_of_getElem? (i := 1) rfl)
  refine lv_aload_n hx hb dX4_thrown_0 rfl (lv_at hl 0 rfl) ?_
  refine va_get (D := (dC, dI)) (ci := 5) (v := .int (F 0)) (C := RX4) (T := TX4) (N := 22) hx hb hts inM hown hK hP 0 rfl rfl 0 (by decide) lk0 (fun _ h9 => h9) rfl dX4_thrown_1 ?_
  rw [← hQQ]; exact end_i (u := (F, C, R, T)) hx hb hr hlocks dX4_thrown_4 hK hP hD hS ⟨rfl, rfl⟩ (Nat.zero_le _) (Nat.zero_le _)

set_option maxHeartbeats 4000000 in
set_option maxRecDepth 100000 in
/-- isContract -/
theorem qX4_isContract (l : Launch) (dC : Nat → ClassId) (dI : Nat → Nat → Nat) (cy : Nat → ClassId) (ad : Nat → Nat) (F : Nat → Int32) (C : Nat → Nat) (R : Nat → Nat → Int32) (T : Nat → Nat → Nat) (sz : Nat) (x : Int32) : Met l yX4_isContract wsX4_isContract ({ frames := 1, cells := 0, slots := 0, locals := 22 }) (va_Pc [.ref ((ad 0)), .int x] (wPre (dC, dI) (tyL cy) (mw ad cy F C R T) sz)) (QI (dC, dI) (tyL cy) (fun (r : Int32) (u : MS) => r = bi ((0 : Int32) ≤ x ∧ x ≤ nI (C 9) - 1) ∧ u = (F, C, R, T)) (mwU ad cy) (va_A (mw ad cy F C R T) sz)) 0 0 (va_A (mw ad cy F C R T) sz) := by
  refine en (cc := cX4_isContract) (maxL := 2) (ret := (some .boolean)) (own := RX4) (lv := [(0, .ref ((ad 0))), (1, .int x)]) (by decide) rfl rfl (Nat.le_of_ble_eq_true rfl) rfl ?_
  intro p e s m below meth c ls A H locs hx hb hr hts hown hlocks hml hin hsz hK hP hD hS hA hl
  generalize hQQ : MQ below _ _ s _ _ A = QQ
  have inM : ∀ w ∈ wsX40, w ∈ wsX4_isContract := fun _ h => List.mem_cons_of_mem _ (List.mem_append_right _ h)
  have lk0 : (Cond.fieldLink RX4 73 "ClauseShopModel" "contracts" "I").before (([.ref ((ad 0)), .int x] : List Value).toArray) s = true := hts _ (List.mem_of_getElem? (i := 1) rfl)
  refine lv_iload_n hx hb dX4_isContract_0 rfl (lv_at hl 1 rfl) ?_
  refine lv_iconst (v := nI 0) hx hb dX4_isContract_1 (by decide) ?_
  refine lv_aload_n hx hb dX4_isContract_2 rfl (lv_at hl 0 rfl) ?_
  refine va_get (D := (dC, dI)) (ci := 5) (v := .int (nI (C 9))) (C := RX4) (T := TX4) (N := 22) hx hb hts inM hown hK hP 0 rfl rfl 9 (by decide) lk0 (fun _ h9 => h9) rfl dX4_isContract_3 ?_
  refine lv_iconst (v := nI 1) hx hb dX4_isContract_6 (by decide) ?_
  refine lv_isub hx hb dX4_isContract_7 ?_
  refine call_i (va_runS (As := [.int x, .int (nI 0), .int ((nI (C 9)) - (nI 1))]) (rest := []) ⟨hx, hb, hml, hown, hts⟩ (qX4_in l dC dI cy (mw ad cy F C R T) H.size x (nI 0) ((nI (C 9)) - (nI 1))) (va_cwS 3 hts gX4_isContract_X4_in rfl rfl rfl (by decide +kernel) ⟨Nat.le_of_ble_eq_true rfl, Nat.le_of_ble_eq_true rfl⟩) (preS hK hP hD) rfl rfl hl.1 rfl (lv_room (Nat.le_of_ble_eq_true rfl)) dX4_isContract_8 ⟨Nat.zero_le _, Nat.zero_le _⟩) hD hS hA (fun r_1 u H locs w_2 hP hD hS => ?_)
  subst w_2
  have hP : va_P (dC, dI) vwCl (mw ad cy F C R T) H := hP
  have hD : va_D A (mw ad cy F C R T) := hD
  rw [← hQQ]; exact end_z (u := (F, C, R, T)) hx hb hr hlocks dX4_isContract_11 hK hP hD hS bi_nar ⟨rfl, rfl⟩ (Nat.zero_le _) (Nat.zero_le _)

set_option maxHeartbeats 4000000 in
set_option maxRecDepth 100000 in
/-- isDuty -/
theorem qX4_isDuty (l : Launch) (dC : Nat → ClassId) (dI : Nat → Nat → Nat) (cy : Nat → ClassId) (ad : Nat → Nat) (F : Nat → Int32) (C : Nat → Nat) (R : Nat → Nat → Int32) (T : Nat → Nat → Nat) (sz : Nat) (x : Int32) : Met l yX4_isDuty wsX4_isDuty ({ frames := 1, cells := 0, slots := 0, locals := 22 }) (va_Pc [.ref ((ad 0)), .int x] (wPre (dC, dI) (tyL cy) (mw ad cy F C R T) sz)) (QI (dC, dI) (tyL cy) (fun (r : Int32) (u : MS) => r = bi ((0 : Int32) ≤ x ∧ x ≤ nI (C 14) - 1) ∧ u = (F, C, R, T)) (mwU ad cy) (va_A (mw ad cy F C R T) sz)) 0 0 (va_A (mw ad cy F C R T) sz) := by
  refine en (cc := cX4_isDuty) (maxL := 2) (ret := (some .boolean)) (own := RX4) (lv := [(0, .ref ((ad 0))), (1, .int x)]) (by decide) rfl rfl (Nat.le_of_ble_eq_true rfl) rfl ?_
  intro p e s m below meth c ls A H locs hx hb hr hts hown hlocks hml hin hsz hK hP hD hS hA hl
  generalize hQQ : MQ below _ _ s _ _ A = QQ
  have inM : ∀ w ∈ wsX40, w ∈ wsX4_isDuty := fun _ h => List.mem_cons_of_mem _ (List.mem_append_right _ h)
  have lk0 : (Cond.fieldLink RX4 76 "ClauseShopModel" "duties" "I").before (([.ref ((ad 0)), .int x] : List Value).toArray) s = true := hts _ (List.mem_of_getElem? (i := 1) rfl)
  refine lv_iload_n hx hb dX4_isDuty_0 rfl (lv_at hl 1 rfl) ?_
  refine lv_iconst (v := nI 0) hx hb dX4_isDuty_1 (by decide) ?_
  refine lv_aload_n hx hb dX4_isDuty_2 rfl (lv_at hl 0 rfl) ?_
  refine va_get (D := (dC, dI)) (ci := 5) (v := .int (nI (C 14))) (C := RX4) (T := TX4) (N := 22) hx hb hts inM hown hK hP 0 rfl rfl 14 (by decide) lk0 (fun _ h9 => h9) rfl dX4_isDuty_3 ?_
  refine lv_iconst (v := nI 1) hx hb dX4_isDuty_6 (by decide) ?_
  refine lv_isub hx hb dX4_isDuty_7 ?_
  refine call_i (va_runS (As := [.int x, .int (nI 0), .int ((nI (C 14)) - (nI 1))]) (rest := []) ⟨hx, hb, hml, hown, hts⟩ (qX4_in l dC dI cy (mw ad cy F C R T) H.size x (nI 0) ((nI (C 14)) - (nI 1))) (va_cwS 3 hts gX4_isDuty_X4_in rfl rfl rfl (by decide +kernel) ⟨Nat.le_of_ble_eq_true rfl, Nat.le_of_ble_eq_true rfl⟩) (preS hK hP hD) rfl rfl hl.1 rfl (lv_room (Nat.le_of_ble_eq_true rfl)) dX4_isDuty_8 ⟨Nat.zero_le _, Nat.zero_le _⟩) hD hS hA (fun r_1 u H locs w_2 hP hD hS => ?_)
  subst w_2
  have hP : va_P (dC, dI) vwCl (mw ad cy F C R T) H := hP
  have hD : va_D A (mw ad cy F C R T) := hD
  rw [← hQQ]; exact end_z (u := (F, C, R, T)) hx hb hr hlocks dX4_isDuty_11 hK hP hD hS bi_nar ⟨rfl, rfl⟩ (Nat.zero_le _) (Nat.zero_le _)

set_option maxHeartbeats 4000000 in
set_option maxRecDepth 100000 in
/-- the number of duties -/
theorem qX4_duties (l : Launch) (dC : Nat → ClassId) (dI : Nat → Nat → Nat) (cy : Nat → ClassId) (ad : Nat → Nat) (F : Nat → Int32) (C : Nat → Nat) (R : Nat → Nat → Int32) (T : Nat → Nat → Nat) (sz : Nat) : Met l yX4_duties wsX4_duties ({ frames := 0, cells := 0, slots := 0, locals := 0 }) (va_Pc [.ref ((ad 0))] (wPre (dC, dI) (tyL cy) (mw ad cy F C R T) sz)) (QI (dC, dI) (tyL cy) (fun (r : Int32) (u : MS) => r = nI (C 14) ∧ u = (va_up F 0 0, C, R, T)) (mwU ad cy) (va_A (mw ad cy F C R T) sz)) 0 0 (va_A (mw ad cy F C R T) sz) := by
  refine en (cc := cX4_duties) (maxL := 1) (ret := (some .int)) (own := RX4) (lv := [(0, .ref ((ad 0)))]) (by decide) rfl rfl (Nat.le_of_ble_eq_true rfl) rfl ?_
  intro p e s m below meth c ls A H locs hx hb hr hts hown hlocks hml hin hsz hK hP hD hS hA hl
  generalize hQQ : MQ below _ _ s _ _ A = QQ
  have inM : ∀ w ∈ wsX40, w ∈ wsX4_duties := fun _ h => List.mem_cons_of_mem _ (List.mem_append_right _ h)
  have lk0 : (Cond.fieldLink RX4 65 "ClauseShopModel" "thrown" "I").before (([.ref ((ad 0))] : List Value).toArray) s = true := hts _ (List.mem_of_getElem? (i := 1) rfl)
  have lk1 : (Cond.fieldLink RX4 76 "ClauseShopModel" "duties" "I").before (([.ref ((ad 0))] : List Value).toArray) s = true := hts _ (List.mem_of_getElem? (i := 2) rfl)
  refine lv_aload_n hx hb dX4_duties_0 rfl (lv_at hl 0 rfl) ?_
  refine lv_iconst (v := nI 0) hx hb dX4_duties_1 (by decide) ?_
  refine va_put (D := (dC, dI)) (ci := 5) (v := .int (nI 0)) (ty := .int) (C := RX4) (T := TX4) (N := 22) hx hb hts inM tyX4 tyX4_ok nmX4 hown hK hP hD hS 0 rfl rfl 0 (by decide) lk0 (fun _ h9 => h9) rfl (by decide +kernel) rfl rfl (Nat.le_of_ble_eq_true rfl) dX4_duties_2 (fun H locs hP hD hS => ?_)
  have hP : va_P (dC, dI) vwCl (mw ad cy (va_up F 0 (nI 0)) C R T) H := hP
  have hD : va_D A (mw ad cy (va_up F 0 (nI 0)) C R T) := hD
  refine lv_aload_n hx hb dX4_duties_5 rfl (lv_at hl 0 rfl) ?_
  refine va_get (D := (dC, dI)) (ci := 5) (v := .int (nI (C 14))) (C := RX4) (T := TX4) (N := 22) hx hb hts inM hown hK hP 0 rfl rfl 14 (by decide) lk1 (fun _ h9 => h9) rfl dX4_duties_6 ?_
  rw [← hQQ]; exact end_i (u := (va_up F 0 (nI 0), C, R, T)) hx hb hr hlocks dX4_duties_9 hK hP hD hS ⟨rfl, rfl⟩ (Nat.zero_le _) (Nat.zero_le _)

def M_begin (F : Nat → Int32) (C : Nat → Nat) (R : Nat → Nat → Int32) (T : Nat → Nat → Nat) : Int32 × MS :=
  if C 9 = 10 then (0, (va_up F 0 1, C, R, T)) else (nI (C 9), (va_up F 0 0, va_up C 9 (C 9 + 1), R, T))

set_option maxHeartbeats 4000000 in
set_option maxRecDepth 100000 in
/-- begin -/
theorem qX4_begin (l : Launch) (dC : Nat → ClassId) (dI : Nat → Nat → Nat) (cy : Nat → ClassId) (ad : Nat → Nat) (F : Nat → Int32) (C : Nat → Nat) (R : Nat → Nat → Int32) (T : Nat → Nat → Nat) (sz : Nat) (h9 : C 9 ≤ 10) : Met l yX4_begin wsX4_begin ({ frames := 0, cells := 0, slots := 0, locals := 0 }) (va_Pc [.ref ((ad 0))] (wPre (dC, dI) (tyL cy) (mw ad cy F C R T) sz)) (QI (dC, dI) (tyL cy) (fun (r : Int32) (u : MS) => (r, u) = M_begin F C R T) (mwU ad cy) (va_A (mw ad cy F C R T) sz)) 0 0 (va_A (mw ad cy F C R T) sz) := by
  refine en (cc := cX4_begin) (maxL := 1) (ret := (some .int)) (own := RX4) (lv := [(0, .ref ((ad 0)))]) (by decide) rfl rfl (Nat.le_of_ble_eq_true rfl) rfl ?_
  intro p e s m below meth c ls A H locs hx hb hr hts hown hlocks hml hin hsz hK hP hD hS hA hl
  generalize hQQ : MQ below _ _ s _ _ A = QQ
  have inM : ∀ w ∈ wsX40, w ∈ wsX4_begin := fun _ h => List.mem_cons_of_mem _ (List.mem_append_right _ h)
  have lk0 : (Cond.fieldLink RX4 73 "ClauseShopModel" "contracts" "I").before (([.ref ((ad 0))] : List Value).toArray) s = true := hts _ (List.mem_of_getElem? (i := 1) rfl)
  have lk1 : (Cond.fieldLink RX4 65 "ClauseShopModel" "thrown" "I").before (([.ref ((ad 0))] : List Value).toArray) s = true := hts _ (List.mem_of_getElem? (i := 2) rfl)
  refine lv_aload_n hx hb dX4_begin_0 rfl (lv_at hl 0 rfl) ?_
  refine lv_aload_n hx hb dX4_begin_1 rfl (lv_at hl 0 rfl) ?_
  refine va_get (D := (dC, dI)) (ci := 5) (v := .int (nI (C 9))) (C := RX4) (T := TX4) (N := 22) hx hb hts inM hown hK hP 0 rfl rfl 9 (by decide) lk0 (fun _ h9 => h9) rfl dX4_begin_2 ?_
  refine lv_bipush (v := nI 10) hx hb dX4_begin_5 (by decide) ?_
  refine n_ne (tgt := 14) hx hb dX4_begin_7 (by decide) (by omega) (by omega) (fun c_1 => ?_) (fun c_1 => ?_)
  · refine lv_iconst (v := nI 0) hx hb dX4_begin_14 (by decide) ?_
    refine va_put (D := (dC, dI)) (ci := 5) (v := .int (nI 0)) (ty := .int) (C := RX4) (T := TX4) (N := 22) hx hb hts inM tyX4 tyX4_ok nmX4 hown hK hP hD hS 0 rfl rfl 0 (by decide) lk1 (fun _ h9 => h9) rfl (by decide +kernel) rfl rfl (Nat.le_of_ble_eq_true rfl) dX4_begin_15 (fun H locs hP hD hS => ?_)
    have hP : va_P (dC, dI) vwCl (mw ad cy (va_up F 0 (nI 0)) C R T) H := hP
    have hD : va_D A (mw ad cy (va_up F 0 (nI 0)) C R T) := hD
    refine lv_aload_n hx hb dX4_begin_18 rfl (lv_at hl 0 rfl) ?_
    refine va_get (D := (dC, dI)) (ci := 5) (v := .int (nI 0)) (C := RX4) (T := TX4) (N := 22) hx hb hts inM hown hK hP 0 rfl rfl 0 (by decide) lk1 (fun _ h9 => h9) rfl dX4_begin_19 ?_
    refine lv_if_le (tgt := 27) hx hb dX4_begin_22 (by decide) (fun _ => ?_) (fun h9 => absurd h9 (by decide))
    refine lv_aload_n hx hb dX4_begin_27 rfl (lv_at hl 0 rfl) ?_
    refine lv_dup hx hb dX4_begin_28 rfl ?_
    refine va_get (D := (dC, dI)) (ci := 5) (v := .int (nI (C 9))) (C := RX4) (T := TX4) (N := 22) hx hb hts inM hown hK hP 0 rfl rfl 9 (by decide) lk0 (fun _ h9 => h9) rfl dX4_begin_29 ?_
    refine lv_iconst (v := nI 1) hx hb dX4_begin_32 (by decide) ?_
    refine lv_iadd hx hb dX4_begin_33 ?_
    refine to_i (y := nI ((C 9) + 1)) (nI_add _ _) ?_
    refine va_put (D := (dC, dI)) (ci := 5) (v := .int (nI ((C 9) + 1))) (ty := .int) (C := RX4) (T := TX4) (N := 22) hx hb hts inM tyX4 tyX4_ok nmX4 hown hK hP hD hS 0 rfl rfl 9 (by decide) lk0 (fun _ h9 => h9) rfl (by decide +kernel) rfl rfl (Nat.le_of_ble_eq_true rfl) dX4_begin_34 (fun H locs hP hD hS => ?_)
    have hP : va_P (dC, dI) vwCl (mw ad cy (va_up F 0 (nI 0)) (va_up C 9 ((C 9) + 1)) R T) H := hP
    have hD : va_D A (mw ad cy (va_up F 0 (nI 0)) (va_up C 9 ((C 9) + 1)) R T) := hD
    refine lv_aload_n hx hb dX4_begin_37 rfl (lv_at hl 0 rfl) ?_
    refine va_get (D := (dC, dI)) (ci := 5) (v := .int (nI ((C 9) + 1))) (C := RX4) (T := TX4) (N := 22) hx hb hts inM hown hK hP 0 rfl rfl 9 (by decide) lk0 (fun _ h9 => h9) rfl dX4_begin_38 ?_
    refine lv_iconst (v := nI 1) hx hb dX4_begin_41 (by decide) ?_
    refine lv_isub hx hb dX4_begin_42 ?_
    refine to_i (y := nI (C 9)) (pk_m1s _) ?_
    rw [← hQQ]; exact end_i (u := (va_up F 0 (nI 0), va_up C 9 ((C 9) + 1), R, T)) hx hb hr hlocks dX4_begin_43 hK hP hD hS (by simp only [M_begin, c_1, if_true, if_false]; try rfl) (Nat.zero_le _) (Nat.zero_le _)
  · refine lv_iconst (v := nI 1) hx hb dX4_begin_10 (by decide) ?_
    refine lv_goto (tgt := 15) hx hb dX4_begin_11 (by decide) ?_
    refine va_put (D := (dC, dI)) (ci := 5) (v := .int (nI 1)) (ty := .int) (C := RX4) (T := TX4) (N := 22) hx hb hts inM tyX4 tyX4_ok nmX4 hown hK hP hD hS 0 rfl rfl 0 (by decide) lk1 (fun _ h9 => h9) rfl (by decide +kernel) rfl rfl (Nat.le_of_ble_eq_true rfl) dX4_begin_15 (fun H locs hP hD hS => ?_)
    have hP : va_P (dC, dI) vwCl (mw ad cy (va_up F 0 (nI 1)) C R T) H := hP
    have hD : va_D A (mw ad cy (va_up F 0 (nI 1)) C R T) := hD
    refine lv_aload_n hx hb dX4_begin_18 rfl (lv_at hl 0 rfl) ?_
    refine va_get (D := (dC, dI)) (ci := 5) (v := .int (nI 1)) (C := RX4) (T := TX4) (N := 22) hx hb hts inM hown hK hP 0 rfl rfl 0 (by decide) lk1 (fun _ h9 => h9) rfl dX4_begin_19 ?_
    refine lv_if_le (tgt := 27) hx hb dX4_begin_22 (by decide) (fun h9 => absurd h9 (by decide)) (fun _ => ?_)
    refine lv_iconst (v := nI 0) hx hb dX4_begin_25 (by decide) ?_
    rw [← hQQ]; exact end_i (u := (va_up F 0 (nI 1), C, R, T)) hx hb hr hlocks dX4_begin_26 hK hP hD hS (by simp only [M_begin, eq_true c_1, if_true, if_false]; try rfl) (Nat.zero_le _) (Nat.zero_le _)

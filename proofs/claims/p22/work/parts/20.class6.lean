set_option maxHeartbeats 4000000 in
set_option maxRecDepth 100000 in
/-- relate -/
theorem qX3_relate (l : Launch) (dC : Nat → ClassId) (dI : Nat → Nat → Nat) (cy : Nat → ClassId) (e0 mi : Nat) (ad : Lc → Nat) (L : List Lc) (S : SS) (N : NN) (sz : Nat) (a n f : Int32) (hI : okC L N) (hst : l.stackTraces = false) : vx_Met l yX3_relate wsX3_relate ({ frames := 7, cells := 3, slots := 18, locals := 111 }) (va_Pc [.ref (ad (10, 0)), .int a, .int n, .int f] (wPreX (dC, dI) (tyL cy) e0 mi (cw cy e0 ad L S N) sz)) (QV (dC, dI) (tyL cy) (fun (u : CS) => V_relate a n f = 0 ∧ u = (su (su S 1 0 (upd (S 1 0) (ix a) n)) 2 0 (upd (S 2 0) (ix a) f), N)) (cwU cy e0 ad L) (va_A (cw cy e0 ad L S N) sz)) (XX (dC, dI) (tyL cy) (fun E => (V_relate a n f = 1 ∧ E = xIA)) (cw cy e0 ad L S N) (va_A (cw cy e0 ad L S N) sz)) 3 18 (va_A (cw cy e0 ad L S N) sz) := by
  refine enX (cc := cX3_relate) (maxL := 4) (ret := none) (own := RX3) (lv := [(0, .ref (ad (10, 0))), (1, .int a), (2, .int n), (3, .int f)]) (by decide) rfl rfl (Nat.le_of_ble_eq_true rfl) rfl ?_
  intro p e s m below meth c ls A H locs hx hb hr hts hown hlocks hml hin hsz hK hP hD hS hA hl ham hnt
  generalize hQQ : vx_MQ below _ _ _ s _ _ A = QQ
  have hI0 := hI
  obtain ⟨⟨hM0, hM8, hM9, hMF, hM15, hM17⟩, hV, hLt, hO, hDu, hnc, hnd, hcC, hcD, hcC2, hcD2⟩ := hI
  have inX3_ : ∀ w ∈ wsX30, w ∈ wsX3_relate := fun _ h => List.mem_cons_of_mem _ (List.mem_append_left _ (List.mem_append_right _ h))
  have lk0 : (Cond.fieldLink RX3 15 "ClauseShop" "needs" "[I").before (([.ref (ad (10, 0)), .int a, .int n, .int f] : List Value).toArray) s = true := hts _ (List.mem_of_getElem? (i := 1) rfl)
  have lk1 : (Cond.fieldLink RX3 19 "ClauseShop" "forbids" "[I").before (([.ref (ad (10, 0)), .int a, .int n, .int f] : List Value).toArray) s = true := hts _ (List.mem_of_getElem? (i := 2) rfl)
  refine lv_iload_n hx hb dX3_relate_0 rfl (lv_at hl 1 rfl) ?_
  refine callX_v (vx_runS (As := [.int a]) (rest := []) ⟨hx, hb, hml, hown, hts⟩ (qX3_checkClause l dC dI cy e0 mi (cw cy e0 ad L S N) H.size a hst) (va_cwS 1 hts gX3_relate_X3_checkClause rfl rfl rfl (by decide +kernel) ⟨Nat.le_of_ble_eq_true rfl, Nat.le_of_ble_eq_true rfl⟩) (preXS hK hP hD hS hA ham) rfl rfl hl.1 rfl (lv_room (Nat.le_of_ble_eq_true rfl)) dX3_relate_1 ⟨Nat.le_of_ble_eq_true rfl, Nat.le_of_ble_eq_true rfl⟩) hD hS hA (fun E ce q9 H locs hpx hP hS hc1 hc2 hc3 => by rw [← hQQ]; exact outX hnt hlocks hc1 hc2 hc3 (⟨by simp only [V_relate, hpx.2, and_true, true_and, and_false, false_and, if_true, if_false, not_true, not_false_iff, not_false_eq_true, or_true, true_or, or_false, false_or, ite_true, ite_false, and_self, Classical.not_not, Bool.false_eq_true], hpx.1⟩) hK hP hD hS (Nat.le_of_ble_eq_true rfl) (Nat.le_of_ble_eq_true rfl)) (fun u H locs w_2 hP hD hS => ?_)
  have hcnp := w_2
  obtain ⟨cn, hcn, ex, ecn⟩ := cl_ix hcnp
  subst ex
  have hP : va_P (dC, dI) vwCl (cw cy e0 ad L S N) H := hP
  have hD : va_D A (cw cy e0 ad L S N) := hD
  refine lv_iload_n hx hb dX3_relate_4 rfl (lv_at hl 1 rfl) ?_
  refine lv_iload_n hx hb dX3_relate_5 rfl (lv_at hl 2 rfl) ?_
  refine callX_v (vx_runS (As := [.int (nI cn), .int n]) (rest := []) ⟨hx, hb, hml, hown, hts⟩ (qX3_checkOtherClauses l dC dI cy e0 mi (cw cy e0 ad L S N) H.size cn n hst) (va_cwS 2 hts gX3_relate_X3_checkOtherClauses rfl rfl rfl (by decide +kernel) ⟨Nat.le_of_ble_eq_true rfl, Nat.le_of_ble_eq_true rfl⟩) (preXS hK hP hD hS hA ham) rfl rfl hl.1 rfl (lv_room (Nat.le_of_ble_eq_true rfl)) dX3_relate_6 ⟨Nat.le_of_ble_eq_true rfl, Nat.le_of_ble_eq_true rfl⟩) hD hS hA (fun E ce q9 H locs hpx hP hS hc1 hc2 hc3 => by rw [← hQQ]; exact outX hnt hlocks hc1 hc2 hc3 (⟨by simp only [V_relate, eq_true hcnp, ecn, hpx.2, and_true, true_and, and_false, false_and, if_true, if_false, not_true, not_false_iff, not_false_eq_true, or_true, true_or, or_false, false_or, ite_true, ite_false, and_self, Classical.not_not, Bool.false_eq_true], hpx.1⟩) hK hP hD hS (Nat.le_of_ble_eq_true rfl) (Nat.le_of_ble_eq_true rfl)) (fun u H locs w_5 hP hD hS => ?_)
  have o_3 := w_5
  have hP : va_P (dC, dI) vwCl (cw cy e0 ad L S N) H := hP
  have hD : va_D A (cw cy e0 ad L S N) := hD
  refine lv_iload_n hx hb dX3_relate_9 rfl (lv_at hl 1 rfl) ?_
  refine lv_iload_n hx hb dX3_relate_10 rfl (lv_at hl 3 rfl) ?_
  refine callX_v (vx_runS (As := [.int (nI cn), .int f]) (rest := []) ⟨hx, hb, hml, hown, hts⟩ (qX3_checkOtherClauses l dC dI cy e0 mi (cw cy e0 ad L S N) H.size cn f hst) (va_cwS 2 hts gX3_relate_X3_checkOtherClauses rfl rfl rfl (by decide +kernel) ⟨Nat.le_of_ble_eq_true rfl, Nat.le_of_ble_eq_true rfl⟩) (preXS hK hP hD hS hA ham) rfl rfl hl.1 rfl (lv_room (Nat.le_of_ble_eq_true rfl)) dX3_relate_11 ⟨Nat.le_of_ble_eq_true rfl, Nat.le_of_ble_eq_true rfl⟩) hD hS hA (fun E ce q9 H locs hpx hP hS hc1 hc2 hc3 => by rw [← hQQ]; exact outX hnt hlocks hc1 hc2 hc3 (⟨by simp only [V_relate, eq_true hcnp, eq_true o_3, ecn, hpx.2, and_true, true_and, and_false, false_and, if_true, if_false, not_true, not_false_iff, not_false_eq_true, or_true, true_or, or_false, false_or, ite_true, ite_false, and_self, Classical.not_not, Bool.false_eq_true], hpx.1⟩) hK hP hD hS (Nat.le_of_ble_eq_true rfl) (Nat.le_of_ble_eq_true rfl)) (fun u H locs w_8 hP hD hS => ?_)
  have o_6 := w_8
  have hP : va_P (dC, dI) vwCl (cw cy e0 ad L S N) H := hP
  have hD : va_D A (cw cy e0 ad L S N) := hD
  refine lv_aload_n hx hb dX3_relate_14 rfl (lv_at hl 0 rfl) ?_
  obtain ⟨z_9, hz_9⟩ := pl_get (ad := ad) (f := cc cy e0 ad S N) (hMF 10 (by decide))
  rw [show cc cy e0 ad S N (10, 0) = .inr (4, [.ref (ad (11, 0)), .ref (ad (12, 0)), .ref (ad (13, 0)), .ref (ad (14, 0)), .ref (ad (16, 0)), .int (S 0 0 0)]) from rfl] at hz_9
  refine va_get (D := (dC, dI)) (ci := 4) (v := .ref (ad (12, 0))) (C := RX3) (T := TX3) (N := 6) hx hb hts inX3_ hown hK hP z_9 hz_9 rfl 1 (by decide) lk0 (fun _ h9 => h9) rfl dX3_relate_15 ?_
  refine lv_iload_n hx hb dX3_relate_18 rfl (lv_at hl 1 rfl) ?_
  refine lv_iload_n hx hb dX3_relate_19 rfl (lv_at hl 2 rfl) ?_
  obtain ⟨z_10, hz_10⟩ := pl_get (ad := ad) (f := cc cy e0 ad S N) (hMF 12 (by decide))
  rw [show cc cy e0 ad S N (12, 0) = .inl (cy 0, 10, .inl (S 1 0)) from rfl] at hz_10
  have eW : (cw cy e0 ad L S N).set z_10 (ad (12, 0), .inl (cy 0, 10, .inl (upd (S 1 0) cn n))) = cw cy e0 ad L (su S 1 0 (upd (S 1 0) cn n)) N := st_12 (upd (S 1 0) cn n) hD hz_10 (hMF 12 (by decide))
  refine x_iast (f := S 1 0) hx hb hK hP hD hS z_10 0 hz_10 rfl (t := cn) (x := n) (by omega) (by decide) dX3_relate_20 (fun H locs hP hD hS => ?_)
  have hP : va_P (dC, dI) vwCl (cw cy e0 ad L (su S 1 0 (upd (S 1 0) cn n)) N) H := by rw [← eW]; exact hP
  have hD : va_D A (cw cy e0 ad L (su S 1 0 (upd (S 1 0) cn n)) N) := by rw [← eW]; exact hD
  refine lv_aload_n hx hb dX3_relate_21 rfl (lv_at hl 0 rfl) ?_
  obtain ⟨z_11, hz_11⟩ := pl_get (ad := ad) (f := cc cy e0 ad (su S 1 0 (upd (S 1 0) cn n)) N) (hMF 10 (by decide))
  rw [show cc cy e0 ad (su S 1 0 (upd (S 1 0) cn n)) N (10, 0) = .inr (4, [.ref (ad (11, 0)), .ref (ad (12, 0)), .ref (ad (13, 0)), .ref (ad (14, 0)), .ref (ad (16, 0)), .int (S 0 0 0)]) from by first | rfl | simp [cc, su, nu, upd]] at hz_11
  refine va_get (D := (dC, dI)) (ci := 4) (v := .ref (ad (13, 0))) (C := RX3) (T := TX3) (N := 6) hx hb hts inX3_ hown hK hP z_11 hz_11 rfl 2 (by decide) lk1 (fun _ h9 => h9) rfl dX3_relate_22 ?_
  refine lv_iload_n hx hb dX3_relate_25 rfl (lv_at hl 1 rfl) ?_
  refine lv_iload_n hx hb dX3_relate_26 rfl (lv_at hl 3 rfl) ?_
  obtain ⟨z_12, hz_12⟩ := pl_get (ad := ad) (f := cc cy e0 ad (su S 1 0 (upd (S 1 0) cn n)) N) (hMF 13 (by decide))
  rw [show cc cy e0 ad (su S 1 0 (upd (S 1 0) cn n)) N (13, 0) = .inl (cy 0, 10, .inl (S 2 0)) from by first | rfl | simp [cc, su, nu, upd]] at hz_12
  have eW : (cw cy e0 ad L (su S 1 0 (upd (S 1 0) cn n)) N).set z_12 (ad (13, 0), .inl (cy 0, 10, .inl (upd (S 2 0) cn f))) = cw cy e0 ad L (su (su S 1 0 (upd (S 1 0) cn n)) 2 0 (upd (S 2 0) cn f)) N := st_13 (upd (S 2 0) cn f) hD hz_12 (hMF 13 (by decide))
  refine x_iast (f := S 2 0) hx hb hK hP hD hS z_12 0 hz_12 rfl (t := cn) (x := f) (by omega) (by decide) dX3_relate_27 (fun H locs hP hD hS => ?_)
  have hP : va_P (dC, dI) vwCl (cw cy e0 ad L (su (su S 1 0 (upd (S 1 0) cn n)) 2 0 (upd (S 2 0) cn f)) N) H := by rw [← eW]; exact hP
  have hD : va_D A (cw cy e0 ad L (su (su S 1 0 (upd (S 1 0) cn n)) 2 0 (upd (S 2 0) cn f)) N) := by rw [← eW]; exact hD
  rw [← hQQ]; apply vx_ret; exact end_v (u := (su (su S 1 0 (upd (S 1 0) cn n)) 2 0 (upd (S 2 0) cn f), N)) hx hb hr hlocks dX3_relate_28 hK hP hD hS ⟨by simp only [V_relate, eq_true hcnp, eq_true o_3, eq_true o_6, ecn, and_true, true_and, and_false, false_and, if_true, if_false, not_true, not_false_iff, not_false_eq_true, or_true, true_or, or_false, false_or, ite_true, ite_false, and_self, Classical.not_not, Bool.false_eq_true], by simp only [ecn]⟩ (Nat.le_of_ble_eq_true rfl) (Nat.le_of_ble_eq_true rfl)

set_option maxHeartbeats 4000000 in
set_option maxRecDepth 100000 in
/-- mark -/
theorem qX3_mark (l : Launch) (dC : Nat → ClassId) (dI : Nat → Nat → Nat) (cy : Nat → ClassId) (e0 mi : Nat) (ad : Lc → Nat) (L : List Lc) (S : SS) (N : NN) (sz : Nat) (a b d mk : Int32) (hI : okC L N) (hst : l.stackTraces = false) : vx_Met l yX3_mark wsX3_mark ({ frames := 7, cells := 6, slots := 36, locals := 111 }) (va_Pc [.ref (ad (10, 0)), .int a, .int b, .int d, .int mk] (wPreX (dC, dI) (tyL cy) e0 mi (cw cy e0 ad L S N) sz)) (QI (dC, dI) (tyL cy) (fun (r : Int32) (u : CS) => V_mark S N a b d mk = 0 ∧ r = (if N 2 (ix a) (ix d) = 0 then nI 0 else K_mk S (ix a) (ix b) (ix d)) ∧ u = (if N 2 (ix a) (ix d) = 0 then (K_bring S (ix a) (ix b) (ix d), nu N 2 (ix a) (va_up (N 2 (ix a)) (ix d) (N 1 0 (ix d)))) else K_change S N (ix a) (ix b) (ix d) mk)) (cwU cy e0 ad L) (va_A (cw cy e0 ad L S N) sz)) (XX (dC, dI) (tyL cy) (fun E => (V_mark S N a b d mk = 1 ∧ E = xIO) ∨ (V_mark S N a b d mk = 2 ∧ E = xIA) ∨ (V_mark S N a b d mk = 3 ∧ E = xIS)) (cw cy e0 ad L S N) (va_A (cw cy e0 ad L S N) sz)) 6 36 (va_A (cw cy e0 ad L S N) sz) := by
  refine enX (cc := cX3_mark) (maxL := 7) (ret := (some .int)) (own := RX3) (lv := [(0, .ref (ad (10, 0))), (1, .int a), (2, .int b), (3, .int d), (4, .int mk)]) (by decide) rfl rfl (Nat.le_of_ble_eq_true rfl) rfl ?_
  intro p e s m below meth c ls A H locs hx hb hr hts hown hlocks hml hin hsz hK hP hD hS hA hl ham hnt
  generalize hQQ : vx_MQ below _ _ _ s _ _ A = QQ
  have hI0 := hI
  obtain ⟨⟨hM0, hM8, hM9, hMF, hM15, hM17⟩, hV, hLt, hO, hDu, hnc, hnd, hcC, hcD, hcC2, hcD2⟩ := hI
  have inX0_ : ∀ w ∈ wsX00, w ∈ wsX3_mark := fun _ h => List.mem_cons_of_mem _ (List.mem_append_left _ (List.mem_append_left _ (List.mem_append_left _ (List.mem_append_left _ (List.mem_append_left _ (List.mem_append_right _ h))))))
  have inX3_ : ∀ w ∈ wsX30, w ∈ wsX3_mark := fun _ h => List.mem_cons_of_mem _ (List.mem_append_left _ (List.mem_append_left _ (List.mem_append_left _ (List.mem_append_left _ (List.mem_append_right _ h)))))
  have lk0 : (Cond.fieldLink RX3 93 "ClauseShop$Contract" "items" "[LClauseShop$Version;").before (([.ref (ad (10, 0)), .int a, .int b, .int d, .int mk] : List Value).toArray) s = true := hts _ (List.mem_of_getElem? (i := 5) rfl)
  have lk1 : (Cond.classLink RX3 58 "java/lang/IllegalStateException").before (([.ref (ad (10, 0)), .int a, .int b, .int d, .int mk] : List Value).toArray) s = true := hts _ (List.mem_of_getElem? (i := 3) rfl)
  have lk2 : (Cond.initialized "java/lang/IllegalStateException").before (([.ref (ad (10, 0)), .int a, .int b, .int d, .int mk] : List Value).toArray) s = true := hts _ (List.mem_of_getElem? (i := 4) rfl)
  have lk3 : (Cond.fieldLink RX3 11 "ClauseShop" "newest" "[LClauseShop$Version;").before (([.ref (ad (10, 0)), .int a, .int b, .int d, .int mk] : List Value).toArray) s = true := hts _ (List.mem_of_getElem? (i := 6) rfl)
  have lk4 : (Cond.fieldLink RX3 102 "ClauseShop$Contract" "marks" "[[I").before (([.ref (ad (10, 0)), .int a, .int b, .int d, .int mk] : List Value).toArray) s = true := hts _ (List.mem_of_getElem? (i := 7) rfl)
  have lk5 : (Cond.classLink RX3 47 "java/lang/IllegalArgumentException").before (([.ref (ad (10, 0)), .int a, .int b, .int d, .int mk] : List Value).toArray) s = true := hts _ (List.mem_of_getElem? (i := 1) rfl)
  have lk6 : (Cond.initialized "java/lang/IllegalArgumentException").before (([.ref (ad (10, 0)), .int a, .int b, .int d, .int mk] : List Value).toArray) s = true := hts _ (List.mem_of_getElem? (i := 2) rfl)
  refine lv_aload_n hx hb dX3_mark_0 rfl (lv_at hl 0 rfl) ?_
  refine lv_iload_n hx hb dX3_mark_1 rfl (lv_at hl 1 rfl) ?_
  obtain ⟨z_1, hz_1⟩ := pl_get (ad := ad) (f := cc cy e0 ad S N) (hMF 10 (by decide))
  rw [show cc cy e0 ad S N (10, 0) = .inr (4, [.ref (ad (11, 0)), .ref (ad (12, 0)), .ref (ad (13, 0)), .ref (ad (14, 0)), .ref (ad (16, 0)), .int (S 0 0 0)]) from rfl] at hz_1
  refine callX_r (vx_runV (As := [.int a]) (rest := []) ⟨hx, hb, hml, hown, hts⟩ (qX3_contractAt l dC dI cy e0 mi ad L S N H.size a hI0 hst) (cwV 1 hts gX3_mark_X3_contractAt rfl rfl rfl (by decide +kernel) ⟨Nat.le_of_ble_eq_true rfl, Nat.le_of_ble_eq_true rfl⟩) (preXV hK hP hD hS hA ham (w_recv (ci := 4) (q0 := z_1) hK hP hz_1 rfl)) rfl rfl hl.1 rfl (lv_room (Nat.le_of_ble_eq_true rfl)) dX3_mark_2 ⟨Nat.le_of_ble_eq_true rfl, Nat.le_of_ble_eq_true rfl⟩) hD hS hA (fun E ce q9 H locs hpx hP hS hc1 hc2 hc3 => by rw [← hQQ]; exact outX hnt hlocks hc1 hc2 hc3 (Or.inl ⟨by simp only [V_mark, hpx.2, and_true, true_and, and_false, false_and, if_true, if_false, not_true, not_false_iff, not_false_eq_true, or_true, true_or, or_false, false_or, ite_true, ite_false, and_self, Classical.not_not, Bool.false_eq_true], hpx.1⟩) hK hP hD hS (Nat.le_of_ble_eq_true rfl) (Nat.le_of_ble_eq_true rfl)) (fun r_2 u H locs w_3 hP hD hS => ?_)
  obtain ⟨⟨i, hi, ex, ei, rfl⟩, hct, rfl⟩ := w_3
  subst ex
  have hP : va_P (dC, dI) vwCl (cw cy e0 ad L S N) H := hP
  have hD : va_D A (cw cy e0 ad L S N) := hD
  refine lv_astore (lv' := [(5, .ref (ad (0, i))), (0, .ref (ad (10, 0))), (1, .int (nI i)), (2, .int b), (3, .int d), (4, .int mk)]) hx hb dX3_mark_5 hl (by decide) rfl (fun ls hl => ?_)
  refine lv_iload_n hx hb dX3_mark_7 rfl (lv_at hl 3 rfl) ?_
  refine callX_v (vx_runS (As := [.int b]) (rest := []) ⟨hx, hb, hml, hown, hts⟩ (qX3_checkSide l dC dI cy e0 mi (cw cy e0 ad L S N) H.size b hst) (va_cwS 1 hts gX3_mark_X3_checkSide rfl rfl rfl (by decide +kernel) ⟨Nat.le_of_ble_eq_true rfl, Nat.le_of_ble_eq_true rfl⟩) (preXS hK hP hD hS hA ham) rfl rfl hl.1 rfl (lv_room (Nat.le_of_ble_eq_true rfl)) dX3_mark_8 ⟨Nat.le_of_ble_eq_true rfl, Nat.le_of_ble_eq_true rfl⟩) hD hS hA (fun E ce q9 H locs hpx hP hS hc1 hc2 hc3 => by rw [← hQQ]; exact outX hnt hlocks hc1 hc2 hc3 (Or.inr (Or.inl ⟨by simp only [V_mark, eq_true hct, ei, hpx.2, and_true, true_and, and_false, false_and, if_true, if_false, not_true, not_false_iff, not_false_eq_true, or_true, true_or, or_false, false_or, ite_true, ite_false, and_self, Classical.not_not, Bool.false_eq_true], hpx.1⟩)) hK hP hD hS (Nat.le_of_ble_eq_true rfl) (Nat.le_of_ble_eq_true rfl)) (fun u H locs w_5 hP hD hS => ?_)
  have hsdp := w_5
  obtain ⟨sd, hsd, ex, esd⟩ := sd_ix hsdp
  subst ex
  have hP : va_P (dC, dI) vwCl (cw cy e0 ad L S N) H := hP
  have hD : va_D A (cw cy e0 ad L S N) := hD
  refine lv_iload_n hx hb dX3_mark_11 rfl (lv_at hl 4 rfl) ?_
  refine callX_v (vx_runS (As := [.int d]) (rest := []) ⟨hx, hb, hml, hown, hts⟩ (qX3_checkClause l dC dI cy e0 mi (cw cy e0 ad L S N) H.size d hst) (va_cwS 1 hts gX3_mark_X3_checkClause rfl rfl rfl (by decide +kernel) ⟨Nat.le_of_ble_eq_true rfl, Nat.le_of_ble_eq_true rfl⟩) (preXS hK hP hD hS hA ham) rfl rfl hl.1 rfl (lv_room (Nat.le_of_ble_eq_true rfl)) dX3_mark_12 ⟨Nat.le_of_ble_eq_true rfl, Nat.le_of_ble_eq_true rfl⟩) hD hS hA (fun E ce q9 H locs hpx hP hS hc1 hc2 hc3 => by rw [← hQQ]; exact outX hnt hlocks hc1 hc2 hc3 (Or.inr (Or.inl ⟨by simp only [V_mark, eq_true hct, eq_true hsdp, ei, esd, hpx.2, and_true, true_and, and_false, false_and, if_true, if_false, not_true, not_false_iff, not_false_eq_true, or_true, true_or, or_false, false_or, ite_true, ite_false, and_self, Classical.not_not, Bool.false_eq_true], hpx.1⟩)) hK hP hD hS (Nat.le_of_ble_eq_true rfl) (Nat.le_of_ble_eq_true rfl)) (fun u H locs w_7 hP hD hS => ?_)
  have hcnp := w_7
  obtain ⟨cn, hcn, ex, ecn⟩ := cl_ix hcnp
  subst ex
  have hP : va_P (dC, dI) vwCl (cw cy e0 ad L S N) H := hP
  have hD : va_D A (cw cy e0 ad L S N) := hD
  have hVc := hV i cn hi hcn
  have hLc := hLt cn hcn
  refine lv_iload hx hb dX3_mark_15 (lv_at hl 5 rfl) ?_
  refine lv_iconst (v := nI 1) hx hb dX3_mark_17 (by decide) ?_
  refine lv_iconst (v := nI 2) hx hb dX3_mark_18 (by decide) ?_
  refine call_i (va_runS (As := [.int mk, .int (nI 1), .int (nI 2)]) (rest := []) ⟨hx, hb, hml, hown, hts⟩ (qX3_isWithin l dC dI cy e0 mi (cw cy e0 ad L S N) H.size mk (nI 1) (nI 2)) (va_cwS 3 hts gX3_mark_X3_isWithin rfl rfl rfl (by decide +kernel) ⟨Nat.le_of_ble_eq_true rfl, Nat.le_of_ble_eq_true rfl⟩) (preS hK hP hD) rfl rfl hl.1 rfl (lv_room (Nat.le_of_ble_eq_true rfl)) dX3_mark_19 ⟨Nat.le_of_ble_eq_true rfl, Nat.le_of_ble_eq_true rfl⟩) hD hS hA (fun r_8 u H locs w_9 hP hD hS => ?_)
  subst w_9
  have hP : va_P (dC, dI) vwCl (cw cy e0 ad L S N) H := hP
  have hD : va_D A (cw cy e0 ad L S N) := hD
  refine br_ne (tgt := 35) hx hb dX3_mark_22 (by decide) (fun c_10 => ?_) (fun c_10 => ?_)
  · refine lv_aload hx hb dX3_mark_35 (lv_at hl 0 rfl) ?_
    refine callX_v (vx_runS (As := [.ref (ad (0, i))]) (rest := []) ⟨hx, hb, hml, hown, hts⟩ (qX3_checkDraft l dC dI cy e0 mi ad L S N H.size i hI0 hi hst) (va_cwS 1 hts gX3_mark_X3_checkDraft rfl rfl rfl (by decide +kernel) ⟨Nat.le_of_ble_eq_true rfl, Nat.le_of_ble_eq_true rfl⟩) (preXS hK hP hD hS hA ham) rfl rfl hl.1 rfl (lv_room (Nat.le_of_ble_eq_true rfl)) dX3_mark_37 ⟨Nat.le_of_ble_eq_true rfl, Nat.le_of_ble_eq_true rfl⟩) hD hS hA (fun E ce q9 H locs hpx hP hS hc1 hc2 hc3 => by rw [← hQQ]; exact outX hnt hlocks hc1 hc2 hc3 (Or.inr (Or.inr (⟨by simp only [V_mark, eq_true hct, eq_true hsdp, eq_true hcnp, eq_true c_10, ei, esd, ecn, hpx.2, and_true, true_and, and_false, false_and, if_true, if_false, not_true, not_false_iff, not_false_eq_true, or_true, true_or, or_false, false_or, ite_true, ite_false, and_self, Classical.not_not, Bool.false_eq_true], hpx.1⟩))) hK hP hD hS (Nat.le_of_ble_eq_true rfl) (Nat.le_of_ble_eq_true rfl)) (fun u H locs w_12 hP hD hS => ?_)
    obtain ⟨hdr, rfl⟩ := w_12
    have hP : va_P (dC, dI) vwCl (cw cy e0 ad L S N) H := hP
    have hD : va_D A (cw cy e0 ad L S N) := hD
    refine lv_aload hx hb dX3_mark_40 (lv_at hl 0 rfl) ?_
    obtain ⟨z_13, hz_13⟩ := pl_get (ad := ad) (f := cc cy e0 ad S N) (hM0 0 i (by decide) (by omega))
    rw [show cc cy e0 ad S N (0, i) = .inr (1, [.ref (ad (1, i)), .ref (ad (2, i)), .ref (ad (5, i)), .ref (ad (6, i)), .ref (ad (7, i))]) from rfl] at hz_13
    refine va_get (D := (dC, dI)) (ci := 1) (v := .ref (ad (1, i))) (C := RX0) (T := TX0) (N := 5) hx hb hts inX0_ hown hK hP z_13 hz_13 rfl 0 (by decide) lk0 (fun _ h9 => h9) rfl dX3_mark_42 ?_
    refine lv_iload_n hx hb dX3_mark_45 rfl (lv_at hl 4 rfl) ?_
    obtain ⟨z_14, hz_14⟩ := pl_get (ad := ad) (f := cc cy e0 ad S N) (hM0 1 i (by decide) (by omega))
    rw [show cc cy e0 ad S N (1, i) = .inl (cy 2, 10, .inr (.inr (.inr (.inr (fun d => vpt ad ((N 2 i) d) d))))) from rfl] at hz_14
    refine x_aald hx hb hK hP z_14 2 hz_14 rfl (t := cn) (by omega) (by decide) dX3_mark_46 ?_
    by_cases c_15 : N 2 i cn = 0
    · refine to_v (y := .null) (vpt_z c_15) ?_
      refine lv_ifnonnullN hx hb dX3_mark_47 ?_
      refine lv_iload hx hb dX3_mark_50 (lv_at hl 5 rfl) ?_
      refine lv_iconst (v := nI 2) hx hb dX3_mark_52 (by decide) ?_
      refine lv_icmp_eq (tgt := 65) hx hb dX3_mark_53 (by decide) (fun c_16 => ?_) (fun c_16 => ?_)
      · rw [← hQQ]; exact thr (cls := "java/lang/IllegalStateException") (text := "no item for the clause, and none can be made") (is := 96) (ic := 62) (ik := 58) hx hb hst hown (by decide) lk1 lk2 (by decide) ham (fun w h => hts w (List.mem_cons_of_mem _ (List.mem_append_left _ (List.mem_append_right _ h)))) (by decide) (by decide +kernel) (by decide +kernel) dX3_mark_65 dX3_mark_68 dX3_mark_69 dX3_mark_71 dX3_mark_74 (hl.1.trans hml.symm) hnt hlocks (Nat.le_of_ble_eq_true rfl) (Nat.le_of_ble_eq_true rfl) (Nat.le_of_ble_eq_true rfl) (Nat.le_of_ble_eq_true rfl) (Or.inr (Or.inr (⟨by simp only [V_mark, eq_true hct, eq_true hsdp, eq_true hcnp, eq_true c_10, eq_true hdr, eq_true c_15, eq_true c_16, eq_true c_15, eq_true c_16, ei, esd, ecn, and_true, true_and, and_false, false_and, if_true, if_false, not_true, not_false_iff, not_false_eq_true, or_true, true_or, or_false, false_or, ite_true, ite_false, and_self, Classical.not_not, Bool.false_eq_true], rfl⟩))) hK hP hD hS (Nat.le_of_ble_eq_true rfl) (Nat.le_of_ble_eq_true rfl)
      · refine lv_aload_n hx hb dX3_mark_56 rfl (lv_at hl 1 rfl) ?_
        obtain ⟨z_17, hz_17⟩ := pl_get (ad := ad) (f := cc cy e0 ad S N) (hMF 10 (by decide))
        rw [show cc cy e0 ad S N (10, 0) = .inr (4, [.ref (ad (11, 0)), .ref (ad (12, 0)), .ref (ad (13, 0)), .ref (ad (14, 0)), .ref (ad (16, 0)), .int (S 0 0 0)]) from rfl] at hz_17
        refine va_get (D := (dC, dI)) (ci := 4) (v := .ref (ad (11, 0))) (C := RX3) (T := TX3) (N := 6) hx hb hts inX3_ hown hK hP z_17 hz_17 rfl 0 (by decide) lk3 (fun _ h9 => h9) rfl dX3_mark_57 ?_
        refine lv_iload_n hx hb dX3_mark_60 rfl (lv_at hl 4 rfl) ?_
        obtain ⟨z_18, hz_18⟩ := pl_get (ad := ad) (f := cc cy e0 ad S N) (hMF 11 (by decide))
        rw [show cc cy e0 ad S N (11, 0) = .inl (cy 2, 10, .inr (.inr (.inr (.inr (fun d => vpt ad ((N 1 0) d) d))))) from rfl] at hz_18
        refine x_aald hx hb hK hP z_18 2 hz_18 rfl (t := cn) (by omega) (by decide) dX3_mark_61 ?_
        by_cases c_19 : N 1 0 cn = 0
        · refine to_v (y := .null) (vpt_z c_19) ?_
          refine lv_ifnonnullN hx hb dX3_mark_62 ?_
          rw [← hQQ]; exact thr (cls := "java/lang/IllegalStateException") (text := "no item for the clause, and none can be made") (is := 96) (ic := 62) (ik := 58) hx hb hst hown (by decide) lk1 lk2 (by decide) ham (fun w h => hts w (List.mem_cons_of_mem _ (List.mem_append_left _ (List.mem_append_right _ h)))) (by decide) (by decide +kernel) (by decide +kernel) dX3_mark_65 dX3_mark_68 dX3_mark_69 dX3_mark_71 dX3_mark_74 (hl.1.trans hml.symm) hnt hlocks (Nat.le_of_ble_eq_true rfl) (Nat.le_of_ble_eq_true rfl) (Nat.le_of_ble_eq_true rfl) (Nat.le_of_ble_eq_true rfl) (Or.inr (Or.inr (⟨by simp only [V_mark, eq_true hct, eq_true hsdp, eq_true hcnp, eq_true c_10, eq_true hdr, eq_true c_15, c_16, eq_true c_19, eq_true c_15, c_16, eq_true c_19, ei, esd, ecn, and_true, true_and, and_false, false_and, if_true, if_false, not_true, not_false_iff, not_false_eq_true, or_true, true_or, or_false, false_or, ite_true, ite_false, and_self, Classical.not_not, Bool.false_eq_true], rfl⟩))) hK hP hD hS (Nat.le_of_ble_eq_true rfl) (Nat.le_of_ble_eq_true rfl)
        · refine to_v (y := .ref (ad (9, 9 * cn + N 1 0 cn - 1))) (vpt_s c_19) ?_
          refine lv_ifnonnull (tgt := 75) hx hb dX3_mark_62 (by decide) ?_
          refine lv_aload hx hb dX3_mark_75 (lv_at hl 0 rfl) ?_
          refine lv_aload_n hx hb dX3_mark_77 rfl (lv_at hl 1 rfl) ?_
          obtain ⟨z_20, hz_20⟩ := pl_get (ad := ad) (f := cc cy e0 ad S N) (hMF 10 (by decide))
          rw [show cc cy e0 ad S N (10, 0) = .inr (4, [.ref (ad (11, 0)), .ref (ad (12, 0)), .ref (ad (13, 0)), .ref (ad (14, 0)), .ref (ad (16, 0)), .int (S 0 0 0)]) from rfl] at hz_20
          refine va_get (D := (dC, dI)) (ci := 4) (v := .ref (ad (11, 0))) (C := RX3) (T := TX3) (N := 6) hx hb hts inX3_ hown hK hP z_20 hz_20 rfl 0 (by decide) lk3 (fun _ h9 => h9) rfl dX3_mark_78 ?_
          refine lv_iload_n hx hb dX3_mark_81 rfl (lv_at hl 4 rfl) ?_
          obtain ⟨z_21, hz_21⟩ := pl_get (ad := ad) (f := cc cy e0 ad S N) (hMF 11 (by decide))
          rw [show cc cy e0 ad S N (11, 0) = .inl (cy 2, 10, .inr (.inr (.inr (.inr (fun d => vpt ad ((N 1 0) d) d))))) from rfl] at hz_21
          refine x_aald hx hb hK hP z_21 2 hz_21 rfl (t := cn) (by omega) (by decide) dX3_mark_82 ?_
          refine to_v (y := .ref (ad (9, 9 * cn + N 1 0 cn - 1))) (vpt_s c_19) ?_
          refine lv_iload_n hx hb dX3_mark_83 rfl (lv_at hl 4 rfl) ?_
          refine lv_iload_n hx hb dX3_mark_84 rfl (lv_at hl 3 rfl) ?_
          obtain ⟨z_22, hz_22⟩ := pl_get (ad := ad) (f := cc cy e0 ad S N) (hM0 0 i (by decide) (by omega))
          rw [show cc cy e0 ad S N (0, i) = .inr (1, [.ref (ad (1, i)), .ref (ad (2, i)), .ref (ad (5, i)), .ref (ad (6, i)), .ref (ad (7, i))]) from rfl] at hz_22
          refine call_v (va_runV (As := [.ref (ad (9, 9 * cn + N 1 0 cn - 1)), .int (nI cn), .int (nI sd)]) (rest := []) ⟨hx, hb, hml, hown, hts⟩ (qX0_bringIn l dC dI cy e0 mi ad L S N H.size i cn (N 1 0 cn) sd hI0 hi hcn c_19 (Nat.le_refl _) (mem9 hM9 hcn c_19 (Nat.le_refl _)) (by omega)) (cwV 3 hts gX3_mark_X0_bringIn rfl rfl rfl (by decide +kernel) ⟨Nat.le_of_ble_eq_true rfl, Nat.le_of_ble_eq_true rfl⟩) (preV hK hP hD (w_recv (ci := 1) (q0 := z_22) hK hP hz_22 rfl)) rfl rfl hl.1 rfl (lv_room (Nat.le_of_ble_eq_true rfl)) dX3_mark_85 ⟨Nat.le_of_ble_eq_true rfl, Nat.le_of_ble_eq_true rfl⟩) hD hS hA (fun u H locs w_24 hP hD hS => ?_)
          subst w_24
          have hP : va_P (dC, dI) vwCl (cw cy e0 ad L ((K_bring S i sd cn)) ((nu N 2 i (va_up (N 2 i) cn (N 1 0 cn))))) H := hP
          have hD : va_D A (cw cy e0 ad L ((K_bring S i sd cn)) ((nu N 2 i (va_up (N 2 i) cn (N 1 0 cn))))) := hD
          refine lv_iconst (v := nI 0) hx hb dX3_mark_88 (by decide) ?_
          rw [← hQQ]; apply vx_ret; exact end_i (u := ((K_bring S i sd cn), (nu N 2 i (va_up (N 2 i) cn (N 1 0 cn))))) hx hb hr hlocks dX3_mark_89 hK hP hD hS ⟨by simp only [V_mark, eq_true hct, eq_true hsdp, eq_true hcnp, eq_true c_10, eq_true hdr, eq_true c_15, c_16, c_19, eq_true c_15, c_16, c_19, ei, esd, ecn, and_true, true_and, and_false, false_and, if_true, if_false, not_true, not_false_iff, not_false_eq_true, or_true, true_or, or_false, false_or, ite_true, ite_false, and_self, Classical.not_not, Bool.false_eq_true], by simp only [ei, esd, ecn, eq_true c_15, K_mk, h10, and_true, true_and, and_false, false_and, if_true, if_false, not_true, not_false_iff, not_false_eq_true, or_true, true_or, or_false, false_or, ite_true, ite_false, and_self, Classical.not_not, Bool.false_eq_true], by simp only [ei, esd, ecn, eq_true c_15, and_true, true_and, and_false, false_and, if_true, if_false, not_true, not_false_iff, not_false_eq_true, or_true, true_or, or_false, false_or, ite_true, ite_false, and_self, Classical.not_not, Bool.false_eq_true]⟩ (Nat.le_of_ble_eq_true rfl) (Nat.le_of_ble_eq_true rfl)
    · refine to_v (y := .ref (ad (9, 9 * cn + N 2 i cn - 1))) (vpt_s c_15) ?_
      refine lv_ifnonnull (tgt := 90) hx hb dX3_mark_47 (by decide) ?_
      have hsd2 : sd = 0 ∨ sd = 1 := by omega
      rcases hsd2 with rfl | rfl
      · refine lv_aload hx hb dX3_mark_90 (lv_at hl 0 rfl) ?_
        obtain ⟨z_25, hz_25⟩ := pl_get (ad := ad) (f := cc cy e0 ad S N) (hM0 0 i (by decide) (by omega))
        rw [show cc cy e0 ad S N (0, i) = .inr (1, [.ref (ad (1, i)), .ref (ad (2, i)), .ref (ad (5, i)), .ref (ad (6, i)), .ref (ad (7, i))]) from rfl] at hz_25
        refine va_get (D := (dC, dI)) (ci := 1) (v := .ref (ad (2, i))) (C := RX0) (T := TX0) (N := 5) hx hb hts inX0_ hown hK hP z_25 hz_25 rfl 1 (by decide) lk4 (fun _ h9 => h9) rfl dX3_mark_92 ?_
        refine lv_iload_n hx hb dX3_mark_95 rfl (lv_at hl 3 rfl) ?_
        obtain ⟨z_26, hz_26⟩ := pl_get (ad := ad) (f := cc cy e0 ad S N) (hM0 2 i (by decide) (by omega))
        rw [show cc cy e0 ad S N (2, i) = .inl (cy 4, 2, .inr (.inr (.inr (.inr (fun s => if s = 0 then some (ad (3, i)) else some (ad (4, i))))))) from rfl] at hz_26
        refine x_aaldA hx hb hK hP z_26 4 hz_26 rfl (t := 0) (by omega) (by decide) dX3_mark_96 ?_
        refine to_v (y := .ref (ad (3, i))) rfl ?_
        refine lv_iload_n hx hb dX3_mark_97 rfl (lv_at hl 4 rfl) ?_
        obtain ⟨z_27, hz_27⟩ := pl_get (ad := ad) (f := cc cy e0 ad S N) (hM0 3 i (by decide) (by omega))
        rw [show cc cy e0 ad S N (3, i) = .inl (cy 0, 10, .inl (S 4 i)) from rfl] at hz_27
        refine x_iald (f := S 4 i) hx hb hK hP z_27 0 hz_27 rfl (t := cn) (by omega) (by decide) dX3_mark_98 ?_
        refine lv_istore (lv' := [(6, .int (S 4 i cn)), (5, .ref (ad (0, i))), (0, .ref (ad (10, 0))), (1, .int (nI i)), (2, .int (nI 0)), (3, .int (nI cn)), (4, .int mk)]) hx hb dX3_mark_99 hl (by decide) rfl (fun ls hl => ?_)
        refine lv_aload hx hb dX3_mark_101 (lv_at hl 1 rfl) ?_
        refine lv_iload_n hx hb dX3_mark_103 rfl (lv_at hl 4 rfl) ?_
        refine lv_iload_n hx hb dX3_mark_104 rfl (lv_at hl 5 rfl) ?_
        refine lv_iload hx hb dX3_mark_105 (lv_at hl 6 rfl) ?_
        obtain ⟨z_28, hz_28⟩ := pl_get (ad := ad) (f := cc cy e0 ad S N) (hM0 0 i (by decide) (by omega))
        rw [show cc cy e0 ad S N (0, i) = .inr (1, [.ref (ad (1, i)), .ref (ad (2, i)), .ref (ad (5, i)), .ref (ad (6, i)), .ref (ad (7, i))]) from rfl] at hz_28
        refine call_v (va_runV (As := [.int (nI 0), .int (nI cn), .int mk]) (rest := []) ⟨hx, hb, hml, hown, hts⟩ (qX0_changeMark l dC dI cy e0 mi ad L S N H.size i cn 0 mk hI0 hi hcn (by omega)) (cwV 3 hts gX3_mark_X0_changeMark rfl rfl rfl (by decide +kernel) ⟨Nat.le_of_ble_eq_true rfl, Nat.le_of_ble_eq_true rfl⟩) (preV hK hP hD (w_recv (ci := 1) (q0 := z_28) hK hP hz_28 rfl)) rfl rfl hl.1 rfl (lv_room (Nat.le_of_ble_eq_true rfl)) dX3_mark_107 ⟨Nat.le_of_ble_eq_true rfl, Nat.le_of_ble_eq_true rfl⟩) hD hS hA (fun u H locs w_30 hP hD hS => ?_)
        subst w_30
        have hP : va_P (dC, dI) vwCl (cw cy e0 ad L ((K_change S N i 0 cn mk).1) ((K_change S N i 0 cn mk).2)) H := hP
        have hD : va_D A (cw cy e0 ad L ((K_change S N i 0 cn mk).1) ((K_change S N i 0 cn mk).2)) := hD
        refine lv_iload hx hb dX3_mark_110 (lv_at hl 0 rfl) ?_
        rw [← hQQ]; apply vx_ret; exact end_i (u := (K_change S N i 0 cn mk)) hx hb hr hlocks dX3_mark_112 hK hP hD hS ⟨by simp only [V_mark, eq_true hct, eq_true hsdp, eq_true hcnp, eq_true c_10, eq_true hdr, c_15, c_15, ei, esd, ecn, and_true, true_and, and_false, false_and, if_true, if_false, not_true, not_false_iff, not_false_eq_true, or_true, true_or, or_false, false_or, ite_true, ite_false, and_self, Classical.not_not, Bool.false_eq_true], by simp only [ei, esd, ecn, c_15, K_mk, h10, and_true, true_and, and_false, false_and, if_true, if_false, not_true, not_false_iff, not_false_eq_true, or_true, true_or, or_false, false_or, ite_true, ite_false, and_self, Classical.not_not, Bool.false_eq_true], by simp only [ei, esd, ecn, c_15, and_true, true_and, and_false, false_and, if_true, if_false, not_true, not_false_iff, not_false_eq_true, or_true, true_or, or_false, false_or, ite_true, ite_false, and_self, Classical.not_not, Bool.false_eq_true]⟩ (Nat.le_of_ble_eq_true rfl) (Nat.le_of_ble_eq_true rfl)
      · refine lv_aload hx hb dX3_mark_90 (lv_at hl 0 rfl) ?_
        obtain ⟨z_31, hz_31⟩ := pl_get (ad := ad) (f := cc cy e0 ad S N) (hM0 0 i (by decide) (by omega))
        rw [show cc cy e0 ad S N (0, i) = .inr (1, [.ref (ad (1, i)), .ref (ad (2, i)), .ref (ad (5, i)), .ref (ad (6, i)), .ref (ad (7, i))]) from rfl] at hz_31
        refine va_get (D := (dC, dI)) (ci := 1) (v := .ref (ad (2, i))) (C := RX0) (T := TX0) (N := 5) hx hb hts inX0_ hown hK hP z_31 hz_31 rfl 1 (by decide) lk4 (fun _ h9 => h9) rfl dX3_mark_92 ?_
        refine lv_iload_n hx hb dX3_mark_95 rfl (lv_at hl 3 rfl) ?_
        obtain ⟨z_32, hz_32⟩ := pl_get (ad := ad) (f := cc cy e0 ad S N) (hM0 2 i (by decide) (by omega))
        rw [show cc cy e0 ad S N (2, i) = .inl (cy 4, 2, .inr (.inr (.inr (.inr (fun s => if s = 0 then some (ad (3, i)) else some (ad (4, i))))))) from rfl] at hz_32
        refine x_aaldA hx hb hK hP z_32 4 hz_32 rfl (t := 1) (by omega) (by decide) dX3_mark_96 ?_
        refine to_v (y := .ref (ad (4, i))) rfl ?_
        refine lv_iload_n hx hb dX3_mark_97 rfl (lv_at hl 4 rfl) ?_
        obtain ⟨z_33, hz_33⟩ := pl_get (ad := ad) (f := cc cy e0 ad S N) (hM0 4 i (by decide) (by omega))
        rw [show cc cy e0 ad S N (4, i) = .inl (cy 0, 10, .inl (S 5 i)) from rfl] at hz_33
        refine x_iald (f := S 5 i) hx hb hK hP z_33 0 hz_33 rfl (t := cn) (by omega) (by decide) dX3_mark_98 ?_
        refine lv_istore (lv' := [(6, .int (S 5 i cn)), (5, .ref (ad (0, i))), (0, .ref (ad (10, 0))), (1, .int (nI i)), (2, .int (nI 1)), (3, .int (nI cn)), (4, .int mk)]) hx hb dX3_mark_99 hl (by decide) rfl (fun ls hl => ?_)
        refine lv_aload hx hb dX3_mark_101 (lv_at hl 1 rfl) ?_
        refine lv_iload_n hx hb dX3_mark_103 rfl (lv_at hl 4 rfl) ?_
        refine lv_iload_n hx hb dX3_mark_104 rfl (lv_at hl 5 rfl) ?_
        refine lv_iload hx hb dX3_mark_105 (lv_at hl 6 rfl) ?_
        obtain ⟨z_34, hz_34⟩ := pl_get (ad := ad) (f := cc cy e0 ad S N) (hM0 0 i (by decide) (by omega))
        rw [show cc cy e0 ad S N (0, i) = .inr (1, [.ref (ad (1, i)), .ref (ad (2, i)), .ref (ad (5, i)), .ref (ad (6, i)), .ref (ad (7, i))]) from rfl] at hz_34
        refine call_v (va_runV (As := [.int (nI 1), .int (nI cn), .int mk]) (rest := []) ⟨hx, hb, hml, hown, hts⟩ (qX0_changeMark l dC dI cy e0 mi ad L S N H.size i cn 1 mk hI0 hi hcn (by omega)) (cwV 3 hts gX3_mark_X0_changeMark rfl rfl rfl (by decide +kernel) ⟨Nat.le_of_ble_eq_true rfl, Nat.le_of_ble_eq_true rfl⟩) (preV hK hP hD (w_recv (ci := 1) (q0 := z_34) hK hP hz_34 rfl)) rfl rfl hl.1 rfl (lv_room (Nat.le_of_ble_eq_true rfl)) dX3_mark_107 ⟨Nat.le_of_ble_eq_true rfl, Nat.le_of_ble_eq_true rfl⟩) hD hS hA (fun u H locs w_36 hP hD hS => ?_)
        subst w_36
        have hP : va_P (dC, dI) vwCl (cw cy e0 ad L ((K_change S N i 1 cn mk).1) ((K_change S N i 1 cn mk).2)) H := hP
        have hD : va_D A (cw cy e0 ad L ((K_change S N i 1 cn mk).1) ((K_change S N i 1 cn mk).2)) := hD
        refine lv_iload hx hb dX3_mark_110 (lv_at hl 0 rfl) ?_
        rw [← hQQ]; apply vx_ret; exact end_i (u := (K_change S N i 1 cn mk)) hx hb hr hlocks dX3_mark_112 hK hP hD hS ⟨by simp only [V_mark, eq_true hct, eq_true hsdp, eq_true hcnp, eq_true c_10, eq_true hdr, c_15, c_15, ei, esd, ecn, and_true, true_and, and_false, false_and, if_true, if_false, not_true, not_false_iff, not_false_eq_true, or_true, true_or, or_false, false_or, ite_true, ite_false, and_self, Classical.not_not, Bool.false_eq_true], by simp only [ei, esd, ecn, c_15, K_mk, h10, and_true, true_and, and_false, false_and, if_true, if_false, not_true, not_false_iff, not_false_eq_true, or_true, true_or, or_false, false_or, ite_true, ite_false, and_self, Classical.not_not, Bool.false_eq_true], by simp only [ei, esd, ecn, c_15, and_true, true_and, and_false, false_and, if_true, if_false, not_true, not_false_iff, not_false_eq_true, or_true, true_or, or_false, false_or, ite_true, ite_false, and_self, Classical.not_not, Bool.false_eq_true]⟩ (Nat.le_of_ble_eq_true rfl) (Nat.le_of_ble_eq_true rfl)
  · rw [← hQQ]; exact thr (cls := "java/lang/IllegalArgumentException") (text := "mark out of range") (is := 87) (ic := 51) (ik := 47) hx hb hst hown (by decide) lk5 lk6 (by decide) ham (fun w h => hts w (List.mem_cons_of_mem _ (List.mem_append_left _ (List.mem_append_left _ (List.mem_append_right _ h))))) (by decide) (by decide +kernel) (by decide +kernel) dX3_mark_25 dX3_mark_28 dX3_mark_29 dX3_mark_31 dX3_mark_34 (hl.1.trans hml.symm) hnt hlocks (Nat.le_of_ble_eq_true rfl) (Nat.le_of_ble_eq_true rfl) (Nat.le_of_ble_eq_true rfl) (Nat.le_of_ble_eq_true rfl) (Or.inr (Or.inl ⟨by simp only [V_mark, eq_true hct, eq_true hsdp, eq_true hcnp, c_10, ei, esd, ecn, and_true, true_and, and_false, false_and, if_true, if_false, not_true, not_false_iff, not_false_eq_true, or_true, true_or, or_false, false_or, ite_true, ite_false, and_self, Classical.not_not, Bool.false_eq_true], rfl⟩)) hK hP hD hS (Nat.le_of_ble_eq_true rfl) (Nat.le_of_ble_eq_true rfl)

set_option maxHeartbeats 4000000 in
set_option maxRecDepth 100000 in
/-- renew -/
theorem qX3_renew (l : Launch) (dC : Nat → ClassId) (dI : Nat → Nat → Nat) (cy : Nat → ClassId) (e0 mi : Nat) (ad : Lc → Nat) (L : List Lc) (S : SS) (N : NN) (sz : Nat) (a b d : Int32) (hI : okC L N) (hst : l.stackTraces = false) : vx_Met l yX3_renew wsX3_renew ({ frames := 7, cells := 5, slots := 30, locals := 111 }) (va_Pc [.ref (ad (10, 0)), .int a, .int b, .int d] (wPreX (dC, dI) (tyL cy) e0 mi (cw cy e0 ad L S N) sz)) (QI (dC, dI) (tyL cy) (fun (r : Int32) (u : CS) => V_renew S N a b d = 0 ∧ r = nI (N 2 (ix a) (ix d)) ∧ u = (K_bring S (ix a) (ix b) (ix d), nu N 2 (ix a) (va_up (N 2 (ix a)) (ix d) (N 1 0 (ix d))))) (cwU cy e0 ad L) (va_A (cw cy e0 ad L S N) sz)) (XX (dC, dI) (tyL cy) (fun E => (V_renew S N a b d = 1 ∧ E = xIO) ∨ (V_renew S N a b d = 2 ∧ E = xIA) ∨ (V_renew S N a b d = 3 ∧ E = xIS)) (cw cy e0 ad L S N) (va_A (cw cy e0 ad L S N) sz)) 5 30 (va_A (cw cy e0 ad L S N) sz) := by
  refine enX (cc := cX3_renew) (maxL := 6) (ret := (some .int)) (own := RX3) (lv := [(0, .ref (ad (10, 0))), (1, .int a), (2, .int b), (3, .int d)]) (by decide) rfl rfl (Nat.le_of_ble_eq_true rfl) rfl ?_
  intro p e s m below meth c ls A H locs hx hb hr hts hown hlocks hml hin hsz hK hP hD hS hA hl ham hnt
  generalize hQQ : vx_MQ below _ _ _ s _ _ A = QQ
  have hI0 := hI
  obtain ⟨⟨hM0, hM8, hM9, hMF, hM15, hM17⟩, hV, hLt, hO, hDu, hnc, hnd, hcC, hcD, hcC2, hcD2⟩ := hI
  have inX3_ : ∀ w ∈ wsX30, w ∈ wsX3_renew := fun _ h => List.mem_cons_of_mem _ (List.mem_append_left _ (List.mem_append_left _ (List.mem_append_left _ (List.mem_append_left _ (List.mem_append_left _ (List.mem_append_left _ (List.mem_append_right _ h)))))))
  have lk0 : (Cond.fieldLink RX3 11 "ClauseShop" "newest" "[LClauseShop$Version;").before (([.ref (ad (10, 0)), .int a, .int b, .int d] : List Value).toArray) s = true := hts _ (List.mem_of_getElem? (i := 3) rfl)
  have lk1 : (Cond.classLink RX3 58 "java/lang/IllegalStateException").before (([.ref (ad (10, 0)), .int a, .int b, .int d] : List Value).toArray) s = true := hts _ (List.mem_of_getElem? (i := 1) rfl)
  have lk2 : (Cond.initialized "java/lang/IllegalStateException").before (([.ref (ad (10, 0)), .int a, .int b, .int d] : List Value).toArray) s = true := hts _ (List.mem_of_getElem? (i := 2) rfl)
  refine lv_aload_n hx hb dX3_renew_0 rfl (lv_at hl 0 rfl) ?_
  refine lv_iload_n hx hb dX3_renew_1 rfl (lv_at hl 1 rfl) ?_
  obtain ⟨z_1, hz_1⟩ := pl_get (ad := ad) (f := cc cy e0 ad S N) (hMF 10 (by decide))
  rw [show cc cy e0 ad S N (10, 0) = .inr (4, [.ref (ad (11, 0)), .ref (ad (12, 0)), .ref (ad (13, 0)), .ref (ad (14, 0)), .ref (ad (16, 0)), .int (S 0 0 0)]) from rfl] at hz_1
  refine callX_r (vx_runV (As := [.int a]) (rest := []) ⟨hx, hb, hml, hown, hts⟩ (qX3_contractAt l dC dI cy e0 mi ad L S N H.size a hI0 hst) (cwV 1 hts gX3_renew_X3_contractAt rfl rfl rfl (by decide +kernel) ⟨Nat.le_of_ble_eq_true rfl, Nat.le_of_ble_eq_true rfl⟩) (preXV hK hP hD hS hA ham (w_recv (ci := 4) (q0 := z_1) hK hP hz_1 rfl)) rfl rfl hl.1 rfl (lv_room (Nat.le_of_ble_eq_true rfl)) dX3_renew_2 ⟨Nat.le_of_ble_eq_true rfl, Nat.le_of_ble_eq_true rfl⟩) hD hS hA (fun E ce q9 H locs hpx hP hS hc1 hc2 hc3 => by rw [← hQQ]; exact outX hnt hlocks hc1 hc2 hc3 (Or.inl ⟨by simp only [V_renew, hpx.2, and_true, true_and, and_false, false_and, if_true, if_false, not_true, not_false_iff, not_false_eq_true, or_true, true_or, or_false, false_or, ite_true, ite_false, and_self, Classical.not_not, Bool.false_eq_true], hpx.1⟩) hK hP hD hS (Nat.le_of_ble_eq_true rfl) (Nat.le_of_ble_eq_true rfl)) (fun r_2 u H locs w_3 hP hD hS => ?_)
  obtain ⟨⟨i, hi, ex, ei, rfl⟩, hct, rfl⟩ := w_3
  subst ex
  have hP : va_P (dC, dI) vwCl (cw cy e0 ad L S N) H := hP
  have hD : va_D A (cw cy e0 ad L S N) := hD
  refine lv_astore (lv' := [(4, .ref (ad (0, i))), (0, .ref (ad (10, 0))), (1, .int (nI i)), (2, .int b), (3, .int d)]) hx hb dX3_renew_5 hl (by decide) rfl (fun ls hl => ?_)
  refine lv_iload_n hx hb dX3_renew_7 rfl (lv_at hl 3 rfl) ?_
  refine callX_v (vx_runS (As := [.int b]) (rest := []) ⟨hx, hb, hml, hown, hts⟩ (qX3_checkSide l dC dI cy e0 mi (cw cy e0 ad L S N) H.size b hst) (va_cwS 1 hts gX3_renew_X3_checkSide rfl rfl rfl (by decide +kernel) ⟨Nat.le_of_ble_eq_true rfl, Nat.le_of_ble_eq_true rfl⟩) (preXS hK hP hD hS hA ham) rfl rfl hl.1 rfl (lv_room (Nat.le_of_ble_eq_true rfl)) dX3_renew_8 ⟨Nat.le_of_ble_eq_true rfl, Nat.le_of_ble_eq_true rfl⟩) hD hS hA (fun E ce q9 H locs hpx hP hS hc1 hc2 hc3 => by rw [← hQQ]; exact outX hnt hlocks hc1 hc2 hc3 (Or.inr (Or.inl ⟨by simp only [V_renew, eq_true hct, ei, hpx.2, and_true, true_and, and_false, false_and, if_true, if_false, not_true, not_false_iff, not_false_eq_true, or_true, true_or, or_false, false_or, ite_true, ite_false, and_self, Classical.not_not, Bool.false_eq_true], hpx.1⟩)) hK hP hD hS (Nat.le_of_ble_eq_true rfl) (Nat.le_of_ble_eq_true rfl)) (fun u H locs w_5 hP hD hS => ?_)
  have hsdp := w_5
  obtain ⟨sd, hsd, ex, esd⟩ := sd_ix hsdp
  subst ex
  have hP : va_P (dC, dI) vwCl (cw cy e0 ad L S N) H := hP
  have hD : va_D A (cw cy e0 ad L S N) := hD
  refine lv_iload_n hx hb dX3_renew_11 rfl (lv_at hl 4 rfl) ?_
  refine callX_v (vx_runS (As := [.int d]) (rest := []) ⟨hx, hb, hml, hown, hts⟩ (qX3_checkClause l dC dI cy e0 mi (cw cy e0 ad L S N) H.size d hst) (va_cwS 1 hts gX3_renew_X3_checkClause rfl rfl rfl (by decide +kernel) ⟨Nat.le_of_ble_eq_true rfl, Nat.le_of_ble_eq_true rfl⟩) (preXS hK hP hD hS hA ham) rfl rfl hl.1 rfl (lv_room (Nat.le_of_ble_eq_true rfl)) dX3_renew_12 ⟨Nat.le_of_ble_eq_true rfl, Nat.le_of_ble_eq_true rfl⟩) hD hS hA (fun E ce q9 H locs hpx hP hS hc1 hc2 hc3 => by rw [← hQQ]; exact outX hnt hlocks hc1 hc2 hc3 (Or.inr (Or.inl ⟨by simp only [V_renew, eq_true hct, eq_true hsdp, ei, esd, hpx.2, and_true, true_and, and_false, false_and, if_true, if_false, not_true, not_false_iff, not_false_eq_true, or_true, true_or, or_false, false_or, ite_true, ite_false, and_self, Classical.not_not, Bool.false_eq_true], hpx.1⟩)) hK hP hD hS (Nat.le_of_ble_eq_true rfl) (Nat.le_of_ble_eq_true rfl)) (fun u H locs w_7 hP hD hS => ?_)
  have hcnp := w_7
  obtain ⟨cn, hcn, ex, ecn⟩ := cl_ix hcnp
  subst ex
  have hP : va_P (dC, dI) vwCl (cw cy e0 ad L S N) H := hP
  have hD : va_D A (cw cy e0 ad L S N) := hD
  have hVc := hV i cn hi hcn
  have hLc := hLt cn hcn
  refine lv_aload hx hb dX3_renew_15 (lv_at hl 0 rfl) ?_
  refine callX_v (vx_runS (As := [.ref (ad (0, i))]) (rest := []) ⟨hx, hb, hml, hown, hts⟩ (qX3_checkDraft l dC dI cy e0 mi ad L S N H.size i hI0 hi hst) (va_cwS 1 hts gX3_renew_X3_checkDraft rfl rfl rfl (by decide +kernel) ⟨Nat.le_of_ble_eq_true rfl, Nat.le_of_ble_eq_true rfl⟩) (preXS hK hP hD hS hA ham) rfl rfl hl.1 rfl (lv_room (Nat.le_of_ble_eq_true rfl)) dX3_renew_17 ⟨Nat.le_of_ble_eq_true rfl, Nat.le_of_ble_eq_true rfl⟩) hD hS hA (fun E ce q9 H locs hpx hP hS hc1 hc2 hc3 => by rw [← hQQ]; exact outX hnt hlocks hc1 hc2 hc3 (Or.inr (Or.inr (⟨by simp only [V_renew, eq_true hct, eq_true hsdp, eq_true hcnp, ei, esd, ecn, hpx.2, and_true, true_and, and_false, false_and, if_true, if_false, not_true, not_false_iff, not_false_eq_true, or_true, true_or, or_false, false_or, ite_true, ite_false, and_self, Classical.not_not, Bool.false_eq_true], hpx.1⟩))) hK hP hD hS (Nat.le_of_ble_eq_true rfl) (Nat.le_of_ble_eq_true rfl)) (fun u H locs w_9 hP hD hS => ?_)
  obtain ⟨hdr, rfl⟩ := w_9
  have hP : va_P (dC, dI) vwCl (cw cy e0 ad L S N) H := hP
  have hD : va_D A (cw cy e0 ad L S N) := hD
  refine lv_aload_n hx hb dX3_renew_20 rfl (lv_at hl 1 rfl) ?_
  refine lv_aload hx hb dX3_renew_21 (lv_at hl 0 rfl) ?_
  refine lv_iload_n hx hb dX3_renew_23 rfl (lv_at hl 4 rfl) ?_
  obtain ⟨z_10, hz_10⟩ := pl_get (ad := ad) (f := cc cy e0 ad S N) (hMF 10 (by decide))
  rw [show cc cy e0 ad S N (10, 0) = .inr (4, [.ref (ad (11, 0)), .ref (ad (12, 0)), .ref (ad (13, 0)), .ref (ad (14, 0)), .ref (ad (16, 0)), .int (S 0 0 0)]) from rfl] at hz_10
  refine call_i (va_runV (As := [.ref (ad (0, i)), .int (nI cn)]) (rest := []) ⟨hx, hb, hml, hown, hts⟩ (qX3_hasLaterVersion l dC dI cy e0 mi ad L S N H.size i cn hI0 hi hcn) (cwV 2 hts gX3_renew_X3_hasLaterVersion rfl rfl rfl (by decide +kernel) ⟨Nat.le_of_ble_eq_true rfl, Nat.le_of_ble_eq_true rfl⟩) (preV hK hP hD (w_recv (ci := 4) (q0 := z_10) hK hP hz_10 rfl)) rfl rfl hl.1 rfl (lv_room (Nat.le_of_ble_eq_true rfl)) dX3_renew_24 ⟨Nat.le_of_ble_eq_true rfl, Nat.le_of_ble_eq_true rfl⟩) hD hS hA (fun r_11 u H locs w_12 hP hD hS => ?_)
  obtain ⟨rfl, rfl⟩ := w_12
  have hP : va_P (dC, dI) vwCl (cw cy e0 ad L S N) H := hP
  have hD : va_D A (cw cy e0 ad L S N) := hD
  refine br_ne (tgt := 40) hx hb dX3_renew_27 (by decide) (fun c_13 => ?_) (fun c_13 => ?_)
  · have hlt9 := c_13.2
    have hnz9 : ¬ N 1 0 cn = 0 := by omega
    refine lv_aload hx hb dX3_renew_40 (lv_at hl 0 rfl) ?_
    refine lv_iload_n hx hb dX3_renew_42 rfl (lv_at hl 4 rfl) ?_
    refine call_i (va_runS (As := [.ref (ad (0, i)), .int (nI cn)]) (rest := []) ⟨hx, hb, hml, hown, hts⟩ (qX3_itemNumber l dC dI cy e0 mi ad L S N H.size i cn hI0 (by omega) (by omega)) (va_cwS 2 hts gX3_renew_X3_itemNumber rfl rfl rfl (by decide +kernel) ⟨Nat.le_of_ble_eq_true rfl, Nat.le_of_ble_eq_true rfl⟩) (preS hK hP hD) rfl rfl hl.1 rfl (lv_room (Nat.le_of_ble_eq_true rfl)) dX3_renew_43 ⟨Nat.le_of_ble_eq_true rfl, Nat.le_of_ble_eq_true rfl⟩) hD hS hA (fun r_14 u H locs w_15 hP hD hS => ?_)
    obtain ⟨rfl, rfl⟩ := w_15
    have hP : va_P (dC, dI) vwCl (cw cy e0 ad L S N) H := hP
    have hD : va_D A (cw cy e0 ad L S N) := hD
    refine lv_istore (lv' := [(5, .int (nI (N 2 i cn))), (4, .ref (ad (0, i))), (0, .ref (ad (10, 0))), (1, .int (nI i)), (2, .int (nI sd)), (3, .int (nI cn))]) hx hb dX3_renew_46 hl (by decide) rfl (fun ls hl => ?_)
    refine lv_aload hx hb dX3_renew_48 (lv_at hl 1 rfl) ?_
    refine lv_aload_n hx hb dX3_renew_50 rfl (lv_at hl 2 rfl) ?_
    obtain ⟨z_16, hz_16⟩ := pl_get (ad := ad) (f := cc cy e0 ad S N) (hMF 10 (by decide))
    rw [show cc cy e0 ad S N (10, 0) = .inr (4, [.ref (ad (11, 0)), .ref (ad (12, 0)), .ref (ad (13, 0)), .ref (ad (14, 0)), .ref (ad (16, 0)), .int (S 0 0 0)]) from rfl] at hz_16
    refine va_get (D := (dC, dI)) (ci := 4) (v := .ref (ad (11, 0))) (C := RX3) (T := TX3) (N := 6) hx hb hts inX3_ hown hK hP z_16 hz_16 rfl 0 (by decide) lk0 (fun _ h9 => h9) rfl dX3_renew_51 ?_
    refine lv_iload_n hx hb dX3_renew_54 rfl (lv_at hl 5 rfl) ?_
    obtain ⟨z_17, hz_17⟩ := pl_get (ad := ad) (f := cc cy e0 ad S N) (hMF 11 (by decide))
    rw [show cc cy e0 ad S N (11, 0) = .inl (cy 2, 10, .inr (.inr (.inr (.inr (fun d => vpt ad ((N 1 0) d) d))))) from rfl] at hz_17
    refine x_aald hx hb hK hP z_17 2 hz_17 rfl (t := cn) (by omega) (by decide) dX3_renew_55 ?_
    refine to_v (y := .ref (ad (9, 9 * cn + N 1 0 cn - 1))) (vpt_s hnz9) ?_
    refine lv_iload_n hx hb dX3_renew_56 rfl (lv_at hl 5 rfl) ?_
    refine lv_iload_n hx hb dX3_renew_57 rfl (lv_at hl 4 rfl) ?_
    obtain ⟨z_18, hz_18⟩ := pl_get (ad := ad) (f := cc cy e0 ad S N) (hM0 0 i (by decide) (by omega))
    rw [show cc cy e0 ad S N (0, i) = .inr (1, [.ref (ad (1, i)), .ref (ad (2, i)), .ref (ad (5, i)), .ref (ad (6, i)), .ref (ad (7, i))]) from rfl] at hz_18
    refine call_v (va_runV (As := [.ref (ad (9, 9 * cn + N 1 0 cn - 1)), .int (nI cn), .int (nI sd)]) (rest := []) ⟨hx, hb, hml, hown, hts⟩ (qX0_bringIn l dC dI cy e0 mi ad L S N H.size i cn (N 1 0 cn) sd hI0 hi hcn hnz9 (Nat.le_refl _) (mem9 hM9 hcn hnz9 (Nat.le_refl _)) (by omega)) (cwV 3 hts gX3_renew_X0_bringIn rfl rfl rfl (by decide +kernel) ⟨Nat.le_of_ble_eq_true rfl, Nat.le_of_ble_eq_true rfl⟩) (preV hK hP hD (w_recv (ci := 1) (q0 := z_18) hK hP hz_18 rfl)) rfl rfl hl.1 rfl (lv_room (Nat.le_of_ble_eq_true rfl)) dX3_renew_58 ⟨Nat.le_of_ble_eq_true rfl, Nat.le_of_ble_eq_true rfl⟩) hD hS hA (fun u H locs w_20 hP hD hS => ?_)
    subst w_20
    have hP : va_P (dC, dI) vwCl (cw cy e0 ad L ((K_bring S i sd cn)) ((nu N 2 i (va_up (N 2 i) cn (N 1 0 cn))))) H := hP
    have hD : va_D A (cw cy e0 ad L ((K_bring S i sd cn)) ((nu N 2 i (va_up (N 2 i) cn (N 1 0 cn))))) := hD
    refine lv_iload hx hb dX3_renew_61 (lv_at hl 0 rfl) ?_
    rw [← hQQ]; apply vx_ret; exact end_i (u := ((K_bring S i sd cn), (nu N 2 i (va_up (N 2 i) cn (N 1 0 cn))))) hx hb hr hlocks dX3_renew_63 hK hP hD hS ⟨by simp only [V_renew, eq_true hct, eq_true hsdp, eq_true hcnp, eq_true hdr, eq_true c_13, hnz9, ei, esd, ecn, and_true, true_and, and_false, false_and, if_true, if_false, not_true, not_false_iff, not_false_eq_true, or_true, true_or, or_false, false_or, ite_true, ite_false, and_self, Classical.not_not, Bool.false_eq_true], by simp only [ei, esd, ecn], by simp only [ei, esd, ecn]⟩ (Nat.le_of_ble_eq_true rfl) (Nat.le_of_ble_eq_true rfl)
  · rw [← hQQ]; exact thr (cls := "java/lang/IllegalStateException") (text := "no item for the clause, or it has the latest version") (is := 114) (ic := 62) (ik := 58) hx hb hst hown (by decide) lk1 lk2 (by decide) ham (fun w h => hts w (List.mem_cons_of_mem _ (List.mem_append_left _ (List.mem_append_left _ (List.mem_append_right _ h))))) (by decide) (by decide +kernel) (by decide +kernel) dX3_renew_30 dX3_renew_33 dX3_renew_34 dX3_renew_36 dX3_renew_39 (hl.1.trans hml.symm) hnt hlocks (Nat.le_of_ble_eq_true rfl) (Nat.le_of_ble_eq_true rfl) (Nat.le_of_ble_eq_true rfl) (Nat.le_of_ble_eq_true rfl) (Or.inr (Or.inr (⟨by simp only [V_renew, eq_true hct, eq_true hsdp, eq_true hcnp, eq_true hdr, c_13, ei, esd, ecn, and_true, true_and, and_false, false_and, if_true, if_false, not_true, not_false_iff, not_false_eq_true, or_true, true_or, or_false, false_or, ite_true, ite_false, and_self, Classical.not_not, Bool.false_eq_true], rfl⟩))) hK hP hD hS (Nat.le_of_ble_eq_true rfl) (Nat.le_of_ble_eq_true rfl)

set_option maxHeartbeats 4000000 in
set_option maxRecDepth 100000 in
/-- perform -/
theorem qX3_perform (l : Launch) (dC : Nat → ClassId) (dI : Nat → Nat → Nat) (cy : Nat → ClassId) (e0 mi : Nat) (ad : Lc → Nat) (L : List Lc) (S : SS) (N : NN) (sz : Nat) (a : Int32) (hI : okC L N) (hst : l.stackTraces = false) : vx_Met l yX3_perform wsX3_perform ({ frames := 7, cells := 2, slots := 12, locals := 111 }) (va_Pc [.ref (ad (10, 0)), .int a] (wPreX (dC, dI) (tyL cy) e0 mi (cw cy e0 ad L S N) sz)) (QI (dC, dI) (tyL cy) (fun (r : Int32) (u : CS) => V_perform S N a = 0 ∧ r = bi (S 9 (ix a) 0 = nI 2 ∨ S 9 (ix a) 1 < S 0 0 0) ∧ u = (K_move S (ix a) (nI 1) (S 0 0 0), N)) (cwU cy e0 ad L) (va_A (cw cy e0 ad L S N) sz)) (XX (dC, dI) (tyL cy) (fun E => (V_perform S N a = 1 ∧ E = xIO) ∨ (V_perform S N a = 2 ∧ E = xIS)) (cw cy e0 ad L S N) (va_A (cw cy e0 ad L S N) sz)) 2 12 (va_A (cw cy e0 ad L S N) sz) := by
  refine enX (cc := cX3_perform) (maxL := 4) (ret := (some .boolean)) (own := RX3) (lv := [(0, .ref (ad (10, 0))), (1, .int a)]) (by decide) rfl rfl (Nat.le_of_ble_eq_true rfl) rfl ?_
  intro p e s m below meth c ls A H locs hx hb hr hts hown hlocks hml hin hsz hK hP hD hS hA hl ham hnt
  generalize hQQ : vx_MQ below _ _ _ s _ _ A = QQ
  have hI0 := hI
  obtain ⟨⟨hM0, hM8, hM9, hMF, hM15, hM17⟩, hV, hLt, hO, hDu, hnc, hnd, hcC, hcD, hcC2, hcD2⟩ := hI
  have inX1_ : ∀ w ∈ wsX10, w ∈ wsX3_perform := fun _ h => List.mem_cons_of_mem _ (List.mem_append_left _ (List.mem_append_left _ (List.mem_append_left _ (List.mem_append_left _ (List.mem_append_right _ h)))))
  have inX3_ : ∀ w ∈ wsX30, w ∈ wsX3_perform := fun _ h => List.mem_cons_of_mem _ (List.mem_append_left _ (List.mem_append_left _ (List.mem_append_left _ (List.mem_append_right _ h))))
  have lk0 : (Cond.fieldLink RX3 151 "ClauseShop$Duty" "state" "I").before (([.ref (ad (10, 0)), .int a] : List Value).toArray) s = true := hts _ (List.mem_of_getElem? (i := 3) rfl)
  have lk1 : (Cond.fieldLink RX3 32 "ClauseShop" "today" "I").before (([.ref (ad (10, 0)), .int a] : List Value).toArray) s = true := hts _ (List.mem_of_getElem? (i := 4) rfl)
  have lk2 : (Cond.fieldLink RX3 156 "ClauseShop$Duty" "day" "I").before (([.ref (ad (10, 0)), .int a] : List Value).toArray) s = true := hts _ (List.mem_of_getElem? (i := 5) rfl)
  have lk3 : (Cond.classLink RX3 58 "java/lang/IllegalStateException").before (([.ref (ad (10, 0)), .int a] : List Value).toArray) s = true := hts _ (List.mem_of_getElem? (i := 1) rfl)
  have lk4 : (Cond.initialized "java/lang/IllegalStateException").before (([.ref (ad (10, 0)), .int a] : List Value).toArray) s = true := hts _ (List.mem_of_getElem? (i := 2) rfl)
  refine lv_aload_n hx hb dX3_perform_0 rfl (lv_at hl 0 rfl) ?_
  refine lv_iload_n hx hb dX3_perform_1 rfl (lv_at hl 1 rfl) ?_
  obtain ⟨z_1, hz_1⟩ := pl_get (ad := ad) (f := cc cy e0 ad S N) (hMF 10 (by decide))
  rw [show cc cy e0 ad S N (10, 0) = .inr (4, [.ref (ad (11, 0)), .ref (ad (12, 0)), .ref (ad (13, 0)), .ref (ad (14, 0)), .ref (ad (16, 0)), .int (S 0 0 0)]) from rfl] at hz_1
  refine callX_r (vx_runV (As := [.int a]) (rest := []) ⟨hx, hb, hml, hown, hts⟩ (qX3_dutyAt l dC dI cy e0 mi ad L S N H.size a hI0 hst) (cwV 1 hts gX3_perform_X3_dutyAt rfl rfl rfl (by decide +kernel) ⟨Nat.le_of_ble_eq_true rfl, Nat.le_of_ble_eq_true rfl⟩) (preXV hK hP hD hS hA ham (w_recv (ci := 4) (q0 := z_1) hK hP hz_1 rfl)) rfl rfl hl.1 rfl (lv_room (Nat.le_of_ble_eq_true rfl)) dX3_perform_2 ⟨Nat.le_of_ble_eq_true rfl, Nat.le_of_ble_eq_true rfl⟩) hD hS hA (fun E ce q9 H locs hpx hP hS hc1 hc2 hc3 => by rw [← hQQ]; exact outX hnt hlocks hc1 hc2 hc3 (Or.inl ⟨by simp only [V_perform, hpx.2, and_true, true_and, and_false, false_and, if_true, if_false, not_true, not_false_iff, not_false_eq_true, or_true, true_or, or_false, false_or, ite_true, ite_false, and_self, Classical.not_not, Bool.false_eq_true], hpx.1⟩) hK hP hD hS (Nat.le_of_ble_eq_true rfl) (Nat.le_of_ble_eq_true rfl)) (fun r_2 u H locs w_3 hP hD hS => ?_)
  obtain ⟨⟨j, hj, ex, ej, rfl⟩, hct, rfl⟩ := w_3
  subst ex
  have hP : va_P (dC, dI) vwCl (cw cy e0 ad L S N) H := hP
  have hD : va_D A (cw cy e0 ad L S N) := hD
  obtain ⟨hdc, hdv⟩ := hDu j hj
  have hob := hO (N 3 j 1)
  refine lv_astore_n (lv' := [(2, .ref (ad (8, j))), (0, .ref (ad (10, 0))), (1, .int (nI j))]) hx hb dX3_perform_5 rfl hl (by decide) rfl (fun ls hl => ?_)
  refine lv_aload_n hx hb dX3_perform_6 rfl (lv_at hl 0 rfl) ?_
  obtain ⟨z_4, hz_4⟩ := pl_get (ad := ad) (f := cc cy e0 ad S N) (hM8 j (by omega))
  rw [show cc cy e0 ad S N (8, j) = .inr (2, [.ref (ad (0, N 3 j 0)), .ref (ad (9, N 3 j 1)), .int (S 9 j 0), .int (S 9 j 1)]) from rfl] at hz_4
  refine call_i (va_runV (As := []) (rest := []) ⟨hx, hb, hml, hown, hts⟩ (qX1_canBeDone l dC dI cy e0 mi ad L S N H.size j hI0 hj) (cwV 0 hts gX3_perform_X1_canBeDone rfl rfl rfl (by decide +kernel) ⟨Nat.le_of_ble_eq_true rfl, Nat.le_of_ble_eq_true rfl⟩) (preV hK hP hD (w_recv (ci := 2) (q0 := z_4) hK hP hz_4 rfl)) rfl rfl hl.1 rfl (lv_room (Nat.le_of_ble_eq_true rfl)) dX3_perform_7 ⟨Nat.le_of_ble_eq_true rfl, Nat.le_of_ble_eq_true rfl⟩) hD hS hA (fun r_5 u H locs w_6 hP hD hS => ?_)
  obtain ⟨rfl, rfl⟩ := w_6
  have hP : va_P (dC, dI) vwCl (cw cy e0 ad L S N) H := hP
  have hD : va_D A (cw cy e0 ad L S N) := hD
  refine br_ne (tgt := 23) hx hb dX3_perform_10 (by decide) (fun c_7 => ?_) (fun c_7 => ?_)
  · refine lv_aload_n hx hb dX3_perform_23 rfl (lv_at hl 0 rfl) ?_
    obtain ⟨z_8, hz_8⟩ := pl_get (ad := ad) (f := cc cy e0 ad S N) (hM8 j (by omega))
    rw [show cc cy e0 ad S N (8, j) = .inr (2, [.ref (ad (0, N 3 j 0)), .ref (ad (9, N 3 j 1)), .int (S 9 j 0), .int (S 9 j 1)]) from rfl] at hz_8
    refine va_get (D := (dC, dI)) (ci := 2) (v := .int (S 9 j 0)) (C := RX1) (T := TX1) (N := 4) hx hb hts inX1_ hown hK hP z_8 hz_8 rfl 2 (by decide) lk0 (fun _ h9 => h9) rfl dX3_perform_24 ?_
    refine lv_iconst (v := nI 2) hx hb dX3_perform_27 (by decide) ?_
    refine lv_icmp_eq (tgt := 42) hx hb dX3_perform_28 (by decide) (fun c_9 => ?_) (fun c_9 => ?_)
    · refine lv_iconst (v := nI 1) hx hb dX3_perform_42 (by decide) ?_
      refine lv_goto (tgt := 47) hx hb dX3_perform_43 (by decide) ?_
      refine lv_istore_n (lv' := [(3, .int (nI 1)), (2, .ref (ad (8, j))), (0, .ref (ad (10, 0))), (1, .int (nI j))]) hx hb dX3_perform_47 rfl hl (by decide) rfl (fun ls hl => ?_)
      refine lv_aload_n hx hb dX3_perform_48 rfl (lv_at hl 1 rfl) ?_
      refine lv_iconst (v := nI 1) hx hb dX3_perform_49 (by decide) ?_
      refine lv_aload_n hx hb dX3_perform_50 rfl (lv_at hl 2 rfl) ?_
      obtain ⟨z_10, hz_10⟩ := pl_get (ad := ad) (f := cc cy e0 ad S N) (hMF 10 (by decide))
      rw [show cc cy e0 ad S N (10, 0) = .inr (4, [.ref (ad (11, 0)), .ref (ad (12, 0)), .ref (ad (13, 0)), .ref (ad (14, 0)), .ref (ad (16, 0)), .int (S 0 0 0)]) from rfl] at hz_10
      refine va_get (D := (dC, dI)) (ci := 4) (v := .int (S 0 0 0)) (C := RX3) (T := TX3) (N := 6) hx hb hts inX3_ hown hK hP z_10 hz_10 rfl 5 (by decide) lk1 (fun _ h9 => h9) rfl dX3_perform_51 ?_
      obtain ⟨z_11, hz_11⟩ := pl_get (ad := ad) (f := cc cy e0 ad S N) (hM8 j (by omega))
      rw [show cc cy e0 ad S N (8, j) = .inr (2, [.ref (ad (0, N 3 j 0)), .ref (ad (9, N 3 j 1)), .int (S 9 j 0), .int (S 9 j 1)]) from rfl] at hz_11
      refine call_v (va_runV (As := [.int (nI 1), .int (S 0 0 0)]) (rest := []) ⟨hx, hb, hml, hown, hts⟩ (qX1_move l dC dI cy e0 mi ad L S N H.size j (nI 1) (S 0 0 0) hI0 hj) (cwV 2 hts gX3_perform_X1_move rfl rfl rfl (by decide +kernel) ⟨Nat.le_of_ble_eq_true rfl, Nat.le_of_ble_eq_true rfl⟩) (preV hK hP hD (w_recv (ci := 2) (q0 := z_11) hK hP hz_11 rfl)) rfl rfl hl.1 rfl (lv_room (Nat.le_of_ble_eq_true rfl)) dX3_perform_54 ⟨Nat.le_of_ble_eq_true rfl, Nat.le_of_ble_eq_true rfl⟩) hD hS hA (fun u H locs w_13 hP hD hS => ?_)
      subst w_13
      have hP : va_P (dC, dI) vwCl (cw cy e0 ad L (su S 9 j (upd (upd (S 9 j) 0 (nI 1)) 1 (S 0 0 0))) N) H := hP
      have hD : va_D A (cw cy e0 ad L (su S 9 j (upd (upd (S 9 j) 0 (nI 1)) 1 (S 0 0 0))) N) := hD
      refine lv_iload_n hx hb dX3_perform_57 rfl (lv_at hl 0 rfl) ?_
      rw [← hQQ]; apply vx_ret; exact end_z (u := (su S 9 j (upd (upd (S 9 j) 0 (nI 1)) 1 (S 0 0 0)), N)) hx hb hr hlocks dX3_perform_58 hK hP hD hS (by rfl) ⟨by simp only [V_perform, eq_true hct, eq_true c_7, eq_true c_9, ej, and_true, true_and, and_false, false_and, if_true, if_false, not_true, not_false_iff, not_false_eq_true, or_true, true_or, or_false, false_or, ite_true, ite_false, and_self, Classical.not_not, Bool.false_eq_true], by rw [ej]; exact (bi_t (P := (S 9 j 0 = nI 2 ∨ S 9 j 1 < S 0 0 0)) (Or.inl c_9)).symm, by rw [ej]⟩ (Nat.le_of_ble_eq_true rfl) (Nat.le_of_ble_eq_true rfl)
    · refine lv_aload_n hx hb dX3_perform_31 rfl (lv_at hl 1 rfl) ?_
      obtain ⟨z_14, hz_14⟩ := pl_get (ad := ad) (f := cc cy e0 ad S N) (hMF 10 (by decide))
      rw [show cc cy e0 ad S N (10, 0) = .inr (4, [.ref (ad (11, 0)), .ref (ad (12, 0)), .ref (ad (13, 0)), .ref (ad (14, 0)), .ref (ad (16, 0)), .int (S 0 0 0)]) from rfl] at hz_14
      refine va_get (D := (dC, dI)) (ci := 4) (v := .int (S 0 0 0)) (C := RX3) (T := TX3) (N := 6) hx hb hts inX3_ hown hK hP z_14 hz_14 rfl 5 (by decide) lk1 (fun _ h9 => h9) rfl dX3_perform_32 ?_
      refine lv_aload_n hx hb dX3_perform_35 rfl (lv_at hl 0 rfl) ?_
      obtain ⟨z_15, hz_15⟩ := pl_get (ad := ad) (f := cc cy e0 ad S N) (hM8 j (by omega))
      rw [show cc cy e0 ad S N (8, j) = .inr (2, [.ref (ad (0, N 3 j 0)), .ref (ad (9, N 3 j 1)), .int (S 9 j 0), .int (S 9 j 1)]) from rfl] at hz_15
      refine va_get (D := (dC, dI)) (ci := 2) (v := .int (S 9 j 1)) (C := RX1) (T := TX1) (N := 4) hx hb hts inX1_ hown hK hP z_15 hz_15 rfl 3 (by decide) lk2 (fun _ h9 => h9) rfl dX3_perform_36 ?_
      refine lv_icmp_le (tgt := 46) hx hb dX3_perform_39 (by decide) (fun c_16 => ?_) (fun c_16 => ?_)
      · refine lv_iconst (v := nI 0) hx hb dX3_perform_46 (by decide) ?_
        refine lv_istore_n (lv' := [(3, .int (nI 0)), (2, .ref (ad (8, j))), (0, .ref (ad (10, 0))), (1, .int (nI j))]) hx hb dX3_perform_47 rfl hl (by decide) rfl (fun ls hl => ?_)
        refine lv_aload_n hx hb dX3_perform_48 rfl (lv_at hl 1 rfl) ?_
        refine lv_iconst (v := nI 1) hx hb dX3_perform_49 (by decide) ?_
        refine lv_aload_n hx hb dX3_perform_50 rfl (lv_at hl 2 rfl) ?_
        obtain ⟨z_17, hz_17⟩ := pl_get (ad := ad) (f := cc cy e0 ad S N) (hMF 10 (by decide))
        rw [show cc cy e0 ad S N (10, 0) = .inr (4, [.ref (ad (11, 0)), .ref (ad (12, 0)), .ref (ad (13, 0)), .ref (ad (14, 0)), .ref (ad (16, 0)), .int (S 0 0 0)]) from rfl] at hz_17
        refine va_get (D := (dC, dI)) (ci := 4) (v := .int (S 0 0 0)) (C := RX3) (T := TX3) (N := 6) hx hb hts inX3_ hown hK hP z_17 hz_17 rfl 5 (by decide) lk1 (fun _ h9 => h9) rfl dX3_perform_51 ?_
        obtain ⟨z_18, hz_18⟩ := pl_get (ad := ad) (f := cc cy e0 ad S N) (hM8 j (by omega))
        rw [show cc cy e0 ad S N (8, j) = .inr (2, [.ref (ad (0, N 3 j 0)), .ref (ad (9, N 3 j 1)), .int (S 9 j 0), .int (S 9 j 1)]) from rfl] at hz_18
        refine call_v (va_runV (As := [.int (nI 1), .int (S 0 0 0)]) (rest := []) ⟨hx, hb, hml, hown, hts⟩ (qX1_move l dC dI cy e0 mi ad L S N H.size j (nI 1) (S 0 0 0) hI0 hj) (cwV 2 hts gX3_perform_X1_move rfl rfl rfl (by decide +kernel) ⟨Nat.le_of_ble_eq_true rfl, Nat.le_of_ble_eq_true rfl⟩) (preV hK hP hD (w_recv (ci := 2) (q0 := z_18) hK hP hz_18 rfl)) rfl rfl hl.1 rfl (lv_room (Nat.le_of_ble_eq_true rfl)) dX3_perform_54 ⟨Nat.le_of_ble_eq_true rfl, Nat.le_of_ble_eq_true rfl⟩) hD hS hA (fun u H locs w_20 hP hD hS => ?_)
        subst w_20
        have hP : va_P (dC, dI) vwCl (cw cy e0 ad L (su S 9 j (upd (upd (S 9 j) 0 (nI 1)) 1 (S 0 0 0))) N) H := hP
        have hD : va_D A (cw cy e0 ad L (su S 9 j (upd (upd (S 9 j) 0 (nI 1)) 1 (S 0 0 0))) N) := hD
        refine lv_iload_n hx hb dX3_perform_57 rfl (lv_at hl 0 rfl) ?_
        rw [← hQQ]; apply vx_ret; exact end_z (u := (su S 9 j (upd (upd (S 9 j) 0 (nI 1)) 1 (S 0 0 0)), N)) hx hb hr hlocks dX3_perform_58 hK hP hD hS (by rfl) ⟨by simp only [V_perform, eq_true hct, eq_true c_7, c_9, eq_true c_16, ej, and_true, true_and, and_false, false_and, if_true, if_false, not_true, not_false_iff, not_false_eq_true, or_true, true_or, or_false, false_or, ite_true, ite_false, and_self, Classical.not_not, Bool.false_eq_true], by rw [ej]; exact (bi_f (P := (S 9 j 0 = nI 2 ∨ S 9 j 1 < S 0 0 0)) (fun q => q.elim c_9 (fun q9 => absurd c_16 (Int32.not_le.mpr q9)))).symm, by rw [ej]⟩ (Nat.le_of_ble_eq_true rfl) (Nat.le_of_ble_eq_true rfl)
      · refine lv_iconst (v := nI 1) hx hb dX3_perform_42 (by decide) ?_
        refine lv_goto (tgt := 47) hx hb dX3_perform_43 (by decide) ?_
        refine lv_istore_n (lv' := [(3, .int (nI 1)), (2, .ref (ad (8, j))), (0, .ref (ad (10, 0))), (1, .int (nI j))]) hx hb dX3_perform_47 rfl hl (by decide) rfl (fun ls hl => ?_)
        refine lv_aload_n hx hb dX3_perform_48 rfl (lv_at hl 1 rfl) ?_
        refine lv_iconst (v := nI 1) hx hb dX3_perform_49 (by decide) ?_
        refine lv_aload_n hx hb dX3_perform_50 rfl (lv_at hl 2 rfl) ?_
        obtain ⟨z_21, hz_21⟩ := pl_get (ad := ad) (f := cc cy e0 ad S N) (hMF 10 (by decide))
        rw [show cc cy e0 ad S N (10, 0) = .inr (4, [.ref (ad (11, 0)), .ref (ad (12, 0)), .ref (ad (13, 0)), .ref (ad (14, 0)), .ref (ad (16, 0)), .int (S 0 0 0)]) from rfl] at hz_21
        refine va_get (D := (dC, dI)) (ci := 4) (v := .int (S 0 0 0)) (C := RX3) (T := TX3) (N := 6) hx hb hts inX3_ hown hK hP z_21 hz_21 rfl 5 (by decide) lk1 (fun _ h9 => h9) rfl dX3_perform_51 ?_
        obtain ⟨z_22, hz_22⟩ := pl_get (ad := ad) (f := cc cy e0 ad S N) (hM8 j (by omega))
        rw [show cc cy e0 ad S N (8, j) = .inr (2, [.ref (ad (0, N 3 j 0)), .ref (ad (9, N 3 j 1)), .int (S 9 j 0), .int (S 9 j 1)]) from rfl] at hz_22
        refine call_v (va_runV (As := [.int (nI 1), .int (S 0 0 0)]) (rest := []) ⟨hx, hb, hml, hown, hts⟩ (qX1_move l dC dI cy e0 mi ad L S N H.size j (nI 1) (S 0 0 0) hI0 hj) (cwV 2 hts gX3_perform_X1_move rfl rfl rfl (by decide +kernel) ⟨Nat.le_of_ble_eq_true rfl, Nat.le_of_ble_eq_true rfl⟩) (preV hK hP hD (w_recv (ci := 2) (q0 := z_22) hK hP hz_22 rfl)) rfl rfl hl.1 rfl (lv_room (Nat.le_of_ble_eq_true rfl)) dX3_perform_54 ⟨Nat.le_of_ble_eq_true rfl, Nat.le_of_ble_eq_true rfl⟩) hD hS hA (fun u H locs w_24 hP hD hS => ?_)
        subst w_24
        have hP : va_P (dC, dI) vwCl (cw cy e0 ad L (su S 9 j (upd (upd (S 9 j) 0 (nI 1)) 1 (S 0 0 0))) N) H := hP
        have hD : va_D A (cw cy e0 ad L (su S 9 j (upd (upd (S 9 j) 0 (nI 1)) 1 (S 0 0 0))) N) := hD
        refine lv_iload_n hx hb dX3_perform_57 rfl (lv_at hl 0 rfl) ?_
        rw [← hQQ]; apply vx_ret; exact end_z (u := (su S 9 j (upd (upd (S 9 j) 0 (nI 1)) 1 (S 0 0 0)), N)) hx hb hr hlocks dX3_perform_58 hK hP hD hS (by rfl) ⟨by simp only [V_perform, eq_true hct, eq_true c_7, c_9, c_16, ej, and_true, true_and, and_false, false_and, if_true, if_false, not_true, not_false_iff, not_false_eq_true, or_true, true_or, or_false, false_or, ite_true, ite_false, and_self, Classical.not_not, Bool.false_eq_true], by rw [ej]; exact (bi_t (P := (S 9 j 0 = nI 2 ∨ S 9 j 1 < S 0 0 0)) (Or.inr (Int32.not_le.mp c_16))).symm, by rw [ej]⟩ (Nat.le_of_ble_eq_true rfl) (Nat.le_of_ble_eq_true rfl)
  · rw [← hQQ]; exact thr (cls := "java/lang/IllegalStateException") (text := "the duty is neither open nor noticed") (is := 165) (ic := 62) (ik := 58) hx hb hst hown (by decide) lk3 lk4 (by decide) ham (fun w h => hts w (List.mem_cons_of_mem _ (List.mem_append_left _ (List.mem_append_right _ h)))) (by decide) (by decide +kernel) (by decide +kernel) dX3_perform_13 dX3_perform_16 dX3_perform_17 dX3_perform_19 dX3_perform_22 (hl.1.trans hml.symm) hnt hlocks (Nat.le_of_ble_eq_true rfl) (Nat.le_of_ble_eq_true rfl) (Nat.le_of_ble_eq_true rfl) (Nat.le_of_ble_eq_true rfl) (Or.inr (⟨by simp only [V_perform, eq_true hct, c_7, ej, and_true, true_and, and_false, false_and, if_true, if_false, not_true, not_false_iff, not_false_eq_true, or_true, true_or, or_false, false_or, ite_true, ite_false, and_self, Classical.not_not, Bool.false_eq_true], rfl⟩)) hK hP hD hS (Nat.le_of_ble_eq_true rfl) (Nat.le_of_ble_eq_true rfl)

set_option maxHeartbeats 4000000 in
set_option maxRecDepth 100000 in
/-- notice -/
theorem qX3_notice (l : Launch) (dC : Nat → ClassId) (dI : Nat → Nat → Nat) (cy : Nat → ClassId) (e0 mi : Nat) (ad : Lc → Nat) (L : List Lc) (S : SS) (N : NN) (sz : Nat) (a : Int32) (hI : okC L N) (hst : l.stackTraces = false) : vx_Met l yX3_notice wsX3_notice ({ frames := 7, cells := 2, slots := 12, locals := 111 }) (va_Pc [.ref (ad (10, 0)), .int a] (wPreX (dC, dI) (tyL cy) e0 mi (cw cy e0 ad L S N) sz)) (QI (dC, dI) (tyL cy) (fun (r : Int32) (u : CS) => V_notice S N a = 0 ∧ r = S 0 0 0 + S 3 (N 3 (ix a) 1) 2 ∧ u = (K_move S (ix a) (nI 2) (S 0 0 0 + S 3 (N 3 (ix a) 1) 2), N)) (cwU cy e0 ad L) (va_A (cw cy e0 ad L S N) sz)) (XX (dC, dI) (tyL cy) (fun E => (V_notice S N a = 1 ∧ E = xIO) ∨ (V_notice S N a = 2 ∧ E = xIS)) (cw cy e0 ad L S N) (va_A (cw cy e0 ad L S N) sz)) 2 12 (va_A (cw cy e0 ad L S N) sz) := by
  refine enX (cc := cX3_notice) (maxL := 3) (ret := (some .int)) (own := RX3) (lv := [(0, .ref (ad (10, 0))), (1, .int a)]) (by decide) rfl rfl (Nat.le_of_ble_eq_true rfl) rfl ?_
  intro p e s m below meth c ls A H locs hx hb hr hts hown hlocks hml hin hsz hK hP hD hS hA hl ham hnt
  generalize hQQ : vx_MQ below _ _ _ s _ _ A = QQ
  have hI0 := hI
  obtain ⟨⟨hM0, hM8, hM9, hMF, hM15, hM17⟩, hV, hLt, hO, hDu, hnc, hnd, hcC, hcD, hcC2, hcD2⟩ := hI
  have inX1_ : ∀ w ∈ wsX10, w ∈ wsX3_notice := fun _ h => List.mem_cons_of_mem _ (List.mem_append_left _ (List.mem_append_left _ (List.mem_append_left _ (List.mem_append_left _ (List.mem_append_left _ (List.mem_append_right _ h))))))
  have inX3_ : ∀ w ∈ wsX30, w ∈ wsX3_notice := fun _ h => List.mem_cons_of_mem _ (List.mem_append_left _ (List.mem_append_left _ (List.mem_append_left _ (List.mem_append_left _ (List.mem_append_right _ h)))))
  have inX2_ : ∀ w ∈ wsX20, w ∈ wsX3_notice := fun _ h => List.mem_cons_of_mem _ (List.mem_append_left _ (List.mem_append_left _ (List.mem_append_left _ (List.mem_append_right _ h))))
  have lk0 : (Cond.fieldLink RX3 151 "ClauseShop$Duty" "state" "I").before (([.ref (ad (10, 0)), .int a] : List Value).toArray) s = true := hts _ (List.mem_of_getElem? (i := 3) rfl)
  have lk1 : (Cond.classLink RX3 58 "java/lang/IllegalStateException").before (([.ref (ad (10, 0)), .int a] : List Value).toArray) s = true := hts _ (List.mem_of_getElem? (i := 1) rfl)
  have lk2 : (Cond.initialized "java/lang/IllegalStateException").before (([.ref (ad (10, 0)), .int a] : List Value).toArray) s = true := hts _ (List.mem_of_getElem? (i := 2) rfl)
  have lk3 : (Cond.fieldLink RX3 32 "ClauseShop" "today" "I").before (([.ref (ad (10, 0)), .int a] : List Value).toArray) s = true := hts _ (List.mem_of_getElem? (i := 4) rfl)
  have lk4 : (Cond.fieldLink RX3 156 "ClauseShop$Duty" "day" "I").before (([.ref (ad (10, 0)), .int a] : List Value).toArray) s = true := hts _ (List.mem_of_getElem? (i := 5) rfl)
  have lk5 : (Cond.fieldLink RX3 172 "ClauseShop$Duty" "version" "LClauseShop$Version;").before (([.ref (ad (10, 0)), .int a] : List Value).toArray) s = true := hts _ (List.mem_of_getElem? (i := 6) rfl)
  have lk6 : (Cond.fieldLink RX3 176 "ClauseShop$Version" "cure" "I").before (([.ref (ad (10, 0)), .int a] : List Value).toArray) s = true := hts _ (List.mem_of_getElem? (i := 7) rfl)
  refine lv_aload_n hx hb dX3_notice_0 rfl (lv_at hl 0 rfl) ?_
  refine lv_iload_n hx hb dX3_notice_1 rfl (lv_at hl 1 rfl) ?_
  obtain ⟨z_1, hz_1⟩ := pl_get (ad := ad) (f := cc cy e0 ad S N) (hMF 10 (by decide))
  rw [show cc cy e0 ad S N (10, 0) = .inr (4, [.ref (ad (11, 0)), .ref (ad (12, 0)), .ref (ad (13, 0)), .ref (ad (14, 0)), .ref (ad (16, 0)), .int (S 0 0 0)]) from rfl] at hz_1
  refine callX_r (vx_runV (As := [.int a]) (rest := []) ⟨hx, hb, hml, hown, hts⟩ (qX3_dutyAt l dC dI cy e0 mi ad L S N H.size a hI0 hst) (cwV 1 hts gX3_notice_X3_dutyAt rfl rfl rfl (by decide +kernel) ⟨Nat.le_of_ble_eq_true rfl, Nat.le_of_ble_eq_true rfl⟩) (preXV hK hP hD hS hA ham (w_recv (ci := 4) (q0 := z_1) hK hP hz_1 rfl)) rfl rfl hl.1 rfl (lv_room (Nat.le_of_ble_eq_true rfl)) dX3_notice_2 ⟨Nat.le_of_ble_eq_true rfl, Nat.le_of_ble_eq_true rfl⟩) hD hS hA (fun E ce q9 H locs hpx hP hS hc1 hc2 hc3 => by rw [← hQQ]; exact outX hnt hlocks hc1 hc2 hc3 (Or.inl ⟨by simp only [V_notice, hpx.2, and_true, true_and, and_false, false_and, if_true, if_false, not_true, not_false_iff, not_false_eq_true, or_true, true_or, or_false, false_or, ite_true, ite_false, and_self, Classical.not_not, Bool.false_eq_true], hpx.1⟩) hK hP hD hS (Nat.le_of_ble_eq_true rfl) (Nat.le_of_ble_eq_true rfl)) (fun r_2 u H locs w_3 hP hD hS => ?_)
  obtain ⟨⟨j, hj, ex, ej, rfl⟩, hct, rfl⟩ := w_3
  subst ex
  have hP : va_P (dC, dI) vwCl (cw cy e0 ad L S N) H := hP
  have hD : va_D A (cw cy e0 ad L S N) := hD
  obtain ⟨hdc, hdv⟩ := hDu j hj
  have hob := hO (N 3 j 1)
  refine lv_astore_n (lv' := [(2, .ref (ad (8, j))), (0, .ref (ad (10, 0))), (1, .int (nI j))]) hx hb dX3_notice_5 rfl hl (by decide) rfl (fun ls hl => ?_)
  refine lv_aload_n hx hb dX3_notice_6 rfl (lv_at hl 0 rfl) ?_
  obtain ⟨z_4, hz_4⟩ := pl_get (ad := ad) (f := cc cy e0 ad S N) (hM8 j (by omega))
  rw [show cc cy e0 ad S N (8, j) = .inr (2, [.ref (ad (0, N 3 j 0)), .ref (ad (9, N 3 j 1)), .int (S 9 j 0), .int (S 9 j 1)]) from rfl] at hz_4
  refine va_get (D := (dC, dI)) (ci := 2) (v := .int (S 9 j 0)) (C := RX1) (T := TX1) (N := 4) hx hb hts inX1_ hown hK hP z_4 hz_4 rfl 2 (by decide) lk0 (fun _ h9 => h9) rfl dX3_notice_7 ?_
  refine lv_if_ne (tgt := 24) hx hb dX3_notice_10 (by decide) (fun c_5 => ?_) (fun c_5 => ?_)
  · rw [← hQQ]; exact thr (cls := "java/lang/IllegalStateException") (text := "the duty is not open, or not late") (is := 170) (ic := 62) (ik := 58) hx hb hst hown (by decide) lk1 lk2 (by decide) ham (fun w h => hts w (List.mem_cons_of_mem _ (List.mem_append_left _ (List.mem_append_right _ h)))) (by decide) (by decide +kernel) (by decide +kernel) dX3_notice_24 dX3_notice_27 dX3_notice_28 dX3_notice_30 dX3_notice_33 (hl.1.trans hml.symm) hnt hlocks (Nat.le_of_ble_eq_true rfl) (Nat.le_of_ble_eq_true rfl) (Nat.le_of_ble_eq_true rfl) (Nat.le_of_ble_eq_true rfl) (Or.inr (⟨by simp only [V_notice, eq_true hct, c_5, ej, and_true, true_and, and_false, false_and, if_true, if_false, not_true, not_false_iff, not_false_eq_true, or_true, true_or, or_false, false_or, ite_true, ite_false, and_self, Classical.not_not, Bool.false_eq_true], rfl⟩)) hK hP hD hS (Nat.le_of_ble_eq_true rfl) (Nat.le_of_ble_eq_true rfl)
  · refine lv_aload_n hx hb dX3_notice_13 rfl (lv_at hl 1 rfl) ?_
    obtain ⟨z_6, hz_6⟩ := pl_get (ad := ad) (f := cc cy e0 ad S N) (hMF 10 (by decide))
    rw [show cc cy e0 ad S N (10, 0) = .inr (4, [.ref (ad (11, 0)), .ref (ad (12, 0)), .ref (ad (13, 0)), .ref (ad (14, 0)), .ref (ad (16, 0)), .int (S 0 0 0)]) from rfl] at hz_6
    refine va_get (D := (dC, dI)) (ci := 4) (v := .int (S 0 0 0)) (C := RX3) (T := TX3) (N := 6) hx hb hts inX3_ hown hK hP z_6 hz_6 rfl 5 (by decide) lk3 (fun _ h9 => h9) rfl dX3_notice_14 ?_
    refine lv_aload_n hx hb dX3_notice_17 rfl (lv_at hl 0 rfl) ?_
    obtain ⟨z_7, hz_7⟩ := pl_get (ad := ad) (f := cc cy e0 ad S N) (hM8 j (by omega))
    rw [show cc cy e0 ad S N (8, j) = .inr (2, [.ref (ad (0, N 3 j 0)), .ref (ad (9, N 3 j 1)), .int (S 9 j 0), .int (S 9 j 1)]) from rfl] at hz_7
    refine va_get (D := (dC, dI)) (ci := 2) (v := .int (S 9 j 1)) (C := RX1) (T := TX1) (N := 4) hx hb hts inX1_ hown hK hP z_7 hz_7 rfl 3 (by decide) lk4 (fun _ h9 => h9) rfl dX3_notice_18 ?_
    refine lv_icmp_gt (tgt := 34) hx hb dX3_notice_21 (by decide) (fun c_8 => ?_) (fun c_8 => ?_)
    · have c_8l : ¬ S 0 0 0 ≤ S 9 j 1 := Int32.not_le.mpr c_8
      refine lv_aload_n hx hb dX3_notice_34 rfl (lv_at hl 0 rfl) ?_
      refine lv_iconst (v := nI 2) hx hb dX3_notice_35 (by decide) ?_
      refine lv_aload_n hx hb dX3_notice_36 rfl (lv_at hl 1 rfl) ?_
      obtain ⟨z_9, hz_9⟩ := pl_get (ad := ad) (f := cc cy e0 ad S N) (hMF 10 (by decide))
      rw [show cc cy e0 ad S N (10, 0) = .inr (4, [.ref (ad (11, 0)), .ref (ad (12, 0)), .ref (ad (13, 0)), .ref (ad (14, 0)), .ref (ad (16, 0)), .int (S 0 0 0)]) from rfl] at hz_9
      refine va_get (D := (dC, dI)) (ci := 4) (v := .int (S 0 0 0)) (C := RX3) (T := TX3) (N := 6) hx hb hts inX3_ hown hK hP z_9 hz_9 rfl 5 (by decide) lk3 (fun _ h9 => h9) rfl dX3_notice_37 ?_
      refine lv_aload_n hx hb dX3_notice_40 rfl (lv_at hl 0 rfl) ?_
      obtain ⟨z_10, hz_10⟩ := pl_get (ad := ad) (f := cc cy e0 ad S N) (hM8 j (by omega))
      rw [show cc cy e0 ad S N (8, j) = .inr (2, [.ref (ad (0, N 3 j 0)), .ref (ad (9, N 3 j 1)), .int (S 9 j 0), .int (S 9 j 1)]) from rfl] at hz_10
      refine va_get (D := (dC, dI)) (ci := 2) (v := .ref (ad (9, N 3 j 1))) (C := RX1) (T := TX1) (N := 4) hx hb hts inX1_ hown hK hP z_10 hz_10 rfl 1 (by decide) lk5 (fun _ h9 => h9) rfl dX3_notice_41 ?_
      obtain ⟨z_11, hz_11⟩ := pl_get (ad := ad) (f := cc cy e0 ad S N) (hdv)
      rw [show cc cy e0 ad S N (9, N 3 j 1) = .inr (3, [.int (nI ((N 3 j 1) % 9 + 1)), .int (nI (N 4 (N 3 j 1) 0)), .int (S 3 (N 3 j 1) 1), .int (S 3 (N 3 j 1) 2), .int (S 3 (N 3 j 1) 3)]) from rfl] at hz_11
      refine va_get (D := (dC, dI)) (ci := 3) (v := .int (S 3 (N 3 j 1) 2)) (C := RX2) (T := TX2) (N := 5) hx hb hts inX2_ hown hK hP z_11 hz_11 rfl 3 (by decide) lk6 (fun _ h9 => h9) rfl dX3_notice_44 ?_
      refine lv_iadd hx hb dX3_notice_47 ?_
      obtain ⟨z_12, hz_12⟩ := pl_get (ad := ad) (f := cc cy e0 ad S N) (hM8 j (by omega))
      rw [show cc cy e0 ad S N (8, j) = .inr (2, [.ref (ad (0, N 3 j 0)), .ref (ad (9, N 3 j 1)), .int (S 9 j 0), .int (S 9 j 1)]) from rfl] at hz_12
      refine call_v (va_runV (As := [.int (nI 2), .int ((S 0 0 0) + (S 3 (N 3 j 1) 2))]) (rest := []) ⟨hx, hb, hml, hown, hts⟩ (qX1_move l dC dI cy e0 mi ad L S N H.size j (nI 2) ((S 0 0 0) + (S 3 (N 3 j 1) 2)) hI0 hj) (cwV 2 hts gX3_notice_X1_move rfl rfl rfl (by decide +kernel) ⟨Nat.le_of_ble_eq_true rfl, Nat.le_of_ble_eq_true rfl⟩) (preV hK hP hD (w_recv (ci := 2) (q0 := z_12) hK hP hz_12 rfl)) rfl rfl hl.1 rfl (lv_room (Nat.le_of_ble_eq_true rfl)) dX3_notice_48 ⟨Nat.le_of_ble_eq_true rfl, Nat.le_of_ble_eq_true rfl⟩) hD hS hA (fun u H locs w_14 hP hD hS => ?_)
      subst w_14
      have hP : va_P (dC, dI) vwCl (cw cy e0 ad L (su S 9 j (upd (upd (S 9 j) 0 (nI 2)) 1 ((S 0 0 0) + (S 3 (N 3 j 1) 2)))) N) H := hP
      have hD : va_D A (cw cy e0 ad L (su S 9 j (upd (upd (S 9 j) 0 (nI 2)) 1 ((S 0 0 0) + (S 3 (N 3 j 1) 2)))) N) := hD
      refine lv_aload_n hx hb dX3_notice_51 rfl (lv_at hl 0 rfl) ?_
      obtain ⟨z_15, hz_15⟩ := pl_get (ad := ad) (f := cc cy e0 ad (su S 9 j (upd (upd (S 9 j) 0 (nI 2)) 1 ((S 0 0 0) + (S 3 (N 3 j 1) 2)))) N) (hM8 j (by omega))
      rw [show cc cy e0 ad (su S 9 j (upd (upd (S 9 j) 0 (nI 2)) 1 ((S 0 0 0) + (S 3 (N 3 j 1) 2)))) N (8, j) = .inr (2, [.ref (ad (0, N 3 j 0)), .ref (ad (9, N 3 j 1)), .int (nI 2), .int ((S 0 0 0) + (S 3 (N 3 j 1) 2))]) from by first | rfl | simp [cc, su, nu, upd]] at hz_15
      refine va_get (D := (dC, dI)) (ci := 2) (v := .int ((S 0 0 0) + (S 3 (N 3 j 1) 2))) (C := RX1) (T := TX1) (N := 4) hx hb hts inX1_ hown hK hP z_15 hz_15 rfl 3 (by decide) lk4 (fun _ h9 => h9) rfl dX3_notice_52 ?_
      rw [← hQQ]; apply vx_ret; exact end_i (u := (su S 9 j (upd (upd (S 9 j) 0 (nI 2)) 1 ((S 0 0 0) + (S 3 (N 3 j 1) 2))), N)) hx hb hr hlocks dX3_notice_55 hK hP hD hS ⟨by simp only [V_notice, eq_true hct, eq_true c_5, c_8l, ej, and_true, true_and, and_false, false_and, if_true, if_false, not_true, not_false_iff, not_false_eq_true, or_true, true_or, or_false, false_or, ite_true, ite_false, and_self, Classical.not_not, Bool.false_eq_true], by rw [ej], by rw [ej]⟩ (Nat.le_of_ble_eq_true rfl) (Nat.le_of_ble_eq_true rfl)
    · have c_8l : S 0 0 0 ≤ S 9 j 1 := Int32.not_lt.mp c_8
      rw [← hQQ]; exact thr (cls := "java/lang/IllegalStateException") (text := "the duty is not open, or not late") (is := 170) (ic := 62) (ik := 58) hx hb hst hown (by decide) lk1 lk2 (by decide) ham (fun w h => hts w (List.mem_cons_of_mem _ (List.mem_append_left _ (List.mem_append_right _ h)))) (by decide) (by decide +kernel) (by decide +kernel) dX3_notice_24 dX3_notice_27 dX3_notice_28 dX3_notice_30 dX3_notice_33 (hl.1.trans hml.symm) hnt hlocks (Nat.le_of_ble_eq_true rfl) (Nat.le_of_ble_eq_true rfl) (Nat.le_of_ble_eq_true rfl) (Nat.le_of_ble_eq_true rfl) (Or.inr (⟨by simp only [V_notice, eq_true hct, eq_true c_5, eq_true c_8l, ej, and_true, true_and, and_false, false_and, if_true, if_false, not_true, not_false_iff, not_false_eq_true, or_true, true_or, or_false, false_or, ite_true, ite_false, and_self, Classical.not_not, Bool.false_eq_true], rfl⟩)) hK hP hD hS (Nat.le_of_ble_eq_true rfl) (Nat.le_of_ble_eq_true rfl)

set_option maxHeartbeats 4000000 in
set_option maxRecDepth 100000 in
/-- settle -/
theorem qX3_settle (l : Launch) (dC : Nat → ClassId) (dI : Nat → Nat → Nat) (cy : Nat → ClassId) (e0 mi : Nat) (ad : Lc → Nat) (L : List Lc) (S : SS) (N : NN) (sz : Nat) (a : Int32) (hI : okC L N) (hst : l.stackTraces = false) : vx_Met l yX3_settle wsX3_settle ({ frames := 7, cells := 2, slots := 12, locals := 111 }) (va_Pc [.ref (ad (10, 0)), .int a] (wPreX (dC, dI) (tyL cy) e0 mi (cw cy e0 ad L S N) sz)) (QI (dC, dI) (tyL cy) (fun (r : Int32) (u : CS) => V_settle S N a = 0 ∧ r = S 3 (N 3 (ix a) 1) 3 ∧ u = (K_count (K_move S (ix a) (nI 4) (S 0 0 0)) N (ix a) (-1), N)) (cwU cy e0 ad L) (va_A (cw cy e0 ad L S N) sz)) (XX (dC, dI) (tyL cy) (fun E => (V_settle S N a = 1 ∧ E = xIO) ∨ (V_settle S N a = 2 ∧ E = xIS)) (cw cy e0 ad L S N) (va_A (cw cy e0 ad L S N) sz)) 2 12 (va_A (cw cy e0 ad L S N) sz) := by
  refine enX (cc := cX3_settle) (maxL := 3) (ret := (some .int)) (own := RX3) (lv := [(0, .ref (ad (10, 0))), (1, .int a)]) (by decide) rfl rfl (Nat.le_of_ble_eq_true rfl) rfl ?_
  intro p e s m below meth c ls A H locs hx hb hr hts hown hlocks hml hin hsz hK hP hD hS hA hl ham hnt
  generalize hQQ : vx_MQ below _ _ _ s _ _ A = QQ
  have hI0 := hI
  obtain ⟨⟨hM0, hM8, hM9, hMF, hM15, hM17⟩, hV, hLt, hO, hDu, hnc, hnd, hcC, hcD, hcC2, hcD2⟩ := hI
  have inX1_ : ∀ w ∈ wsX10, w ∈ wsX3_settle := fun _ h => List.mem_cons_of_mem _ (List.mem_append_left _ (List.mem_append_left _ (List.mem_append_left _ (List.mem_append_left _ (List.mem_append_left _ (List.mem_append_left _ (List.mem_append_right _ h)))))))
  have inX3_ : ∀ w ∈ wsX30, w ∈ wsX3_settle := fun _ h => List.mem_cons_of_mem _ (List.mem_append_left _ (List.mem_append_left _ (List.mem_append_left _ (List.mem_append_left _ (List.mem_append_left _ (List.mem_append_right _ h))))))
  have inX2_ : ∀ w ∈ wsX20, w ∈ wsX3_settle := fun _ h => List.mem_cons_of_mem _ (List.mem_append_left _ (List.mem_append_left _ (List.mem_append_left _ (List.mem_append_left _ (List.mem_append_right _ h)))))
  have lk0 : (Cond.fieldLink RX3 151 "ClauseShop$Duty" "state" "I").before (([.ref (ad (10, 0)), .int a] : List Value).toArray) s = true := hts _ (List.mem_of_getElem? (i := 3) rfl)
  have lk1 : (Cond.fieldLink RX3 32 "ClauseShop" "today" "I").before (([.ref (ad (10, 0)), .int a] : List Value).toArray) s = true := hts _ (List.mem_of_getElem? (i := 4) rfl)
  have lk2 : (Cond.fieldLink RX3 172 "ClauseShop$Duty" "version" "LClauseShop$Version;").before (([.ref (ad (10, 0)), .int a] : List Value).toArray) s = true := hts _ (List.mem_of_getElem? (i := 5) rfl)
  have lk3 : (Cond.fieldLink RX3 184 "ClauseShop$Version" "penalty" "I").before (([.ref (ad (10, 0)), .int a] : List Value).toArray) s = true := hts _ (List.mem_of_getElem? (i := 6) rfl)
  have lk4 : (Cond.classLink RX3 58 "java/lang/IllegalStateException").before (([.ref (ad (10, 0)), .int a] : List Value).toArray) s = true := hts _ (List.mem_of_getElem? (i := 1) rfl)
  have lk5 : (Cond.initialized "java/lang/IllegalStateException").before (([.ref (ad (10, 0)), .int a] : List Value).toArray) s = true := hts _ (List.mem_of_getElem? (i := 2) rfl)
  refine lv_aload_n hx hb dX3_settle_0 rfl (lv_at hl 0 rfl) ?_
  refine lv_iload_n hx hb dX3_settle_1 rfl (lv_at hl 1 rfl) ?_
  obtain ⟨z_1, hz_1⟩ := pl_get (ad := ad) (f := cc cy e0 ad S N) (hMF 10 (by decide))
  rw [show cc cy e0 ad S N (10, 0) = .inr (4, [.ref (ad (11, 0)), .ref (ad (12, 0)), .ref (ad (13, 0)), .ref (ad (14, 0)), .ref (ad (16, 0)), .int (S 0 0 0)]) from rfl] at hz_1
  refine callX_r (vx_runV (As := [.int a]) (rest := []) ⟨hx, hb, hml, hown, hts⟩ (qX3_dutyAt l dC dI cy e0 mi ad L S N H.size a hI0 hst) (cwV 1 hts gX3_settle_X3_dutyAt rfl rfl rfl (by decide +kernel) ⟨Nat.le_of_ble_eq_true rfl, Nat.le_of_ble_eq_true rfl⟩) (preXV hK hP hD hS hA ham (w_recv (ci := 4) (q0 := z_1) hK hP hz_1 rfl)) rfl rfl hl.1 rfl (lv_room (Nat.le_of_ble_eq_true rfl)) dX3_settle_2 ⟨Nat.le_of_ble_eq_true rfl, Nat.le_of_ble_eq_true rfl⟩) hD hS hA (fun E ce q9 H locs hpx hP hS hc1 hc2 hc3 => by rw [← hQQ]; exact outX hnt hlocks hc1 hc2 hc3 (Or.inl ⟨by simp only [V_settle, hpx.2, and_true, true_and, and_false, false_and, if_true, if_false, not_true, not_false_iff, not_false_eq_true, or_true, true_or, or_false, false_or, ite_true, ite_false, and_self, Classical.not_not, Bool.false_eq_true], hpx.1⟩) hK hP hD hS (Nat.le_of_ble_eq_true rfl) (Nat.le_of_ble_eq_true rfl)) (fun r_2 u H locs w_3 hP hD hS => ?_)
  obtain ⟨⟨j, hj, ex, ej, rfl⟩, hct, rfl⟩ := w_3
  subst ex
  have hP : va_P (dC, dI) vwCl (cw cy e0 ad L S N) H := hP
  have hD : va_D A (cw cy e0 ad L S N) := hD
  obtain ⟨hdc, hdv⟩ := hDu j hj
  have hob := hO (N 3 j 1)
  refine lv_astore_n (lv' := [(2, .ref (ad (8, j))), (0, .ref (ad (10, 0))), (1, .int (nI j))]) hx hb dX3_settle_5 rfl hl (by decide) rfl (fun ls hl => ?_)
  refine lv_aload_n hx hb dX3_settle_6 rfl (lv_at hl 0 rfl) ?_
  obtain ⟨z_4, hz_4⟩ := pl_get (ad := ad) (f := cc cy e0 ad S N) (hM8 j (by omega))
  rw [show cc cy e0 ad S N (8, j) = .inr (2, [.ref (ad (0, N 3 j 0)), .ref (ad (9, N 3 j 1)), .int (S 9 j 0), .int (S 9 j 1)]) from rfl] at hz_4
  refine va_get (D := (dC, dI)) (ci := 2) (v := .int (S 9 j 0)) (C := RX1) (T := TX1) (N := 4) hx hb hts inX1_ hown hK hP z_4 hz_4 rfl 2 (by decide) lk0 (fun _ h9 => h9) rfl dX3_settle_7 ?_
  refine lv_iconst (v := nI 3) hx hb dX3_settle_10 (by decide) ?_
  refine lv_icmp_eq (tgt := 24) hx hb dX3_settle_11 (by decide) (fun c_5 => ?_) (fun c_5 => ?_)
  · refine lv_aload_n hx hb dX3_settle_24 rfl (lv_at hl 0 rfl) ?_
    refine lv_iconst (v := nI 4) hx hb dX3_settle_25 (by decide) ?_
    refine lv_aload_n hx hb dX3_settle_26 rfl (lv_at hl 1 rfl) ?_
    obtain ⟨z_6, hz_6⟩ := pl_get (ad := ad) (f := cc cy e0 ad S N) (hMF 10 (by decide))
    rw [show cc cy e0 ad S N (10, 0) = .inr (4, [.ref (ad (11, 0)), .ref (ad (12, 0)), .ref (ad (13, 0)), .ref (ad (14, 0)), .ref (ad (16, 0)), .int (S 0 0 0)]) from rfl] at hz_6
    refine va_get (D := (dC, dI)) (ci := 4) (v := .int (S 0 0 0)) (C := RX3) (T := TX3) (N := 6) hx hb hts inX3_ hown hK hP z_6 hz_6 rfl 5 (by decide) lk1 (fun _ h9 => h9) rfl dX3_settle_27 ?_
    obtain ⟨z_7, hz_7⟩ := pl_get (ad := ad) (f := cc cy e0 ad S N) (hM8 j (by omega))
    rw [show cc cy e0 ad S N (8, j) = .inr (2, [.ref (ad (0, N 3 j 0)), .ref (ad (9, N 3 j 1)), .int (S 9 j 0), .int (S 9 j 1)]) from rfl] at hz_7
    refine call_v (va_runV (As := [.int (nI 4), .int (S 0 0 0)]) (rest := []) ⟨hx, hb, hml, hown, hts⟩ (qX1_move l dC dI cy e0 mi ad L S N H.size j (nI 4) (S 0 0 0) hI0 hj) (cwV 2 hts gX3_settle_X1_move rfl rfl rfl (by decide +kernel) ⟨Nat.le_of_ble_eq_true rfl, Nat.le_of_ble_eq_true rfl⟩) (preV hK hP hD (w_recv (ci := 2) (q0 := z_7) hK hP hz_7 rfl)) rfl rfl hl.1 rfl (lv_room (Nat.le_of_ble_eq_true rfl)) dX3_settle_30 ⟨Nat.le_of_ble_eq_true rfl, Nat.le_of_ble_eq_true rfl⟩) hD hS hA (fun u H locs w_9 hP hD hS => ?_)
    subst w_9
    have hP : va_P (dC, dI) vwCl (cw cy e0 ad L (su S 9 j (upd (upd (S 9 j) 0 (nI 4)) 1 (S 0 0 0))) N) H := hP
    have hD : va_D A (cw cy e0 ad L (su S 9 j (upd (upd (S 9 j) 0 (nI 4)) 1 (S 0 0 0))) N) := hD
    refine lv_aload_n hx hb dX3_settle_33 rfl (lv_at hl 0 rfl) ?_
    refine lv_iconst (v := -1) hx hb dX3_settle_34 (by decide) ?_
    obtain ⟨z_10, hz_10⟩ := pl_get (ad := ad) (f := cc cy e0 ad (su S 9 j (upd (upd (S 9 j) 0 (nI 4)) 1 (S 0 0 0))) N) (hM8 j (by omega))
    rw [show cc cy e0 ad (su S 9 j (upd (upd (S 9 j) 0 (nI 4)) 1 (S 0 0 0))) N (8, j) = .inr (2, [.ref (ad (0, N 3 j 0)), .ref (ad (9, N 3 j 1)), .int (nI 4), .int (S 0 0 0)]) from by first | rfl | simp [cc, su, nu, upd]] at hz_10
    refine call_v (va_runV (As := [.int ((-1))]) (rest := []) ⟨hx, hb, hml, hown, hts⟩ (qX1_countBreach l dC dI cy e0 mi ad L (su S 9 j (upd (upd (S 9 j) 0 (nI 4)) 1 (S 0 0 0))) N H.size j ((-1)) hI0 hj) (cwV 1 hts gX3_settle_X1_countBreach rfl rfl rfl (by decide +kernel) ⟨Nat.le_of_ble_eq_true rfl, Nat.le_of_ble_eq_true rfl⟩) (preV hK hP hD (w_recv (ci := 2) (q0 := z_10) hK hP hz_10 rfl)) rfl rfl hl.1 rfl (lv_room (Nat.le_of_ble_eq_true rfl)) dX3_settle_35 ⟨Nat.le_of_ble_eq_true rfl, Nat.le_of_ble_eq_true rfl⟩) hD hS hA (fun u H locs w_12 hP hD hS => ?_)
    subst w_12
    have hP : va_P (dC, dI) vwCl (cw cy e0 ad L ((K_count (su S 9 j (upd (upd (S 9 j) 0 (nI 4)) 1 (S 0 0 0))) N j ((-1)))) N) H := hP
    have hD : va_D A (cw cy e0 ad L ((K_count (su S 9 j (upd (upd (S 9 j) 0 (nI 4)) 1 (S 0 0 0))) N j ((-1)))) N) := hD
    refine lv_aload_n hx hb dX3_settle_38 rfl (lv_at hl 0 rfl) ?_
    obtain ⟨z_13, hz_13⟩ := pl_get (ad := ad) (f := cc cy e0 ad ((K_count (su S 9 j (upd (upd (S 9 j) 0 (nI 4)) 1 (S 0 0 0))) N j ((-1)))) N) (hM8 j (by omega))
    rw [show cc cy e0 ad ((K_count (su S 9 j (upd (upd (S 9 j) 0 (nI 4)) 1 (S 0 0 0))) N j ((-1)))) N (8, j) = .inr (2, [.ref (ad (0, N 3 j 0)), .ref (ad (9, N 3 j 1)), .int (((K_count (su S 9 j (upd (upd (S 9 j) 0 (nI 4)) 1 (S 0 0 0))) N j ((-1)))) 9 j 0), .int (((K_count (su S 9 j (upd (upd (S 9 j) 0 (nI 4)) 1 (S 0 0 0))) N j ((-1)))) 9 j 1)]) from rfl] at hz_13
    refine va_get (D := (dC, dI)) (ci := 2) (v := .ref (ad (9, N 3 j 1))) (C := RX1) (T := TX1) (N := 4) hx hb hts inX1_ hown hK hP z_13 hz_13 rfl 1 (by decide) lk2 (fun _ h9 => h9) rfl dX3_settle_39 ?_
    obtain ⟨z_14, hz_14⟩ := pl_get (ad := ad) (f := cc cy e0 ad ((K_count (su S 9 j (upd (upd (S 9 j) 0 (nI 4)) 1 (S 0 0 0))) N j ((-1)))) N) (hdv)
    rw [show cc cy e0 ad ((K_count (su S 9 j (upd (upd (S 9 j) 0 (nI 4)) 1 (S 0 0 0))) N j ((-1)))) N (9, N 3 j 1) = .inr (3, [.int (nI ((N 3 j 1) % 9 + 1)), .int (nI (N 4 (N 3 j 1) 0)), .int (((K_count (su S 9 j (upd (upd (S 9 j) 0 (nI 4)) 1 (S 0 0 0))) N j ((-1)))) 3 (N 3 j 1) 1), .int (((K_count (su S 9 j (upd (upd (S 9 j) 0 (nI 4)) 1 (S 0 0 0))) N j ((-1)))) 3 (N 3 j 1) 2), .int (((K_count (su S 9 j (upd (upd (S 9 j) 0 (nI 4)) 1 (S 0 0 0))) N j ((-1)))) 3 (N 3 j 1) 3)]) from rfl] at hz_14
    refine va_get (D := (dC, dI)) (ci := 3) (v := .int (((K_count (su S 9 j (upd (upd (S 9 j) 0 (nI 4)) 1 (S 0 0 0))) N j ((-1)))) 3 (N 3 j 1) 3)) (C := RX2) (T := TX2) (N := 5) hx hb hts inX2_ hown hK hP z_14 hz_14 rfl 4 (by decide) lk3 (fun _ h9 => h9) rfl dX3_settle_42 ?_
    rw [← hQQ]; apply vx_ret; exact end_i (u := ((K_count (su S 9 j (upd (upd (S 9 j) 0 (nI 4)) 1 (S 0 0 0))) N j ((-1))), N)) hx hb hr hlocks dX3_settle_45 hK hP hD hS ⟨by simp only [V_settle, eq_true hct, eq_true c_5, ej, and_true, true_and, and_false, false_and, if_true, if_false, not_true, not_false_iff, not_false_eq_true, or_true, true_or, or_false, false_or, ite_true, ite_false, and_self, Classical.not_not, Bool.false_eq_true], by rw [ej]; rfl, by rw [ej]⟩ (Nat.le_of_ble_eq_true rfl) (Nat.le_of_ble_eq_true rfl)
  · rw [← hQQ]; exact thr (cls := "java/lang/IllegalStateException") (text := "the duty is not breached") (is := 179) (ic := 62) (ik := 58) hx hb hst hown (by decide) lk4 lk5 (by decide) ham (fun w h => hts w (List.mem_cons_of_mem _ (List.mem_append_left _ (List.mem_append_right _ h)))) (by decide) (by decide +kernel) (by decide +kernel) dX3_settle_14 dX3_settle_17 dX3_settle_18 dX3_settle_20 dX3_settle_23 (hl.1.trans hml.symm) hnt hlocks (Nat.le_of_ble_eq_true rfl) (Nat.le_of_ble_eq_true rfl) (Nat.le_of_ble_eq_true rfl) (Nat.le_of_ble_eq_true rfl) (Or.inr (⟨by simp only [V_settle, eq_true hct, c_5, ej, and_true, true_and, and_false, false_and, if_true, if_false, not_true, not_false_iff, not_false_eq_true, or_true, true_or, or_false, false_or, ite_true, ite_false, and_self, Classical.not_not, Bool.false_eq_true], rfl⟩)) hK hP hD hS (Nat.le_of_ble_eq_true rfl) (Nat.le_of_ble_eq_true rfl)

def K_put (S : SS) (N : NN) : Nat → SS
  | 0 => S
  | n + 1 => if isHeld (K_put S N n) N n then su (K_put S N n) 9 n (upd (K_put S N n 9 n) 1 (K_put S N n 9 n 1 + nI 1)) else K_put S N n
abbrev isLateN (S : SS) (n : Nat) : Prop := S 9 n 0 = nI 2 ∧ S 9 n 1 < S 0 0 0
def K_bS (S : SS) (N : NN) : Nat → SS
  | 0 => S
  | n + 1 => if isLateN (K_bS S N n) n then K_count (K_move (K_bS S N n) n (nI 3) (K_bS S N n 0 0 0)) N n (nI 1) else K_bS S N n
def K_bn (S : SS) (N : NN) : Nat → Nat
  | 0 => 0
  | n + 1 => if isLateN (K_bS S N n) n then K_bn S N n + 1 else K_bn S N n
def K_tick (S : SS) : SS := su S 0 0 (upd (S 0 0) 0 (S 0 0 0 + nI 1))
def K_dayP (S : SS) (N : NN) : SS := K_put (K_tick S) N (N 5 0 0)
def K_passS (S : SS) (N : NN) : Nat → SS
  | 0 => S
  | n + 1 => K_bS (K_dayP (K_passS S N n) N) N (N 5 0 0)
def K_passN (S : SS) (N : NN) : Nat → Nat
  | 0 => 0
  | n + 1 => K_passN S N n + K_bn (K_dayP (K_passS S N n) N) N (N 5 0 0)

set_option maxHeartbeats 4000000 in
set_option maxRecDepth 100000 in
/-- putOff -/
theorem qX3_putOffHeldUpDuties (l : Launch) (dC : Nat → ClassId) (dI : Nat → Nat → Nat) (cy : Nat → ClassId) (e0 mi : Nat) (ad : Lc → Nat) (L : List Lc) (S : SS) (N : NN) (sz : Nat) (hI : okC L N) : Met l yX3_putOffHeldUpDuties wsX3_putOffHeldUpDuties ({ frames := 3, cells := 0, slots := 0, locals := 64 }) (va_Pc [.ref (ad (10, 0))] (wPre (dC, dI) (tyL cy) (cw cy e0 ad L S N) sz)) (QV (dC, dI) (tyL cy) (fun (u : CS) => u = (K_put S N (N 5 0 0), N)) (cwU cy e0 ad L) (va_A (cw cy e0 ad L S N) sz)) 0 0 (va_A (cw cy e0 ad L S N) sz) := by
  refine en (cc := cX3_putOffHeldUpDuties) (maxL := 3) (ret := none) (own := RX3) (lv := [(0, .ref (ad (10, 0)))]) (by decide) rfl rfl (Nat.le_of_ble_eq_true rfl) rfl ?_
  intro p e s m below meth c ls A H locs hx hb hr hts hown hlocks hml hin hsz hK hP hD hS hA hl
  generalize hQQ : MQ below _ _ s _ _ A = QQ
  have hI0 := hI
  obtain ⟨⟨hM0, hM8, hM9, hMF, hM15, hM17⟩, hV, hLt, hO, hDu, hnc, hnd, hcC, hcD, hcC2, hcD2⟩ := hI
  have inX3_ : ∀ w ∈ wsX30, w ∈ wsX3_putOffHeldUpDuties := fun _ h => List.mem_cons_of_mem _ (List.mem_append_left _ (List.mem_append_left _ (List.mem_append_left _ (List.mem_append_left _ (List.mem_append_right _ h)))))
  have inX1_ : ∀ w ∈ wsX10, w ∈ wsX3_putOffHeldUpDuties := fun _ h => List.mem_cons_of_mem _ (List.mem_append_left _ (List.mem_append_left _ (List.mem_append_left _ (List.mem_append_right _ h))))
  have lk0 : (Cond.fieldLink RX3 29 "ClauseShop" "dutyList" "Ljava/util/ArrayList;").before (([.ref (ad (10, 0))] : List Value).toArray) s = true := hts _ (List.mem_of_getElem? (i := 1) rfl)
  have lk1 : (Cond.classLink RX3 152 "ClauseShop$Duty").before (([.ref (ad (10, 0))] : List Value).toArray) s = true := hts _ (List.mem_of_getElem? (i := 2) rfl)
  have lk2 : (Cond.fieldLink RX3 156 "ClauseShop$Duty" "day" "I").before (([.ref (ad (10, 0))] : List Value).toArray) s = true := hts _ (List.mem_of_getElem? (i := 3) rfl)
  refine lv_iconst (v := nI 0) hx hb dX3_putOffHeldUpDuties_0 (by decide) ?_
  refine lv_istore_n (lv' := [(1, .int (nI 0)), (0, .ref (ad (10, 0)))]) hx hb dX3_putOffHeldUpDuties_1 rfl hl (by decide) rfl (fun ls hl => ?_)
  have hl_po : ∀ (k9 j : Nat), (N 5 0 0) - j = k9 → j ≤ (N 5 0 0) → ∀ (H : Heap) (locs : List Loc) (ls : Array Slot), va_P (dC, dI) vwCl (cw cy e0 ad L ((K_put S N j)) N) H → va_D A (cw cy e0 ad L ((K_put S N j)) N) → va_S A s.heap H locs → lv_has ls 3 [(0, .ref (ad (10, 0))), (1, .int (nI j))] → W p l e ({ frames := 3, cells := 0, slots := 0, locals := 64 }) s m (([.ref (ad (10, 0))] : List Value).toArray) below meth c H locs 0 0 QQ (F0 m 2 ls []) := by
    intro k9
    induction k9 using Nat.strongRecOn with
    | _ k9 ih =>
      intro j  hk9 hle9  H locs ls hP hD hS hl
      refine lv_iload_n hx hb dX3_putOffHeldUpDuties_2 rfl (lv_at hl 1 rfl) ?_
      refine lv_aload_n hx hb dX3_putOffHeldUpDuties_3 rfl (lv_at hl 0 rfl) ?_
      obtain ⟨z_1, hz_1⟩ := pl_get (ad := ad) (f := cc cy e0 ad ((K_put S N j)) N) (hMF 10 (by decide))
      rw [show cc cy e0 ad ((K_put S N j)) N (10, 0) = .inr (4, [.ref (ad (11, 0)), .ref (ad (12, 0)), .ref (ad (13, 0)), .ref (ad (14, 0)), .ref (ad (16, 0)), .int (((K_put S N j)) 0 0 0)]) from rfl] at hz_1
      refine va_get (D := (dC, dI)) (ci := 4) (v := .ref (ad (16, 0))) (C := RX3) (T := TX3) (N := 6) hx hb hts inX3_ hown hK hP z_1 hz_1 rfl 4 (by decide) lk0 (fun _ h9 => h9) rfl dX3_putOffHeldUpDuties_4 ?_
      obtain ⟨z_2, hz_2⟩ := pl_get (ad := ad) (f := cc cy e0 ad ((K_put S N j)) N) (hMF 16 (by decide))
      rw [show cc cy e0 ad ((K_put S N j)) N (16, 0) = .inr (0, [.int (((K_put S N j)) 11 0 0), .ref (if N 7 0 0 = 0 then e0 else ad (17, 0)), .int (nI (N 5 0 0))]) from rfl] at hz_2
      refine call_i (va_runV (As := []) (rest := [.int (nI j)]) ⟨hx, hb, hml, hown, hts⟩ (qJx4a65c_size_8abf5 l dC dI cy e0 mi (cw cy e0 ad L ((K_put S N j)) N) H.size _ z_2 (N 5 0 0) (((K_put S N j)) 11 0 0) _ hz_2) (cwV 0 hts gX3_putOffHeldUpDuties_Jx4a65c_size_8abf5 rfl rfl rfl (by decide +kernel) ⟨Nat.le_of_ble_eq_true rfl, Nat.le_of_ble_eq_true rfl⟩) (preV hK hP hD (w_recv (ci := 0) (q0 := z_2) hK hP hz_2 rfl)) rfl rfl hl.1 rfl (lv_room (Nat.le_of_ble_eq_true rfl)) dX3_putOffHeldUpDuties_7 ⟨Nat.le_of_ble_eq_true rfl, Nat.le_of_ble_eq_true rfl⟩) hD hS hA (fun r_3 _ H locs w_4 hP hD hS => ?_)
      subst w_4
      have hP : va_P (dC, dI) vwCl (cw cy e0 ad L ((K_put S N j)) N) H := hP
      have hD : va_D A (cw cy e0 ad L ((K_put S N j)) N) := hD
      refine n_ge (tgt := 48) hx hb dX3_putOffHeldUpDuties_10 (by decide) (by omega) (by omega) (fun c_5 => ?_) (fun c_5 => ?_)
      · have ej9 : j = N 5 0 0 := by omega
        subst ej9
        rw [← hQQ]; exact end_v (u := ((K_put S N (N 5 0 0)), N)) hx hb hr hlocks dX3_putOffHeldUpDuties_48 hK hP hD hS rfl (Nat.le_of_ble_eq_true rfl) (Nat.le_of_ble_eq_true rfl)
      · have hj : j < N 5 0 0 := by omega
        obtain ⟨hdc, hdv⟩ := hDu j hj
        have hob := hO (N 3 j 1)
        refine lv_aload_n hx hb dX3_putOffHeldUpDuties_13 rfl (lv_at hl 0 rfl) ?_
        obtain ⟨z_6, hz_6⟩ := pl_get (ad := ad) (f := cc cy e0 ad ((K_put S N j)) N) (hMF 10 (by decide))
        rw [show cc cy e0 ad ((K_put S N j)) N (10, 0) = .inr (4, [.ref (ad (11, 0)), .ref (ad (12, 0)), .ref (ad (13, 0)), .ref (ad (14, 0)), .ref (ad (16, 0)), .int (((K_put S N j)) 0 0 0)]) from rfl] at hz_6
        refine va_get (D := (dC, dI)) (ci := 4) (v := .ref (ad (16, 0))) (C := RX3) (T := TX3) (N := 6) hx hb hts inX3_ hown hK hP z_6 hz_6 rfl 4 (by decide) lk0 (fun _ h9 => h9) rfl dX3_putOffHeldUpDuties_14 ?_
        refine lv_iload_n hx hb dX3_putOffHeldUpDuties_17 rfl (lv_at hl 1 rfl) ?_
        obtain ⟨z_7, hz_7⟩ := pl_get (ad := ad) (f := cc cy e0 ad ((K_put S N j)) N) (hMF 16 (by decide))
        rw [show cc cy e0 ad ((K_put S N j)) N (16, 0) = .inr (0, [.int (((K_put S N j)) 11 0 0), .ref (if N 7 0 0 = 0 then e0 else ad (17, 0)), .int (nI (N 5 0 0))]) from rfl] at hz_7
        obtain ⟨z_8, hz_8⟩ := pl_get (ad := ad) (f := cc cy e0 ad ((K_put S N j)) N) (hM17 (by omega))
        rw [show cc cy e0 ad ((K_put S N j)) N (17, 0) = .inl (cy 3, N 7 0 0, .inr (.inr (.inr (.inr (fun j => if j < N 5 0 0 then some (ad (8, j)) else none))))) from rfl] at hz_8
        rw [if_neg (show ¬ N 7 0 0 = 0 by omega)] at hz_7
        refine call_r (va_runV (As := [.int (nI j)]) (rest := []) ⟨hx, hb, hml, hown, hts⟩ (qJx4a65c_get_915e3 l dC dI cy e0 mi (cw cy e0 ad L ((K_put S N j)) N) H.size _ _ z_7 z_8 (N 5 0 0) (N 7 0 0) j (ad (8, j)) _ _ hz_7 hz_8 (by omega) (by omega) (if_pos (by omega)) (by omega) (by omega)) (cwV 1 hts gX3_putOffHeldUpDuties_Jx4a65c_get_915e3 rfl rfl rfl (by decide +kernel) ⟨Nat.le_of_ble_eq_true rfl, Nat.le_of_ble_eq_true rfl⟩) (preV hK hP hD (w_recv (ci := 0) (q0 := z_7) hK hP hz_7 rfl)) rfl rfl hl.1 rfl (lv_room (Nat.le_of_ble_eq_true rfl)) dX3_putOffHeldUpDuties_18 ⟨Nat.le_of_ble_eq_true rfl, Nat.le_of_ble_eq_true rfl⟩) hD hS hA (fun r_9 _ H locs w_10 hP hD hS => ?_)
        subst w_10
        have hP : va_P (dC, dI) vwCl (cw cy e0 ad L ((K_put S N j)) N) H := hP
        have hD : va_D A (cw cy e0 ad L ((K_put S N j)) N) := hD
        obtain ⟨z_11, hz_11⟩ := pl_get (ad := ad) (f := cc cy e0 ad ((K_put S N j)) N) (hM8 j (by omega))
        rw [show cc cy e0 ad ((K_put S N j)) N (8, j) = .inr (2, [.ref (ad (0, N 3 j 0)), .ref (ad (9, N 3 j 1)), .int (((K_put S N j)) 9 j 0), .int (((K_put S N j)) 9 j 1)]) from rfl] at hz_11
        refine va_castS (nm := RX1) hx hb hown lk1 (hK.1 2 _ rfl).2 (w_recv (ci := 2) (q0 := z_11) hK hP hz_11 rfl) dX3_putOffHeldUpDuties_21 ?_
        refine lv_astore_n (lv' := [(2, .ref (ad (8, j))), (0, .ref (ad (10, 0))), (1, .int (nI j))]) hx hb dX3_putOffHeldUpDuties_24 rfl hl (by decide) rfl (fun ls hl => ?_)
        refine lv_aload_n hx hb dX3_putOffHeldUpDuties_25 rfl (lv_at hl 0 rfl) ?_
        obtain ⟨z_12, hz_12⟩ := pl_get (ad := ad) (f := cc cy e0 ad ((K_put S N j)) N) (hM8 j (by omega))
        rw [show cc cy e0 ad ((K_put S N j)) N (8, j) = .inr (2, [.ref (ad (0, N 3 j 0)), .ref (ad (9, N 3 j 1)), .int (((K_put S N j)) 9 j 0), .int (((K_put S N j)) 9 j 1)]) from rfl] at hz_12
        refine call_i (va_runV (As := []) (rest := []) ⟨hx, hb, hml, hown, hts⟩ (qX1_isHeldUp l dC dI cy e0 mi ad L ((K_put S N j)) N H.size j hI0 hj) (cwV 0 hts gX3_putOffHeldUpDuties_X1_isHeldUp rfl rfl rfl (by decide +kernel) ⟨Nat.le_of_ble_eq_true rfl, Nat.le_of_ble_eq_true rfl⟩) (preV hK hP hD (w_recv (ci := 2) (q0 := z_12) hK hP hz_12 rfl)) rfl rfl hl.1 rfl (lv_room (Nat.le_of_ble_eq_true rfl)) dX3_putOffHeldUpDuties_26 ⟨Nat.le_of_ble_eq_true rfl, Nat.le_of_ble_eq_true rfl⟩) hD hS hA (fun r_13 u H locs w_14 hP hD hS => ?_)
        obtain ⟨rfl, rfl⟩ := w_14
        have hP : va_P (dC, dI) vwCl (cw cy e0 ad L ((K_put S N j)) N) H := hP
        have hD : va_D A (cw cy e0 ad L ((K_put S N j)) N) := hD
        refine br_eq (tgt := 42) hx hb dX3_putOffHeldUpDuties_29 (by decide) (fun c_15 => ?_) (fun c_15 => ?_)
        · refine lv_iinc (v := nI (j + 1)) (lv' := [(1, .int (nI (j + 1))), (2, .ref (ad (8, j))), (0, .ref (ad (10, 0)))]) hx hb dX3_putOffHeldUpDuties_42 hl (k := 2) rfl (by rw [show Int32.ofInt 1 = 1 from rfl]; exact nI_1 _) (by decide) rfl (fun ls hl => ?_)
          refine lv_goto (tgt := 2) hx hb dX3_putOffHeldUpDuties_45 (by decide) ?_
          have e9 : K_put S N (j + 1) = (K_put S N j) := by simp only [K_put, c_15, and_true, true_and, and_false, false_and, if_true, if_false, not_true, not_false_iff, not_false_eq_true, or_true, true_or, or_false, false_or, ite_true, ite_false, and_self, Classical.not_not, Bool.false_eq_true]
          exact ih ((N 5 0 0) - (j + 1)) (by omega) (j + 1)  rfl (by omega)  H locs ls (by rw [e9]; exact hP) (by rw [e9]; exact hD) hS (by exact lv_sub hl [2, 0] rfl)
        · refine lv_aload_n hx hb dX3_putOffHeldUpDuties_32 rfl (lv_at hl 0 rfl) ?_
          refine lv_dup hx hb dX3_putOffHeldUpDuties_33 rfl ?_
          obtain ⟨z_16, hz_16⟩ := pl_get (ad := ad) (f := cc cy e0 ad ((K_put S N j)) N) (hM8 j (by omega))
          rw [show cc cy e0 ad ((K_put S N j)) N (8, j) = .inr (2, [.ref (ad (0, N 3 j 0)), .ref (ad (9, N 3 j 1)), .int (((K_put S N j)) 9 j 0), .int (((K_put S N j)) 9 j 1)]) from rfl] at hz_16
          refine va_get (D := (dC, dI)) (ci := 2) (v := .int (((K_put S N j)) 9 j 1)) (C := RX1) (T := TX1) (N := 4) hx hb hts inX1_ hown hK hP z_16 hz_16 rfl 3 (by decide) lk2 (fun _ h9 => h9) rfl dX3_putOffHeldUpDuties_34 ?_
          refine lv_iconst (v := nI 1) hx hb dX3_putOffHeldUpDuties_37 (by decide) ?_
          refine lv_iadd hx hb dX3_putOffHeldUpDuties_38 ?_
          obtain ⟨z_17, hz_17⟩ := pl_get (ad := ad) (f := cc cy e0 ad ((K_put S N j)) N) (hM8 j (by omega))
          rw [show cc cy e0 ad ((K_put S N j)) N (8, j) = .inr (2, [.ref (ad (0, N 3 j 0)), .ref (ad (9, N 3 j 1)), .int (((K_put S N j)) 9 j 0), .int (((K_put S N j)) 9 j 1)]) from rfl] at hz_17
          have eW : (cw cy e0 ad L ((K_put S N j)) N).set z_17 (ad (8, j), .inr (2, [.ref (ad (0, N 3 j 0)), .ref (ad (9, N 3 j 1)), .int (((K_put S N j)) 9 j 0), .int ((((K_put S N j)) 9 j 1) + (nI 1))])) = cw cy e0 ad L (su ((K_put S N j)) 9 j (upd (((K_put S N j)) 9 j) 1 ((((K_put S N j)) 9 j 1) + (nI 1)))) N := st_8b ((((K_put S N j)) 9 j 1) + (nI 1)) hD hz_17 (hM8 j (by omega))
          refine va_put (D := (dC, dI)) (ci := 2) (v := .int ((((K_put S N j)) 9 j 1) + (nI 1))) (ty := .int) (C := RX1) (T := TX1) (N := 4) hx hb hts inX1_ tyX1 tyX1_ok nmX1 hown hK hP hD hS z_17 hz_17 rfl 3 (by decide) lk2 (fun _ h9 => h9) rfl (by decide +kernel) rfl rfl (Nat.le_of_ble_eq_true rfl) dX3_putOffHeldUpDuties_39 (fun H locs hP hD hS => ?_)
          have hP : va_P (dC, dI) vwCl (cw cy e0 ad L (su ((K_put S N j)) 9 j (upd (((K_put S N j)) 9 j) 1 ((((K_put S N j)) 9 j 1) + (nI 1)))) N) H := by rw [← eW]; exact hP
          have hD : va_D A (cw cy e0 ad L (su ((K_put S N j)) 9 j (upd (((K_put S N j)) 9 j) 1 ((((K_put S N j)) 9 j 1) + (nI 1)))) N) := by rw [← eW]; exact hD
          refine lv_iinc (v := nI (j + 1)) (lv' := [(1, .int (nI (j + 1))), (2, .ref (ad (8, j))), (0, .ref (ad (10, 0)))]) hx hb dX3_putOffHeldUpDuties_42 hl (k := 2) rfl (by rw [show Int32.ofInt 1 = 1 from rfl]; exact nI_1 _) (by decide) rfl (fun ls hl => ?_)
          refine lv_goto (tgt := 2) hx hb dX3_putOffHeldUpDuties_45 (by decide) ?_
          have e9 : K_put S N (j + 1) = su ((K_put S N j)) 9 j (upd (((K_put S N j)) 9 j) 1 ((((K_put S N j)) 9 j 1) + (nI 1))) := by simp only [K_put, eq_true c_15, and_true, true_and, and_false, false_and, if_true, if_false, not_true, not_false_iff, not_false_eq_true, or_true, true_or, or_false, false_or, ite_true, ite_false, and_self, Classical.not_not, Bool.false_eq_true]
          exact ih ((N 5 0 0) - (j + 1)) (by omega) (j + 1)  rfl (by omega)  H locs ls (by rw [e9]; exact hP) (by rw [e9]; exact hD) hS (by exact lv_sub hl [2, 0] rfl)
  exact hl_po ((N 5 0 0)) 0  rfl (Nat.zero_le _)  H locs ls hP hD hS (lv_sub hl [1, 0] rfl)

set_option maxHeartbeats 4000000 in
set_option maxRecDepth 100000 in
/-- breachUncured -/
theorem qX3_breachUncuredDuties (l : Launch) (dC : Nat → ClassId) (dI : Nat → Nat → Nat) (cy : Nat → ClassId) (e0 mi : Nat) (ad : Lc → Nat) (L : List Lc) (S : SS) (N : NN) (sz : Nat) (hI : okC L N) : Met l yX3_breachUncuredDuties wsX3_breachUncuredDuties ({ frames := 3, cells := 0, slots := 0, locals := 64 }) (va_Pc [.ref (ad (10, 0))] (wPre (dC, dI) (tyL cy) (cw cy e0 ad L S N) sz)) (QI (dC, dI) (tyL cy) (fun (r : Int32) (u : CS) => r = nI (K_bn S N (N 5 0 0)) ∧ u = (K_bS S N (N 5 0 0), N)) (cwU cy e0 ad L) (va_A (cw cy e0 ad L S N) sz)) 0 0 (va_A (cw cy e0 ad L S N) sz) := by
  refine en (cc := cX3_breachUncuredDuties) (maxL := 4) (ret := (some .int)) (own := RX3) (lv := [(0, .ref (ad (10, 0)))]) (by decide) rfl rfl (Nat.le_of_ble_eq_true rfl) rfl ?_
  intro p e s m below meth c ls A H locs hx hb hr hts hown hlocks hml hin hsz hK hP hD hS hA hl
  generalize hQQ : MQ below _ _ s _ _ A = QQ
  have hI0 := hI
  obtain ⟨⟨hM0, hM8, hM9, hMF, hM15, hM17⟩, hV, hLt, hO, hDu, hnc, hnd, hcC, hcD, hcC2, hcD2⟩ := hI
  have inX3_ : ∀ w ∈ wsX30, w ∈ wsX3_breachUncuredDuties := fun _ h => List.mem_cons_of_mem _ (List.mem_append_left _ (List.mem_append_left _ (List.mem_append_left _ (List.mem_append_left _ (List.mem_append_right _ h)))))
  have inX1_ : ∀ w ∈ wsX10, w ∈ wsX3_breachUncuredDuties := fun _ h => List.mem_cons_of_mem _ (List.mem_append_left _ (List.mem_append_left _ (List.mem_append_left _ (List.mem_append_right _ h))))
  have lk0 : (Cond.fieldLink RX3 29 "ClauseShop" "dutyList" "Ljava/util/ArrayList;").before (([.ref (ad (10, 0))] : List Value).toArray) s = true := hts _ (List.mem_of_getElem? (i := 1) rfl)
  have lk1 : (Cond.classLink RX3 152 "ClauseShop$Duty").before (([.ref (ad (10, 0))] : List Value).toArray) s = true := hts _ (List.mem_of_getElem? (i := 2) rfl)
  have lk2 : (Cond.fieldLink RX3 151 "ClauseShop$Duty" "state" "I").before (([.ref (ad (10, 0))] : List Value).toArray) s = true := hts _ (List.mem_of_getElem? (i := 3) rfl)
  have lk3 : (Cond.fieldLink RX3 32 "ClauseShop" "today" "I").before (([.ref (ad (10, 0))] : List Value).toArray) s = true := hts _ (List.mem_of_getElem? (i := 4) rfl)
  have lk4 : (Cond.fieldLink RX3 156 "ClauseShop$Duty" "day" "I").before (([.ref (ad (10, 0))] : List Value).toArray) s = true := hts _ (List.mem_of_getElem? (i := 5) rfl)
  refine lv_iconst (v := nI 0) hx hb dX3_breachUncuredDuties_0 (by decide) ?_
  refine lv_istore_n (lv' := [(1, .int (nI 0)), (0, .ref (ad (10, 0)))]) hx hb dX3_breachUncuredDuties_1 rfl hl (by decide) rfl (fun ls hl => ?_)
  refine lv_iconst (v := nI 0) hx hb dX3_breachUncuredDuties_2 (by decide) ?_
  refine lv_istore_n (lv' := [(2, .int (nI 0)), (1, .int (nI 0)), (0, .ref (ad (10, 0)))]) hx hb dX3_breachUncuredDuties_3 rfl hl (by decide) rfl (fun ls hl => ?_)
  have hl_br : ∀ (k9 j : Nat), (N 5 0 0) - j = k9 → j ≤ (N 5 0 0) → ∀ (H : Heap) (locs : List Loc) (ls : Array Slot), va_P (dC, dI) vwCl (cw cy e0 ad L ((K_bS S N j)) N) H → va_D A (cw cy e0 ad L ((K_bS S N j)) N) → va_S A s.heap H locs → lv_has ls 4 [(0, .ref (ad (10, 0))), (1, .int (nI (K_bn S N j))), (2, .int (nI j))] → W p l e ({ frames := 3, cells := 0, slots := 0, locals := 64 }) s m (([.ref (ad (10, 0))] : List Value).toArray) below meth c H locs 0 0 QQ (F0 m 4 ls []) := by
    intro k9
    induction k9 using Nat.strongRecOn with
    | _ k9 ih =>
      intro j  hk9 hle9  H locs ls hP hD hS hl
      refine lv_iload_n hx hb dX3_breachUncuredDuties_4 rfl (lv_at hl 2 rfl) ?_
      refine lv_aload_n hx hb dX3_breachUncuredDuties_5 rfl (lv_at hl 0 rfl) ?_
      obtain ⟨z_1, hz_1⟩ := pl_get (ad := ad) (f := cc cy e0 ad ((K_bS S N j)) N) (hMF 10 (by decide))
      rw [show cc cy e0 ad ((K_bS S N j)) N (10, 0) = .inr (4, [.ref (ad (11, 0)), .ref (ad (12, 0)), .ref (ad (13, 0)), .ref (ad (14, 0)), .ref (ad (16, 0)), .int (((K_bS S N j)) 0 0 0)]) from rfl] at hz_1
      refine va_get (D := (dC, dI)) (ci := 4) (v := .ref (ad (16, 0))) (C := RX3) (T := TX3) (N := 6) hx hb hts inX3_ hown hK hP z_1 hz_1 rfl 4 (by decide) lk0 (fun _ h9 => h9) rfl dX3_breachUncuredDuties_6 ?_
      obtain ⟨z_2, hz_2⟩ := pl_get (ad := ad) (f := cc cy e0 ad ((K_bS S N j)) N) (hMF 16 (by decide))
      rw [show cc cy e0 ad ((K_bS S N j)) N (16, 0) = .inr (0, [.int (((K_bS S N j)) 11 0 0), .ref (if N 7 0 0 = 0 then e0 else ad (17, 0)), .int (nI (N 5 0 0))]) from rfl] at hz_2
      refine call_i (va_runV (As := []) (rest := [.int (nI j)]) ⟨hx, hb, hml, hown, hts⟩ (qJx4a65c_size_8abf5 l dC dI cy e0 mi (cw cy e0 ad L ((K_bS S N j)) N) H.size _ z_2 (N 5 0 0) (((K_bS S N j)) 11 0 0) _ hz_2) (cwV 0 hts gX3_breachUncuredDuties_Jx4a65c_size_8abf5 rfl rfl rfl (by decide +kernel) ⟨Nat.le_of_ble_eq_true rfl, Nat.le_of_ble_eq_true rfl⟩) (preV hK hP hD (w_recv (ci := 0) (q0 := z_2) hK hP hz_2 rfl)) rfl rfl hl.1 rfl (lv_room (Nat.le_of_ble_eq_true rfl)) dX3_breachUncuredDuties_9 ⟨Nat.le_of_ble_eq_true rfl, Nat.le_of_ble_eq_true rfl⟩) hD hS hA (fun r_3 _ H locs w_4 hP hD hS => ?_)
      subst w_4
      have hP : va_P (dC, dI) vwCl (cw cy e0 ad L ((K_bS S N j)) N) H := hP
      have hD : va_D A (cw cy e0 ad L ((K_bS S N j)) N) := hD
      refine n_ge (tgt := 69) hx hb dX3_breachUncuredDuties_12 (by decide) (by omega) (by omega) (fun c_5 => ?_) (fun c_5 => ?_)
      · have ej9 : j = N 5 0 0 := by omega
        subst ej9
        refine lv_iload_n hx hb dX3_breachUncuredDuties_69 rfl (lv_at hl 1 rfl) ?_
        rw [← hQQ]; exact end_i (u := ((K_bS S N (N 5 0 0)), N)) hx hb hr hlocks dX3_breachUncuredDuties_70 hK hP hD hS ⟨rfl, rfl⟩ (Nat.le_of_ble_eq_true rfl) (Nat.le_of_ble_eq_true rfl)
      · have hj : j < N 5 0 0 := by omega
        obtain ⟨hdc, hdv⟩ := hDu j hj
        have hob := hO (N 3 j 1)
        refine lv_aload_n hx hb dX3_breachUncuredDuties_15 rfl (lv_at hl 0 rfl) ?_
        obtain ⟨z_6, hz_6⟩ := pl_get (ad := ad) (f := cc cy e0 ad ((K_bS S N j)) N) (hMF 10 (by decide))
        rw [show cc cy e0 ad ((K_bS S N j)) N (10, 0) = .inr (4, [.ref (ad (11, 0)), .ref (ad (12, 0)), .ref (ad (13, 0)), .ref (ad (14, 0)), .ref (ad (16, 0)), .int (((K_bS S N j)) 0 0 0)]) from rfl] at hz_6
        refine va_get (D := (dC, dI)) (ci := 4) (v := .ref (ad (16, 0))) (C := RX3) (T := TX3) (N := 6) hx hb hts inX3_ hown hK hP z_6 hz_6 rfl 4 (by decide) lk0 (fun _ h9 => h9) rfl dX3_breachUncuredDuties_16 ?_
        refine lv_iload_n hx hb dX3_breachUncuredDuties_19 rfl (lv_at hl 2 rfl) ?_
        obtain ⟨z_7, hz_7⟩ := pl_get (ad := ad) (f := cc cy e0 ad ((K_bS S N j)) N) (hMF 16 (by decide))
        rw [show cc cy e0 ad ((K_bS S N j)) N (16, 0) = .inr (0, [.int (((K_bS S N j)) 11 0 0), .ref (if N 7 0 0 = 0 then e0 else ad (17, 0)), .int (nI (N 5 0 0))]) from rfl] at hz_7
        obtain ⟨z_8, hz_8⟩ := pl_get (ad := ad) (f := cc cy e0 ad ((K_bS S N j)) N) (hM17 (by omega))
        rw [show cc cy e0 ad ((K_bS S N j)) N (17, 0) = .inl (cy 3, N 7 0 0, .inr (.inr (.inr (.inr (fun j => if j < N 5 0 0 then some (ad (8, j)) else none))))) from rfl] at hz_8
        rw [if_neg (show ¬ N 7 0 0 = 0 by omega)] at hz_7
        refine call_r (va_runV (As := [.int (nI j)]) (rest := []) ⟨hx, hb, hml, hown, hts⟩ (qJx4a65c_get_915e3 l dC dI cy e0 mi (cw cy e0 ad L ((K_bS S N j)) N) H.size _ _ z_7 z_8 (N 5 0 0) (N 7 0 0) j (ad (8, j)) _ _ hz_7 hz_8 (by omega) (by omega) (if_pos (by omega)) (by omega) (by omega)) (cwV 1 hts gX3_breachUncuredDuties_Jx4a65c_get_915e3 rfl rfl rfl (by decide +kernel) ⟨Nat.le_of_ble_eq_true rfl, Nat.le_of_ble_eq_true rfl⟩) (preV hK hP hD (w_recv (ci := 0) (q0 := z_7) hK hP hz_7 rfl)) rfl rfl hl.1 rfl (lv_room (Nat.le_of_ble_eq_true rfl)) dX3_breachUncuredDuties_20 ⟨Nat.le_of_ble_eq_true rfl, Nat.le_of_ble_eq_true rfl⟩) hD hS hA (fun r_9 _ H locs w_10 hP hD hS => ?_)
        subst w_10
        have hP : va_P (dC, dI) vwCl (cw cy e0 ad L ((K_bS S N j)) N) H := hP
        have hD : va_D A (cw cy e0 ad L ((K_bS S N j)) N) := hD
        obtain ⟨z_11, hz_11⟩ := pl_get (ad := ad) (f := cc cy e0 ad ((K_bS S N j)) N) (hM8 j (by omega))
        rw [show cc cy e0 ad ((K_bS S N j)) N (8, j) = .inr (2, [.ref (ad (0, N 3 j 0)), .ref (ad (9, N 3 j 1)), .int (((K_bS S N j)) 9 j 0), .int (((K_bS S N j)) 9 j 1)]) from rfl] at hz_11
        refine va_castS (nm := RX1) hx hb hown lk1 (hK.1 2 _ rfl).2 (w_recv (ci := 2) (q0 := z_11) hK hP hz_11 rfl) dX3_breachUncuredDuties_23 ?_
        refine lv_astore_n (lv' := [(3, .ref (ad (8, j))), (0, .ref (ad (10, 0))), (1, .int (nI (K_bn S N j))), (2, .int (nI j))]) hx hb dX3_breachUncuredDuties_26 rfl hl (by decide) rfl (fun ls hl => ?_)
        refine lv_aload_n hx hb dX3_breachUncuredDuties_27 rfl (lv_at hl 0 rfl) ?_
        obtain ⟨z_12, hz_12⟩ := pl_get (ad := ad) (f := cc cy e0 ad ((K_bS S N j)) N) (hM8 j (by omega))
        rw [show cc cy e0 ad ((K_bS S N j)) N (8, j) = .inr (2, [.ref (ad (0, N 3 j 0)), .ref (ad (9, N 3 j 1)), .int (((K_bS S N j)) 9 j 0), .int (((K_bS S N j)) 9 j 1)]) from rfl] at hz_12
        refine va_get (D := (dC, dI)) (ci := 2) (v := .int (((K_bS S N j)) 9 j 0)) (C := RX1) (T := TX1) (N := 4) hx hb hts inX1_ hown hK hP z_12 hz_12 rfl 2 (by decide) lk2 (fun _ h9 => h9) rfl dX3_breachUncuredDuties_28 ?_
        refine lv_iconst (v := nI 2) hx hb dX3_breachUncuredDuties_31 (by decide) ?_
        refine lv_icmp_ne (tgt := 63) hx hb dX3_breachUncuredDuties_32 (by decide) (fun c_13 => ?_) (fun c_13 => ?_)
        · refine lv_iinc (v := nI (j + 1)) (lv' := [(2, .int (nI (j + 1))), (3, .ref (ad (8, j))), (0, .ref (ad (10, 0))), (1, .int (nI (K_bn S N j)))]) hx hb dX3_breachUncuredDuties_63 hl (k := 3) rfl (by rw [show Int32.ofInt 1 = 1 from rfl]; exact nI_1 _) (by decide) rfl (fun ls hl => ?_)
          refine lv_goto (tgt := 4) hx hb dX3_breachUncuredDuties_66 (by decide) ?_
          have e9 : K_bS S N (j + 1) = (K_bS S N j) := by simp only [K_bS, isLateN, c_13, and_true, true_and, and_false, false_and, if_true, if_false, not_true, not_false_iff, not_false_eq_true, or_true, true_or, or_false, false_or, ite_true, ite_false, and_self, Classical.not_not, Bool.false_eq_true]
          have e8 : K_bn S N (j + 1) = K_bn S N j := by simp only [K_bn, isLateN, c_13, and_true, true_and, and_false, false_and, if_true, if_false, not_true, not_false_iff, not_false_eq_true, or_true, true_or, or_false, false_or, ite_true, ite_false, and_self, Classical.not_not, Bool.false_eq_true]
          exact ih ((N 5 0 0) - (j + 1)) (by omega) (j + 1)  rfl (by omega)  H locs ls (by rw [e9]; exact hP) (by rw [e9]; exact hD) hS (by rw [e8]; exact lv_sub hl [2, 3, 0] rfl)
        · refine lv_aload_n hx hb dX3_breachUncuredDuties_35 rfl (lv_at hl 1 rfl) ?_
          obtain ⟨z_14, hz_14⟩ := pl_get (ad := ad) (f := cc cy e0 ad ((K_bS S N j)) N) (hMF 10 (by decide))
          rw [show cc cy e0 ad ((K_bS S N j)) N (10, 0) = .inr (4, [.ref (ad (11, 0)), .ref (ad (12, 0)), .ref (ad (13, 0)), .ref (ad (14, 0)), .ref (ad (16, 0)), .int (((K_bS S N j)) 0 0 0)]) from rfl] at hz_14
          refine va_get (D := (dC, dI)) (ci := 4) (v := .int (((K_bS S N j)) 0 0 0)) (C := RX3) (T := TX3) (N := 6) hx hb hts inX3_ hown hK hP z_14 hz_14 rfl 5 (by decide) lk3 (fun _ h9 => h9) rfl dX3_breachUncuredDuties_36 ?_
          refine lv_aload_n hx hb dX3_breachUncuredDuties_39 rfl (lv_at hl 0 rfl) ?_
          obtain ⟨z_15, hz_15⟩ := pl_get (ad := ad) (f := cc cy e0 ad ((K_bS S N j)) N) (hM8 j (by omega))
          rw [show cc cy e0 ad ((K_bS S N j)) N (8, j) = .inr (2, [.ref (ad (0, N 3 j 0)), .ref (ad (9, N 3 j 1)), .int (((K_bS S N j)) 9 j 0), .int (((K_bS S N j)) 9 j 1)]) from rfl] at hz_15
          refine va_get (D := (dC, dI)) (ci := 2) (v := .int (((K_bS S N j)) 9 j 1)) (C := RX1) (T := TX1) (N := 4) hx hb hts inX1_ hown hK hP z_15 hz_15 rfl 3 (by decide) lk4 (fun _ h9 => h9) rfl dX3_breachUncuredDuties_40 ?_
          refine lv_icmp_le (tgt := 63) hx hb dX3_breachUncuredDuties_43 (by decide) (fun c_16 => ?_) (fun c_16 => ?_)
          · have c_16l : ¬ (K_bS S N j) 9 j 1 < (K_bS S N j) 0 0 0 := Int32.not_lt.mpr c_16
            refine lv_iinc (v := nI (j + 1)) (lv' := [(2, .int (nI (j + 1))), (3, .ref (ad (8, j))), (0, .ref (ad (10, 0))), (1, .int (nI (K_bn S N j)))]) hx hb dX3_breachUncuredDuties_63 hl (k := 3) rfl (by rw [show Int32.ofInt 1 = 1 from rfl]; exact nI_1 _) (by decide) rfl (fun ls hl => ?_)
            refine lv_goto (tgt := 4) hx hb dX3_breachUncuredDuties_66 (by decide) ?_
            have e9 : K_bS S N (j + 1) = (K_bS S N j) := by simp only [K_bS, isLateN, eq_true c_13, c_16l, and_true, true_and, and_false, false_and, if_true, if_false, not_true, not_false_iff, not_false_eq_true, or_true, true_or, or_false, false_or, ite_true, ite_false, and_self, Classical.not_not, Bool.false_eq_true]
            have e8 : K_bn S N (j + 1) = K_bn S N j := by simp only [K_bn, isLateN, eq_true c_13, c_16l, and_true, true_and, and_false, false_and, if_true, if_false, not_true, not_false_iff, not_false_eq_true, or_true, true_or, or_false, false_or, ite_true, ite_false, and_self, Classical.not_not, Bool.false_eq_true]
            exact ih ((N 5 0 0) - (j + 1)) (by omega) (j + 1)  rfl (by omega)  H locs ls (by rw [e9]; exact hP) (by rw [e9]; exact hD) hS (by rw [e8]; exact lv_sub hl [2, 3, 0] rfl)
          · have c_16l : (K_bS S N j) 9 j 1 < (K_bS S N j) 0 0 0 := Int32.not_le.mp c_16
            refine lv_aload_n hx hb dX3_breachUncuredDuties_46 rfl (lv_at hl 0 rfl) ?_
            refine lv_iconst (v := nI 3) hx hb dX3_breachUncuredDuties_47 (by decide) ?_
            refine lv_aload_n hx hb dX3_breachUncuredDuties_48 rfl (lv_at hl 1 rfl) ?_
            obtain ⟨z_17, hz_17⟩ := pl_get (ad := ad) (f := cc cy e0 ad ((K_bS S N j)) N) (hMF 10 (by decide))
            rw [show cc cy e0 ad ((K_bS S N j)) N (10, 0) = .inr (4, [.ref (ad (11, 0)), .ref (ad (12, 0)), .ref (ad (13, 0)), .ref (ad (14, 0)), .ref (ad (16, 0)), .int (((K_bS S N j)) 0 0 0)]) from rfl] at hz_17
            refine va_get (D := (dC, dI)) (ci := 4) (v := .int (((K_bS S N j)) 0 0 0)) (C := RX3) (T := TX3) (N := 6) hx hb hts inX3_ hown hK hP z_17 hz_17 rfl 5 (by decide) lk3 (fun _ h9 => h9) rfl dX3_breachUncuredDuties_49 ?_
            obtain ⟨z_18, hz_18⟩ := pl_get (ad := ad) (f := cc cy e0 ad ((K_bS S N j)) N) (hM8 j (by omega))
            rw [show cc cy e0 ad ((K_bS S N j)) N (8, j) = .inr (2, [.ref (ad (0, N 3 j 0)), .ref (ad (9, N 3 j 1)), .int (((K_bS S N j)) 9 j 0), .int (((K_bS S N j)) 9 j 1)]) from rfl] at hz_18
            refine call_v (va_runV (As := [.int (nI 3), .int (((K_bS S N j)) 0 0 0)]) (rest := []) ⟨hx, hb, hml, hown, hts⟩ (qX1_move l dC dI cy e0 mi ad L ((K_bS S N j)) N H.size j (nI 3) (((K_bS S N j)) 0 0 0) hI0 hj) (cwV 2 hts gX3_breachUncuredDuties_X1_move rfl rfl rfl (by decide +kernel) ⟨Nat.le_of_ble_eq_true rfl, Nat.le_of_ble_eq_true rfl⟩) (preV hK hP hD (w_recv (ci := 2) (q0 := z_18) hK hP hz_18 rfl)) rfl rfl hl.1 rfl (lv_room (Nat.le_of_ble_eq_true rfl)) dX3_breachUncuredDuties_52 ⟨Nat.le_of_ble_eq_true rfl, Nat.le_of_ble_eq_true rfl⟩) hD hS hA (fun u H locs w_20 hP hD hS => ?_)
            subst w_20
            have hP : va_P (dC, dI) vwCl (cw cy e0 ad L (su ((K_bS S N j)) 9 j (upd (upd (((K_bS S N j)) 9 j) 0 (nI 3)) 1 (((K_bS S N j)) 0 0 0))) N) H := hP
            have hD : va_D A (cw cy e0 ad L (su ((K_bS S N j)) 9 j (upd (upd (((K_bS S N j)) 9 j) 0 (nI 3)) 1 (((K_bS S N j)) 0 0 0))) N) := hD
            refine lv_aload_n hx hb dX3_breachUncuredDuties_55 rfl (lv_at hl 0 rfl) ?_
            refine lv_iconst (v := nI 1) hx hb dX3_breachUncuredDuties_56 (by decide) ?_
            obtain ⟨z_21, hz_21⟩ := pl_get (ad := ad) (f := cc cy e0 ad (su ((K_bS S N j)) 9 j (upd (upd (((K_bS S N j)) 9 j) 0 (nI 3)) 1 (((K_bS S N j)) 0 0 0))) N) (hM8 j (by omega))
            rw [show cc cy e0 ad (su ((K_bS S N j)) 9 j (upd (upd (((K_bS S N j)) 9 j) 0 (nI 3)) 1 (((K_bS S N j)) 0 0 0))) N (8, j) = .inr (2, [.ref (ad (0, N 3 j 0)), .ref (ad (9, N 3 j 1)), .int (nI 3), .int (((K_bS S N j)) 0 0 0)]) from by first | rfl | simp [cc, su, nu, upd]] at hz_21
            refine call_v (va_runV (As := [.int (nI 1)]) (rest := []) ⟨hx, hb, hml, hown, hts⟩ (qX1_countBreach l dC dI cy e0 mi ad L (su ((K_bS S N j)) 9 j (upd (upd (((K_bS S N j)) 9 j) 0 (nI 3)) 1 (((K_bS S N j)) 0 0 0))) N H.size j (nI 1) hI0 hj) (cwV 1 hts gX3_breachUncuredDuties_X1_countBreach rfl rfl rfl (by decide +kernel) ⟨Nat.le_of_ble_eq_true rfl, Nat.le_of_ble_eq_true rfl⟩) (preV hK hP hD (w_recv (ci := 2) (q0 := z_21) hK hP hz_21 rfl)) rfl rfl hl.1 rfl (lv_room (Nat.le_of_ble_eq_true rfl)) dX3_breachUncuredDuties_57 ⟨Nat.le_of_ble_eq_true rfl, Nat.le_of_ble_eq_true rfl⟩) hD hS hA (fun u H locs w_23 hP hD hS => ?_)
            subst w_23
            have hP : va_P (dC, dI) vwCl (cw cy e0 ad L ((K_count (su ((K_bS S N j)) 9 j (upd (upd (((K_bS S N j)) 9 j) 0 (nI 3)) 1 (((K_bS S N j)) 0 0 0))) N j (nI 1))) N) H := hP
            have hD : va_D A (cw cy e0 ad L ((K_count (su ((K_bS S N j)) 9 j (upd (upd (((K_bS S N j)) 9 j) 0 (nI 3)) 1 (((K_bS S N j)) 0 0 0))) N j (nI 1))) N) := hD
            refine lv_iinc (v := nI (K_bn S N j + 1)) (lv' := [(1, .int (nI (K_bn S N j + 1))), (3, .ref (ad (8, j))), (0, .ref (ad (10, 0))), (2, .int (nI j))]) hx hb dX3_breachUncuredDuties_60 hl (k := 2) rfl (by rw [show Int32.ofInt 1 = 1 from rfl]; exact nI_1 _) (by decide) rfl (fun ls hl => ?_)
            refine lv_iinc (v := nI (j + 1)) (lv' := [(2, .int (nI (j + 1))), (1, .int (nI (K_bn S N j + 1))), (3, .ref (ad (8, j))), (0, .ref (ad (10, 0)))]) hx hb dX3_breachUncuredDuties_63 hl (k := 3) rfl (by rw [show Int32.ofInt 1 = 1 from rfl]; exact nI_1 _) (by decide) rfl (fun ls hl => ?_)
            refine lv_goto (tgt := 4) hx hb dX3_breachUncuredDuties_66 (by decide) ?_
            have e9 : K_bS S N (j + 1) = (K_count (su ((K_bS S N j)) 9 j (upd (upd (((K_bS S N j)) 9 j) 0 (nI 3)) 1 (((K_bS S N j)) 0 0 0))) N j (nI 1)) := by simp only [K_bS, isLateN, eq_true c_13, eq_true c_16l, and_true, true_and, and_false, false_and, if_true, if_false, not_true, not_false_iff, not_false_eq_true, or_true, true_or, or_false, false_or, ite_true, ite_false, and_self, Classical.not_not, Bool.false_eq_true]
            have e8 : K_bn S N (j + 1) = K_bn S N j + 1 := by simp only [K_bn, isLateN, eq_true c_13, eq_true c_16l, and_true, true_and, and_false, false_and, if_true, if_false, not_true, not_false_iff, not_false_eq_true, or_true, true_or, or_false, false_or, ite_true, ite_false, and_self, Classical.not_not, Bool.false_eq_true]
            exact ih ((N 5 0 0) - (j + 1)) (by omega) (j + 1)  rfl (by omega)  H locs ls (by rw [e9]; exact hP) (by rw [e9]; exact hD) hS (by rw [e8]; exact lv_sub hl [3, 1, 0] rfl)
  exact hl_br ((N 5 0 0)) 0  rfl (Nat.zero_le _)  H locs ls hP hD hS (lv_sub hl [2, 1, 0] rfl)

set_option maxHeartbeats 4000000 in
set_option maxRecDepth 100000 in
/-- pass -/
theorem qX3_pass (l : Launch) (dC : Nat → ClassId) (dI : Nat → Nat → Nat) (cy : Nat → ClassId) (e0 mi : Nat) (ad : Lc → Nat) (L : List Lc) (S : SS) (N : NN) (sz : Nat) (a : Int32) (hI : okC L N) (hst : l.stackTraces = false) : vx_Met l yX3_pass wsX3_pass ({ frames := 6, cells := 2, slots := 12, locals := 90 }) (va_Pc [.ref (ad (10, 0)), .int a] (wPreX (dC, dI) (tyL cy) e0 mi (cw cy e0 ad L S N) sz)) (QI (dC, dI) (tyL cy) (fun (r : Int32) (u : CS) => V_pass S a = 0 ∧ r = nI (K_passN S N (ix a)) ∧ u = (K_passS S N (ix a), N)) (cwU cy e0 ad L) (va_A (cw cy e0 ad L S N) sz)) (XX (dC, dI) (tyL cy) (fun E => (V_pass S a = 1 ∧ E = xIA) ∨ (V_pass S a = 2 ∧ E = xIS)) (cw cy e0 ad L S N) (va_A (cw cy e0 ad L S N) sz)) 2 12 (va_A (cw cy e0 ad L S N) sz) := by
  refine enX (cc := cX3_pass) (maxL := 4) (ret := (some .int)) (own := RX3) (lv := [(0, .ref (ad (10, 0))), (1, .int a)]) (by decide) rfl rfl (Nat.le_of_ble_eq_true rfl) rfl ?_
  intro p e s m below meth c ls A H locs hx hb hr hts hown hlocks hml hin hsz hK hP hD hS hA hl ham hnt
  generalize hQQ : vx_MQ below _ _ _ s _ _ A = QQ
  have hI0 := hI
  obtain ⟨⟨hM0, hM8, hM9, hMF, hM15, hM17⟩, hV, hLt, hO, hDu, hnc, hnd, hcC, hcD, hcC2, hcD2⟩ := hI
  have inX3_ : ∀ w ∈ wsX30, w ∈ wsX3_pass := fun _ h => List.mem_cons_of_mem _ (List.mem_append_left _ (List.mem_append_left _ (List.mem_append_left _ (List.mem_append_left _ (List.mem_append_left _ (List.mem_append_left _ (List.mem_append_right _ h)))))))
  have lk0 : (Cond.fieldLink RX3 32 "ClauseShop" "today" "I").before (([.ref (ad (10, 0)), .int a] : List Value).toArray) s = true := hts _ (List.mem_of_getElem? (i := 5) rfl)
  have lk1 : (Cond.classLink RX3 58 "java/lang/IllegalStateException").before (([.ref (ad (10, 0)), .int a] : List Value).toArray) s = true := hts _ (List.mem_of_getElem? (i := 3) rfl)
  have lk2 : (Cond.initialized "java/lang/IllegalStateException").before (([.ref (ad (10, 0)), .int a] : List Value).toArray) s = true := hts _ (List.mem_of_getElem? (i := 4) rfl)
  have lk3 : (Cond.classLink RX3 47 "java/lang/IllegalArgumentException").before (([.ref (ad (10, 0)), .int a] : List Value).toArray) s = true := hts _ (List.mem_of_getElem? (i := 1) rfl)
  have lk4 : (Cond.initialized "java/lang/IllegalArgumentException").before (([.ref (ad (10, 0)), .int a] : List Value).toArray) s = true := hts _ (List.mem_of_getElem? (i := 2) rfl)
  refine lv_iload_n hx hb dX3_pass_0 rfl (lv_at hl 1 rfl) ?_
  refine lv_iconst (v := nI 1) hx hb dX3_pass_1 (by decide) ?_
  refine lv_bipush (v := nI 100) hx hb dX3_pass_2 (by decide) ?_
  refine call_i (va_runS (As := [.int a, .int (nI 1), .int (nI 100)]) (rest := []) ⟨hx, hb, hml, hown, hts⟩ (qX3_isWithin l dC dI cy e0 mi (cw cy e0 ad L S N) H.size a (nI 1) (nI 100)) (va_cwS 3 hts gX3_pass_X3_isWithin rfl rfl rfl (by decide +kernel) ⟨Nat.le_of_ble_eq_true rfl, Nat.le_of_ble_eq_true rfl⟩) (preS hK hP hD) rfl rfl hl.1 rfl (lv_room (Nat.le_of_ble_eq_true rfl)) dX3_pass_4 ⟨Nat.le_of_ble_eq_true rfl, Nat.le_of_ble_eq_true rfl⟩) hD hS hA (fun r_1 u H locs w_2 hP hD hS => ?_)
  subst w_2
  have hP : va_P (dC, dI) vwCl (cw cy e0 ad L S N) H := hP
  have hD : va_D A (cw cy e0 ad L S N) := hD
  refine br_ne (tgt := 20) hx hb dX3_pass_7 (by decide) (fun c_3 => ?_) (fun c_3 => ?_)
  · refine lv_aload_n hx hb dX3_pass_20 rfl (lv_at hl 0 rfl) ?_
    obtain ⟨z_4, hz_4⟩ := pl_get (ad := ad) (f := cc cy e0 ad S N) (hMF 10 (by decide))
    rw [show cc cy e0 ad S N (10, 0) = .inr (4, [.ref (ad (11, 0)), .ref (ad (12, 0)), .ref (ad (13, 0)), .ref (ad (14, 0)), .ref (ad (16, 0)), .int (S 0 0 0)]) from rfl] at hz_4
    refine va_get (D := (dC, dI)) (ci := 4) (v := .int (S 0 0 0)) (C := RX3) (T := TX3) (N := 6) hx hb hts inX3_ hown hK hP z_4 hz_4 rfl 5 (by decide) lk0 (fun _ h9 => h9) rfl dX3_pass_21 ?_
    refine lv_iload_n hx hb dX3_pass_24 rfl (lv_at hl 1 rfl) ?_
    refine lv_iadd hx hb dX3_pass_25 ?_
    refine lv_sipush (v := nI 9999) hx hb dX3_pass_26 (by decide) ?_
    refine lv_icmp_le (tgt := 42) hx hb dX3_pass_29 (by decide) (fun c_5 => ?_) (fun c_5 => ?_)
    · refine lv_iconst (v := nI 0) hx hb dX3_pass_42 (by decide) ?_
      refine lv_istore_n (lv' := [(2, .int (nI 0)), (0, .ref (ad (10, 0))), (1, .int a)]) hx hb dX3_pass_43 rfl hl (by decide) rfl (fun ls hl => ?_)
      refine lv_iconst (v := nI 0) hx hb dX3_pass_44 (by decide) ?_
      refine lv_istore_n (lv' := [(3, .int (nI 0)), (2, .int (nI 0)), (0, .ref (ad (10, 0))), (1, .int a)]) hx hb dX3_pass_45 rfl hl (by decide) rfl (fun ls hl => ?_)
      have hab := c_3
      obtain ⟨dd, ⟨hd1, hd2⟩, exd, edd⟩ := dy_ix hab
      subst exd
      have hP : va_P (dC, dI) vwCl (cw cy e0 ad L S N) H := hP
      have hD : va_D A (cw cy e0 ad L S N) := hD
      have hl_pa : ∀ (k9 i : Nat), dd - i = k9 → i ≤ dd → ∀ (H : Heap) (locs : List Loc) (ls : Array Slot), va_P (dC, dI) vwCl (cw cy e0 ad L ((K_passS S N i)) N) H → va_D A (cw cy e0 ad L ((K_passS S N i)) N) → va_S A s.heap H locs → lv_has ls 4 [(0, .ref (ad (10, 0))), (1, .int (nI dd)), (2, .int (nI (K_passN S N i))), (3, .int (nI i))] → W p l e ({ frames := 6, cells := 2, slots := 12, locals := 90 }) s m (([.ref (ad (10, 0)), .int (nI dd)] : List Value).toArray) below meth c H locs 0 0 QQ (F0 m 46 ls []) := by
        intro k9
        induction k9 using Nat.strongRecOn with
        | _ k9 ih =>
          intro i  hk9 hle9  H locs ls hP hD hS hl
          refine lv_iload_n hx hb dX3_pass_46 rfl (lv_at hl 3 rfl) ?_
          refine lv_iload_n hx hb dX3_pass_47 rfl (lv_at hl 1 rfl) ?_
          refine n_ge (tgt := 78) hx hb dX3_pass_48 (by decide) (by omega) (by omega) (fun c_6 => ?_) (fun c_6 => ?_)
          · have ei9 : i = dd := by omega
            subst ei9
            refine lv_iload_n hx hb dX3_pass_78 rfl (lv_at hl 2 rfl) ?_
            rw [← hQQ]; apply vx_ret; exact end_i (u := ((K_passS S N i), N)) hx hb hr hlocks dX3_pass_79 hK hP hD hS ⟨by simp only [V_pass, eq_true c_3, eq_true c_5, edd, and_true, true_and, and_false, false_and, if_true, if_false, not_true, not_false_iff, not_false_eq_true, or_true, true_or, or_false, false_or, ite_true, ite_false, and_self, Classical.not_not, Bool.false_eq_true], by rw [edd], by rw [edd]⟩ (Nat.le_of_ble_eq_true rfl) (Nat.le_of_ble_eq_true rfl)
          · refine lv_aload_n hx hb dX3_pass_51 rfl (lv_at hl 0 rfl) ?_
            refine lv_dup hx hb dX3_pass_52 rfl ?_
            obtain ⟨z_7, hz_7⟩ := pl_get (ad := ad) (f := cc cy e0 ad ((K_passS S N i)) N) (hMF 10 (by decide))
            rw [show cc cy e0 ad ((K_passS S N i)) N (10, 0) = .inr (4, [.ref (ad (11, 0)), .ref (ad (12, 0)), .ref (ad (13, 0)), .ref (ad (14, 0)), .ref (ad (16, 0)), .int (((K_passS S N i)) 0 0 0)]) from rfl] at hz_7
            refine va_get (D := (dC, dI)) (ci := 4) (v := .int (((K_passS S N i)) 0 0 0)) (C := RX3) (T := TX3) (N := 6) hx hb hts inX3_ hown hK hP z_7 hz_7 rfl 5 (by decide) lk0 (fun _ h9 => h9) rfl dX3_pass_53 ?_
            refine lv_iconst (v := nI 1) hx hb dX3_pass_56 (by decide) ?_
            refine lv_iadd hx hb dX3_pass_57 ?_
            obtain ⟨z_8, hz_8⟩ := pl_get (ad := ad) (f := cc cy e0 ad ((K_passS S N i)) N) (hMF 10 (by decide))
            rw [show cc cy e0 ad ((K_passS S N i)) N (10, 0) = .inr (4, [.ref (ad (11, 0)), .ref (ad (12, 0)), .ref (ad (13, 0)), .ref (ad (14, 0)), .ref (ad (16, 0)), .int (((K_passS S N i)) 0 0 0)]) from rfl] at hz_8
            have eW : (cw cy e0 ad L ((K_passS S N i)) N).set z_8 (ad (10, 0), .inr (4, [.ref (ad (11, 0)), .ref (ad (12, 0)), .ref (ad (13, 0)), .ref (ad (14, 0)), .ref (ad (16, 0)), .int ((((K_passS S N i)) 0 0 0) + (nI 1))])) = cw cy e0 ad L (su ((K_passS S N i)) 0 0 (upd (((K_passS S N i)) 0 0) 0 ((((K_passS S N i)) 0 0 0) + (nI 1)))) N := st_10 ((((K_passS S N i)) 0 0 0) + (nI 1)) hD hz_8 (hMF 10 (by decide))
            refine va_put (D := (dC, dI)) (ci := 4) (v := .int ((((K_passS S N i)) 0 0 0) + (nI 1))) (ty := .int) (C := RX3) (T := TX3) (N := 6) hx hb hts inX3_ tyX3 tyX3_ok nmX3 hown hK hP hD hS z_8 hz_8 rfl 5 (by decide) lk0 (fun _ h9 => h9) rfl (by decide +kernel) rfl rfl (Nat.le_of_ble_eq_true rfl) dX3_pass_58 (fun H locs hP hD hS => ?_)
            have hP : va_P (dC, dI) vwCl (cw cy e0 ad L (su ((K_passS S N i)) 0 0 (upd (((K_passS S N i)) 0 0) 0 ((((K_passS S N i)) 0 0 0) + (nI 1)))) N) H := by rw [← eW]; exact hP
            have hD : va_D A (cw cy e0 ad L (su ((K_passS S N i)) 0 0 (upd (((K_passS S N i)) 0 0) 0 ((((K_passS S N i)) 0 0 0) + (nI 1)))) N) := by rw [← eW]; exact hD
            refine lv_aload_n hx hb dX3_pass_61 rfl (lv_at hl 0 rfl) ?_
            obtain ⟨z_9, hz_9⟩ := pl_get (ad := ad) (f := cc cy e0 ad (su ((K_passS S N i)) 0 0 (upd (((K_passS S N i)) 0 0) 0 ((((K_passS S N i)) 0 0 0) + (nI 1)))) N) (hMF 10 (by decide))
            rw [show cc cy e0 ad (su ((K_passS S N i)) 0 0 (upd (((K_passS S N i)) 0 0) 0 ((((K_passS S N i)) 0 0 0) + (nI 1)))) N (10, 0) = .inr (4, [.ref (ad (11, 0)), .ref (ad (12, 0)), .ref (ad (13, 0)), .ref (ad (14, 0)), .ref (ad (16, 0)), .int ((((K_passS S N i)) 0 0 0) + (nI 1))]) from by first | rfl | simp [cc, su, nu, upd]] at hz_9
            have eT : su ((K_passS S N i)) 0 0 (upd (((K_passS S N i)) 0 0) 0 ((((K_passS S N i)) 0 0 0) + (nI 1))) = K_tick (K_passS S N i) := rfl
            refine call_v (va_runV (As := []) (rest := []) ⟨hx, hb, hml, hown, hts⟩ (qX3_putOffHeldUpDuties l dC dI cy e0 mi ad L (su ((K_passS S N i)) 0 0 (upd (((K_passS S N i)) 0 0) 0 ((((K_passS S N i)) 0 0 0) + (nI 1)))) N H.size hI0) (cwV 0 hts gX3_pass_X3_putOffHeldUpDuties rfl rfl rfl (by decide +kernel) ⟨Nat.le_of_ble_eq_true rfl, Nat.le_of_ble_eq_true rfl⟩) (preV hK hP hD (w_recv (ci := 4) (q0 := z_9) hK hP hz_9 rfl)) rfl rfl hl.1 rfl (lv_room (Nat.le_of_ble_eq_true rfl)) dX3_pass_62 ⟨Nat.le_of_ble_eq_true rfl, Nat.le_of_ble_eq_true rfl⟩) hD hS hA (fun u H locs w_11 hP hD hS => ?_)
            subst w_11
            have hP : va_P (dC, dI) vwCl (cw cy e0 ad L ((K_dayP (K_passS S N i) N)) N) H := hP
            have hD : va_D A (cw cy e0 ad L ((K_dayP (K_passS S N i) N)) N) := hD
            refine lv_iload_n hx hb dX3_pass_65 rfl (lv_at hl 2 rfl) ?_
            refine lv_aload_n hx hb dX3_pass_66 rfl (lv_at hl 0 rfl) ?_
            obtain ⟨z_12, hz_12⟩ := pl_get (ad := ad) (f := cc cy e0 ad ((K_dayP (K_passS S N i) N)) N) (hMF 10 (by decide))
            rw [show cc cy e0 ad ((K_dayP (K_passS S N i) N)) N (10, 0) = .inr (4, [.ref (ad (11, 0)), .ref (ad (12, 0)), .ref (ad (13, 0)), .ref (ad (14, 0)), .ref (ad (16, 0)), .int (((K_dayP (K_passS S N i) N)) 0 0 0)]) from rfl] at hz_12
            refine call_i (va_runV (As := []) (rest := [.int (nI (K_passN S N i))]) ⟨hx, hb, hml, hown, hts⟩ (qX3_breachUncuredDuties l dC dI cy e0 mi ad L ((K_dayP (K_passS S N i) N)) N H.size hI0) (cwV 0 hts gX3_pass_X3_breachUncuredDuties rfl rfl rfl (by decide +kernel) ⟨Nat.le_of_ble_eq_true rfl, Nat.le_of_ble_eq_true rfl⟩) (preV hK hP hD (w_recv (ci := 4) (q0 := z_12) hK hP hz_12 rfl)) rfl rfl hl.1 rfl (lv_room (Nat.le_of_ble_eq_true rfl)) dX3_pass_67 ⟨Nat.le_of_ble_eq_true rfl, Nat.le_of_ble_eq_true rfl⟩) hD hS hA (fun r_13 u H locs w_14 hP hD hS => ?_)
            obtain ⟨rfl, rfl⟩ := w_14
            have hP : va_P (dC, dI) vwCl (cw cy e0 ad L ((K_passS S N (i + 1))) N) H := hP
            have hD : va_D A (cw cy e0 ad L ((K_passS S N (i + 1))) N) := hD
            refine lv_iadd hx hb dX3_pass_70 ?_
            refine to_i (y := nI ((K_passN S N i) + (K_bn (K_dayP (K_passS S N i) N) N (N 5 0 0)))) (nI_add _ _) ?_
            refine lv_istore_n (lv' := [(2, .int (nI ((K_passN S N i) + (K_bn (K_dayP (K_passS S N i) N) N (N 5 0 0))))), (0, .ref (ad (10, 0))), (1, .int (nI dd)), (3, .int (nI i))]) hx hb dX3_pass_71 rfl hl (by decide) rfl (fun ls hl => ?_)
            refine lv_iinc (v := nI (i + 1)) (lv' := [(3, .int (nI (i + 1))), (2, .int (nI ((K_passN S N i) + (K_bn (K_dayP (K_passS S N i) N) N (N 5 0 0))))), (0, .ref (ad (10, 0))), (1, .int (nI dd))]) hx hb dX3_pass_72 hl (k := 3) rfl (by rw [show Int32.ofInt 1 = 1 from rfl]; exact nI_1 _) (by decide) rfl (fun ls hl => ?_)
            refine lv_goto (tgt := 46) hx hb dX3_pass_75 (by decide) ?_
            have e8 : K_passN S N (i + 1) = (K_passN S N i) + (K_bn (K_dayP (K_passS S N i) N) N (N 5 0 0)) := rfl
            exact ih (dd - (i + 1)) (by omega) (i + 1)  rfl (by omega)  H locs ls hP hD hS (by rw [e8]; exact lv_sub hl [2, 3, 1, 0] rfl)
      exact hl_pa dd 0  rfl (Nat.zero_le _)  H locs ls hP hD hS (lv_sub hl [2, 3, 1, 0] rfl)
    · rw [← hQQ]; exact thr (cls := "java/lang/IllegalStateException") (text := "later than the last day") (is := 139) (ic := 62) (ik := 58) hx hb hst hown (by decide) lk1 lk2 (by decide) ham (fun w h => hts w (List.mem_cons_of_mem _ (List.mem_append_right _ h))) (by decide) (by decide +kernel) (by decide +kernel) dX3_pass_32 dX3_pass_35 dX3_pass_36 dX3_pass_38 dX3_pass_41 (hl.1.trans hml.symm) hnt hlocks (Nat.le_of_ble_eq_true rfl) (Nat.le_of_ble_eq_true rfl) (Nat.le_of_ble_eq_true rfl) (Nat.le_of_ble_eq_true rfl) (Or.inr (⟨by simp only [V_pass, eq_true c_3, c_5, and_true, true_and, and_false, false_and, if_true, if_false, not_true, not_false_iff, not_false_eq_true, or_true, true_or, or_false, false_or, ite_true, ite_false, and_self, Classical.not_not, Bool.false_eq_true], rfl⟩)) hK hP hD hS (Nat.le_of_ble_eq_true rfl) (Nat.le_of_ble_eq_true rfl)
  · rw [← hQQ]; exact thr (cls := "java/lang/IllegalArgumentException") (text := "days out of range") (is := 137) (ic := 51) (ik := 47) hx hb hst hown (by decide) lk3 lk4 (by decide) ham (fun w h => hts w (List.mem_cons_of_mem _ (List.mem_append_left _ (List.mem_append_right _ h)))) (by decide) (by decide +kernel) (by decide +kernel) dX3_pass_10 dX3_pass_13 dX3_pass_14 dX3_pass_16 dX3_pass_19 (hl.1.trans hml.symm) hnt hlocks (Nat.le_of_ble_eq_true rfl) (Nat.le_of_ble_eq_true rfl) (Nat.le_of_ble_eq_true rfl) (Nat.le_of_ble_eq_true rfl) (Or.inl ⟨by simp only [V_pass, c_3, and_true, true_and, and_false, false_and, if_true, if_false, not_true, not_false_iff, not_false_eq_true, or_true, true_or, or_false, false_or, ite_true, ite_false, and_self, Classical.not_not, Bool.false_eq_true], rfl⟩) hK hP hD hS (Nat.le_of_ble_eq_true rfl) (Nat.le_of_ble_eq_true rfl)

set_option maxHeartbeats 4000000 in
set_option maxRecDepth 100000 in
/-- isWithin -/
theorem qX3_isWithin (l : Launch) (dC : Nat → ClassId) (dI : Nat → Nat → Nat) (cy : Nat → ClassId) (e0 mi : Nat) (ws : va_W) (sz : Nat) (v lo hi : Int32) : Met l yX3_isWithin wsX3_isWithin ({ frames := 0, cells := 0, slots := 0, locals := 0 }) (va_Pc [.int v, .int lo, .int hi] (wPre (dC, dI) (tyL cy) (ws) sz)) (QI (dC, dI) (tyL cy) (fun (r : Int32) (_ : Unit) => r = bi (lo ≤ v ∧ v ≤ hi)) (fun _ => ws) (va_A (ws) sz)) 0 0 (va_A (ws) sz) := by
  refine en (cc := cX3_isWithin) (maxL := 3) (ret := (some .boolean)) (own := RX3) (lv := [(0, .int v), (1, .int lo), (2, .int hi)]) (by decide) rfl rfl (Nat.le_of_ble_eq_true rfl) rfl ?_
  intro p e s m below meth c ls A H locs hx hb hr hts hown hlocks hml hin hsz hK hP hD hS hA hl
  generalize hQQ : MQ below _ _ s _ _ A = QQ
  refine lv_iload_n hx hb dX3_isWithin_0 rfl (lv_at hl 0 rfl) ?_
  refine lv_iload_n hx hb dX3_isWithin_1 rfl (lv_at hl 1 rfl) ?_
  refine lv_icmp_lt (tgt := 14) hx hb dX3_isWithin_2 (by decide) (fun c_1 => ?_) (fun c_1 => ?_)
  · refine lv_iconst (v := nI 0) hx hb dX3_isWithin_14 (by decide) ?_
    rw [← hQQ]; exact end_z (u := ()) hx hb hr hlocks dX3_isWithin_15 hK hP hD hS (by rfl) (bi_f (fun q => absurd c_1 (Int32.not_lt.mpr q.1))).symm (Nat.le_of_ble_eq_true rfl) (Nat.le_of_ble_eq_true rfl)
  · refine lv_iload_n hx hb dX3_isWithin_5 rfl (lv_at hl 0 rfl) ?_
    refine lv_iload_n hx hb dX3_isWithin_6 rfl (lv_at hl 2 rfl) ?_
    refine lv_icmp_gt (tgt := 14) hx hb dX3_isWithin_7 (by decide) (fun c_2 => ?_) (fun c_2 => ?_)
    · refine lv_iconst (v := nI 0) hx hb dX3_isWithin_14 (by decide) ?_
      rw [← hQQ]; exact end_z (u := ()) hx hb hr hlocks dX3_isWithin_15 hK hP hD hS (by rfl) (bi_f (fun q => absurd c_2 (Int32.not_lt.mpr q.2))).symm (Nat.le_of_ble_eq_true rfl) (Nat.le_of_ble_eq_true rfl)
    · refine lv_iconst (v := nI 1) hx hb dX3_isWithin_10 (by decide) ?_
      refine lv_goto (tgt := 15) hx hb dX3_isWithin_11 (by decide) ?_
      rw [← hQQ]; exact end_z (u := ()) hx hb hr hlocks dX3_isWithin_15 hK hP hD hS (by rfl) (bi_t ⟨Int32.not_lt.mp c_1, Int32.not_lt.mp c_2⟩).symm (Nat.le_of_ble_eq_true rfl) (Nat.le_of_ble_eq_true rfl)

abbrev xIA : String := "java/lang/IllegalArgumentException"
abbrev xIS : String := "java/lang/IllegalStateException"
abbrev xIO : String := "java/lang/IndexOutOfBoundsException"
abbrev isCt (N : NN) (k : Nat) (x : Int32) : Prop := (0 : Int32) ≤ x ∧ x ≤ nI (N k 0 0) - 1

set_option maxHeartbeats 4000000 in
set_option maxRecDepth 100000 in
/-- checkClause -/
theorem qX3_checkClause (l : Launch) (dC : Nat → ClassId) (dI : Nat → Nat → Nat) (cy : Nat → ClassId) (e0 mi : Nat) (ws : va_W) (sz : Nat) (x : Int32) (hst : l.stackTraces = false) : vx_Met l yX3_checkClause wsX3_checkClause ({ frames := 6, cells := 1, slots := 6, locals := 90 }) (va_Pc [.int x] (wPreX (dC, dI) (tyL cy) e0 mi (ws) sz)) (QV (dC, dI) (tyL cy) (fun (_ : Unit) => isCl x) (fun _ => ws) (va_A (ws) sz)) (XX (dC, dI) (tyL cy) (fun E => E = xIA ∧ ¬ isCl x) (ws) (va_A (ws) sz)) 1 6 (va_A (ws) sz) := by
  refine enX (cc := cX3_checkClause) (maxL := 1) (ret := none) (own := RX3) (lv := [(0, .int x)]) (by decide) rfl rfl (Nat.le_of_ble_eq_true rfl) rfl ?_
  intro p e s m below meth c ls A H locs hx hb hr hts hown hlocks hml hin hsz hK hP hD hS hA hl ham hnt
  generalize hQQ : vx_MQ below _ _ _ s _ _ A = QQ
  have lk0 : (Cond.classLink RX3 47 "java/lang/IllegalArgumentException").before (([.int x] : List Value).toArray) s = true := hts _ (List.mem_of_getElem? (i := 1) rfl)
  have lk1 : (Cond.initialized "java/lang/IllegalArgumentException").before (([.int x] : List Value).toArray) s = true := hts _ (List.mem_of_getElem? (i := 2) rfl)
  refine lv_iload_n hx hb dX3_checkClause_0 rfl (lv_at hl 0 rfl) ?_
  refine lv_iconst (v := nI 0) hx hb dX3_checkClause_1 (by decide) ?_
  refine lv_bipush (v := nI 9) hx hb dX3_checkClause_2 (by decide) ?_
  refine call_i (va_runS (As := [.int x, .int (nI 0), .int (nI 9)]) (rest := []) ⟨hx, hb, hml, hown, hts⟩ (qX3_isWithin l dC dI cy e0 mi ws H.size x (nI 0) (nI 9)) (va_cwS 3 hts gX3_checkClause_X3_isWithin rfl rfl rfl (by decide +kernel) ⟨Nat.le_of_ble_eq_true rfl, Nat.le_of_ble_eq_true rfl⟩) (preS hK hP hD) rfl rfl hl.1 rfl (lv_room (Nat.le_of_ble_eq_true rfl)) dX3_checkClause_4 ⟨Nat.le_of_ble_eq_true rfl, Nat.le_of_ble_eq_true rfl⟩) hD hS hA (fun r_1 u H locs w_2 hP hD hS => ?_)
  subst w_2
  have hP : va_P (dC, dI) vwCl ws H := hP
  have hD : va_D A ws := hD
  refine to_i (y := bi (isCl x)) rfl ?_
  refine br_ne (tgt := 20) hx hb dX3_checkClause_7 (by decide) (fun c_3 => ?_) (fun c_3 => ?_)
  · rw [← hQQ]; apply vx_ret; exact end_v (u := ()) hx hb hr hlocks dX3_checkClause_20 hK hP hD hS c_3 (Nat.le_of_ble_eq_true rfl) (Nat.le_of_ble_eq_true rfl)
  · rw [← hQQ]; exact thr (cls := "java/lang/IllegalArgumentException") (text := "clause out of range") (is := 196) (ic := 51) (ik := 47) hx hb hst hown (by decide) lk0 lk1 (by decide) ham (fun w h => hts w (List.mem_cons_of_mem _ (List.mem_append_right _ h))) (by decide) (by decide +kernel) (by decide +kernel) dX3_checkClause_10 dX3_checkClause_13 dX3_checkClause_14 dX3_checkClause_16 dX3_checkClause_19 (hl.1.trans hml.symm) hnt hlocks (Nat.le_of_ble_eq_true rfl) (Nat.le_of_ble_eq_true rfl) (Nat.le_of_ble_eq_true rfl) (Nat.le_of_ble_eq_true rfl) (⟨rfl, c_3⟩) hK hP hD hS (Nat.le_of_ble_eq_true rfl) (Nat.le_of_ble_eq_true rfl)

set_option maxHeartbeats 4000000 in
set_option maxRecDepth 100000 in
/-- checkSide -/
theorem qX3_checkSide (l : Launch) (dC : Nat → ClassId) (dI : Nat → Nat → Nat) (cy : Nat → ClassId) (e0 mi : Nat) (ws : va_W) (sz : Nat) (x : Int32) (hst : l.stackTraces = false) : vx_Met l yX3_checkSide wsX3_checkSide ({ frames := 6, cells := 1, slots := 6, locals := 90 }) (va_Pc [.int x] (wPreX (dC, dI) (tyL cy) e0 mi (ws) sz)) (QV (dC, dI) (tyL cy) (fun (_ : Unit) => isSd x) (fun _ => ws) (va_A (ws) sz)) (XX (dC, dI) (tyL cy) (fun E => E = xIA ∧ ¬ isSd x) (ws) (va_A (ws) sz)) 1 6 (va_A (ws) sz) := by
  refine enX (cc := cX3_checkSide) (maxL := 1) (ret := none) (own := RX3) (lv := [(0, .int x)]) (by decide) rfl rfl (Nat.le_of_ble_eq_true rfl) rfl ?_
  intro p e s m below meth c ls A H locs hx hb hr hts hown hlocks hml hin hsz hK hP hD hS hA hl ham hnt
  generalize hQQ : vx_MQ below _ _ _ s _ _ A = QQ
  have lk0 : (Cond.classLink RX3 47 "java/lang/IllegalArgumentException").before (([.int x] : List Value).toArray) s = true := hts _ (List.mem_of_getElem? (i := 1) rfl)
  have lk1 : (Cond.initialized "java/lang/IllegalArgumentException").before (([.int x] : List Value).toArray) s = true := hts _ (List.mem_of_getElem? (i := 2) rfl)
  refine lv_iload_n hx hb dX3_checkSide_0 rfl (lv_at hl 0 rfl) ?_
  refine lv_iconst (v := nI 0) hx hb dX3_checkSide_1 (by decide) ?_
  refine lv_iconst (v := nI 1) hx hb dX3_checkSide_2 (by decide) ?_
  refine call_i (va_runS (As := [.int x, .int (nI 0), .int (nI 1)]) (rest := []) ⟨hx, hb, hml, hown, hts⟩ (qX3_isWithin l dC dI cy e0 mi ws H.size x (nI 0) (nI 1)) (va_cwS 3 hts gX3_checkSide_X3_isWithin rfl rfl rfl (by decide +kernel) ⟨Nat.le_of_ble_eq_true rfl, Nat.le_of_ble_eq_true rfl⟩) (preS hK hP hD) rfl rfl hl.1 rfl (lv_room (Nat.le_of_ble_eq_true rfl)) dX3_checkSide_3 ⟨Nat.le_of_ble_eq_true rfl, Nat.le_of_ble_eq_true rfl⟩) hD hS hA (fun r_1 u H locs w_2 hP hD hS => ?_)
  subst w_2
  have hP : va_P (dC, dI) vwCl ws H := hP
  have hD : va_D A ws := hD
  refine to_i (y := bi (isSd x)) rfl ?_
  refine br_ne (tgt := 19) hx hb dX3_checkSide_6 (by decide) (fun c_3 => ?_) (fun c_3 => ?_)
  · rw [← hQQ]; apply vx_ret; exact end_v (u := ()) hx hb hr hlocks dX3_checkSide_19 hK hP hD hS c_3 (Nat.le_of_ble_eq_true rfl) (Nat.le_of_ble_eq_true rfl)
  · rw [← hQQ]; exact thr (cls := "java/lang/IllegalArgumentException") (text := "side out of range") (is := 198) (ic := 51) (ik := 47) hx hb hst hown (by decide) lk0 lk1 (by decide) ham (fun w h => hts w (List.mem_cons_of_mem _ (List.mem_append_right _ h))) (by decide) (by decide +kernel) (by decide +kernel) dX3_checkSide_9 dX3_checkSide_12 dX3_checkSide_13 dX3_checkSide_15 dX3_checkSide_18 (hl.1.trans hml.symm) hnt hlocks (Nat.le_of_ble_eq_true rfl) (Nat.le_of_ble_eq_true rfl) (Nat.le_of_ble_eq_true rfl) (Nat.le_of_ble_eq_true rfl) (⟨rfl, c_3⟩) hK hP hD hS (Nat.le_of_ble_eq_true rfl) (Nat.le_of_ble_eq_true rfl)

abbrev isOC (cn : Nat) (x : Int32) : Prop := (nI 0 ≤ x ∧ x ≤ nI 1023) ∧ x &&& (nI 1 <<< (nI cn &&& 31)) = 0

set_option maxHeartbeats 4000000 in
set_option maxRecDepth 100000 in
/-- checkOtherClauses -/
theorem qX3_checkOtherClauses (l : Launch) (dC : Nat → ClassId) (dI : Nat → Nat → Nat) (cy : Nat → ClassId) (e0 mi : Nat) (ws : va_W) (sz : Nat) (cn : Nat) (x : Int32) (hst : l.stackTraces = false) : vx_Met l yX3_checkOtherClauses wsX3_checkOtherClauses ({ frames := 6, cells := 1, slots := 6, locals := 90 }) (va_Pc [.int (nI cn), .int x] (wPreX (dC, dI) (tyL cy) e0 mi (ws) sz)) (QV (dC, dI) (tyL cy) (fun (_ : Unit) => isOC cn x) (fun _ => ws) (va_A (ws) sz)) (XX (dC, dI) (tyL cy) (fun E => E = xIA ∧ ¬ isOC cn x) (ws) (va_A (ws) sz)) 1 6 (va_A (ws) sz) := by
  refine enX (cc := cX3_checkOtherClauses) (maxL := 2) (ret := none) (own := RX3) (lv := [(0, .int (nI cn)), (1, .int x)]) (by decide) rfl rfl (Nat.le_of_ble_eq_true rfl) rfl ?_
  intro p e s m below meth c ls A H locs hx hb hr hts hown hlocks hml hin hsz hK hP hD hS hA hl ham hnt
  generalize hQQ : vx_MQ below _ _ _ s _ _ A = QQ
  have lk0 : (Cond.classLink RX3 47 "java/lang/IllegalArgumentException").before (([.int (nI cn), .int x] : List Value).toArray) s = true := hts _ (List.mem_of_getElem? (i := 1) rfl)
  have lk1 : (Cond.initialized "java/lang/IllegalArgumentException").before (([.int (nI cn), .int x] : List Value).toArray) s = true := hts _ (List.mem_of_getElem? (i := 2) rfl)
  refine lv_iload_n hx hb dX3_checkOtherClauses_0 rfl (lv_at hl 1 rfl) ?_
  refine lv_iconst (v := nI 0) hx hb dX3_checkOtherClauses_1 (by decide) ?_
  refine lv_sipush (v := nI 1023) hx hb dX3_checkOtherClauses_2 (by decide) ?_
  refine call_i (va_runS (As := [.int x, .int (nI 0), .int (nI 1023)]) (rest := []) ⟨hx, hb, hml, hown, hts⟩ (qX3_isWithin l dC dI cy e0 mi ws H.size x (nI 0) (nI 1023)) (va_cwS 3 hts gX3_checkOtherClauses_X3_isWithin rfl rfl rfl (by decide +kernel) ⟨Nat.le_of_ble_eq_true rfl, Nat.le_of_ble_eq_true rfl⟩) (preS hK hP hD) rfl rfl hl.1 rfl (lv_room (Nat.le_of_ble_eq_true rfl)) dX3_checkOtherClauses_5 ⟨Nat.le_of_ble_eq_true rfl, Nat.le_of_ble_eq_true rfl⟩) hD hS hA (fun r_1 u H locs w_2 hP hD hS => ?_)
  subst w_2
  have hP : va_P (dC, dI) vwCl ws H := hP
  have hD : va_D A ws := hD
  refine br_eq (tgt := 19) hx hb dX3_checkOtherClauses_8 (by decide) (fun c_3 => ?_) (fun c_3 => ?_)
  · rw [← hQQ]; exact thr (cls := "java/lang/IllegalArgumentException") (text := "no set of other clauses") (is := 200) (ic := 51) (ik := 47) hx hb hst hown (by decide) lk0 lk1 (by decide) ham (fun w h => hts w (List.mem_cons_of_mem _ (List.mem_append_right _ h))) (by decide) (by decide +kernel) (by decide +kernel) dX3_checkOtherClauses_19 dX3_checkOtherClauses_22 dX3_checkOtherClauses_23 dX3_checkOtherClauses_25 dX3_checkOtherClauses_28 (hl.1.trans hml.symm) hnt hlocks (Nat.le_of_ble_eq_true rfl) (Nat.le_of_ble_eq_true rfl) (Nat.le_of_ble_eq_true rfl) (Nat.le_of_ble_eq_true rfl) (⟨rfl, fun q => c_3 q.1⟩) hK hP hD hS (Nat.le_of_ble_eq_true rfl) (Nat.le_of_ble_eq_true rfl)
  · refine lv_iload_n hx hb dX3_checkOtherClauses_11 rfl (lv_at hl 1 rfl) ?_
    refine lv_iconst (v := nI 1) hx hb dX3_checkOtherClauses_12 (by decide) ?_
    refine lv_iload_n hx hb dX3_checkOtherClauses_13 rfl (lv_at hl 0 rfl) ?_
    refine lv_ishl hx hb dX3_checkOtherClauses_14 ?_
    refine lv_iand hx hb dX3_checkOtherClauses_15 ?_
    refine lv_if_eq (tgt := 29) hx hb dX3_checkOtherClauses_16 (by decide) (fun c_4 => ?_) (fun c_4 => ?_)
    · rw [← hQQ]; apply vx_ret; exact end_v (u := ()) hx hb hr hlocks dX3_checkOtherClauses_29 hK hP hD hS ⟨c_3, c_4⟩ (Nat.le_of_ble_eq_true rfl) (Nat.le_of_ble_eq_true rfl)
    · rw [← hQQ]; exact thr (cls := "java/lang/IllegalArgumentException") (text := "no set of other clauses") (is := 200) (ic := 51) (ik := 47) hx hb hst hown (by decide) lk0 lk1 (by decide) ham (fun w h => hts w (List.mem_cons_of_mem _ (List.mem_append_right _ h))) (by decide) (by decide +kernel) (by decide +kernel) dX3_checkOtherClauses_19 dX3_checkOtherClauses_22 dX3_checkOtherClauses_23 dX3_checkOtherClauses_25 dX3_checkOtherClauses_28 (hl.1.trans hml.symm) hnt hlocks (Nat.le_of_ble_eq_true rfl) (Nat.le_of_ble_eq_true rfl) (Nat.le_of_ble_eq_true rfl) (Nat.le_of_ble_eq_true rfl) (⟨rfl, fun q => c_4 q.2⟩) hK hP hD hS (Nat.le_of_ble_eq_true rfl) (Nat.le_of_ble_eq_true rfl)

set_option maxHeartbeats 4000000 in
set_option maxRecDepth 100000 in
/-- checkDraft -/
theorem qX3_checkDraft (l : Launch) (dC : Nat → ClassId) (dI : Nat → Nat → Nat) (cy : Nat → ClassId) (e0 mi : Nat) (ad : Lc → Nat) (L : List Lc) (S : SS) (N : NN) (sz : Nat) (i : Nat) (hI : okC L N) (hi : i < N 0 0 0) (hst : l.stackTraces = false) : vx_Met l yX3_checkDraft wsX3_checkDraft ({ frames := 6, cells := 1, slots := 6, locals := 90 }) (va_Pc [.ref (ad (0, i))] (wPreX (dC, dI) (tyL cy) e0 mi (cw cy e0 ad L S N) sz)) (QV (dC, dI) (tyL cy) (fun (u : CS) => isDr S i ∧ u = (S, N)) (cwU cy e0 ad L) (va_A (cw cy e0 ad L S N) sz)) (XX (dC, dI) (tyL cy) (fun E => E = xIS ∧ ¬ isDr S i) (cw cy e0 ad L S N) (va_A (cw cy e0 ad L S N) sz)) 1 6 (va_A (cw cy e0 ad L S N) sz) := by
  refine enX (cc := cX3_checkDraft) (maxL := 1) (ret := none) (own := RX3) (lv := [(0, .ref (ad (0, i)))]) (by decide) rfl rfl (Nat.le_of_ble_eq_true rfl) rfl ?_
  intro p e s m below meth c ls A H locs hx hb hr hts hown hlocks hml hin hsz hK hP hD hS hA hl ham hnt
  generalize hQQ : vx_MQ below _ _ _ s _ _ A = QQ
  have hI0 := hI
  obtain ⟨⟨hM0, hM8, hM9, hMF, hM15, hM17⟩, hV, hLt, hO, hDu, hnc, hnd, hcC, hcD, hcC2, hcD2⟩ := hI
  have lk0 : (Cond.classLink RX3 58 "java/lang/IllegalStateException").before (([.ref (ad (0, i))] : List Value).toArray) s = true := hts _ (List.mem_of_getElem? (i := 1) rfl)
  have lk1 : (Cond.initialized "java/lang/IllegalStateException").before (([.ref (ad (0, i))] : List Value).toArray) s = true := hts _ (List.mem_of_getElem? (i := 2) rfl)
  refine lv_aload_n hx hb dX3_checkDraft_0 rfl (lv_at hl 0 rfl) ?_
  obtain ⟨z_1, hz_1⟩ := pl_get (ad := ad) (f := cc cy e0 ad S N) (hM0 0 i (by decide) (by omega))
  rw [show cc cy e0 ad S N (0, i) = .inr (1, [.ref (ad (1, i)), .ref (ad (2, i)), .ref (ad (5, i)), .ref (ad (6, i)), .ref (ad (7, i))]) from rfl] at hz_1
  refine call_i (va_runV (As := []) (rest := []) ⟨hx, hb, hml, hown, hts⟩ (qX0_isDraft l dC dI cy e0 mi ad L S N H.size i hI0 hi) (cwV 0 hts gX3_checkDraft_X0_isDraft rfl rfl rfl (by decide +kernel) ⟨Nat.le_of_ble_eq_true rfl, Nat.le_of_ble_eq_true rfl⟩) (preV hK hP hD (w_recv (ci := 1) (q0 := z_1) hK hP hz_1 rfl)) rfl rfl hl.1 rfl (lv_room (Nat.le_of_ble_eq_true rfl)) dX3_checkDraft_1 ⟨Nat.le_of_ble_eq_true rfl, Nat.le_of_ble_eq_true rfl⟩) hD hS hA (fun r_2 u H locs w_3 hP hD hS => ?_)
  obtain ⟨rfl, rfl⟩ := w_3
  have hP : va_P (dC, dI) vwCl (cw cy e0 ad L S N) H := hP
  have hD : va_D A (cw cy e0 ad L S N) := hD
  refine br_ne (tgt := 17) hx hb dX3_checkDraft_4 (by decide) (fun c_4 => ?_) (fun c_4 => ?_)
  · rw [← hQQ]; apply vx_ret; exact end_v (u := (S, N)) hx hb hr hlocks dX3_checkDraft_17 hK hP hD hS ⟨c_4, rfl⟩ (Nat.le_of_ble_eq_true rfl) (Nat.le_of_ble_eq_true rfl)
  · rw [← hQQ]; exact thr (cls := "java/lang/IllegalStateException") (text := "it is no draft") (is := 202) (ic := 62) (ik := 58) hx hb hst hown (by decide) lk0 lk1 (by decide) ham (fun w h => hts w (List.mem_cons_of_mem _ (List.mem_append_right _ h))) (by decide) (by decide +kernel) (by decide +kernel) dX3_checkDraft_7 dX3_checkDraft_10 dX3_checkDraft_11 dX3_checkDraft_13 dX3_checkDraft_16 (hl.1.trans hml.symm) hnt hlocks (Nat.le_of_ble_eq_true rfl) (Nat.le_of_ble_eq_true rfl) (Nat.le_of_ble_eq_true rfl) (Nat.le_of_ble_eq_true rfl) (⟨rfl, c_4⟩) hK hP hD hS (Nat.le_of_ble_eq_true rfl) (Nat.le_of_ble_eq_true rfl)

set_option maxHeartbeats 4000000 in
set_option maxRecDepth 100000 in
/-- size -/
theorem qJx4a65c_size_8abf5 (l : Launch) (dC : Nat → ClassId) (dI : Nat → Nat → Nat) (cy : Nat → ClassId) (e0 mi : Nat) (ws : va_W) (sz : Nat) (a0 k0 n : Nat) (mc0 : Int32) (vb : Value) (hk0 : ws[k0]? = some (a0, .inr (0, [.int mc0, vb, .int (nI n)]))) : Met l yJx4a65c_size_8abf5 wsJx4a65c_size_8abf5 ({ frames := 0, cells := 0, slots := 0, locals := 0 }) (va_Pc [.ref a0] (wPre (dC, dI) (tyL cy) (ws) sz)) (QI (dC, dI) (tyL cy) (fun (r : Int32) (_ : Unit) => r = nI n) (fun _ => ws) (va_A (ws) sz)) 0 0 (va_A (ws) sz) := by
  refine en (cc := cJx4a65c_size_8abf5) (maxL := 1) (ret := (some .int)) (own := RJx4a65c) (lv := [(0, .ref a0)]) (by decide) rfl rfl (Nat.le_of_ble_eq_true rfl) rfl ?_
  intro p e s m below meth c ls A H locs hx hb hr hts hown hlocks hml hin hsz hK hP hD hS hA hl
  generalize hQQ : MQ below _ _ s _ _ A = QQ
  have inJx4a65c_ : ∀ w ∈ wsJx4a65c0, w ∈ wsJx4a65c_size_8abf5 := fun _ h => List.mem_cons_of_mem _ (List.mem_append_right _ h)
  have lk0 : (Cond.fieldLink RJx4a65c 48 "java/util/ArrayList" "size" "I").before (([.ref a0] : List Value).toArray) s = true := hts _ (List.mem_of_getElem? (i := 1) rfl)
  refine lv_aload_n hx hb dJx4a65c_size_8abf5_0 rfl (lv_at hl 0 rfl) ?_
  refine va_get (D := (dC, dI)) (ci := 0) (v := .int (nI n)) (C := RJx4a65c) (T := TJx4a65c) (N := 3) hx hb hts inJx4a65c_ hown hK hP k0 hk0 rfl 2 (by decide) lk0 (fun _ h9 => h9) rfl dJx4a65c_size_8abf5_1 ?_
  rw [← hQQ]; exact end_i (u := ()) hx hb hr hlocks dJx4a65c_size_8abf5_4 hK hP hD hS rfl (Nat.le_of_ble_eq_true rfl) (Nat.le_of_ble_eq_true rfl)

set_option maxHeartbeats 4000000 in
set_option maxRecDepth 100000 in
/-- elementData(i) -/
theorem qJx4a65c_elementData_915e3 (l : Launch) (dC : Nat → ClassId) (dI : Nat → Nat → Nat) (cy : Nat → ClassId) (e0 mi : Nat) (ws : va_W) (sz : Nat) (a0 b0 k0 k1 n cap t x0 : Nat) (mc0 : Int32) (row : Nat → Option Nat) (hk0 : ws[k0]? = some (a0, .inr (0, [.int mc0, .ref b0, .int (nI n)]))) (hk1 : ws[k1]? = some (b0, .inl (cy 3, cap, .inr (.inr (.inr (.inr row)))))) (htn : t < cap) (hcap : cap < 2 ^ 31) (hrow : row t = some x0) : Met l yJx4a65c_elementData_915e3 wsJx4a65c_elementData_915e3 ({ frames := 0, cells := 0, slots := 0, locals := 0 }) (va_Pc [.ref a0, .int (nI t)] (wPre (dC, dI) (tyL cy) (ws) sz)) (QR (dC, dI) (tyL cy) (fun (r : Nat) (_ : Unit) => r = x0) (fun _ => ws) (va_A (ws) sz)) 0 0 (va_A (ws) sz) := by
  refine en (cc := cJx4a65c_elementData_915e3) (maxL := 2) (ret := (some (.object "java/lang/Object"))) (own := RJx4a65c) (lv := [(0, .ref a0), (1, .int (nI t))]) (by decide) rfl rfl (Nat.le_of_ble_eq_true rfl) rfl ?_
  intro p e s m below meth c ls A H locs hx hb hr hts hown hlocks hml hin hsz hK hP hD hS hA hl
  generalize hQQ : MQ below _ _ s _ _ A = QQ
  have inJx4a65c_ : ∀ w ∈ wsJx4a65c0, w ∈ wsJx4a65c_elementData_915e3 := fun _ h => List.mem_cons_of_mem _ (List.mem_append_right _ h)
  have lk0 : (Cond.fieldLink RJx4a65c 9 "java/util/ArrayList" "elementData" "[Ljava/lang/Object;").before (([.ref a0, .int (nI t)] : List Value).toArray) s = true := hts _ (List.mem_of_getElem? (i := 1) rfl)
  refine lv_aload_n hx hb dJx4a65c_elementData_915e3_0 rfl (lv_at hl 0 rfl) ?_
  refine va_get (D := (dC, dI)) (ci := 0) (v := .ref b0) (C := RJx4a65c) (T := TJx4a65c) (N := 3) hx hb hts inJx4a65c_ hown hK hP k0 hk0 rfl 1 (by decide) lk0 (fun _ h9 => h9) rfl dJx4a65c_elementData_915e3_1 ?_
  refine lv_iload_n hx hb dJx4a65c_elementData_915e3_4 rfl (lv_at hl 1 rfl) ?_
  refine x_aald hx hb hK hP k1 3 hk1 rfl (t := t) (by omega) (by omega) dJx4a65c_elementData_915e3_5 ?_
  refine to_v (y := .ref x0) (by rw [hrow]; rfl) ?_
  rw [← hQQ]; exact end_r (u := ()) hx hb hr (Or.inl ⟨_, rfl⟩) hlocks dJx4a65c_elementData_915e3_6 hK hP hD hS rfl (Nat.le_of_ble_eq_true rfl) (Nat.le_of_ble_eq_true rfl)

set_option maxHeartbeats 4000000 in
set_option maxRecDepth 100000 in
/-- checkIndex -/
theorem qJ3_checkIndex_8e157 (l : Launch) (dC : Nat → ClassId) (dI : Nat → Nat → Nat) (cy : Nat → ClassId) (e0 mi : Nat) (ws : va_W) (sz : Nat) (t n : Nat) (htn : t < n) (hn : n < 2 ^ 31) : Met l yJ3_checkIndex_8e157 wsJ3_checkIndex_8e157 ({ frames := 0, cells := 0, slots := 0, locals := 0 }) (va_Pc [.int (nI t), .int (nI n), .null] (wPre (dC, dI) (tyL cy) (ws) sz)) (QI (dC, dI) (tyL cy) (fun (r : Int32) (_ : Unit) => r = nI t) (fun _ => ws) (va_A (ws) sz)) 0 0 (va_A (ws) sz) := by
  refine en (cc := cJ3_checkIndex_8e157) (maxL := 3) (ret := (some .int)) (own := RJ3) (lv := [(0, .int (nI t)), (1, .int (nI n)), (2, .null)]) (by decide) rfl rfl (Nat.le_of_ble_eq_true rfl) rfl ?_
  intro p e s m below meth c ls A H locs hx hb hr hts hown hlocks hml hin hsz hK hP hD hS hA hl
  generalize hQQ : MQ below _ _ s _ _ A = QQ
  refine lv_iload_n hx hb dJ3_checkIndex_8e157_0 rfl (lv_at hl 0 rfl) ?_
  refine lv_if_lt (tgt := 9) hx hb dJ3_checkIndex_8e157_1 (by decide) (fun h9 => absurd h9 (nI_pos (by omega))) (fun _ => ?_)
  refine lv_iload_n hx hb dJ3_checkIndex_8e157_4 rfl (lv_at hl 0 rfl) ?_
  refine lv_iload_n hx hb dJ3_checkIndex_8e157_5 rfl (lv_at hl 1 rfl) ?_
  refine n_lt (tgt := 16) hx hb dJ3_checkIndex_8e157_6 (by decide) (by omega) (by omega) (fun _ => ?_) (fun h9 => by omega)
  refine lv_iload_n hx hb dJ3_checkIndex_8e157_16 rfl (lv_at hl 0 rfl) ?_
  rw [← hQQ]; exact end_i (u := ()) hx hb hr hlocks dJ3_checkIndex_8e157_17 hK hP hD hS rfl (Nat.le_of_ble_eq_true rfl) (Nat.le_of_ble_eq_true rfl)

set_option maxHeartbeats 4000000 in
set_option maxRecDepth 100000 in
/-- checkIndex -/
theorem qJ15_checkIndex_7cf53 (l : Launch) (dC : Nat → ClassId) (dI : Nat → Nat → Nat) (cy : Nat → ClassId) (e0 mi : Nat) (ws : va_W) (sz : Nat) (t n : Nat) (htn : t < n) (hn : n < 2 ^ 31) : Met l yJ15_checkIndex_7cf53 wsJ15_checkIndex_7cf53 ({ frames := 1, cells := 0, slots := 0, locals := 22 }) (va_Pc [.int (nI t), .int (nI n)] (wPre (dC, dI) (tyL cy) (ws) sz)) (QI (dC, dI) (tyL cy) (fun (r : Int32) (_ : Unit) => r = nI t) (fun _ => ws) (va_A (ws) sz)) 0 0 (va_A (ws) sz) := by
  refine en (cc := cJ15_checkIndex_7cf53) (maxL := 2) (ret := (some .int)) (own := RJ15) (lv := [(0, .int (nI t)), (1, .int (nI n))]) (by decide) rfl rfl (Nat.le_of_ble_eq_true rfl) rfl ?_
  intro p e s m below meth c ls A H locs hx hb hr hts hown hlocks hml hin hsz hK hP hD hS hA hl
  generalize hQQ : MQ below _ _ s _ _ A = QQ
  refine lv_iload_n hx hb dJ15_checkIndex_7cf53_0 rfl (lv_at hl 0 rfl) ?_
  refine lv_iload_n hx hb dJ15_checkIndex_7cf53_1 rfl (lv_at hl 1 rfl) ?_
  refine lv_null hx hb dJ15_checkIndex_7cf53_2 ?_
  refine call_i (va_runS (As := [.int (nI t), .int (nI n), .null]) (rest := []) ⟨hx, hb, hml, hown, hts⟩ (qJ3_checkIndex_8e157 l dC dI cy e0 mi ws H.size t n htn hn) (va_cwS 3 hts gJ15_checkIndex_7cf53_J3_checkIndex_8e157 rfl rfl rfl (by decide +kernel) ⟨Nat.le_of_ble_eq_true rfl, Nat.le_of_ble_eq_true rfl⟩) (preS hK hP hD) rfl rfl hl.1 rfl (lv_room (Nat.le_of_ble_eq_true rfl)) dJ15_checkIndex_7cf53_3 ⟨Nat.le_of_ble_eq_true rfl, Nat.le_of_ble_eq_true rfl⟩) hD hS hA (fun r_1 u H locs w_2 hP hD hS => ?_)
  subst w_2
  have hP : va_P (dC, dI) vwCl ws H := hP
  have hD : va_D A ws := hD
  rw [← hQQ]; exact end_i (u := ()) hx hb hr hlocks dJ15_checkIndex_7cf53_6 hK hP hD hS rfl (Nat.le_of_ble_eq_true rfl) (Nat.le_of_ble_eq_true rfl)

set_option maxHeartbeats 4000000 in
set_option maxRecDepth 100000 in
/-- get -/
theorem qJx4a65c_get_915e3 (l : Launch) (dC : Nat → ClassId) (dI : Nat → Nat → Nat) (cy : Nat → ClassId) (e0 mi : Nat) (ws : va_W) (sz : Nat) (a0 b0 k0 k1 n cap t x0 : Nat) (mc0 : Int32) (row : Nat → Option Nat) (hk0 : ws[k0]? = some (a0, .inr (0, [.int mc0, .ref b0, .int (nI n)]))) (hk1 : ws[k1]? = some (b0, .inl (cy 3, cap, .inr (.inr (.inr (.inr row)))))) (htn : t < cap) (hcap : cap < 2 ^ 31) (hrow : row t = some x0) (htz : t < n) (hn : n < 2 ^ 31) : Met l yJx4a65c_get_915e3 wsJx4a65c_get_915e3 ({ frames := 2, cells := 0, slots := 0, locals := 43 }) (va_Pc [.ref a0, .int (nI t)] (wPre (dC, dI) (tyL cy) (ws) sz)) (QR (dC, dI) (tyL cy) (fun (r : Nat) (_ : Unit) => r = x0) (fun _ => ws) (va_A (ws) sz)) 0 0 (va_A (ws) sz) := by
  refine en (cc := cJx4a65c_get_915e3) (maxL := 2) (ret := (some (.object "java/lang/Object"))) (own := RJx4a65c) (lv := [(0, .ref a0), (1, .int (nI t))]) (by decide) rfl rfl (Nat.le_of_ble_eq_true rfl) rfl ?_
  intro p e s m below meth c ls A H locs hx hb hr hts hown hlocks hml hin hsz hK hP hD hS hA hl
  generalize hQQ : MQ below _ _ s _ _ A = QQ
  have inJx4a65c_ : ∀ w ∈ wsJx4a65c0, w ∈ wsJx4a65c_get_915e3 := fun _ h => List.mem_cons_of_mem _ (List.mem_append_right _ h)
  have lk0 : (Cond.fieldLink RJx4a65c 48 "java/util/ArrayList" "size" "I").before (([.ref a0, .int (nI t)] : List Value).toArray) s = true := hts _ (List.mem_of_getElem? (i := 1) rfl)
  refine lv_iload_n hx hb dJx4a65c_get_915e3_0 rfl (lv_at hl 1 rfl) ?_
  refine lv_aload_n hx hb dJx4a65c_get_915e3_1 rfl (lv_at hl 0 rfl) ?_
  refine va_get (D := (dC, dI)) (ci := 0) (v := .int (nI n)) (C := RJx4a65c) (T := TJx4a65c) (N := 3) hx hb hts inJx4a65c_ hown hK hP k0 hk0 rfl 2 (by decide) lk0 (fun _ h9 => h9) rfl dJx4a65c_get_915e3_2 ?_
  refine call_i (va_runS (As := [.int (nI t), .int (nI n)]) (rest := []) ⟨hx, hb, hml, hown, hts⟩ (qJ15_checkIndex_7cf53 l dC dI cy e0 mi ws H.size t n htz hn) (va_cwS 2 hts gJx4a65c_get_915e3_J15_checkIndex_7cf53 rfl rfl rfl (by decide +kernel) ⟨Nat.le_of_ble_eq_true rfl, Nat.le_of_ble_eq_true rfl⟩) (preS hK hP hD) rfl rfl hl.1 rfl (lv_room (Nat.le_of_ble_eq_true rfl)) dJx4a65c_get_915e3_5 ⟨Nat.le_of_ble_eq_true rfl, Nat.le_of_ble_eq_true rfl⟩) hD hS hA (fun r_1 u H locs w_2 hP hD hS => ?_)
  subst w_2
  have hP : va_P (dC, dI) vwCl ws H := hP
  have hD : va_D A ws := hD
  refine lv_pop hx hb dJx4a65c_get_915e3_8 rfl ?_
  refine lv_aload_n hx hb dJx4a65c_get_915e3_9 rfl (lv_at hl 0 rfl) ?_
  refine lv_iload_n hx hb dJx4a65c_get_915e3_10 rfl (lv_at hl 1 rfl) ?_
  refine call_r (va_runV (As := [.int (nI t)]) (rest := []) ⟨hx, hb, hml, hown, hts⟩ (qJx4a65c_elementData_915e3 l dC dI cy e0 mi ws H.size a0 b0 k0 k1 n cap t x0 mc0 row hk0 hk1 htn hcap hrow) (cwV 1 hts gJx4a65c_get_915e3_Jx4a65c_elementData_915e3 rfl rfl rfl (by decide +kernel) ⟨Nat.le_of_ble_eq_true rfl, Nat.le_of_ble_eq_true rfl⟩) (preV hK hP hD (w_recv (ci := 0) (q0 := k0) hK hP hk0 rfl)) rfl rfl hl.1 rfl (lv_room (Nat.le_of_ble_eq_true rfl)) dJx4a65c_get_915e3_11 ⟨Nat.le_of_ble_eq_true rfl, Nat.le_of_ble_eq_true rfl⟩) hD hS hA (fun r_3 u H locs w_4 hP hD hS => ?_)
  subst w_4
  have hP : va_P (dC, dI) vwCl ws H := hP
  have hD : va_D A ws := hD
  rw [← hQQ]; exact end_r (u := ()) hx hb hr (Or.inl ⟨_, rfl⟩) hlocks dJx4a65c_get_915e3_14 hK hP hD hS rfl (Nat.le_of_ble_eq_true rfl) (Nat.le_of_ble_eq_true rfl)

set_option maxHeartbeats 4000000 in
set_option maxRecDepth 100000 in
/-- contractAt -/
theorem qX3_contractAt (l : Launch) (dC : Nat → ClassId) (dI : Nat → Nat → Nat) (cy : Nat → ClassId) (e0 mi : Nat) (ad : Lc → Nat) (L : List Lc) (S : SS) (N : NN) (sz : Nat) (x : Int32) (hI : okC L N) (hst : l.stackTraces = false) : vx_Met l yX3_contractAt wsX3_contractAt ({ frames := 6, cells := 1, slots := 6, locals := 90 }) (va_Pc [.ref (ad (10, 0)), .int x] (wPreX (dC, dI) (tyL cy) e0 mi (cw cy e0 ad L S N) sz)) (QR (dC, dI) (tyL cy) (fun (r : Nat) (u : CS) => (∃ j : Nat, j < N 0 0 0 ∧ x = nI j ∧ ix (nI j) = j ∧ r = ad (0, j)) ∧ isCt N 0 x ∧ u = (S, N)) (cwU cy e0 ad L) (va_A (cw cy e0 ad L S N) sz)) (XX (dC, dI) (tyL cy) (fun E => E = xIO ∧ ¬ isCt N 0 x) (cw cy e0 ad L S N) (va_A (cw cy e0 ad L S N) sz)) 1 6 (va_A (cw cy e0 ad L S N) sz) := by
  refine enX (cc := cX3_contractAt) (maxL := 2) (ret := (some (.object "ClauseShop$Contract"))) (own := RX3) (lv := [(0, .ref (ad (10, 0))), (1, .int x)]) (by decide) rfl rfl (Nat.le_of_ble_eq_true rfl) rfl ?_
  intro p e s m below meth c ls A H locs hx hb hr hts hown hlocks hml hin hsz hK hP hD hS hA hl ham hnt
  generalize hQQ : vx_MQ below _ _ _ s _ _ A = QQ
  have hI0 := hI
  obtain ⟨⟨hM0, hM8, hM9, hMF, hM15, hM17⟩, hV, hLt, hO, hDu, hnc, hnd, hcC, hcD, hcC2, hcD2⟩ := hI
  have inX3_ : ∀ w ∈ wsX30, w ∈ wsX3_contractAt := fun _ h => List.mem_cons_of_mem _ (List.mem_append_left _ (List.mem_append_left _ (List.mem_append_right _ h)))
  have lk0 : (Cond.fieldLink RX3 25 "ClauseShop" "contracts" "Ljava/util/ArrayList;").before (([.ref (ad (10, 0)), .int x] : List Value).toArray) s = true := hts _ (List.mem_of_getElem? (i := 3) rfl)
  have lk1 : (Cond.classLink RX3 76 "ClauseShop$Contract").before (([.ref (ad (10, 0)), .int x] : List Value).toArray) s = true := hts _ (List.mem_of_getElem? (i := 4) rfl)
  have lk2 : (Cond.classLink RX3 204 "java/lang/IndexOutOfBoundsException").before (([.ref (ad (10, 0)), .int x] : List Value).toArray) s = true := hts _ (List.mem_of_getElem? (i := 1) rfl)
  have lk3 : (Cond.initialized "java/lang/IndexOutOfBoundsException").before (([.ref (ad (10, 0)), .int x] : List Value).toArray) s = true := hts _ (List.mem_of_getElem? (i := 2) rfl)
  refine lv_iload_n hx hb dX3_contractAt_0 rfl (lv_at hl 1 rfl) ?_
  refine lv_iconst (v := nI 0) hx hb dX3_contractAt_1 (by decide) ?_
  refine lv_aload_n hx hb dX3_contractAt_2 rfl (lv_at hl 0 rfl) ?_
  obtain ⟨z_1, hz_1⟩ := pl_get (ad := ad) (f := cc cy e0 ad S N) (hMF 10 (by decide))
  rw [show cc cy e0 ad S N (10, 0) = .inr (4, [.ref (ad (11, 0)), .ref (ad (12, 0)), .ref (ad (13, 0)), .ref (ad (14, 0)), .ref (ad (16, 0)), .int (S 0 0 0)]) from rfl] at hz_1
  refine va_get (D := (dC, dI)) (ci := 4) (v := .ref (ad (14, 0))) (C := RX3) (T := TX3) (N := 6) hx hb hts inX3_ hown hK hP z_1 hz_1 rfl 3 (by decide) lk0 (fun _ h9 => h9) rfl dX3_contractAt_3 ?_
  obtain ⟨z_2, hz_2⟩ := pl_get (ad := ad) (f := cc cy e0 ad S N) (hMF 14 (by decide))
  rw [show cc cy e0 ad S N (14, 0) = .inr (0, [.int (S 10 0 0), .ref (if N 6 0 0 = 0 then e0 else ad (15, 0)), .int (nI (N 0 0 0))]) from rfl] at hz_2
  refine call_i (va_runV (As := []) (rest := [.int (nI 0), .int x]) ⟨hx, hb, hml, hown, hts⟩ (qJx4a65c_size_8abf5 l dC dI cy e0 mi (cw cy e0 ad L S N) H.size _ z_2 (N 0 0 0) (S 10 0 0) _ hz_2) (cwV 0 hts gX3_contractAt_Jx4a65c_size_8abf5 rfl rfl rfl (by decide +kernel) ⟨Nat.le_of_ble_eq_true rfl, Nat.le_of_ble_eq_true rfl⟩) (preV hK hP hD (w_recv (ci := 0) (q0 := z_2) hK hP hz_2 rfl)) rfl rfl hl.1 rfl (lv_room (Nat.le_of_ble_eq_true rfl)) dX3_contractAt_6 ⟨Nat.le_of_ble_eq_true rfl, Nat.le_of_ble_eq_true rfl⟩) hD hS hA (fun r_3 _ H locs w_4 hP hD hS => ?_)
  subst w_4
  have hP : va_P (dC, dI) vwCl (cw cy e0 ad L S N) H := hP
  have hD : va_D A (cw cy e0 ad L S N) := hD
  refine lv_iconst (v := nI 1) hx hb dX3_contractAt_9 (by decide) ?_
  refine lv_isub hx hb dX3_contractAt_10 ?_
  refine call_i (va_runS (As := [.int x, .int (nI 0), .int ((nI (N 0 0 0)) - (nI 1))]) (rest := []) ⟨hx, hb, hml, hown, hts⟩ (qX3_isWithin l dC dI cy e0 mi (cw cy e0 ad L S N) H.size x (nI 0) ((nI (N 0 0 0)) - (nI 1))) (va_cwS 3 hts gX3_contractAt_X3_isWithin rfl rfl rfl (by decide +kernel) ⟨Nat.le_of_ble_eq_true rfl, Nat.le_of_ble_eq_true rfl⟩) (preS hK hP hD) rfl rfl hl.1 rfl (lv_room (Nat.le_of_ble_eq_true rfl)) dX3_contractAt_11 ⟨Nat.le_of_ble_eq_true rfl, Nat.le_of_ble_eq_true rfl⟩) hD hS hA (fun r_5 u H locs w_6 hP hD hS => ?_)
  subst w_6
  have hP : va_P (dC, dI) vwCl (cw cy e0 ad L S N) H := hP
  have hD : va_D A (cw cy e0 ad L S N) := hD
  refine to_i (y := bi (isCt N 0 x)) rfl ?_
  refine br_ne (tgt := 27) hx hb dX3_contractAt_14 (by decide) (fun c_7 => ?_) (fun c_7 => ?_)
  · obtain ⟨i, hi, ex, ei⟩ := ct_ix (n := N 0 0 0) (by omega) c_7
    subst ex
    refine lv_aload_n hx hb dX3_contractAt_27 rfl (lv_at hl 0 rfl) ?_
    obtain ⟨z_8, hz_8⟩ := pl_get (ad := ad) (f := cc cy e0 ad S N) (hMF 10 (by decide))
    rw [show cc cy e0 ad S N (10, 0) = .inr (4, [.ref (ad (11, 0)), .ref (ad (12, 0)), .ref (ad (13, 0)), .ref (ad (14, 0)), .ref (ad (16, 0)), .int (S 0 0 0)]) from rfl] at hz_8
    refine va_get (D := (dC, dI)) (ci := 4) (v := .ref (ad (14, 0))) (C := RX3) (T := TX3) (N := 6) hx hb hts inX3_ hown hK hP z_8 hz_8 rfl 3 (by decide) lk0 (fun _ h9 => h9) rfl dX3_contractAt_28 ?_
    refine lv_iload_n hx hb dX3_contractAt_31 rfl (lv_at hl 1 rfl) ?_
    obtain ⟨z_9, hz_9⟩ := pl_get (ad := ad) (f := cc cy e0 ad S N) (hMF 14 (by decide))
    rw [show cc cy e0 ad S N (14, 0) = .inr (0, [.int (S 10 0 0), .ref (if N 6 0 0 = 0 then e0 else ad (15, 0)), .int (nI (N 0 0 0))]) from rfl] at hz_9
    obtain ⟨z_10, hz_10⟩ := pl_get (ad := ad) (f := cc cy e0 ad S N) (hM15 (by omega))
    rw [show cc cy e0 ad S N (15, 0) = .inl (cy 3, N 6 0 0, .inr (.inr (.inr (.inr (fun j => if j < N 0 0 0 then some (ad (0, j)) else none))))) from rfl] at hz_10
    rw [if_neg (show ¬ N 6 0 0 = 0 by omega)] at hz_9
    refine call_r (va_runV (As := [.int (nI i)]) (rest := []) ⟨hx, hb, hml, hown, hts⟩ (qJx4a65c_get_915e3 l dC dI cy e0 mi (cw cy e0 ad L S N) H.size _ _ z_9 z_10 (N 0 0 0) (N 6 0 0) i (ad (0, i)) _ _ hz_9 hz_10 (by omega) (by omega) (if_pos (by omega)) (by omega) (by omega)) (cwV 1 hts gX3_contractAt_Jx4a65c_get_915e3 rfl rfl rfl (by decide +kernel) ⟨Nat.le_of_ble_eq_true rfl, Nat.le_of_ble_eq_true rfl⟩) (preV hK hP hD (w_recv (ci := 0) (q0 := z_9) hK hP hz_9 rfl)) rfl rfl hl.1 rfl (lv_room (Nat.le_of_ble_eq_true rfl)) dX3_contractAt_32 ⟨Nat.le_of_ble_eq_true rfl, Nat.le_of_ble_eq_true rfl⟩) hD hS hA (fun r_11 _ H locs w_12 hP hD hS => ?_)
    subst w_12
    have hP : va_P (dC, dI) vwCl (cw cy e0 ad L S N) H := hP
    have hD : va_D A (cw cy e0 ad L S N) := hD
    obtain ⟨z_13, hz_13⟩ := pl_get (ad := ad) (f := cc cy e0 ad S N) (hM0 0 i (by decide) (by omega))
    rw [show cc cy e0 ad S N (0, i) = .inr (1, [.ref (ad (1, i)), .ref (ad (2, i)), .ref (ad (5, i)), .ref (ad (6, i)), .ref (ad (7, i))]) from rfl] at hz_13
    refine va_castS (nm := RX0) hx hb hown lk1 (hK.1 1 _ rfl).2 (w_recv (ci := 1) (q0 := z_13) hK hP hz_13 rfl) dX3_contractAt_35 ?_
    rw [← hQQ]; apply vx_ret; exact end_r (u := (S, N)) hx hb hr (Or.inl ⟨_, rfl⟩) hlocks dX3_contractAt_38 hK hP hD hS ⟨⟨i, hi, rfl, ei, rfl⟩, c_7, rfl⟩ (Nat.le_of_ble_eq_true rfl) (Nat.le_of_ble_eq_true rfl)
  · rw [← hQQ]; exact thr (cls := "java/lang/IndexOutOfBoundsException") (text := "no such contract") (is := 206) (ic := 208) (ik := 204) hx hb hst hown (by decide) lk2 lk3 (by decide) ham (fun w h => hts w (List.mem_cons_of_mem _ (List.mem_append_right _ h))) (by decide) (by decide +kernel) (by decide +kernel) dX3_contractAt_17 dX3_contractAt_20 dX3_contractAt_21 dX3_contractAt_23 dX3_contractAt_26 (hl.1.trans hml.symm) hnt hlocks (Nat.le_of_ble_eq_true rfl) (Nat.le_of_ble_eq_true rfl) (Nat.le_of_ble_eq_true rfl) (Nat.le_of_ble_eq_true rfl) (⟨rfl, c_7⟩) hK hP hD hS (Nat.le_of_ble_eq_true rfl) (Nat.le_of_ble_eq_true rfl)

set_option maxHeartbeats 4000000 in
set_option maxRecDepth 100000 in
/-- dutyAt -/
theorem qX3_dutyAt (l : Launch) (dC : Nat → ClassId) (dI : Nat → Nat → Nat) (cy : Nat → ClassId) (e0 mi : Nat) (ad : Lc → Nat) (L : List Lc) (S : SS) (N : NN) (sz : Nat) (x : Int32) (hI : okC L N) (hst : l.stackTraces = false) : vx_Met l yX3_dutyAt wsX3_dutyAt ({ frames := 6, cells := 1, slots := 6, locals := 90 }) (va_Pc [.ref (ad (10, 0)), .int x] (wPreX (dC, dI) (tyL cy) e0 mi (cw cy e0 ad L S N) sz)) (QR (dC, dI) (tyL cy) (fun (r : Nat) (u : CS) => (∃ j : Nat, j < N 5 0 0 ∧ x = nI j ∧ ix (nI j) = j ∧ r = ad (8, j)) ∧ isCt N 5 x ∧ u = (S, N)) (cwU cy e0 ad L) (va_A (cw cy e0 ad L S N) sz)) (XX (dC, dI) (tyL cy) (fun E => E = xIO ∧ ¬ isCt N 5 x) (cw cy e0 ad L S N) (va_A (cw cy e0 ad L S N) sz)) 1 6 (va_A (cw cy e0 ad L S N) sz) := by
  refine enX (cc := cX3_dutyAt) (maxL := 2) (ret := (some (.object "ClauseShop$Duty"))) (own := RX3) (lv := [(0, .ref (ad (10, 0))), (1, .int x)]) (by decide) rfl rfl (Nat.le_of_ble_eq_true rfl) rfl ?_
  intro p e s m below meth c ls A H locs hx hb hr hts hown hlocks hml hin hsz hK hP hD hS hA hl ham hnt
  generalize hQQ : vx_MQ below _ _ _ s _ _ A = QQ
  have hI0 := hI
  obtain ⟨⟨hM0, hM8, hM9, hMF, hM15, hM17⟩, hV, hLt, hO, hDu, hnc, hnd, hcC, hcD, hcC2, hcD2⟩ := hI
  have inX3_ : ∀ w ∈ wsX30, w ∈ wsX3_dutyAt := fun _ h => List.mem_cons_of_mem _ (List.mem_append_left _ (List.mem_append_left _ (List.mem_append_right _ h)))
  have lk0 : (Cond.fieldLink RX3 29 "ClauseShop" "dutyList" "Ljava/util/ArrayList;").before (([.ref (ad (10, 0)), .int x] : List Value).toArray) s = true := hts _ (List.mem_of_getElem? (i := 3) rfl)
  have lk1 : (Cond.classLink RX3 152 "ClauseShop$Duty").before (([.ref (ad (10, 0)), .int x] : List Value).toArray) s = true := hts _ (List.mem_of_getElem? (i := 4) rfl)
  have lk2 : (Cond.classLink RX3 204 "java/lang/IndexOutOfBoundsException").before (([.ref (ad (10, 0)), .int x] : List Value).toArray) s = true := hts _ (List.mem_of_getElem? (i := 1) rfl)
  have lk3 : (Cond.initialized "java/lang/IndexOutOfBoundsException").before (([.ref (ad (10, 0)), .int x] : List Value).toArray) s = true := hts _ (List.mem_of_getElem? (i := 2) rfl)
  refine lv_iload_n hx hb dX3_dutyAt_0 rfl (lv_at hl 1 rfl) ?_
  refine lv_iconst (v := nI 0) hx hb dX3_dutyAt_1 (by decide) ?_
  refine lv_aload_n hx hb dX3_dutyAt_2 rfl (lv_at hl 0 rfl) ?_
  obtain ⟨z_1, hz_1⟩ := pl_get (ad := ad) (f := cc cy e0 ad S N) (hMF 10 (by decide))
  rw [show cc cy e0 ad S N (10, 0) = .inr (4, [.ref (ad (11, 0)), .ref (ad (12, 0)), .ref (ad (13, 0)), .ref (ad (14, 0)), .ref (ad (16, 0)), .int (S 0 0 0)]) from rfl] at hz_1
  refine va_get (D := (dC, dI)) (ci := 4) (v := .ref (ad (16, 0))) (C := RX3) (T := TX3) (N := 6) hx hb hts inX3_ hown hK hP z_1 hz_1 rfl 4 (by decide) lk0 (fun _ h9 => h9) rfl dX3_dutyAt_3 ?_
  obtain ⟨z_2, hz_2⟩ := pl_get (ad := ad) (f := cc cy e0 ad S N) (hMF 16 (by decide))
  rw [show cc cy e0 ad S N (16, 0) = .inr (0, [.int (S 11 0 0), .ref (if N 7 0 0 = 0 then e0 else ad (17, 0)), .int (nI (N 5 0 0))]) from rfl] at hz_2
  refine call_i (va_runV (As := []) (rest := [.int (nI 0), .int x]) ⟨hx, hb, hml, hown, hts⟩ (qJx4a65c_size_8abf5 l dC dI cy e0 mi (cw cy e0 ad L S N) H.size _ z_2 (N 5 0 0) (S 11 0 0) _ hz_2) (cwV 0 hts gX3_dutyAt_Jx4a65c_size_8abf5 rfl rfl rfl (by decide +kernel) ⟨Nat.le_of_ble_eq_true rfl, Nat.le_of_ble_eq_true rfl⟩) (preV hK hP hD (w_recv (ci := 0) (q0 := z_2) hK hP hz_2 rfl)) rfl rfl hl.1 rfl (lv_room (Nat.le_of_ble_eq_true rfl)) dX3_dutyAt_6 ⟨Nat.le_of_ble_eq_true rfl, Nat.le_of_ble_eq_true rfl⟩) hD hS hA (fun r_3 _ H locs w_4 hP hD hS => ?_)
  subst w_4
  have hP : va_P (dC, dI) vwCl (cw cy e0 ad L S N) H := hP
  have hD : va_D A (cw cy e0 ad L S N) := hD
  refine lv_iconst (v := nI 1) hx hb dX3_dutyAt_9 (by decide) ?_
  refine lv_isub hx hb dX3_dutyAt_10 ?_
  refine call_i (va_runS (As := [.int x, .int (nI 0), .int ((nI (N 5 0 0)) - (nI 1))]) (rest := []) ⟨hx, hb, hml, hown, hts⟩ (qX3_isWithin l dC dI cy e0 mi (cw cy e0 ad L S N) H.size x (nI 0) ((nI (N 5 0 0)) - (nI 1))) (va_cwS 3 hts gX3_dutyAt_X3_isWithin rfl rfl rfl (by decide +kernel) ⟨Nat.le_of_ble_eq_true rfl, Nat.le_of_ble_eq_true rfl⟩) (preS hK hP hD) rfl rfl hl.1 rfl (lv_room (Nat.le_of_ble_eq_true rfl)) dX3_dutyAt_11 ⟨Nat.le_of_ble_eq_true rfl, Nat.le_of_ble_eq_true rfl⟩) hD hS hA (fun r_5 u H locs w_6 hP hD hS => ?_)
  subst w_6
  have hP : va_P (dC, dI) vwCl (cw cy e0 ad L S N) H := hP
  have hD : va_D A (cw cy e0 ad L S N) := hD
  refine to_i (y := bi (isCt N 5 x)) rfl ?_
  refine br_ne (tgt := 27) hx hb dX3_dutyAt_14 (by decide) (fun c_7 => ?_) (fun c_7 => ?_)
  · obtain ⟨j, hj, ex, ej⟩ := ct_ix (n := N 5 0 0) (by omega) c_7
    subst ex
    refine lv_aload_n hx hb dX3_dutyAt_27 rfl (lv_at hl 0 rfl) ?_
    obtain ⟨z_8, hz_8⟩ := pl_get (ad := ad) (f := cc cy e0 ad S N) (hMF 10 (by decide))
    rw [show cc cy e0 ad S N (10, 0) = .inr (4, [.ref (ad (11, 0)), .ref (ad (12, 0)), .ref (ad (13, 0)), .ref (ad (14, 0)), .ref (ad (16, 0)), .int (S 0 0 0)]) from rfl] at hz_8
    refine va_get (D := (dC, dI)) (ci := 4) (v := .ref (ad (16, 0))) (C := RX3) (T := TX3) (N := 6) hx hb hts inX3_ hown hK hP z_8 hz_8 rfl 4 (by decide) lk0 (fun _ h9 => h9) rfl dX3_dutyAt_28 ?_
    refine lv_iload_n hx hb dX3_dutyAt_31 rfl (lv_at hl 1 rfl) ?_
    obtain ⟨z_9, hz_9⟩ := pl_get (ad := ad) (f := cc cy e0 ad S N) (hMF 16 (by decide))
    rw [show cc cy e0 ad S N (16, 0) = .inr (0, [.int (S 11 0 0), .ref (if N 7 0 0 = 0 then e0 else ad (17, 0)), .int (nI (N 5 0 0))]) from rfl] at hz_9
    obtain ⟨z_10, hz_10⟩ := pl_get (ad := ad) (f := cc cy e0 ad S N) (hM17 (by omega))
    rw [show cc cy e0 ad S N (17, 0) = .inl (cy 3, N 7 0 0, .inr (.inr (.inr (.inr (fun j => if j < N 5 0 0 then some (ad (8, j)) else none))))) from rfl] at hz_10
    rw [if_neg (show ¬ N 7 0 0 = 0 by omega)] at hz_9
    refine call_r (va_runV (As := [.int (nI j)]) (rest := []) ⟨hx, hb, hml, hown, hts⟩ (qJx4a65c_get_915e3 l dC dI cy e0 mi (cw cy e0 ad L S N) H.size _ _ z_9 z_10 (N 5 0 0) (N 7 0 0) j (ad (8, j)) _ _ hz_9 hz_10 (by omega) (by omega) (if_pos (by omega)) (by omega) (by omega)) (cwV 1 hts gX3_dutyAt_Jx4a65c_get_915e3 rfl rfl rfl (by decide +kernel) ⟨Nat.le_of_ble_eq_true rfl, Nat.le_of_ble_eq_true rfl⟩) (preV hK hP hD (w_recv (ci := 0) (q0 := z_9) hK hP hz_9 rfl)) rfl rfl hl.1 rfl (lv_room (Nat.le_of_ble_eq_true rfl)) dX3_dutyAt_32 ⟨Nat.le_of_ble_eq_true rfl, Nat.le_of_ble_eq_true rfl⟩) hD hS hA (fun r_11 _ H locs w_12 hP hD hS => ?_)
    subst w_12
    have hP : va_P (dC, dI) vwCl (cw cy e0 ad L S N) H := hP
    have hD : va_D A (cw cy e0 ad L S N) := hD
    obtain ⟨z_13, hz_13⟩ := pl_get (ad := ad) (f := cc cy e0 ad S N) (hM8 j (by omega))
    rw [show cc cy e0 ad S N (8, j) = .inr (2, [.ref (ad (0, N 3 j 0)), .ref (ad (9, N 3 j 1)), .int (S 9 j 0), .int (S 9 j 1)]) from rfl] at hz_13
    refine va_castS (nm := RX1) hx hb hown lk1 (hK.1 2 _ rfl).2 (w_recv (ci := 2) (q0 := z_13) hK hP hz_13 rfl) dX3_dutyAt_35 ?_
    rw [← hQQ]; apply vx_ret; exact end_r (u := (S, N)) hx hb hr (Or.inl ⟨_, rfl⟩) hlocks dX3_dutyAt_38 hK hP hD hS ⟨⟨j, hj, rfl, ej, rfl⟩, c_7, rfl⟩ (Nat.le_of_ble_eq_true rfl) (Nat.le_of_ble_eq_true rfl)
  · rw [← hQQ]; exact thr (cls := "java/lang/IndexOutOfBoundsException") (text := "no such duty") (is := 213) (ic := 208) (ik := 204) hx hb hst hown (by decide) lk2 lk3 (by decide) ham (fun w h => hts w (List.mem_cons_of_mem _ (List.mem_append_right _ h))) (by decide) (by decide +kernel) (by decide +kernel) dX3_dutyAt_17 dX3_dutyAt_20 dX3_dutyAt_21 dX3_dutyAt_23 dX3_dutyAt_26 (hl.1.trans hml.symm) hnt hlocks (Nat.le_of_ble_eq_true rfl) (Nat.le_of_ble_eq_true rfl) (Nat.le_of_ble_eq_true rfl) (Nat.le_of_ble_eq_true rfl) (⟨rfl, c_7⟩) hK hP hD hS (Nat.le_of_ble_eq_true rfl) (Nat.le_of_ble_eq_true rfl)

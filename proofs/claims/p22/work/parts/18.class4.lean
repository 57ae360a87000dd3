theorem mem9 {L : List Lc} {N : NN} {c n : Nat} (h : ∀ c n, c < 10 → n < N 1 0 c → (9, 9 * c + n) ∈ L) (hc : c < 10) (h1 : ¬ n = 0) (h2 : n ≤ N 1 0 c) : (9, 9 * c + n - 1) ∈ L := by
  have h3 := h c (n - 1) hc (by omega)
  rwa [show 9 * c + (n - 1) = 9 * c + n - 1 by omega] at h3

set_option maxHeartbeats 4000000 in
set_option maxRecDepth 100000 in
/-- numberOf(null) -/
theorem qX3_numberOf_z (l : Launch) (dC : Nat → ClassId) (dI : Nat → Nat → Nat) (cy : Nat → ClassId) (e0 mi : Nat) (ws : va_W) (sz : Nat) : Met l yX3_numberOf wsX3_numberOf ({ frames := 0, cells := 0, slots := 0, locals := 0 }) (va_Pc [.null] (wPre (dC, dI) (tyL cy) (ws) sz)) (QI (dC, dI) (tyL cy) (fun (r : Int32) (_ : Unit) => r = nI 0) (fun _ => ws) (va_A (ws) sz)) 0 0 (va_A (ws) sz) := by
  refine en (cc := cX3_numberOf) (maxL := 1) (ret := (some .int)) (own := RX3) (lv := [(0, .null)]) (by decide) rfl rfl (Nat.le_of_ble_eq_true rfl) rfl ?_
  intro p e s m below meth c ls A H locs hx hb hr hts hown hlocks hml hin hsz hK hP hD hS hA hl
  generalize hQQ : MQ below _ _ s _ _ A = QQ
  refine lv_aload_nN hx hb dX3_numberOf_0 rfl (lv_at hl 0 rfl) ?_
  refine lv_ifnonnullN hx hb dX3_numberOf_1 ?_
  refine lv_iconst (v := nI 0) hx hb dX3_numberOf_4 (by decide) ?_
  refine lv_goto (tgt := 12) hx hb dX3_numberOf_5 (by decide) ?_
  rw [← hQQ]; exact end_i (u := ()) hx hb hr hlocks dX3_numberOf_12 hK hP hD hS rfl (Nat.le_of_ble_eq_true rfl) (Nat.le_of_ble_eq_true rfl)

set_option maxHeartbeats 4000000 in
set_option maxRecDepth 100000 in
/-- numberOf(a version) -/
theorem qX3_numberOf_s (l : Launch) (dC : Nat → ClassId) (dI : Nat → Nat → Nat) (cy : Nat → ClassId) (e0 mi : Nat) (ws : va_W) (sz : Nat) (a0 k0 : Nat) (n0 o0 d0 c0 z0 : Int32) (hk0 : ws[k0]? = some (a0, .inr (3, [.int n0, .int o0, .int d0, .int c0, .int z0]))) : Met l yX3_numberOf wsX3_numberOf ({ frames := 0, cells := 0, slots := 0, locals := 0 }) (va_Pc [.ref a0] (wPre (dC, dI) (tyL cy) (ws) sz)) (QI (dC, dI) (tyL cy) (fun (r : Int32) (_ : Unit) => r = n0) (fun _ => ws) (va_A (ws) sz)) 0 0 (va_A (ws) sz) := by
  refine en (cc := cX3_numberOf) (maxL := 1) (ret := (some .int)) (own := RX3) (lv := [(0, .ref a0)]) (by decide) rfl rfl (Nat.le_of_ble_eq_true rfl) rfl ?_
  intro p e s m below meth c ls A H locs hx hb hr hts hown hlocks hml hin hsz hK hP hD hS hA hl
  generalize hQQ : MQ below _ _ s _ _ A = QQ
  have inX2_ : ∀ w ∈ wsX20, w ∈ wsX3_numberOf := fun _ h => List.mem_cons_of_mem _ (List.mem_append_right _ h)
  have lk0 : (Cond.fieldLink RX3 215 "ClauseShop$Version" "number" "I").before (([.ref a0] : List Value).toArray) s = true := hts _ (List.mem_of_getElem? (i := 1) rfl)
  refine lv_aload_n hx hb dX3_numberOf_0 rfl (lv_at hl 0 rfl) ?_
  refine lv_ifnonnull (tgt := 8) hx hb dX3_numberOf_1 (by decide) ?_
  refine lv_aload_n hx hb dX3_numberOf_8 rfl (lv_at hl 0 rfl) ?_
  refine va_get (D := (dC, dI)) (ci := 3) (v := .int n0) (C := RX2) (T := TX2) (N := 5) hx hb hts inX2_ hown hK hP k0 hk0 rfl 0 (by decide) lk0 (fun _ h9 => h9) rfl dX3_numberOf_9 ?_
  rw [← hQQ]; exact end_i (u := ()) hx hb hr hlocks dX3_numberOf_12 hK hP hD hS rfl (Nat.le_of_ble_eq_true rfl) (Nat.le_of_ble_eq_true rfl)

set_option maxHeartbeats 4000000 in
set_option maxRecDepth 100000 in
/-- newestNumber -/
theorem qX3_newestNumber (l : Launch) (dC : Nat → ClassId) (dI : Nat → Nat → Nat) (cy : Nat → ClassId) (e0 mi : Nat) (ad : Lc → Nat) (L : List Lc) (S : SS) (N : NN) (sz : Nat) (cn : Nat) (hI : okC L N) (hcn : cn < 10) : Met l yX3_newestNumber wsX3_newestNumber ({ frames := 1, cells := 0, slots := 0, locals := 20 }) (va_Pc [.ref (ad (10, 0)), .int (nI cn)] (wPre (dC, dI) (tyL cy) (cw cy e0 ad L S N) sz)) (QI (dC, dI) (tyL cy) (fun (r : Int32) (u : CS) => r = nI (N 1 0 cn) ∧ u = (S, N)) (cwU cy e0 ad L) (va_A (cw cy e0 ad L S N) sz)) 0 0 (va_A (cw cy e0 ad L S N) sz) := by
  refine en (cc := cX3_newestNumber) (maxL := 2) (ret := (some .int)) (own := RX3) (lv := [(0, .ref (ad (10, 0))), (1, .int (nI cn))]) (by decide) rfl rfl (Nat.le_of_ble_eq_true rfl) rfl ?_
  intro p e s m below meth c ls A H locs hx hb hr hts hown hlocks hml hin hsz hK hP hD hS hA hl
  generalize hQQ : MQ below _ _ s _ _ A = QQ
  have hI0 := hI
  obtain ⟨⟨hM0, hM8, hM9, hMF, hM15, hM17⟩, hV, hLt, hO, hDu, hnc, hnd, hcC, hcD, hcC2, hcD2⟩ := hI
  have inX3_ : ∀ w ∈ wsX30, w ∈ wsX3_newestNumber := fun _ h => List.mem_cons_of_mem _ (List.mem_append_left _ (List.mem_append_right _ h))
  have lk0 : (Cond.fieldLink RX3 11 "ClauseShop" "newest" "[LClauseShop$Version;").before (([.ref (ad (10, 0)), .int (nI cn)] : List Value).toArray) s = true := hts _ (List.mem_of_getElem? (i := 1) rfl)
  have hLc := hLt cn hcn
  refine lv_aload_n hx hb dX3_newestNumber_0 rfl (lv_at hl 0 rfl) ?_
  obtain ⟨z_1, hz_1⟩ := pl_get (ad := ad) (f := cc cy e0 ad S N) (hMF 10 (by decide))
  rw [show cc cy e0 ad S N (10, 0) = .inr (4, [.ref (ad (11, 0)), .ref (ad (12, 0)), .ref (ad (13, 0)), .ref (ad (14, 0)), .ref (ad (16, 0)), .int (S 0 0 0)]) from rfl] at hz_1
  refine va_get (D := (dC, dI)) (ci := 4) (v := .ref (ad (11, 0))) (C := RX3) (T := TX3) (N := 6) hx hb hts inX3_ hown hK hP z_1 hz_1 rfl 0 (by decide) lk0 (fun _ h9 => h9) rfl dX3_newestNumber_1 ?_
  refine lv_iload_n hx hb dX3_newestNumber_4 rfl (lv_at hl 1 rfl) ?_
  obtain ⟨z_2, hz_2⟩ := pl_get (ad := ad) (f := cc cy e0 ad S N) (hMF 11 (by decide))
  rw [show cc cy e0 ad S N (11, 0) = .inl (cy 2, 10, .inr (.inr (.inr (.inr (fun d => vpt ad ((N 1 0) d) d))))) from rfl] at hz_2
  refine x_aald hx hb hK hP z_2 2 hz_2 rfl (t := cn) (by omega) (by decide) dX3_newestNumber_5 ?_
  by_cases c_3 : N 1 0 cn = 0
  · refine to_v (y := .null) (vpt_z c_3) ?_
    refine call_i (va_runS (As := [.null]) (rest := []) ⟨hx, hb, hml, hown, hts⟩ (qX3_numberOf_z l dC dI cy e0 mi (cw cy e0 ad L S N) H.size) (va_cwS 1 hts gX3_newestNumber_X3_numberOf rfl rfl rfl (by decide +kernel) ⟨Nat.le_of_ble_eq_true rfl, Nat.le_of_ble_eq_true rfl⟩) (preS hK hP hD) rfl rfl hl.1 rfl (lv_room (Nat.le_of_ble_eq_true rfl)) dX3_newestNumber_6 ⟨Nat.le_of_ble_eq_true rfl, Nat.le_of_ble_eq_true rfl⟩) hD hS hA (fun r_4 _ H locs w_5 hP hD hS => ?_)
    subst w_5
    have hP : va_P (dC, dI) vwCl (cw cy e0 ad L S N) H := hP
    have hD : va_D A (cw cy e0 ad L S N) := hD
    rw [← hQQ]; exact end_i (u := (S, N)) hx hb hr hlocks dX3_newestNumber_9 hK hP hD hS ⟨by rw [c_3], rfl⟩ (Nat.le_of_ble_eq_true rfl) (Nat.le_of_ble_eq_true rfl)
  · refine to_v (y := .ref (ad (9, 9 * cn + N 1 0 cn - 1))) (vpt_s c_3) ?_
    obtain ⟨z_6, hz_6⟩ := pl_get (ad := ad) (f := cc cy e0 ad S N) (mem9 hM9 (by omega) (by omega) (by omega))
    rw [show cc cy e0 ad S N (9, 9 * cn + N 1 0 cn - 1) = .inr (3, [.int (nI ((9 * cn + N 1 0 cn - 1) % 9 + 1)), .int (nI (N 4 (9 * cn + N 1 0 cn - 1) 0)), .int (S 3 (9 * cn + N 1 0 cn - 1) 1), .int (S 3 (9 * cn + N 1 0 cn - 1) 2), .int (S 3 (9 * cn + N 1 0 cn - 1) 3)]) from rfl] at hz_6
    refine call_i (va_runS (As := [.ref (ad (9, 9 * cn + N 1 0 cn - 1))]) (rest := []) ⟨hx, hb, hml, hown, hts⟩ (qX3_numberOf_s l dC dI cy e0 mi (cw cy e0 ad L S N) H.size _ z_6 _ _ _ _ _ hz_6) (va_cwS 1 hts gX3_newestNumber_X3_numberOf rfl rfl rfl (by decide +kernel) ⟨Nat.le_of_ble_eq_true rfl, Nat.le_of_ble_eq_true rfl⟩) (preS hK hP hD) rfl rfl hl.1 rfl (lv_room (Nat.le_of_ble_eq_true rfl)) dX3_newestNumber_6 ⟨Nat.le_of_ble_eq_true rfl, Nat.le_of_ble_eq_true rfl⟩) hD hS hA (fun r_7 _ H locs w_8 hP hD hS => ?_)
    subst w_8
    have hP : va_P (dC, dI) vwCl (cw cy e0 ad L S N) H := hP
    have hD : va_D A (cw cy e0 ad L S N) := hD
    refine to_i (y := nI (N 1 0 cn)) (congrArg nI (by omega)) ?_
    rw [← hQQ]; exact end_i (u := (S, N)) hx hb hr hlocks dX3_newestNumber_9 hK hP hD hS ⟨rfl, rfl⟩ (Nat.le_of_ble_eq_true rfl) (Nat.le_of_ble_eq_true rfl)

set_option maxHeartbeats 4000000 in
set_option maxRecDepth 100000 in
/-- itemNumber -/
theorem qX3_itemNumber (l : Launch) (dC : Nat → ClassId) (dI : Nat → Nat → Nat) (cy : Nat → ClassId) (e0 mi : Nat) (ad : Lc → Nat) (L : List Lc) (S : SS) (N : NN) (sz : Nat) (i cn : Nat) (hI : okC L N) (hi : i < N 0 0 0) (hcn : cn < 10) : Met l yX3_itemNumber wsX3_itemNumber ({ frames := 1, cells := 0, slots := 0, locals := 20 }) (va_Pc [.ref (ad (0, i)), .int (nI cn)] (wPre (dC, dI) (tyL cy) (cw cy e0 ad L S N) sz)) (QI (dC, dI) (tyL cy) (fun (r : Int32) (u : CS) => r = nI (N 2 i cn) ∧ u = (S, N)) (cwU cy e0 ad L) (va_A (cw cy e0 ad L S N) sz)) 0 0 (va_A (cw cy e0 ad L S N) sz) := by
  refine en (cc := cX3_itemNumber) (maxL := 2) (ret := (some .int)) (own := RX3) (lv := [(0, .ref (ad (0, i))), (1, .int (nI cn))]) (by decide) rfl rfl (Nat.le_of_ble_eq_true rfl) rfl ?_
  intro p e s m below meth c ls A H locs hx hb hr hts hown hlocks hml hin hsz hK hP hD hS hA hl
  generalize hQQ : MQ below _ _ s _ _ A = QQ
  have hI0 := hI
  obtain ⟨⟨hM0, hM8, hM9, hMF, hM15, hM17⟩, hV, hLt, hO, hDu, hnc, hnd, hcC, hcD, hcC2, hcD2⟩ := hI
  have inX0_ : ∀ w ∈ wsX00, w ∈ wsX3_itemNumber := fun _ h => List.mem_cons_of_mem _ (List.mem_append_left _ (List.mem_append_right _ h))
  have lk0 : (Cond.fieldLink RX3 93 "ClauseShop$Contract" "items" "[LClauseShop$Version;").before (([.ref (ad (0, i)), .int (nI cn)] : List Value).toArray) s = true := hts _ (List.mem_of_getElem? (i := 1) rfl)
  have hVc := hV i cn hi hcn
  have hLc := hLt cn hcn
  refine lv_aload_n hx hb dX3_itemNumber_0 rfl (lv_at hl 0 rfl) ?_
  obtain ⟨z_1, hz_1⟩ := pl_get (ad := ad) (f := cc cy e0 ad S N) (hM0 0 i (by decide) (by omega))
  rw [show cc cy e0 ad S N (0, i) = .inr (1, [.ref (ad (1, i)), .ref (ad (2, i)), .ref (ad (5, i)), .ref (ad (6, i)), .ref (ad (7, i))]) from rfl] at hz_1
  refine va_get (D := (dC, dI)) (ci := 1) (v := .ref (ad (1, i))) (C := RX0) (T := TX0) (N := 5) hx hb hts inX0_ hown hK hP z_1 hz_1 rfl 0 (by decide) lk0 (fun _ h9 => h9) rfl dX3_itemNumber_1 ?_
  refine lv_iload_n hx hb dX3_itemNumber_4 rfl (lv_at hl 1 rfl) ?_
  obtain ⟨z_2, hz_2⟩ := pl_get (ad := ad) (f := cc cy e0 ad S N) (hM0 1 i (by decide) (by omega))
  rw [show cc cy e0 ad S N (1, i) = .inl (cy 2, 10, .inr (.inr (.inr (.inr (fun d => vpt ad ((N 2 i) d) d))))) from rfl] at hz_2
  refine x_aald hx hb hK hP z_2 2 hz_2 rfl (t := cn) (by omega) (by decide) dX3_itemNumber_5 ?_
  by_cases c_3 : N 2 i cn = 0
  · refine to_v (y := .null) (vpt_z c_3) ?_
    refine call_i (va_runS (As := [.null]) (rest := []) ⟨hx, hb, hml, hown, hts⟩ (qX3_numberOf_z l dC dI cy e0 mi (cw cy e0 ad L S N) H.size) (va_cwS 1 hts gX3_itemNumber_X3_numberOf rfl rfl rfl (by decide +kernel) ⟨Nat.le_of_ble_eq_true rfl, Nat.le_of_ble_eq_true rfl⟩) (preS hK hP hD) rfl rfl hl.1 rfl (lv_room (Nat.le_of_ble_eq_true rfl)) dX3_itemNumber_6 ⟨Nat.le_of_ble_eq_true rfl, Nat.le_of_ble_eq_true rfl⟩) hD hS hA (fun r_4 _ H locs w_5 hP hD hS => ?_)
    subst w_5
    have hP : va_P (dC, dI) vwCl (cw cy e0 ad L S N) H := hP
    have hD : va_D A (cw cy e0 ad L S N) := hD
    rw [← hQQ]; exact end_i (u := (S, N)) hx hb hr hlocks dX3_itemNumber_9 hK hP hD hS ⟨by rw [c_3], rfl⟩ (Nat.le_of_ble_eq_true rfl) (Nat.le_of_ble_eq_true rfl)
  · refine to_v (y := .ref (ad (9, 9 * cn + N 2 i cn - 1))) (vpt_s c_3) ?_
    obtain ⟨z_6, hz_6⟩ := pl_get (ad := ad) (f := cc cy e0 ad S N) (mem9 hM9 (by omega) (by omega) (by omega))
    rw [show cc cy e0 ad S N (9, 9 * cn + N 2 i cn - 1) = .inr (3, [.int (nI ((9 * cn + N 2 i cn - 1) % 9 + 1)), .int (nI (N 4 (9 * cn + N 2 i cn - 1) 0)), .int (S 3 (9 * cn + N 2 i cn - 1) 1), .int (S 3 (9 * cn + N 2 i cn - 1) 2), .int (S 3 (9 * cn + N 2 i cn - 1) 3)]) from rfl] at hz_6
    refine call_i (va_runS (As := [.ref (ad (9, 9 * cn + N 2 i cn - 1))]) (rest := []) ⟨hx, hb, hml, hown, hts⟩ (qX3_numberOf_s l dC dI cy e0 mi (cw cy e0 ad L S N) H.size _ z_6 _ _ _ _ _ hz_6) (va_cwS 1 hts gX3_itemNumber_X3_numberOf rfl rfl rfl (by decide +kernel) ⟨Nat.le_of_ble_eq_true rfl, Nat.le_of_ble_eq_true rfl⟩) (preS hK hP hD) rfl rfl hl.1 rfl (lv_room (Nat.le_of_ble_eq_true rfl)) dX3_itemNumber_6 ⟨Nat.le_of_ble_eq_true rfl, Nat.le_of_ble_eq_true rfl⟩) hD hS hA (fun r_7 _ H locs w_8 hP hD hS => ?_)
    subst w_8
    have hP : va_P (dC, dI) vwCl (cw cy e0 ad L S N) H := hP
    have hD : va_D A (cw cy e0 ad L S N) := hD
    refine to_i (y := nI (N 2 i cn)) (congrArg nI (by omega)) ?_
    rw [← hQQ]; exact end_i (u := (S, N)) hx hb hr hlocks dX3_itemNumber_9 hK hP hD hS ⟨rfl, rfl⟩ (Nat.le_of_ble_eq_true rfl) (Nat.le_of_ble_eq_true rfl)

abbrev hasLater (N : NN) (i cn : Nat) : Prop := ¬ N 2 i cn = 0 ∧ N 2 i cn < N 1 0 cn

set_option maxHeartbeats 4000000 in
set_option maxRecDepth 100000 in
/-- hasLaterVersion -/
theorem qX3_hasLaterVersion (l : Launch) (dC : Nat → ClassId) (dI : Nat → Nat → Nat) (cy : Nat → ClassId) (e0 mi : Nat) (ad : Lc → Nat) (L : List Lc) (S : SS) (N : NN) (sz : Nat) (i cn : Nat) (hI : okC L N) (hi : i < N 0 0 0) (hcn : cn < 10) : Met l yX3_hasLaterVersion wsX3_hasLaterVersion ({ frames := 2, cells := 0, slots := 0, locals := 41 }) (va_Pc [.ref (ad (10, 0)), .ref (ad (0, i)), .int (nI cn)] (wPre (dC, dI) (tyL cy) (cw cy e0 ad L S N) sz)) (QI (dC, dI) (tyL cy) (fun (r : Int32) (u : CS) => r = bi (hasLater N i cn) ∧ u = (S, N)) (cwU cy e0 ad L) (va_A (cw cy e0 ad L S N) sz)) 0 0 (va_A (cw cy e0 ad L S N) sz) := by
  refine en (cc := cX3_hasLaterVersion) (maxL := 3) (ret := (some .boolean)) (own := RX3) (lv := [(0, .ref (ad (10, 0))), (1, .ref (ad (0, i))), (2, .int (nI cn))]) (by decide) rfl rfl (Nat.le_of_ble_eq_true rfl) rfl ?_
  intro p e s m below meth c ls A H locs hx hb hr hts hown hlocks hml hin hsz hK hP hD hS hA hl
  generalize hQQ : MQ below _ _ s _ _ A = QQ
  have hI0 := hI
  obtain ⟨⟨hM0, hM8, hM9, hMF, hM15, hM17⟩, hV, hLt, hO, hDu, hnc, hnd, hcC, hcD, hcC2, hcD2⟩ := hI
  have inX0_ : ∀ w ∈ wsX00, w ∈ wsX3_hasLaterVersion := fun _ h => List.mem_cons_of_mem _ (List.mem_append_left _ (List.mem_append_left _ (List.mem_append_right _ h)))
  have lk0 : (Cond.fieldLink RX3 93 "ClauseShop$Contract" "items" "[LClauseShop$Version;").before (([.ref (ad (10, 0)), .ref (ad (0, i)), .int (nI cn)] : List Value).toArray) s = true := hts _ (List.mem_of_getElem? (i := 1) rfl)
  have hVc := hV i cn hi hcn
  have hLc := hLt cn hcn
  refine lv_aload_n hx hb dX3_hasLaterVersion_0 rfl (lv_at hl 1 rfl) ?_
  obtain ⟨z_1, hz_1⟩ := pl_get (ad := ad) (f := cc cy e0 ad S N) (hM0 0 i (by decide) (by omega))
  rw [show cc cy e0 ad S N (0, i) = .inr (1, [.ref (ad (1, i)), .ref (ad (2, i)), .ref (ad (5, i)), .ref (ad (6, i)), .ref (ad (7, i))]) from rfl] at hz_1
  refine va_get (D := (dC, dI)) (ci := 1) (v := .ref (ad (1, i))) (C := RX0) (T := TX0) (N := 5) hx hb hts inX0_ hown hK hP z_1 hz_1 rfl 0 (by decide) lk0 (fun _ h9 => h9) rfl dX3_hasLaterVersion_1 ?_
  refine lv_iload_n hx hb dX3_hasLaterVersion_4 rfl (lv_at hl 2 rfl) ?_
  obtain ⟨z_2, hz_2⟩ := pl_get (ad := ad) (f := cc cy e0 ad S N) (hM0 1 i (by decide) (by omega))
  rw [show cc cy e0 ad S N (1, i) = .inl (cy 2, 10, .inr (.inr (.inr (.inr (fun d => vpt ad ((N 2 i) d) d))))) from rfl] at hz_2
  refine x_aald hx hb hK hP z_2 2 hz_2 rfl (t := cn) (by omega) (by decide) dX3_hasLaterVersion_5 ?_
  by_cases c_3 : N 2 i cn = 0
  · refine to_v (y := .null) (vpt_z c_3) ?_
    refine lv_ifnullN (tgt := 26) hx hb dX3_hasLaterVersion_6 (by decide) ?_
    refine lv_iconst (v := nI 0) hx hb dX3_hasLaterVersion_26 (by decide) ?_
    rw [← hQQ]; exact end_z (u := (S, N)) hx hb hr hlocks dX3_hasLaterVersion_27 hK hP hD hS (by rfl) ⟨(bi_f (P := hasLater N i cn) (by simp only [hasLater, eq_true c_3, and_true, true_and, and_false, false_and, if_true, if_false, not_true, not_false_iff, not_false_eq_true, or_true, true_or, or_false, false_or, ite_true, ite_false, and_self, Classical.not_not, Bool.false_eq_true])).symm, rfl⟩ (Nat.le_of_ble_eq_true rfl) (Nat.le_of_ble_eq_true rfl)
  · refine to_v (y := .ref (ad (9, 9 * cn + N 2 i cn - 1))) (vpt_s c_3) ?_
    refine lv_ifnull hx hb dX3_hasLaterVersion_6 ?_
    refine lv_aload_n hx hb dX3_hasLaterVersion_9 rfl (lv_at hl 1 rfl) ?_
    refine lv_iload_n hx hb dX3_hasLaterVersion_10 rfl (lv_at hl 2 rfl) ?_
    refine call_i (va_runS (As := [.ref (ad (0, i)), .int (nI cn)]) (rest := []) ⟨hx, hb, hml, hown, hts⟩ (qX3_itemNumber l dC dI cy e0 mi ad L S N H.size i cn hI0 (by omega) (by omega)) (va_cwS 2 hts gX3_hasLaterVersion_X3_itemNumber rfl rfl rfl (by decide +kernel) ⟨Nat.le_of_ble_eq_true rfl, Nat.le_of_ble_eq_true rfl⟩) (preS hK hP hD) rfl rfl hl.1 rfl (lv_room (Nat.le_of_ble_eq_true rfl)) dX3_hasLaterVersion_11 ⟨Nat.le_of_ble_eq_true rfl, Nat.le_of_ble_eq_true rfl⟩) hD hS hA (fun r_4 u H locs w_5 hP hD hS => ?_)
    obtain ⟨rfl, rfl⟩ := w_5
    have hP : va_P (dC, dI) vwCl (cw cy e0 ad L S N) H := hP
    have hD : va_D A (cw cy e0 ad L S N) := hD
    refine lv_aload_n hx hb dX3_hasLaterVersion_14 rfl (lv_at hl 0 rfl) ?_
    refine lv_iload_n hx hb dX3_hasLaterVersion_15 rfl (lv_at hl 2 rfl) ?_
    obtain ⟨z_6, hz_6⟩ := pl_get (ad := ad) (f := cc cy e0 ad S N) (hMF 10 (by decide))
    rw [show cc cy e0 ad S N (10, 0) = .inr (4, [.ref (ad (11, 0)), .ref (ad (12, 0)), .ref (ad (13, 0)), .ref (ad (14, 0)), .ref (ad (16, 0)), .int (S 0 0 0)]) from rfl] at hz_6
    refine call_i (va_runV (As := [.int (nI cn)]) (rest := [.int (nI (N 2 i cn))]) ⟨hx, hb, hml, hown, hts⟩ (qX3_newestNumber l dC dI cy e0 mi ad L S N H.size cn hI0 (by omega)) (cwV 1 hts gX3_hasLaterVersion_X3_newestNumber rfl rfl rfl (by decide +kernel) ⟨Nat.le_of_ble_eq_true rfl, Nat.le_of_ble_eq_true rfl⟩) (preV hK hP hD (w_recv (ci := 4) (q0 := z_6) hK hP hz_6 rfl)) rfl rfl hl.1 rfl (lv_room (Nat.le_of_ble_eq_true rfl)) dX3_hasLaterVersion_16 ⟨Nat.le_of_ble_eq_true rfl, Nat.le_of_ble_eq_true rfl⟩) hD hS hA (fun r_7 u H locs w_8 hP hD hS => ?_)
    obtain ⟨rfl, rfl⟩ := w_8
    have hP : va_P (dC, dI) vwCl (cw cy e0 ad L S N) H := hP
    have hD : va_D A (cw cy e0 ad L S N) := hD
    refine n_ge (tgt := 26) hx hb dX3_hasLaterVersion_19 (by decide) (by omega) (by omega) (fun c_9 => ?_) (fun c_9 => ?_)
    · have c_9n : ¬ N 2 i cn < N 1 0 cn := by omega
      refine lv_iconst (v := nI 0) hx hb dX3_hasLaterVersion_26 (by decide) ?_
      rw [← hQQ]; exact end_z (u := (S, N)) hx hb hr hlocks dX3_hasLaterVersion_27 hK hP hD hS (by rfl) ⟨(bi_f (P := hasLater N i cn) (by simp only [hasLater, c_3, c_9n, and_true, true_and, and_false, false_and, if_true, if_false, not_true, not_false_iff, not_false_eq_true, or_true, true_or, or_false, false_or, ite_true, ite_false, and_self, Classical.not_not, Bool.false_eq_true])).symm, rfl⟩ (Nat.le_of_ble_eq_true rfl) (Nat.le_of_ble_eq_true rfl)
    · refine lv_iconst (v := nI 1) hx hb dX3_hasLaterVersion_22 (by decide) ?_
      refine lv_goto (tgt := 27) hx hb dX3_hasLaterVersion_23 (by decide) ?_
      rw [← hQQ]; exact end_z (u := (S, N)) hx hb hr hlocks dX3_hasLaterVersion_27 hK hP hD hS (by rfl) ⟨(bi_t (P := hasLater N i cn) (by simp only [hasLater, c_3, eq_true c_9, and_true, true_and, and_false, false_and, if_true, if_false, not_true, not_false_iff, not_false_eq_true, or_true, true_or, or_false, false_or, ite_true, ite_false, and_self, Classical.not_not, Bool.false_eq_true])).symm, rfl⟩ (Nat.le_of_ble_eq_true rfl) (Nat.le_of_ble_eq_true rfl)

def K_union (s0 : Int32) (r : Nat → Int32) : Nat → Int32
  | 0 => nI 0
  | c + 1 => if s0 &&& (nI 1 <<< (nI c &&& 31)) = 0 then K_union s0 r c else K_union s0 r c ||| r c

set_option maxHeartbeats 4000000 in
set_option maxRecDepth 100000 in
/-- unionOver -/
theorem qX3_unionOver (l : Launch) (dC : Nat → ClassId) (dI : Nat → Nat → Nat) (cy : Nat → ClassId) (e0 mi : Nat) (ws : va_W) (sz : Nat) (s0 : Int32) (a0 k0 : Nat) (r0 : Nat → Int32) (hk0 : ws[k0]? = some (a0, .inl (cy 0, 10, .inl r0))) : Met l yX3_unionOver wsX3_unionOver ({ frames := 0, cells := 0, slots := 0, locals := 0 }) (va_Pc [.int s0, .ref a0] (wPre (dC, dI) (tyL cy) (ws) sz)) (QI (dC, dI) (tyL cy) (fun (r : Int32) (_ : Unit) => r = K_union s0 r0 10) (fun _ => ws) (va_A (ws) sz)) 0 0 (va_A (ws) sz) := by
  refine en (cc := cX3_unionOver) (maxL := 4) (ret := (some .int)) (own := RX3) (lv := [(0, .int s0), (1, .ref a0)]) (by decide) rfl rfl (Nat.le_of_ble_eq_true rfl) rfl ?_
  intro p e s m below meth c ls A H locs hx hb hr hts hown hlocks hml hin hsz hK hP hD hS hA hl
  generalize hQQ : MQ below _ _ s _ _ A = QQ
  refine lv_iconst (v := nI 0) hx hb dX3_unionOver_0 (by decide) ?_
  refine lv_istore_n (lv' := [(2, .int (nI 0)), (0, .int s0), (1, .ref a0)]) hx hb dX3_unionOver_1 rfl hl (by decide) rfl (fun ls hl => ?_)
  refine lv_iconst (v := nI 0) hx hb dX3_unionOver_2 (by decide) ?_
  refine lv_istore_n (lv' := [(3, .int (nI 0)), (2, .int (nI 0)), (0, .int s0), (1, .ref a0)]) hx hb dX3_unionOver_3 rfl hl (by decide) rfl (fun ls hl => ?_)
  have hl_un : ∀ (k9 j : Nat), 10 - j = k9 → j ≤ 10 → ∀ (H : Heap) (locs : List Loc) (ls : Array Slot), va_P (dC, dI) vwCl ws H → va_D A ws → va_S A s.heap H locs → lv_has ls 4 [(0, .int s0), (1, .ref a0), (2, .int (K_union s0 r0 j)), (3, .int (nI j))] → W p l e ({ frames := 0, cells := 0, slots := 0, locals := 0 }) s m (([.int s0, .ref a0] : List Value).toArray) below meth c H locs 0 0 QQ (F0 m 4 ls []) := by
    intro k9
    induction k9 using Nat.strongRecOn with
    | _ k9 ih =>
      intro j  hk9 hle9  H locs ls hP hD hS hl
      refine lv_iload_n hx hb dX3_unionOver_4 rfl (lv_at hl 3 rfl) ?_
      refine lv_bipush (v := nI 10) hx hb dX3_unionOver_5 (by decide) ?_
      refine n_ge (tgt := 30) hx hb dX3_unionOver_7 (by decide) (by omega) (by omega) (fun c_1 => ?_) (fun c_1 => ?_)
      · obtain rfl : j = 10 := by omega
        refine lv_iload_n hx hb dX3_unionOver_30 rfl (lv_at hl 2 rfl) ?_
        rw [← hQQ]; exact end_i (u := ()) hx hb hr hlocks dX3_unionOver_31 hK hP hD hS rfl (Nat.le_of_ble_eq_true rfl) (Nat.le_of_ble_eq_true rfl)
      · refine lv_iload_n hx hb dX3_unionOver_10 rfl (lv_at hl 0 rfl) ?_
        refine lv_iconst (v := nI 1) hx hb dX3_unionOver_11 (by decide) ?_
        refine lv_iload_n hx hb dX3_unionOver_12 rfl (lv_at hl 3 rfl) ?_
        refine lv_ishl hx hb dX3_unionOver_13 ?_
        refine lv_iand hx hb dX3_unionOver_14 ?_
        refine lv_if_eq (tgt := 24) hx hb dX3_unionOver_15 (by decide) (fun c_2 => ?_) (fun c_2 => ?_)
        · refine lv_iinc (v := nI (j + 1)) (lv' := [(3, .int (nI (j + 1))), (0, .int s0), (1, .ref a0), (2, .int (K_union s0 r0 j))]) hx hb dX3_unionOver_24 hl (k := 3) rfl (by rw [show Int32.ofInt 1 = 1 from rfl]; exact nI_1 _) (by decide) rfl (fun ls hl => ?_)
          refine lv_goto (tgt := 4) hx hb dX3_unionOver_27 (by decide) ?_
          have e9 : K_union s0 r0 (j + 1) = K_union s0 r0 j := by simp only [K_union, eq_true c_2, and_true, true_and, and_false, false_and, if_true, if_false, not_true, not_false_iff, not_false_eq_true, or_true, true_or, or_false, false_or, ite_true, ite_false, and_self, Classical.not_not, Bool.false_eq_true]
          exact ih (10 - (j + 1)) (by omega) (j + 1)  rfl (by omega)  H locs ls hP hD hS (by rw [e9]; exact lv_sub hl [1, 2, 3, 0] rfl)
        · refine lv_iload_n hx hb dX3_unionOver_18 rfl (lv_at hl 2 rfl) ?_
          refine lv_aload_n hx hb dX3_unionOver_19 rfl (lv_at hl 1 rfl) ?_
          refine lv_iload_n hx hb dX3_unionOver_20 rfl (lv_at hl 3 rfl) ?_
          refine x_iald (f := r0) hx hb hK hP k0 0 hk0 rfl (t := j) (by omega) (by decide) dX3_unionOver_21 ?_
          refine lv_ior hx hb dX3_unionOver_22 ?_
          refine lv_istore_n (lv' := [(2, .int ((K_union s0 r0 j) ||| (r0 j))), (0, .int s0), (1, .ref a0), (3, .int (nI j))]) hx hb dX3_unionOver_23 rfl hl (by decide) rfl (fun ls hl => ?_)
          refine lv_iinc (v := nI (j + 1)) (lv' := [(3, .int (nI (j + 1))), (2, .int ((K_union s0 r0 j) ||| (r0 j))), (0, .int s0), (1, .ref a0)]) hx hb dX3_unionOver_24 hl (k := 3) rfl (by rw [show Int32.ofInt 1 = 1 from rfl]; exact nI_1 _) (by decide) rfl (fun ls hl => ?_)
          refine lv_goto (tgt := 4) hx hb dX3_unionOver_27 (by decide) ?_
          have e9 : K_union s0 r0 (j + 1) = (K_union s0 r0 j) ||| (r0 j) := by simp only [K_union, c_2, and_true, true_and, and_false, false_and, if_true, if_false, not_true, not_false_iff, not_false_eq_true, or_true, true_or, or_false, false_or, ite_true, ite_false, and_self, Classical.not_not, Bool.false_eq_true]
          exact ih (10 - (j + 1)) (by omega) (j + 1)  rfl (by omega)  H locs ls hP hD hS (by rw [e9]; exact lv_sub hl [2, 3, 1, 0] rfl)
  exact hl_un 10 0  rfl (Nat.zero_le _)  H locs ls hP hD hS (lv_sub hl [2, 3, 1, 0] rfl)

def K_obst (S : SS) (N : NN) (i : Nat) : Nat :=
  if isDr S i then
    (if K_items (N 2 i) 10 = 0 then 2 else if K_agr (N 2 i) (S 4 i) (S 5 i) 10 = true then
      (if K_union (K_items (N 2 i) 10) (S 1 0) 10 &&& (K_items (N 2 i) 10 ^^^ (-1)) = 0 then (if K_union (K_items (N 2 i) 10) (S 2 0) 10 &&& K_items (N 2 i) 10 = 0 then 0 else 5) else 4)
     else 3)
  else 1
theorem K_obst_le (S : SS) (N : NN) (i : Nat) : K_obst S N i ≤ 5 := by
  unfold K_obst
  repeat' split
  all_goals omega
theorem K_obst_dr {S : SS} {N : NN} {i : Nat} (h : K_obst S N i = 0) : isDr S i := by
  unfold K_obst at h
  split at h
  · assumption
  · omega

set_option maxHeartbeats 4000000 in
set_option maxRecDepth 100000 in
/-- obstacle -/
theorem qX3_obstacle (l : Launch) (dC : Nat → ClassId) (dI : Nat → Nat → Nat) (cy : Nat → ClassId) (e0 mi : Nat) (ad : Lc → Nat) (L : List Lc) (S : SS) (N : NN) (sz : Nat) (i : Nat) (hI : okC L N) (hi : i < N 0 0 0) : Met l yX3_obstacle wsX3_obstacle ({ frames := 1, cells := 0, slots := 0, locals := 23 }) (va_Pc [.ref (ad (10, 0)), .ref (ad (0, i))] (wPre (dC, dI) (tyL cy) (cw cy e0 ad L S N) sz)) (QI (dC, dI) (tyL cy) (fun (r : Int32) (u : CS) => r = nI (K_obst S N i) ∧ u = (S, N)) (cwU cy e0 ad L) (va_A (cw cy e0 ad L S N) sz)) 0 0 (va_A (cw cy e0 ad L S N) sz) := by
  refine en (cc := cX3_obstacle) (maxL := 3) (ret := (some .int)) (own := RX3) (lv := [(0, .ref (ad (10, 0))), (1, .ref (ad (0, i)))]) (by decide) rfl rfl (Nat.le_of_ble_eq_true rfl) rfl ?_
  intro p e s m below meth c ls A H locs hx hb hr hts hown hlocks hml hin hsz hK hP hD hS hA hl
  generalize hQQ : MQ below _ _ s _ _ A = QQ
  have hI0 := hI
  obtain ⟨⟨hM0, hM8, hM9, hMF, hM15, hM17⟩, hV, hLt, hO, hDu, hnc, hnd, hcC, hcD, hcC2, hcD2⟩ := hI
  have inX3_ : ∀ w ∈ wsX30, w ∈ wsX3_obstacle := fun _ h => List.mem_cons_of_mem _ (List.mem_append_left _ (List.mem_append_right _ h))
  have lk0 : (Cond.fieldLink RX3 15 "ClauseShop" "needs" "[I").before (([.ref (ad (10, 0)), .ref (ad (0, i))] : List Value).toArray) s = true := hts _ (List.mem_of_getElem? (i := 1) rfl)
  have lk1 : (Cond.fieldLink RX3 19 "ClauseShop" "forbids" "[I").before (([.ref (ad (10, 0)), .ref (ad (0, i))] : List Value).toArray) s = true := hts _ (List.mem_of_getElem? (i := 2) rfl)
  refine lv_aload_n hx hb dX3_obstacle_0 rfl (lv_at hl 1 rfl) ?_
  obtain ⟨z_1, hz_1⟩ := pl_get (ad := ad) (f := cc cy e0 ad S N) (hM0 0 i (by decide) (by omega))
  rw [show cc cy e0 ad S N (0, i) = .inr (1, [.ref (ad (1, i)), .ref (ad (2, i)), .ref (ad (5, i)), .ref (ad (6, i)), .ref (ad (7, i))]) from rfl] at hz_1
  refine call_i (va_runV (As := []) (rest := []) ⟨hx, hb, hml, hown, hts⟩ (qX0_clauseSet l dC dI cy e0 mi ad L S N H.size i hI0 hi) (cwV 0 hts gX3_obstacle_X0_clauseSet rfl rfl rfl (by decide +kernel) ⟨Nat.le_of_ble_eq_true rfl, Nat.le_of_ble_eq_true rfl⟩) (preV hK hP hD (w_recv (ci := 1) (q0 := z_1) hK hP hz_1 rfl)) rfl rfl hl.1 rfl (lv_room (Nat.le_of_ble_eq_true rfl)) dX3_obstacle_1 ⟨Nat.le_of_ble_eq_true rfl, Nat.le_of_ble_eq_true rfl⟩) hD hS hA (fun r_2 u H locs w_3 hP hD hS => ?_)
  obtain ⟨rfl, rfl⟩ := w_3
  have hP : va_P (dC, dI) vwCl (cw cy e0 ad L S N) H := hP
  have hD : va_D A (cw cy e0 ad L S N) := hD
  refine lv_istore_n (lv' := [(2, .int (K_items (N 2 i) 10)), (0, .ref (ad (10, 0))), (1, .ref (ad (0, i)))]) hx hb dX3_obstacle_4 rfl hl (by decide) rfl (fun ls hl => ?_)
  refine lv_aload_n hx hb dX3_obstacle_5 rfl (lv_at hl 2 rfl) ?_
  obtain ⟨z_4, hz_4⟩ := pl_get (ad := ad) (f := cc cy e0 ad S N) (hM0 0 i (by decide) (by omega))
  rw [show cc cy e0 ad S N (0, i) = .inr (1, [.ref (ad (1, i)), .ref (ad (2, i)), .ref (ad (5, i)), .ref (ad (6, i)), .ref (ad (7, i))]) from rfl] at hz_4
  refine call_i (va_runV (As := []) (rest := []) ⟨hx, hb, hml, hown, hts⟩ (qX0_isDraft l dC dI cy e0 mi ad L S N H.size i hI0 hi) (cwV 0 hts gX3_obstacle_X0_isDraft rfl rfl rfl (by decide +kernel) ⟨Nat.le_of_ble_eq_true rfl, Nat.le_of_ble_eq_true rfl⟩) (preV hK hP hD (w_recv (ci := 1) (q0 := z_4) hK hP hz_4 rfl)) rfl rfl hl.1 rfl (lv_room (Nat.le_of_ble_eq_true rfl)) dX3_obstacle_6 ⟨Nat.le_of_ble_eq_true rfl, Nat.le_of_ble_eq_true rfl⟩) hD hS hA (fun r_5 u H locs w_6 hP hD hS => ?_)
  obtain ⟨rfl, rfl⟩ := w_6
  have hP : va_P (dC, dI) vwCl (cw cy e0 ad L S N) H := hP
  have hD : va_D A (cw cy e0 ad L S N) := hD
  refine br_ne (tgt := 14) hx hb dX3_obstacle_9 (by decide) (fun c_7 => ?_) (fun c_7 => ?_)
  · refine lv_iload_n hx hb dX3_obstacle_14 rfl (lv_at hl 0 rfl) ?_
    refine lv_if_ne (tgt := 20) hx hb dX3_obstacle_15 (by decide) (fun c_8 => ?_) (fun c_8 => ?_)
    · refine lv_aload_n hx hb dX3_obstacle_20 rfl (lv_at hl 2 rfl) ?_
      obtain ⟨z_9, hz_9⟩ := pl_get (ad := ad) (f := cc cy e0 ad S N) (hM0 0 i (by decide) (by omega))
      rw [show cc cy e0 ad S N (0, i) = .inr (1, [.ref (ad (1, i)), .ref (ad (2, i)), .ref (ad (5, i)), .ref (ad (6, i)), .ref (ad (7, i))]) from rfl] at hz_9
      refine call_i (va_runV (As := []) (rest := []) ⟨hx, hb, hml, hown, hts⟩ (qX0_isAgreed l dC dI cy e0 mi ad L S N H.size i hI0 hi) (cwV 0 hts gX3_obstacle_X0_isAgreed rfl rfl rfl (by decide +kernel) ⟨Nat.le_of_ble_eq_true rfl, Nat.le_of_ble_eq_true rfl⟩) (preV hK hP hD (w_recv (ci := 1) (q0 := z_9) hK hP hz_9 rfl)) rfl rfl hl.1 rfl (lv_room (Nat.le_of_ble_eq_true rfl)) dX3_obstacle_21 ⟨Nat.le_of_ble_eq_true rfl, Nat.le_of_ble_eq_true rfl⟩) hD hS hA (fun r_10 u H locs w_11 hP hD hS => ?_)
      obtain ⟨rfl, rfl⟩ := w_11
      have hP : va_P (dC, dI) vwCl (cw cy e0 ad L S N) H := hP
      have hD : va_D A (cw cy e0 ad L S N) := hD
      refine br_ne (tgt := 29) hx hb dX3_obstacle_24 (by decide) (fun c_12 => ?_) (fun c_12 => ?_)
      · refine lv_iload_n hx hb dX3_obstacle_29 rfl (lv_at hl 0 rfl) ?_
        refine lv_aload_n hx hb dX3_obstacle_30 rfl (lv_at hl 1 rfl) ?_
        obtain ⟨z_13, hz_13⟩ := pl_get (ad := ad) (f := cc cy e0 ad S N) (hMF 10 (by decide))
        rw [show cc cy e0 ad S N (10, 0) = .inr (4, [.ref (ad (11, 0)), .ref (ad (12, 0)), .ref (ad (13, 0)), .ref (ad (14, 0)), .ref (ad (16, 0)), .int (S 0 0 0)]) from rfl] at hz_13
        refine va_get (D := (dC, dI)) (ci := 4) (v := .ref (ad (12, 0))) (C := RX3) (T := TX3) (N := 6) hx hb hts inX3_ hown hK hP z_13 hz_13 rfl 1 (by decide) lk0 (fun _ h9 => h9) rfl dX3_obstacle_31 ?_
        obtain ⟨z_14, hz_14⟩ := pl_get (ad := ad) (f := cc cy e0 ad S N) (hMF 12 (by decide))
        rw [show cc cy e0 ad S N (12, 0) = .inl (cy 0, 10, .inl (S 1 0)) from rfl] at hz_14
        refine call_i (va_runS (As := [.int (K_items (N 2 i) 10), .ref (ad (12, 0))]) (rest := []) ⟨hx, hb, hml, hown, hts⟩ (qX3_unionOver l dC dI cy e0 mi (cw cy e0 ad L S N) H.size (K_items (N 2 i) 10) _ z_14 (S 1 0) hz_14) (va_cwS 2 hts gX3_obstacle_X3_unionOver rfl rfl rfl (by decide +kernel) ⟨Nat.le_of_ble_eq_true rfl, Nat.le_of_ble_eq_true rfl⟩) (preS hK hP hD) rfl rfl hl.1 rfl (lv_room (Nat.le_of_ble_eq_true rfl)) dX3_obstacle_34 ⟨Nat.le_of_ble_eq_true rfl, Nat.le_of_ble_eq_true rfl⟩) hD hS hA (fun r_15 _ H locs w_16 hP hD hS => ?_)
        subst w_16
        have hP : va_P (dC, dI) vwCl (cw cy e0 ad L S N) H := hP
        have hD : va_D A (cw cy e0 ad L S N) := hD
        refine lv_iload_n hx hb dX3_obstacle_37 rfl (lv_at hl 0 rfl) ?_
        refine lv_iconst (v := -1) hx hb dX3_obstacle_38 (by decide) ?_
        refine lv_ixor hx hb dX3_obstacle_39 ?_
        refine lv_iand hx hb dX3_obstacle_40 ?_
        refine lv_if_eq (tgt := 46) hx hb dX3_obstacle_41 (by decide) (fun c_17 => ?_) (fun c_17 => ?_)
        · refine lv_iload_n hx hb dX3_obstacle_46 rfl (lv_at hl 0 rfl) ?_
          refine lv_aload_n hx hb dX3_obstacle_47 rfl (lv_at hl 1 rfl) ?_
          obtain ⟨z_18, hz_18⟩ := pl_get (ad := ad) (f := cc cy e0 ad S N) (hMF 10 (by decide))
          rw [show cc cy e0 ad S N (10, 0) = .inr (4, [.ref (ad (11, 0)), .ref (ad (12, 0)), .ref (ad (13, 0)), .ref (ad (14, 0)), .ref (ad (16, 0)), .int (S 0 0 0)]) from rfl] at hz_18
          refine va_get (D := (dC, dI)) (ci := 4) (v := .ref (ad (13, 0))) (C := RX3) (T := TX3) (N := 6) hx hb hts inX3_ hown hK hP z_18 hz_18 rfl 2 (by decide) lk1 (fun _ h9 => h9) rfl dX3_obstacle_48 ?_
          obtain ⟨z_19, hz_19⟩ := pl_get (ad := ad) (f := cc cy e0 ad S N) (hMF 13 (by decide))
          rw [show cc cy e0 ad S N (13, 0) = .inl (cy 0, 10, .inl (S 2 0)) from rfl] at hz_19
          refine call_i (va_runS (As := [.int (K_items (N 2 i) 10), .ref (ad (13, 0))]) (rest := []) ⟨hx, hb, hml, hown, hts⟩ (qX3_unionOver l dC dI cy e0 mi (cw cy e0 ad L S N) H.size (K_items (N 2 i) 10) _ z_19 (S 2 0) hz_19) (va_cwS 2 hts gX3_obstacle_X3_unionOver rfl rfl rfl (by decide +kernel) ⟨Nat.le_of_ble_eq_true rfl, Nat.le_of_ble_eq_true rfl⟩) (preS hK hP hD) rfl rfl hl.1 rfl (lv_room (Nat.le_of_ble_eq_true rfl)) dX3_obstacle_51 ⟨Nat.le_of_ble_eq_true rfl, Nat.le_of_ble_eq_true rfl⟩) hD hS hA (fun r_20 _ H locs w_21 hP hD hS => ?_)
          subst w_21
          have hP : va_P (dC, dI) vwCl (cw cy e0 ad L S N) H := hP
          have hD : va_D A (cw cy e0 ad L S N) := hD
          refine lv_iload_n hx hb dX3_obstacle_54 rfl (lv_at hl 0 rfl) ?_
          refine lv_iand hx hb dX3_obstacle_55 ?_
          refine lv_if_eq (tgt := 63) hx hb dX3_obstacle_56 (by decide) (fun c_22 => ?_) (fun c_22 => ?_)
          · refine lv_iconst (v := nI 0) hx hb dX3_obstacle_63 (by decide) ?_
            rw [← hQQ]; exact end_i (u := (S, N)) hx hb hr hlocks dX3_obstacle_64 hK hP hD hS ⟨by simp only [K_obst, eq_true c_7, c_8, eq_true c_12, eq_true c_17, eq_true c_22, and_true, true_and, and_false, false_and, if_true, if_false, not_true, not_false_iff, not_false_eq_true, or_true, true_or, or_false, false_or, ite_true, ite_false, and_self, Classical.not_not, Bool.false_eq_true], rfl⟩ (Nat.le_of_ble_eq_true rfl) (Nat.le_of_ble_eq_true rfl)
          · refine lv_iconst (v := nI 5) hx hb dX3_obstacle_59 (by decide) ?_
            refine lv_goto (tgt := 64) hx hb dX3_obstacle_60 (by decide) ?_
            rw [← hQQ]; exact end_i (u := (S, N)) hx hb hr hlocks dX3_obstacle_64 hK hP hD hS ⟨by simp only [K_obst, eq_true c_7, c_8, eq_true c_12, eq_true c_17, c_22, and_true, true_and, and_false, false_and, if_true, if_false, not_true, not_false_iff, not_false_eq_true, or_true, true_or, or_false, false_or, ite_true, ite_false, and_self, Classical.not_not, Bool.false_eq_true], rfl⟩ (Nat.le_of_ble_eq_true rfl) (Nat.le_of_ble_eq_true rfl)
        · refine lv_iconst (v := nI 4) hx hb dX3_obstacle_44 (by decide) ?_
          rw [← hQQ]; exact end_i (u := (S, N)) hx hb hr hlocks dX3_obstacle_45 hK hP hD hS ⟨by simp only [K_obst, eq_true c_7, c_8, eq_true c_12, c_17, and_true, true_and, and_false, false_and, if_true, if_false, not_true, not_false_iff, not_false_eq_true, or_true, true_or, or_false, false_or, ite_true, ite_false, and_self, Classical.not_not, Bool.false_eq_true], rfl⟩ (Nat.le_of_ble_eq_true rfl) (Nat.le_of_ble_eq_true rfl)
      · refine lv_iconst (v := nI 3) hx hb dX3_obstacle_27 (by decide) ?_
        rw [← hQQ]; exact end_i (u := (S, N)) hx hb hr hlocks dX3_obstacle_28 hK hP hD hS ⟨by simp only [K_obst, eq_true c_7, c_8, c_12, and_true, true_and, and_false, false_and, if_true, if_false, not_true, not_false_iff, not_false_eq_true, or_true, true_or, or_false, false_or, ite_true, ite_false, and_self, Classical.not_not, Bool.false_eq_true], rfl⟩ (Nat.le_of_ble_eq_true rfl) (Nat.le_of_ble_eq_true rfl)
    · refine lv_iconst (v := nI 2) hx hb dX3_obstacle_18 (by decide) ?_
      rw [← hQQ]; exact end_i (u := (S, N)) hx hb hr hlocks dX3_obstacle_19 hK hP hD hS ⟨by simp only [K_obst, eq_true c_7, eq_true c_8, and_true, true_and, and_false, false_and, if_true, if_false, not_true, not_false_iff, not_false_eq_true, or_true, true_or, or_false, false_or, ite_true, ite_false, and_self, Classical.not_not, Bool.false_eq_true], rfl⟩ (Nat.le_of_ble_eq_true rfl) (Nat.le_of_ble_eq_true rfl)
  · refine lv_iconst (v := nI 1) hx hb dX3_obstacle_12 (by decide) ?_
    rw [← hQQ]; exact end_i (u := (S, N)) hx hb hr hlocks dX3_obstacle_13 hK hP hD hS ⟨by simp only [K_obst, c_7, and_true, true_and, and_false, false_and, if_true, if_false, not_true, not_false_iff, not_false_eq_true, or_true, true_or, or_false, false_or, ite_true, ite_false, and_self, Classical.not_not, Bool.false_eq_true], rfl⟩ (Nat.le_of_ble_eq_true rfl) (Nat.le_of_ble_eq_true rfl)

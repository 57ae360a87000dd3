def V_sign (S : SS) (N : NN) (a b : Int32) : Nat :=
  if isCt N 0 a then (if isSd b then (if K_obst S N (ix a) = 0 ∧ S 6 (ix a) (ix b) = 0 then 0 else 3) else 2) else 1
abbrev S_sgn (S : SS) (i sd : Nat) : SS := su S 6 i (upd (S 6 i) sd (nI 1))

set_option maxHeartbeats 4000000 in
set_option maxRecDepth 100000 in
/-- sign -/
theorem qX3_sign (l : Launch) (dC : Nat → ClassId) (dI : Nat → Nat → Nat) (cy : Nat → ClassId) (e0 mi : Nat) (ad : Lc → Nat) (L : List Lc) (S : SS) (N : NN) (sz : Nat) (a b : Int32) (hI : okC L N) (hX : okX L N) (hDr : ∀ i, i < N 0 0 0 → isDr S i → N 5 0 0 + 10 ≤ 100) (hst : l.stackTraces = false) : vx_Met l yX3_sign wsX3_sign ({ frames := 9, cells := 23, slots := 4060, locals := 235 }) (va_Pc [.ref (ad (10, 0)), .int a, .int b] (wPreX (dC, dI) (tyL cy) e0 mi (cw cy e0 ad L S N) sz)) (QI (dC, dI) (tyL cy) (fun (r : Int32) (u : CT) => V_sign S N a b = 0 ∧ r = (if isDr (S_sgn S (ix a) (ix b)) (ix a) then nI 0 else nI (K_made (S_sgn S (ix a) (ix b)) N (ix a) 10)) ∧ u.2.2 = (if isDr (S_sgn S (ix a) (ix b)) (ix a) then ((S_sgn S (ix a) (ix b)), N) else K_mkD (S_sgn S (ix a) (ix b)) N (ix a) 10) ∧ okU u ∧ u.1 (10, 0) = ad (10, 0)) (cwT cy e0) (va_A (cw cy e0 ad L S N) sz)) (XX (dC, dI) (tyL cy) (fun E => (V_sign S N a b = 1 ∧ E = xIO) ∨ (V_sign S N a b = 2 ∧ E = xIA) ∨ (V_sign S N a b = 3 ∧ E = xIS)) (cw cy e0 ad L S N) (va_A (cw cy e0 ad L S N) sz)) 23 4060 (va_A (cw cy e0 ad L S N) sz) := by
  refine enX (cc := cX3_sign) (maxL := 4) (ret := (some .int)) (own := RX3) (lv := [(0, .ref (ad (10, 0))), (1, .int a), (2, .int b)]) (by decide) rfl rfl (Nat.le_of_ble_eq_true rfl) rfl ?_
  intro p e s m below meth c ls A H locs hx hb hr hts hown hlocks hml hin hsz hK hP hD hS hA hl ham hnt
  generalize hQQ : vx_MQ below _ _ _ s _ _ A = QQ
  have hI0 := hI
  obtain ⟨⟨hM0, hM8, hM9, hMF, hM15, hM17⟩, hV, hLt, hO, hDu, hnc, hnd, hcC, hcD, hcC2, hcD2⟩ := hI
  have inX0_ : ∀ w ∈ wsX00, w ∈ wsX3_sign := fun _ h => List.mem_cons_of_mem _ (List.mem_append_left _ (List.mem_append_left _ (List.mem_append_left _ (List.mem_append_left _ (List.mem_append_left _ (List.mem_append_left _ (List.mem_append_left _ (List.mem_append_right _ h))))))))
  have lk0 : (Cond.classLink RX3 58 "java/lang/IllegalStateException").before (([.ref (ad (10, 0)), .int a, .int b] : List Value).toArray) s = true := hts _ (List.mem_of_getElem? (i := 1) rfl)
  have lk1 : (Cond.initialized "java/lang/IllegalStateException").before (([.ref (ad (10, 0)), .int a, .int b] : List Value).toArray) s = true := hts _ (List.mem_of_getElem? (i := 2) rfl)
  have lk2 : (Cond.fieldLink RX3 128 "ClauseShop$Contract" "signed" "[Z").before (([.ref (ad (10, 0)), .int a, .int b] : List Value).toArray) s = true := hts _ (List.mem_of_getElem? (i := 3) rfl)
  refine lv_aload_n hx hb dX3_sign_0 rfl (lv_at hl 0 rfl) ?_
  refine lv_iload_n hx hb dX3_sign_1 rfl (lv_at hl 1 rfl) ?_
  obtain ⟨z_1, hz_1⟩ := pl_get (ad := ad) (f := cc cy e0 ad S N) (hMF 10 (by decide))
  rw [show cc cy e0 ad S N (10, 0) = .inr (4, [.ref (ad (11, 0)), .ref (ad (12, 0)), .ref (ad (13, 0)), .ref (ad (14, 0)), .ref (ad (16, 0)), .int (S 0 0 0)]) from rfl] at hz_1
  refine callX_r (vx_runV (As := [.int a]) (rest := []) ⟨hx, hb, hml, hown, hts⟩ (qX3_contractAt l dC dI cy e0 mi ad L S N H.size a hI0 hst) (cwV 1 hts gX3_sign_X3_contractAt rfl rfl rfl (by decide +kernel) ⟨Nat.le_of_ble_eq_true rfl, Nat.le_of_ble_eq_true rfl⟩) (preXV hK hP hD hS hA ham (w_recv (ci := 4) (q0 := z_1) hK hP hz_1 rfl)) rfl rfl hl.1 rfl (lv_room (Nat.le_of_ble_eq_true rfl)) dX3_sign_2 ⟨Nat.le_of_ble_eq_true rfl, Nat.le_of_ble_eq_true rfl⟩) hD hS hA (fun E ce q9 H locs hpx hP hS hc1 hc2 hc3 => by rw [← hQQ]; exact outX hnt hlocks hc1 hc2 hc3 (Or.inl ⟨by simp only [V_sign, hpx.2, and_true, true_and, and_false, false_and, if_true, if_false, not_true, not_false_iff, not_false_eq_true, or_true, true_or, or_false, false_or, ite_true, ite_false, and_self, Classical.not_not, Bool.false_eq_true], hpx.1⟩) hK hP hD hS (Nat.le_of_ble_eq_true rfl) (Nat.le_of_ble_eq_true rfl)) (fun r_2 u H locs w_3 hP hD hS => ?_)
  obtain ⟨⟨i, hi, ex, ei, rfl⟩, hct, rfl⟩ := w_3
  subst ex
  have hP : va_P (dC, dI) vwCl (cw cy e0 ad L S N) H := hP
  have hD : va_D A (cw cy e0 ad L S N) := hD
  refine lv_astore_n (lv' := [(3, .ref (ad (0, i))), (0, .ref (ad (10, 0))), (1, .int (nI i)), (2, .int b)]) hx hb dX3_sign_5 rfl hl (by decide) rfl (fun ls hl => ?_)
  refine lv_iload_n hx hb dX3_sign_6 rfl (lv_at hl 3 rfl) ?_
  refine callX_v (vx_runS (As := [.int b]) (rest := []) ⟨hx, hb, hml, hown, hts⟩ (qX3_checkSide l dC dI cy e0 mi (cw cy e0 ad L S N) H.size b hst) (va_cwS 1 hts gX3_sign_X3_checkSide rfl rfl rfl (by decide +kernel) ⟨Nat.le_of_ble_eq_true rfl, Nat.le_of_ble_eq_true rfl⟩) (preXS hK hP hD hS hA ham) rfl rfl hl.1 rfl (lv_room (Nat.le_of_ble_eq_true rfl)) dX3_sign_7 ⟨Nat.le_of_ble_eq_true rfl, Nat.le_of_ble_eq_true rfl⟩) hD hS hA (fun E ce q9 H locs hpx hP hS hc1 hc2 hc3 => by rw [← hQQ]; exact outX hnt hlocks hc1 hc2 hc3 (Or.inr (Or.inl ⟨by simp only [V_sign, eq_true hct, ei, hpx.2, and_true, true_and, and_false, false_and, if_true, if_false, not_true, not_false_iff, not_false_eq_true, or_true, true_or, or_false, false_or, ite_true, ite_false, and_self, Classical.not_not, Bool.false_eq_true], hpx.1⟩)) hK hP hD hS (Nat.le_of_ble_eq_true rfl) (Nat.le_of_ble_eq_true rfl)) (fun u H locs w_5 hP hD hS => ?_)
  have hsdp := w_5
  obtain ⟨sd, hsd, ex, esd⟩ := sd_ix hsdp
  subst ex
  have hP : va_P (dC, dI) vwCl (cw cy e0 ad L S N) H := hP
  have hD : va_D A (cw cy e0 ad L S N) := hD
  refine lv_aload_n hx hb dX3_sign_10 rfl (lv_at hl 1 rfl) ?_
  refine lv_aload_n hx hb dX3_sign_11 rfl (lv_at hl 0 rfl) ?_
  obtain ⟨z_6, hz_6⟩ := pl_get (ad := ad) (f := cc cy e0 ad S N) (hMF 10 (by decide))
  rw [show cc cy e0 ad S N (10, 0) = .inr (4, [.ref (ad (11, 0)), .ref (ad (12, 0)), .ref (ad (13, 0)), .ref (ad (14, 0)), .ref (ad (16, 0)), .int (S 0 0 0)]) from rfl] at hz_6
  refine call_i (va_runV (As := [.ref (ad (0, i))]) (rest := []) ⟨hx, hb, hml, hown, hts⟩ (qX3_obstacle l dC dI cy e0 mi ad L S N H.size i hI0 hi) (cwV 1 hts gX3_sign_X3_obstacle rfl rfl rfl (by decide +kernel) ⟨Nat.le_of_ble_eq_true rfl, Nat.le_of_ble_eq_true rfl⟩) (preV hK hP hD (w_recv (ci := 4) (q0 := z_6) hK hP hz_6 rfl)) rfl rfl hl.1 rfl (lv_room (Nat.le_of_ble_eq_true rfl)) dX3_sign_12 ⟨Nat.le_of_ble_eq_true rfl, Nat.le_of_ble_eq_true rfl⟩) hD hS hA (fun r_7 u H locs w_8 hP hD hS => ?_)
  obtain ⟨rfl, rfl⟩ := w_8
  have hP : va_P (dC, dI) vwCl (cw cy e0 ad L S N) H := hP
  have hD : va_D A (cw cy e0 ad L S N) := hD
  have hob9 := K_obst_le S N i
  refine n_if_ne (tgt := 27) hx hb dX3_sign_15 (by decide) (by omega) (fun c_9 => ?_) (fun c_9 => ?_)
  · rw [← hQQ]; exact thr (cls := "java/lang/IllegalStateException") (text := "it cannot be signed, or the side has signed it") (is := 132) (ic := 62) (ik := 58) hx hb hst hown (by decide) lk0 lk1 (by decide) ham (fun w h => hts w (List.mem_cons_of_mem _ (List.mem_append_left _ (List.mem_append_left _ (List.mem_append_right _ h))))) (by decide) (by decide +kernel) (by decide +kernel) dX3_sign_27 dX3_sign_30 dX3_sign_31 dX3_sign_33 dX3_sign_36 (hl.1.trans hml.symm) hnt hlocks (Nat.le_of_ble_eq_true rfl) (Nat.le_of_ble_eq_true rfl) (Nat.le_of_ble_eq_true rfl) (Nat.le_of_ble_eq_true rfl) (Or.inr (Or.inr (⟨by simp only [V_sign, eq_true hct, eq_true hsdp, c_9, ei, esd, and_true, true_and, and_false, false_and, if_true, if_false, not_true, not_false_iff, not_false_eq_true, or_true, true_or, or_false, false_or, ite_true, ite_false, and_self, Classical.not_not, Bool.false_eq_true], rfl⟩))) hK hP hD hS (Nat.le_of_ble_eq_true rfl) (Nat.le_of_ble_eq_true rfl)
  · refine lv_aload_n hx hb dX3_sign_18 rfl (lv_at hl 0 rfl) ?_
    obtain ⟨z_10, hz_10⟩ := pl_get (ad := ad) (f := cc cy e0 ad S N) (hM0 0 i (by decide) (by omega))
    rw [show cc cy e0 ad S N (0, i) = .inr (1, [.ref (ad (1, i)), .ref (ad (2, i)), .ref (ad (5, i)), .ref (ad (6, i)), .ref (ad (7, i))]) from rfl] at hz_10
    refine va_get (D := (dC, dI)) (ci := 1) (v := .ref (ad (5, i))) (C := RX0) (T := TX0) (N := 5) hx hb hts inX0_ hown hK hP z_10 hz_10 rfl 2 (by decide) lk2 (fun _ h9 => h9) rfl dX3_sign_19 ?_
    refine lv_iload_n hx hb dX3_sign_22 rfl (lv_at hl 3 rfl) ?_
    obtain ⟨z_11, hz_11⟩ := pl_get (ad := ad) (f := cc cy e0 ad S N) (hM0 5 i (by decide) (by omega))
    rw [show cc cy e0 ad S N (5, i) = .inl (cy 1, 2, .inl (S 6 i)) from rfl] at hz_11
    refine x_zald (f := S 6 i) hx hb hK hP z_11 1 hz_11 rfl (t := sd) (by omega) (by decide) dX3_sign_23 ?_
    refine lv_if_eq (tgt := 37) hx hb dX3_sign_24 (by decide) (fun c_12 => ?_) (fun c_12 => ?_)
    · refine lv_aload_n hx hb dX3_sign_37 rfl (lv_at hl 0 rfl) ?_
      obtain ⟨z_13, hz_13⟩ := pl_get (ad := ad) (f := cc cy e0 ad S N) (hM0 0 i (by decide) (by omega))
      rw [show cc cy e0 ad S N (0, i) = .inr (1, [.ref (ad (1, i)), .ref (ad (2, i)), .ref (ad (5, i)), .ref (ad (6, i)), .ref (ad (7, i))]) from rfl] at hz_13
      refine va_get (D := (dC, dI)) (ci := 1) (v := .ref (ad (5, i))) (C := RX0) (T := TX0) (N := 5) hx hb hts inX0_ hown hK hP z_13 hz_13 rfl 2 (by decide) lk2 (fun _ h9 => h9) rfl dX3_sign_38 ?_
      refine lv_iload_n hx hb dX3_sign_41 rfl (lv_at hl 3 rfl) ?_
      refine lv_iconst (v := nI 1) hx hb dX3_sign_42 (by decide) ?_
      obtain ⟨z_14, hz_14⟩ := pl_get (ad := ad) (f := cc cy e0 ad S N) (hM0 5 i (by decide) (by omega))
      rw [show cc cy e0 ad S N (5, i) = .inl (cy 1, 2, .inl (S 6 i)) from rfl] at hz_14
      have eW : (cw cy e0 ad L S N).set z_14 (ad (5, i), .inl (cy 1, 2, .inl (upd (S 6 i) sd (nI 1)))) = cw cy e0 ad L (su S 6 i (upd (S 6 i) sd (nI 1))) N := st_5 (upd (S 6 i) sd (nI 1)) hD hz_14 (hM0 5 i (by decide) (by omega))
      refine x_zast (f := S 6 i) hx hb hK hP hD hS z_14 1 hz_14 rfl (t := sd) (x := (nI 1)) (by omega) (by decide) (by rfl) dX3_sign_43 (fun H locs hP hD hS => ?_)
      have hP : va_P (dC, dI) vwCl (cw cy e0 ad L (su S 6 i (upd (S 6 i) sd (nI 1))) N) H := by rw [← eW]; exact hP
      have hD : va_D A (cw cy e0 ad L (su S 6 i (upd (S 6 i) sd (nI 1))) N) := by rw [← eW]; exact hD
      refine lv_aload_n hx hb dX3_sign_44 rfl (lv_at hl 0 rfl) ?_
      obtain ⟨z_15, hz_15⟩ := pl_get (ad := ad) (f := cc cy e0 ad (su S 6 i (upd (S 6 i) sd (nI 1))) N) (hM0 0 i (by decide) (by omega))
      rw [show cc cy e0 ad (su S 6 i (upd (S 6 i) sd (nI 1))) N (0, i) = .inr (1, [.ref (ad (1, i)), .ref (ad (2, i)), .ref (ad (5, i)), .ref (ad (6, i)), .ref (ad (7, i))]) from by first | rfl | simp [cc, su, nu, upd]] at hz_15
      refine call_i (va_runV (As := []) (rest := []) ⟨hx, hb, hml, hown, hts⟩ (qX0_isDraft l dC dI cy e0 mi ad L (su S 6 i (upd (S 6 i) sd (nI 1))) N H.size i hI0 hi) (cwV 0 hts gX3_sign_X0_isDraft rfl rfl rfl (by decide +kernel) ⟨Nat.le_of_ble_eq_true rfl, Nat.le_of_ble_eq_true rfl⟩) (preV hK hP hD (w_recv (ci := 1) (q0 := z_15) hK hP hz_15 rfl)) rfl rfl hl.1 rfl (lv_room (Nat.le_of_ble_eq_true rfl)) dX3_sign_45 ⟨Nat.le_of_ble_eq_true rfl, Nat.le_of_ble_eq_true rfl⟩) hD hS hA (fun r_16 u H locs w_17 hP hD hS => ?_)
      obtain ⟨rfl, rfl⟩ := w_17
      have hP : va_P (dC, dI) vwCl (cw cy e0 ad L (su S 6 i (upd (S 6 i) sd (nI 1))) N) H := hP
      have hD : va_D A (cw cy e0 ad L (su S 6 i (upd (S 6 i) sd (nI 1))) N) := hD
      refine br_eq (tgt := 55) hx hb dX3_sign_48 (by decide) (fun c_18 => ?_) (fun c_18 => ?_)
      · refine lv_aload_n hx hb dX3_sign_55 rfl (lv_at hl 1 rfl) ?_
        refine lv_aload_n hx hb dX3_sign_56 rfl (lv_at hl 0 rfl) ?_
        obtain ⟨z_19, hz_19⟩ := pl_get (ad := ad) (f := cc cy e0 ad (su S 6 i (upd (S 6 i) sd (nI 1))) N) (hMF 10 (by decide))
        rw [show cc cy e0 ad (su S 6 i (upd (S 6 i) sd (nI 1))) N (10, 0) = .inr (4, [.ref (ad (11, 0)), .ref (ad (12, 0)), .ref (ad (13, 0)), .ref (ad (14, 0)), .ref (ad (16, 0)), .int (S 0 0 0)]) from by first | rfl | simp [cc, su, nu, upd]] at hz_19
        refine call_i (va_runV (As := [.ref (ad (0, i))]) (rest := []) ⟨hx, hb, hml, hown, hts⟩ (qX3_makeDuties l dC dI cy e0 mi ad L (su S 6 i (upd (S 6 i) sd (nI 1))) N H.size i hI0 hX hi (hDr i hi (K_obst_dr c_9))) (cwV 1 hts gX3_sign_X3_makeDuties rfl rfl rfl (by decide +kernel) ⟨Nat.le_of_ble_eq_true rfl, Nat.le_of_ble_eq_true rfl⟩) (preXV hK hP hD hS hA ham (w_recv (ci := 4) (q0 := z_19) hK hP hz_19 rfl)) rfl rfl hl.1 rfl (lv_room (Nat.le_of_ble_eq_true rfl)) dX3_sign_57 ⟨Nat.le_of_ble_eq_true rfl, Nat.le_of_ble_eq_true rfl⟩) hD hS hA (fun r_20 um H locs w_21 hP hD hS => ?_)
        obtain ⟨rfl, hu9, ⟨hI9, hX9⟩, hAd⟩ := w_21
        have hP : va_P (dC, dI) vwCl (cw cy e0 um.1 um.2.1 um.2.2.1 um.2.2.2) H := hP
        have hD : va_D A (cw cy e0 um.1 um.2.1 um.2.2.1 um.2.2.2) := hD
        rw [← hQQ]; apply vx_ret; exact end_i (u := um) hx hb hr hlocks dX3_sign_60 hK hP hD hS ⟨by simp only [V_sign, eq_true hct, eq_true hsdp, eq_true c_9, eq_true c_12, c_18, ei, esd, and_true, true_and, and_false, false_and, if_true, if_false, not_true, not_false_iff, not_false_eq_true, or_true, true_or, or_false, false_or, ite_true, ite_false, and_self, Classical.not_not, Bool.false_eq_true], by simp only [c_18, ei, esd, and_true, true_and, and_false, false_and, if_true, if_false, not_true, not_false_iff, not_false_eq_true, or_true, true_or, or_false, false_or, ite_true, ite_false, and_self, Classical.not_not, Bool.false_eq_true], by simp only [c_18, ei, esd, and_true, true_and, and_false, false_and, if_true, if_false, not_true, not_false_iff, not_false_eq_true, or_true, true_or, or_false, false_or, ite_true, ite_false, and_self, Classical.not_not, Bool.false_eq_true]; exact hu9, ⟨hI9, hX9⟩, hAd⟩ (Nat.le_of_ble_eq_true rfl) (Nat.le_of_ble_eq_true rfl)
      · refine lv_iconst (v := nI 0) hx hb dX3_sign_51 (by decide) ?_
        refine lv_goto (tgt := 60) hx hb dX3_sign_52 (by decide) ?_
        rw [← hQQ]; apply vx_ret; exact end_i (u := (ad, L, su S 6 i (upd (S 6 i) sd (nI 1)), N)) hx hb hr hlocks dX3_sign_60 hK hP hD hS ⟨by simp only [V_sign, eq_true hct, eq_true hsdp, eq_true c_9, eq_true c_12, eq_true c_18, ei, esd, and_true, true_and, and_false, false_and, if_true, if_false, not_true, not_false_iff, not_false_eq_true, or_true, true_or, or_false, false_or, ite_true, ite_false, and_self, Classical.not_not, Bool.false_eq_true], by simp only [eq_true c_18, ei, esd, and_true, true_and, and_false, false_and, if_true, if_false, not_true, not_false_iff, not_false_eq_true, or_true, true_or, or_false, false_or, ite_true, ite_false, and_self, Classical.not_not, Bool.false_eq_true], by simp only [eq_true c_18, ei, esd, and_true, true_and, and_false, false_and, if_true, if_false, not_true, not_false_iff, not_false_eq_true, or_true, true_or, or_false, false_or, ite_true, ite_false, and_self, Classical.not_not, Bool.false_eq_true], ⟨hI0, hX⟩, rfl⟩ (Nat.le_of_ble_eq_true rfl) (Nat.le_of_ble_eq_true rfl)
    · rw [← hQQ]; exact thr (cls := "java/lang/IllegalStateException") (text := "it cannot be signed, or the side has signed it") (is := 132) (ic := 62) (ik := 58) hx hb hst hown (by decide) lk0 lk1 (by decide) ham (fun w h => hts w (List.mem_cons_of_mem _ (List.mem_append_left _ (List.mem_append_left _ (List.mem_append_right _ h))))) (by decide) (by decide +kernel) (by decide +kernel) dX3_sign_27 dX3_sign_30 dX3_sign_31 dX3_sign_33 dX3_sign_36 (hl.1.trans hml.symm) hnt hlocks (Nat.le_of_ble_eq_true rfl) (Nat.le_of_ble_eq_true rfl) (Nat.le_of_ble_eq_true rfl) (Nat.le_of_ble_eq_true rfl) (Or.inr (Or.inr (⟨by simp only [V_sign, eq_true hct, eq_true hsdp, eq_true c_9, c_12, ei, esd, and_true, true_and, and_false, false_and, if_true, if_false, not_true, not_false_iff, not_false_eq_true, or_true, true_or, or_false, false_or, ite_true, ite_false, and_self, Classical.not_not, Bool.false_eq_true], rfl⟩))) hK hP hD hS (Nat.le_of_ble_eq_true rfl) (Nat.le_of_ble_eq_true rfl)

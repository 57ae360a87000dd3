def V_begin (N : NN) : Nat := if N 0 0 0 < 10 then 0 else 1
theorem ca0 : ("ClauseShop$Contract", "java/lang/Object") ∈ casts := by decide
theorem ca1 : ("ClauseShop$Duty", "java/lang/Object") ∈ casts := by decide
/-- two places of the pool lie at two indices -/
theorem pl_ne {L : List Lc} {ad : Lc → Nat} {f : Lc → va_E} {i j : Nat} {q q' : Lc} {x y : va_E} {A : Nat → Prop} (hD : va_D A (pl L ad f)) (hi : (pl L ad f)[i]? = some (ad q, x)) (hj : (pl L ad f)[j]? = some (ad q', y)) (hq : q ∈ L) (hq' : q' ∈ L) (h : q ≠ q') : i ≠ j := by
  rintro rfl
  exact h (pl_inj hD hq hq' (congrArg Prod.fst (Option.some.inj (hi.symm.trans hj))))
theorem lt_ne {w : va_W} {i j : Nat} {x : Nat × va_E} (hi : w[i]? = some x) : i ≠ w.length + j := by
  have := (List.getElem?_eq_some_iff.mp hi).1
  omega

set_option maxHeartbeats 4000000 in
set_option maxRecDepth 100000 in
/-- begin -/
theorem qX3_begin (l : Launch) (dC : Nat → ClassId) (dI : Nat → Nat → Nat) (cy : Nat → ClassId) (e0 mi : Nat) (ad : Lc → Nat) (L : List Lc) (S : SS) (N : NN) (sz : Nat) (hI : okC L N) (hX : okX L N) (hst : l.stackTraces = false) : vx_Met l yX3_begin wsX3_begin ({ frames := 8, cells := 9, slots := 500, locals := 211 }) (va_Pc [.ref (ad (10, 0))] (wPreX (dC, dI) (tyL cy) e0 mi (cw cy e0 ad L S N) sz)) (QI (dC, dI) (tyL cy) (fun (r : Int32) (u : CT) => V_begin N = 0 ∧ r = nI (N 0 0 0) ∧ u.2.2 = (S_beg S (N 0 0 0), N_beg N (N 0 0 0)) ∧ okU u ∧ u.1 (10, 0) = ad (10, 0)) (cwT cy e0) (va_A (cw cy e0 ad L S N) sz)) (XX (dC, dI) (tyL cy) (fun E => (V_begin N = 1 ∧ E = xIS)) (cw cy e0 ad L S N) (va_A (cw cy e0 ad L S N) sz)) 9 500 (va_A (cw cy e0 ad L S N) sz) := by
  refine enX (cc := cX3_begin) (maxL := 2) (ret := (some .int)) (own := RX3) (lv := [(0, .ref (ad (10, 0)))]) (by decide) rfl rfl (Nat.le_of_ble_eq_true rfl) rfl ?_
  intro p e s m below meth c ls A H locs hx hb hr hts hown hlocks hml hin hsz hK hP hD hS hA hl ham hnt
  generalize hQQ : vx_MQ below _ _ _ s _ _ A = QQ
  have hI0 := hI
  obtain ⟨⟨hM0, hM8, hM9, hMF, hM15, hM17⟩, hV, hLt, hO, hDu, hnc, hnd, hcC, hcD, hcC2, hcD2⟩ := hI
  have inX3_ : ∀ w ∈ wsX30, w ∈ wsX3_begin := fun _ h => List.mem_cons_of_mem _ (List.mem_append_left _ (List.mem_append_left _ (List.mem_append_left _ (List.mem_append_right _ h))))
  have inX0_ : ∀ w ∈ wsX00, w ∈ wsX3_begin := fun _ h => List.mem_cons_of_mem _ (List.mem_append_left _ (List.mem_append_left _ (List.mem_append_right _ h)))
  have lk0 : (Cond.fieldLink RX3 25 "ClauseShop" "contracts" "Ljava/util/ArrayList;").before (([.ref (ad (10, 0))] : List Value).toArray) s = true := hts _ (List.mem_of_getElem? (i := 3) rfl)
  have lk1 : (Cond.classLink RX3 76 RX0).before (([.ref (ad (10, 0))] : List Value).toArray) s = true := hts _ (List.mem_of_getElem? (i := 4) rfl)
  have lk2 : (Cond.instantiable RX0 5).before (([.ref (ad (10, 0))] : List Value).toArray) s = true := hts _ (List.mem_of_getElem? (i := 5) rfl)
  have lk3 : (Cond.initialized RX0).before (([.ref (ad (10, 0))] : List Value).toArray) s = true := hts _ (List.mem_of_getElem? (i := 6) rfl)
  have lk4 : (Cond.instanceMethod yX0_init).before (([.ref (ad (10, 0))] : List Value).toArray) s = true := hts _ (List.mem_of_getElem? (i := 13) rfl)
  have lk5 : (Cond.classLink RX3 58 "java/lang/IllegalStateException").before (([.ref (ad (10, 0))] : List Value).toArray) s = true := hts _ (List.mem_of_getElem? (i := 1) rfl)
  have lk6 : (Cond.initialized "java/lang/IllegalStateException").before (([.ref (ad (10, 0))] : List Value).toArray) s = true := hts _ (List.mem_of_getElem? (i := 2) rfl)
  refine lv_aload_n hx hb dX3_begin_0 rfl (lv_at hl 0 rfl) ?_
  obtain ⟨z_1, hz_1⟩ := pl_get (ad := ad) (f := cc cy e0 ad S N) (hMF 10 (by decide))
  rw [show cc cy e0 ad S N (10, 0) = .inr (4, [.ref (ad (11, 0)), .ref (ad (12, 0)), .ref (ad (13, 0)), .ref (ad (14, 0)), .ref (ad (16, 0)), .int (S 0 0 0)]) from rfl] at hz_1
  refine va_get (D := (dC, dI)) (ci := 4) (v := .ref (ad (14, 0))) (C := RX3) (T := TX3) (N := 6) hx hb hts inX3_ hown hK hP z_1 hz_1 rfl 3 (by decide) lk0 (fun _ h9 => h9) rfl dX3_begin_1 ?_
  obtain ⟨z_2, hz_2⟩ := pl_get (ad := ad) (f := cc cy e0 ad S N) (hMF 14 (by decide))
  rw [show cc cy e0 ad S N (14, 0) = .inr (0, [.int (S 10 0 0), .ref (if N 6 0 0 = 0 then e0 else ad (15, 0)), .int (nI (N 0 0 0))]) from rfl] at hz_2
  refine call_i (va_runV (As := []) (rest := []) ⟨hx, hb, hml, hown, hts⟩ (qJx4a65c_size_8abf5 l dC dI cy e0 mi (cw cy e0 ad L S N) H.size _ z_2 (N 0 0 0) (S 10 0 0) _ hz_2) (cwV 0 hts gX3_begin_Jx4a65c_size_8abf5 rfl rfl rfl (by decide +kernel) ⟨Nat.le_of_ble_eq_true rfl, Nat.le_of_ble_eq_true rfl⟩) (preV hK hP hD (w_recv (ci := 0) (q0 := z_2) hK hP hz_2 rfl)) rfl rfl hl.1 rfl (lv_room (Nat.le_of_ble_eq_true rfl)) dX3_begin_4 ⟨Nat.le_of_ble_eq_true rfl, Nat.le_of_ble_eq_true rfl⟩) hD hS hA (fun r_3 _ H locs w_4 hP hD hS => ?_)
  subst w_4
  have hP : va_P (dC, dI) vwCl (cw cy e0 ad L S N) H := hP
  have hD : va_D A (cw cy e0 ad L S N) := hD
  refine lv_istore_n (lv' := [(1, .int (nI (N 0 0 0))), (0, .ref (ad (10, 0)))]) hx hb dX3_begin_7 rfl hl (by decide) rfl (fun ls hl => ?_)
  refine lv_iload_n hx hb dX3_begin_8 rfl (lv_at hl 0 rfl) ?_
  refine lv_bipush (v := nI 10) hx hb dX3_begin_9 (by decide) ?_
  refine n_lt (tgt := 24) hx hb dX3_begin_11 (by decide) (by omega) (by omega) (fun c_5 => ?_) (fun c_5 => ?_)
  · refine lv_aload_n hx hb dX3_begin_24 rfl (lv_at hl 1 rfl) ?_
    obtain ⟨z_6, hz_6⟩ := pl_get (ad := ad) (f := cc cy e0 ad S N) (hMF 10 (by decide))
    rw [show cc cy e0 ad S N (10, 0) = .inr (4, [.ref (ad (11, 0)), .ref (ad (12, 0)), .ref (ad (13, 0)), .ref (ad (14, 0)), .ref (ad (16, 0)), .int (S 0 0 0)]) from rfl] at hz_6
    refine va_get (D := (dC, dI)) (ci := 4) (v := .ref (ad (14, 0))) (C := RX3) (T := TX3) (N := 6) hx hb hts inX3_ hown hK hP z_6 hz_6 rfl 3 (by decide) lk0 (fun _ h9 => h9) rfl dX3_begin_25 ?_
    have hD0 := hD
    refine va_new (D := (dC, dI)) (ci := 1) (C := RX0) (T := TX0) (N := 5) (fs := [.null, .null, .null, .null, .null]) hx hb hts inX0_ tyX0 tyX0_ok hown lk1 lk2 lk3 hK hP hD hS hA rfl (by decide +kernel) (Nat.le_of_ble_eq_true rfl) (Nat.le_of_ble_eq_true rfl) dX3_begin_28 (fun q9 H hP hD hS => ?_)
    have hP : va_P (dC, dI) vwCl ((cw cy e0 ad L S N) ++ [(q9, .inr (1, [.null, .null, .null, .null, .null]))]) H := hP
    have hD : va_D A ((cw cy e0 ad L S N) ++ [(q9, .inr (1, [.null, .null, .null, .null, .null]))]) := hD
    refine lv_dup hx hb dX3_begin_31 rfl ?_
    have hnest := ham.2.2.2.2.2.2.2.2.2.2.2
    refine call_v (va_runIN (As := []) (rest := [.ref q9, .ref (ad (14, 0))]) ⟨hx, hb, hml, hown, hts⟩ (qX0_init l dC dI cy e0 mi ((cw cy e0 ad L S N) ++ [(q9, .inr (1, [.null, .null, .null, .null, .null]))]) H.size q9 ((cw cy e0 ad L S N).length + 0) (app_r (w := (cw cy e0 ad L S N)) (y := [(q9, .inr (1, [.null, .null, .null, .null, .null]))]) (k := 0) rfl)) ⟨va_cnB 0 hts gX3_begin_X0_init_n78 rfl rfl rfl hnest lk3 (by decide +kernel) ⟨Nat.le_of_ble_eq_true rfl, Nat.le_of_ble_eq_true rfl⟩, rfl, lk4⟩ (preXS (As := [.ref q9]) hK hP hD hS hA ham) rfl rfl hl.1 rfl (lv_room (Nat.le_of_ble_eq_true rfl)) dX3_begin_32 ⟨Nat.le_of_ble_eq_true rfl, Nat.le_of_ble_eq_true rfl⟩) hD hS hA (fun u H locs w_7 hP hD hS => ?_)
    rw [app_setr, List.append_assoc] at hP hD
    have hP : va_P (dC, dI) vwCl ((cw cy e0 ad L S N) ++ [(q9, .inr (1, [.ref ((u 1)), .ref ((u 2)), .ref ((u 5)), .ref ((u 6)), .ref ((u 7))])), ((u 1), .inl (cy 2, 10, .inr (.inr (.inr (.inr (fun _ => none)))))), ((u 2), .inl (cy 4, 2, .inr (.inr (.inr (.inr (fun s => if s = 0 then some (u 3) else some (u 4))))))), ((u 3), .inl (cy 0, 10, .inl (fun _ => nI 0))), ((u 4), .inl (cy 0, 10, .inl (fun _ => nI 0))), ((u 5), .inl (cy 1, 2, .inl (fun _ => nI 0))), ((u 6), .inl (cy 0, 2, .inl (fun _ => nI 0))), ((u 7), .inl (cy 0, 2, .inl (fun _ => nI 0)))]) H := hP
    have hD : va_D A ((cw cy e0 ad L S N) ++ [(q9, .inr (1, [.ref ((u 1)), .ref ((u 2)), .ref ((u 5)), .ref ((u 6)), .ref ((u 7))])), ((u 1), .inl (cy 2, 10, .inr (.inr (.inr (.inr (fun _ => none)))))), ((u 2), .inl (cy 4, 2, .inr (.inr (.inr (.inr (fun s => if s = 0 then some (u 3) else some (u 4))))))), ((u 3), .inl (cy 0, 10, .inl (fun _ => nI 0))), ((u 4), .inl (cy 0, 10, .inl (fun _ => nI 0))), ((u 5), .inl (cy 1, 2, .inl (fun _ => nI 0))), ((u 6), .inl (cy 0, 2, .inl (fun _ => nI 0))), ((u 7), .inl (cy 0, 2, .inl (fun _ => nI 0)))]) := hD
    obtain ⟨z_8, hz_8⟩ := pl_get (ad := ad) (f := cc cy e0 ad S N) (hMF 14 (by decide))
    rw [show cc cy e0 ad S N (14, 0) = .inr (0, [.int (S 10 0 0), .ref (if N 6 0 0 = 0 then e0 else ad (15, 0)), .int (nI (N 0 0 0))]) from rfl] at hz_8
    by_cases h6 : N 6 0 0 = 0
    · have hc0 : N 0 0 0 = 0 := by omega
      have hz14 := hz_8
      rw [if_pos h6, hc0] at hz14
      refine call_i (va_runV (As := [.ref q9]) (rest := []) ⟨hx, hb, hml, hown, hts⟩ (qadd_A l dC dI cy e0 mi ((cw cy e0 ad L S N) ++ [(q9, .inr (1, [.ref ((u 1)), .ref ((u 2)), .ref ((u 5)), .ref ((u 6)), .ref ((u 7))])), ((u 1), .inl (cy 2, 10, .inr (.inr (.inr (.inr (fun _ => none)))))), ((u 2), .inl (cy 4, 2, .inr (.inr (.inr (.inr (fun s => if s = 0 then some (u 3) else some (u 4))))))), ((u 3), .inl (cy 0, 10, .inl (fun _ => nI 0))), ((u 4), .inl (cy 0, 10, .inl (fun _ => nI 0))), ((u 5), .inl (cy 1, 2, .inl (fun _ => nI 0))), ((u 6), .inl (cy 0, 2, .inl (fun _ => nI 0))), ((u 7), .inl (cy 0, 2, .inl (fun _ => nI 0)))]) H.size _ z_8 (S 10 0 0) q9 ((cw cy e0 ad L S N).length + 0) 1 _ _ (app_at hz14) (app_r (w := (cw cy e0 ad L S N)) (y := [(q9, .inr (1, [.ref ((u 1)), .ref ((u 2)), .ref ((u 5)), .ref ((u 6)), .ref ((u 7))])), ((u 1), .inl (cy 2, 10, .inr (.inr (.inr (.inr (fun _ => none)))))), ((u 2), .inl (cy 4, 2, .inr (.inr (.inr (.inr (fun s => if s = 0 then some (u 3) else some (u 4))))))), ((u 3), .inl (cy 0, 10, .inl (fun _ => nI 0))), ((u 4), .inl (cy 0, 10, .inl (fun _ => nI 0))), ((u 5), .inl (cy 1, 2, .inl (fun _ => nI 0))), ((u 6), .inl (cy 0, 2, .inl (fun _ => nI 0))), ((u 7), .inl (cy 0, 2, .inl (fun _ => nI 0)))]) (k := 0) rfl) rfl ca0 (lt_ne hz_8)) (cwV 1 hts gX3_begin_Jx4a65c_add_9ea2d rfl rfl rfl (by decide +kernel) ⟨Nat.le_of_ble_eq_true rfl, Nat.le_of_ble_eq_true rfl⟩) (preXV hK hP hD hS hA ham (w_recv (ci := 0) (q0 := z_8) hK hP (app_at hz_8) rfl)) rfl rfl hl.1 rfl (lv_room (Nat.le_of_ble_eq_true rfl)) dX3_begin_35 ⟨Nat.le_of_ble_eq_true rfl, Nat.le_of_ble_eq_true rfl⟩) hD hS hA (fun r_9 ub H locs w_10 hP hD hS => ?_)
      subst w_10
      rw [app_set hz_8, List.append_assoc] at hP hD
      obtain ⟨hP, hD, hI9, hX9⟩ := w_beginA hI0 hX (by omega) h6 hz_8 hD0 hP hD
      refine lv_pop hx hb dX3_begin_38 rfl ?_
      refine lv_iload_n hx hb dX3_begin_39 rfl (lv_at hl 0 rfl) ?_
      rw [← hQQ]; apply vx_ret; exact end_i (u := ((au (adB ad (N 0 0 0) q9 u) 15 0 ub), (L ++ (NLB (N 0 0 0) ++ [(15, 0)])), (S_beg S (N 0 0 0)), (N_beg N (N 0 0 0)))) hx hb hr hlocks dX3_begin_40 hK hP hD hS ⟨by simp only [V_begin, eq_true c_5, and_true, true_and, and_false, false_and, if_true, if_false, not_true, not_false_iff, not_false_eq_true, or_true, true_or, or_false, false_or, ite_true, ite_false, and_self, Classical.not_not, Bool.false_eq_true], rfl, rfl, ⟨hI9, hX9⟩, rfl⟩ (Nat.le_of_ble_eq_true rfl) (Nat.le_of_ble_eq_true rfl)
    · have h6b : N 6 0 0 = 10 := hX.2.2.2.2.2.2.1.resolve_left h6
      obtain ⟨z_11, hz_11⟩ := pl_get (ad := ad) (f := cc cy e0 ad S N) (hM15 h6)
      rw [show cc cy e0 ad S N (15, 0) = .inl (cy 3, N 6 0 0, .inr (.inr (.inr (.inr (fun j => if j < N 0 0 0 then some (ad (0, j)) else none))))) from rfl] at hz_11
      have hz14 := hz_8
      rw [if_neg h6] at hz14
      have hne : z_11 ≠ z_8 := pl_ne hD0 hz_11 hz14 (hM15 h6) (hMF 14 (by decide)) (fun q => absurd (congrArg Prod.fst q) (by decide : ¬ (15 : Nat) = 14))
      refine call_i (va_runV (As := [.ref q9]) (rest := []) ⟨hx, hb, hml, hown, hts⟩ (qadd_B l dC dI cy e0 mi ((cw cy e0 ad L S N) ++ [(q9, .inr (1, [.ref ((u 1)), .ref ((u 2)), .ref ((u 5)), .ref ((u 6)), .ref ((u 7))])), ((u 1), .inl (cy 2, 10, .inr (.inr (.inr (.inr (fun _ => none)))))), ((u 2), .inl (cy 4, 2, .inr (.inr (.inr (.inr (fun s => if s = 0 then some (u 3) else some (u 4))))))), ((u 3), .inl (cy 0, 10, .inl (fun _ => nI 0))), ((u 4), .inl (cy 0, 10, .inl (fun _ => nI 0))), ((u 5), .inl (cy 1, 2, .inl (fun _ => nI 0))), ((u 6), .inl (cy 0, 2, .inl (fun _ => nI 0))), ((u 7), .inl (cy 0, 2, .inl (fun _ => nI 0)))]) H.size _ _ z_8 z_11 (N 0 0 0) (N 6 0 0) (S 10 0 0) _ q9 ((cw cy e0 ad L S N).length + 0) 1 _ _ (app_at hz14) (app_at hz_11) (by omega) (by omega) hne (app_r (w := (cw cy e0 ad L S N)) (y := [(q9, .inr (1, [.ref ((u 1)), .ref ((u 2)), .ref ((u 5)), .ref ((u 6)), .ref ((u 7))])), ((u 1), .inl (cy 2, 10, .inr (.inr (.inr (.inr (fun _ => none)))))), ((u 2), .inl (cy 4, 2, .inr (.inr (.inr (.inr (fun s => if s = 0 then some (u 3) else some (u 4))))))), ((u 3), .inl (cy 0, 10, .inl (fun _ => nI 0))), ((u 4), .inl (cy 0, 10, .inl (fun _ => nI 0))), ((u 5), .inl (cy 1, 2, .inl (fun _ => nI 0))), ((u 6), .inl (cy 0, 2, .inl (fun _ => nI 0))), ((u 7), .inl (cy 0, 2, .inl (fun _ => nI 0)))]) (k := 0) rfl) rfl ca0 (lt_ne hz_8)) (cwV 1 hts gX3_begin_Jx4a65c_add_9ea2d rfl rfl rfl (by decide +kernel) ⟨Nat.le_of_ble_eq_true rfl, Nat.le_of_ble_eq_true rfl⟩) (preXV hK hP hD hS hA ham (w_recv (ci := 0) (q0 := z_8) hK hP (app_at hz_8) rfl)) rfl rfl hl.1 rfl (lv_room (Nat.le_of_ble_eq_true rfl)) dX3_begin_35 ⟨Nat.le_of_ble_eq_true rfl, Nat.le_of_ble_eq_true rfl⟩) hD hS hA (fun r_12 ub H locs w_13 hP hD hS => ?_)
      subst w_13
      rw [app_set hz_11, app_set (set_no hz14 hne)] at hP hD
      obtain ⟨hP, hD, hI9, hX9⟩ := w_beginB hI0 hX (by omega) h6 hz_8 hz_11 hD0 hP hD
      refine lv_pop hx hb dX3_begin_38 rfl ?_
      refine lv_iload_n hx hb dX3_begin_39 rfl (lv_at hl 0 rfl) ?_
      rw [← hQQ]; apply vx_ret; exact end_i (u := ((adB ad (N 0 0 0) q9 u), (L ++ NLB (N 0 0 0)), (S_beg S (N 0 0 0)), (N_beg N (N 0 0 0)))) hx hb hr hlocks dX3_begin_40 hK hP hD hS ⟨by simp only [V_begin, eq_true c_5, and_true, true_and, and_false, false_and, if_true, if_false, not_true, not_false_iff, not_false_eq_true, or_true, true_or, or_false, false_or, ite_true, ite_false, and_self, Classical.not_not, Bool.false_eq_true], rfl, rfl, ⟨hI9, hX9⟩, rfl⟩ (Nat.le_of_ble_eq_true rfl) (Nat.le_of_ble_eq_true rfl)
  · have c_5n : ¬ N 0 0 0 < 10 := by omega
    rw [← hQQ]; exact thr (cls := "java/lang/IllegalStateException") (text := "no more contracts") (is := 74) (ic := 62) (ik := 58) hx hb hst hown (by decide) lk5 lk6 (by decide) ham (fun w h => hts w (List.mem_cons_of_mem _ (List.mem_append_right _ h))) (by decide) (by decide +kernel) (by decide +kernel) dX3_begin_14 dX3_begin_17 dX3_begin_18 dX3_begin_20 dX3_begin_23 (hl.1.trans hml.symm) hnt hlocks (Nat.le_of_ble_eq_true rfl) (Nat.le_of_ble_eq_true rfl) (Nat.le_of_ble_eq_true rfl) (Nat.le_of_ble_eq_true rfl) (⟨by simp only [V_begin, c_5n, and_true, true_and, and_false, false_and, if_true, if_false, not_true, not_false_iff, not_false_eq_true, or_true, true_or, or_false, false_or, ite_true, ite_false, and_self, Classical.not_not, Bool.false_eq_true], rfl⟩) hK hP hD hS (Nat.le_of_ble_eq_true rfl) (Nat.le_of_ble_eq_true rfl)

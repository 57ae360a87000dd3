abbrev CT : Type := (Lc → Nat) × List Lc × CS
abbrev cwT (cy : Nat → ClassId) (e0 : Nat) (u : CT) : va_W := cw cy e0 u.1 u.2.1 u.2.2.1 u.2.2.2
abbrev okU (u : CT) : Prop := okC u.2.1 u.2.2.2 ∧ okX u.2.1 u.2.2.2
def V_issue (N : NN) (a o d k z : Int32) : Nat :=
  if isCl a ∧ isSd o ∧ (nI 0 ≤ d ∧ d ≤ nI 100) ∧ (nI 0 ≤ k ∧ k ≤ nI 50) ∧ (nI 0 ≤ z ∧ z ≤ nI 1000) then (if N 1 0 (ix a) < 9 then 0 else 2) else 1

set_option maxHeartbeats 4000000 in
set_option maxRecDepth 100000 in
/-- issue -/
theorem qX3_issue (l : Launch) (dC : Nat → ClassId) (dI : Nat → Nat → Nat) (cy : Nat → ClassId) (e0 mi : Nat) (ad : Lc → Nat) (L : List Lc) (S : SS) (N : NN) (sz : Nat) (a o d k z : Int32) (hI : okC L N) (hX : okX L N) (hst : l.stackTraces = false) : vx_Met l yX3_issue wsX3_issue ({ frames := 7, cells := 8, slots := 64, locals := 110 }) (va_Pc [.ref (ad (10, 0)), .int a, .int o, .int d, .int k, .int z] (wPreX (dC, dI) (tyL cy) e0 mi (cw cy e0 ad L S N) sz)) (QI (dC, dI) (tyL cy) (fun (r : Int32) (u : CT) => V_issue N a o d k z = 0 ∧ r = nI (N 1 0 (ix a) + 1) ∧ u.2.2 = (S_iss S (9 * ix a + N 1 0 (ix a)) d k z, N_iss N (ix a) (ix o)) ∧ okU u ∧ u.1 (10, 0) = ad (10, 0)) (cwT cy e0) (va_A (cw cy e0 ad L S N) sz)) (XX (dC, dI) (tyL cy) (fun E => (V_issue N a o d k z = 1 ∧ E = xIA) ∨ (V_issue N a o d k z = 2 ∧ E = xIS)) (cw cy e0 ad L S N) (va_A (cw cy e0 ad L S N) sz)) 8 64 (va_A (cw cy e0 ad L S N) sz) := by
  refine enX (cc := cX3_issue) (maxL := 7) (ret := (some .int)) (own := RX3) (lv := [(0, .ref (ad (10, 0))), (1, .int a), (2, .int o), (3, .int d), (4, .int k), (5, .int z)]) (by decide) rfl rfl (Nat.le_of_ble_eq_true rfl) rfl ?_
  intro p e s m below meth c ls A H locs hx hb hr hts hown hlocks hml hin hsz hK hP hD hS hA hl ham hnt
  generalize hQQ : vx_MQ below _ _ _ s _ _ A = QQ
  have hI0 := hI
  obtain ⟨⟨hM0, hM8, hM9, hMF, hM15, hM17⟩, hV, hLt, hO, hDu, hnc, hnd, hcC, hcD, hcC2, hcD2⟩ := hI
  have inX3_ : ∀ w ∈ wsX30, w ∈ wsX3_issue := fun _ h => List.mem_cons_of_mem _ (List.mem_append_left _ (List.mem_append_left _ (List.mem_append_left _ (List.mem_append_right _ h))))
  have inX2_ : ∀ w ∈ wsX20, w ∈ wsX3_issue := fun _ h => List.mem_cons_of_mem _ (List.mem_append_left _ (List.mem_append_left _ (List.mem_append_right _ h)))
  have lk0 : (Cond.classLink RX3 47 "java/lang/IllegalArgumentException").before (([.ref (ad (10, 0)), .int a, .int o, .int d, .int k, .int z] : List Value).toArray) s = true := hts _ (List.mem_of_getElem? (i := 1) rfl)
  have lk1 : (Cond.initialized "java/lang/IllegalArgumentException").before (([.ref (ad (10, 0)), .int a, .int o, .int d, .int k, .int z] : List Value).toArray) s = true := hts _ (List.mem_of_getElem? (i := 2) rfl)
  have lk2 : (Cond.fieldLink RX3 11 "ClauseShop" "newest" "[LClauseShop$Version;").before (([.ref (ad (10, 0)), .int a, .int o, .int d, .int k, .int z] : List Value).toArray) s = true := hts _ (List.mem_of_getElem? (i := 5) rfl)
  have lk3 : (Cond.classLink RX3 9 RX2).before (([.ref (ad (10, 0)), .int a, .int o, .int d, .int k, .int z] : List Value).toArray) s = true := hts _ (List.mem_of_getElem? (i := 6) rfl)
  have lk4 : (Cond.instantiable RX2 5).before (([.ref (ad (10, 0)), .int a, .int o, .int d, .int k, .int z] : List Value).toArray) s = true := hts _ (List.mem_of_getElem? (i := 7) rfl)
  have lk5 : (Cond.initialized RX2).before (([.ref (ad (10, 0)), .int a, .int o, .int d, .int k, .int z] : List Value).toArray) s = true := hts _ (List.mem_of_getElem? (i := 8) rfl)
  have lk6 : (Cond.instanceMethod yX2_init).before (([.ref (ad (10, 0)), .int a, .int o, .int d, .int k, .int z] : List Value).toArray) s = true := hts _ (List.mem_of_getElem? (i := 28) rfl)
  have lk7 : (Cond.methodLink RX3 63 yX2_init).before (([.ref (ad (10, 0)), .int a, .int o, .int d, .int k, .int z] : List Value).toArray) s = true := hts _ (List.mem_of_getElem? (i := 27) rfl)
  have lk8 : (Cond.classLink RX3 58 "java/lang/IllegalStateException").before (([.ref (ad (10, 0)), .int a, .int o, .int d, .int k, .int z] : List Value).toArray) s = true := hts _ (List.mem_of_getElem? (i := 3) rfl)
  have lk9 : (Cond.initialized "java/lang/IllegalStateException").before (([.ref (ad (10, 0)), .int a, .int o, .int d, .int k, .int z] : List Value).toArray) s = true := hts _ (List.mem_of_getElem? (i := 4) rfl)
  refine lv_iload_n hx hb dX3_issue_0 rfl (lv_at hl 1 rfl) ?_
  refine callX_v (vx_runS (As := [.int a]) (rest := []) ⟨hx, hb, hml, hown, hts⟩ (qX3_checkClause l dC dI cy e0 mi (cw cy e0 ad L S N) H.size a hst) (va_cwS 1 hts gX3_issue_X3_checkClause rfl rfl rfl (by decide +kernel) ⟨Nat.le_of_ble_eq_true rfl, Nat.le_of_ble_eq_true rfl⟩) (preXS hK hP hD hS hA ham) rfl rfl hl.1 rfl (lv_room (Nat.le_of_ble_eq_true rfl)) dX3_issue_1 ⟨Nat.le_of_ble_eq_true rfl, Nat.le_of_ble_eq_true rfl⟩) hD hS hA (fun E ce q9 H locs hpx hP hS hc1 hc2 hc3 => by rw [← hQQ]; exact outX hnt hlocks hc1 hc2 hc3 (Or.inl ⟨by simp only [V_issue, hpx.2, and_true, true_and, and_false, false_and, if_true, if_false, not_true, not_false_iff, not_false_eq_true, or_true, true_or, or_false, false_or, ite_true, ite_false, and_self, Classical.not_not, Bool.false_eq_true], hpx.1⟩) hK hP hD hS (Nat.le_of_ble_eq_true rfl) (Nat.le_of_ble_eq_true rfl)) (fun u H locs w_2 hP hD hS => ?_)
  have hcnp := w_2
  obtain ⟨cn, hcn, ex, ecn⟩ := cl_ix hcnp
  subst ex
  have hP : va_P (dC, dI) vwCl (cw cy e0 ad L S N) H := hP
  have hD : va_D A (cw cy e0 ad L S N) := hD
  have hLc := hLt cn hcn
  refine lv_iload_n hx hb dX3_issue_4 rfl (lv_at hl 2 rfl) ?_
  refine callX_v (vx_runS (As := [.int o]) (rest := []) ⟨hx, hb, hml, hown, hts⟩ (qX3_checkSide l dC dI cy e0 mi (cw cy e0 ad L S N) H.size o hst) (va_cwS 1 hts gX3_issue_X3_checkSide rfl rfl rfl (by decide +kernel) ⟨Nat.le_of_ble_eq_true rfl, Nat.le_of_ble_eq_true rfl⟩) (preXS hK hP hD hS hA ham) rfl rfl hl.1 rfl (lv_room (Nat.le_of_ble_eq_true rfl)) dX3_issue_5 ⟨Nat.le_of_ble_eq_true rfl, Nat.le_of_ble_eq_true rfl⟩) hD hS hA (fun E ce q9 H locs hpx hP hS hc1 hc2 hc3 => by rw [← hQQ]; exact outX hnt hlocks hc1 hc2 hc3 (Or.inl ⟨by simp only [V_issue, eq_true hcnp, ecn, hpx.2, and_true, true_and, and_false, false_and, if_true, if_false, not_true, not_false_iff, not_false_eq_true, or_true, true_or, or_false, false_or, ite_true, ite_false, and_self, Classical.not_not, Bool.false_eq_true], hpx.1⟩) hK hP hD hS (Nat.le_of_ble_eq_true rfl) (Nat.le_of_ble_eq_true rfl)) (fun u H locs w_4 hP hD hS => ?_)
  have hsdp := w_4
  obtain ⟨sd, hsd, ex, esd⟩ := sd_ix hsdp
  subst ex
  have hP : va_P (dC, dI) vwCl (cw cy e0 ad L S N) H := hP
  have hD : va_D A (cw cy e0 ad L S N) := hD
  refine lv_iload_n hx hb dX3_issue_8 rfl (lv_at hl 3 rfl) ?_
  refine lv_iconst (v := nI 0) hx hb dX3_issue_9 (by decide) ?_
  refine lv_bipush (v := nI 100) hx hb dX3_issue_10 (by decide) ?_
  refine call_i (va_runS (As := [.int d, .int (nI 0), .int (nI 100)]) (rest := []) ⟨hx, hb, hml, hown, hts⟩ (qX3_isWithin l dC dI cy e0 mi (cw cy e0 ad L S N) H.size d (nI 0) (nI 100)) (va_cwS 3 hts gX3_issue_X3_isWithin rfl rfl rfl (by decide +kernel) ⟨Nat.le_of_ble_eq_true rfl, Nat.le_of_ble_eq_true rfl⟩) (preS hK hP hD) rfl rfl hl.1 rfl (lv_room (Nat.le_of_ble_eq_true rfl)) dX3_issue_12 ⟨Nat.le_of_ble_eq_true rfl, Nat.le_of_ble_eq_true rfl⟩) hD hS hA (fun r_5 u H locs w_6 hP hD hS => ?_)
  subst w_6
  have hP : va_P (dC, dI) vwCl (cw cy e0 ad L S N) H := hP
  have hD : va_D A (cw cy e0 ad L S N) := hD
  refine br_eq (tgt := 41) hx hb dX3_issue_15 (by decide) (fun c_7 => ?_) (fun c_7 => ?_)
  · rw [← hQQ]; exact thr (cls := "java/lang/IllegalArgumentException") (text := "days, cure or penalty out of range") (is := 49) (ic := 51) (ik := 47) hx hb hst hown (by decide) lk0 lk1 (by decide) ham (fun w h => hts w (List.mem_cons_of_mem _ (List.mem_append_left _ (List.mem_append_right _ h)))) (by decide) (by decide +kernel) (by decide +kernel) dX3_issue_41 dX3_issue_44 dX3_issue_45 dX3_issue_47 dX3_issue_50 (hl.1.trans hml.symm) hnt hlocks (Nat.le_of_ble_eq_true rfl) (Nat.le_of_ble_eq_true rfl) (Nat.le_of_ble_eq_true rfl) (Nat.le_of_ble_eq_true rfl) (Or.inl ⟨by simp only [V_issue, eq_true hcnp, eq_true hsdp, c_7, ecn, esd, and_true, true_and, and_false, false_and, if_true, if_false, not_true, not_false_iff, not_false_eq_true, or_true, true_or, or_false, false_or, ite_true, ite_false, and_self, Classical.not_not, Bool.false_eq_true], rfl⟩) hK hP hD hS (Nat.le_of_ble_eq_true rfl) (Nat.le_of_ble_eq_true rfl)
  · refine lv_iload hx hb dX3_issue_18 (lv_at hl 4 rfl) ?_
    refine lv_iconst (v := nI 0) hx hb dX3_issue_20 (by decide) ?_
    refine lv_bipush (v := nI 50) hx hb dX3_issue_21 (by decide) ?_
    refine call_i (va_runS (As := [.int k, .int (nI 0), .int (nI 50)]) (rest := []) ⟨hx, hb, hml, hown, hts⟩ (qX3_isWithin l dC dI cy e0 mi (cw cy e0 ad L S N) H.size k (nI 0) (nI 50)) (va_cwS 3 hts gX3_issue_X3_isWithin rfl rfl rfl (by decide +kernel) ⟨Nat.le_of_ble_eq_true rfl, Nat.le_of_ble_eq_true rfl⟩) (preS hK hP hD) rfl rfl hl.1 rfl (lv_room (Nat.le_of_ble_eq_true rfl)) dX3_issue_23 ⟨Nat.le_of_ble_eq_true rfl, Nat.le_of_ble_eq_true rfl⟩) hD hS hA (fun r_8 u H locs w_9 hP hD hS => ?_)
    subst w_9
    have hP : va_P (dC, dI) vwCl (cw cy e0 ad L S N) H := hP
    have hD : va_D A (cw cy e0 ad L S N) := hD
    refine br_eq (tgt := 41) hx hb dX3_issue_26 (by decide) (fun c_10 => ?_) (fun c_10 => ?_)
    · rw [← hQQ]; exact thr (cls := "java/lang/IllegalArgumentException") (text := "days, cure or penalty out of range") (is := 49) (ic := 51) (ik := 47) hx hb hst hown (by decide) lk0 lk1 (by decide) ham (fun w h => hts w (List.mem_cons_of_mem _ (List.mem_append_left _ (List.mem_append_right _ h)))) (by decide) (by decide +kernel) (by decide +kernel) dX3_issue_41 dX3_issue_44 dX3_issue_45 dX3_issue_47 dX3_issue_50 (hl.1.trans hml.symm) hnt hlocks (Nat.le_of_ble_eq_true rfl) (Nat.le_of_ble_eq_true rfl) (Nat.le_of_ble_eq_true rfl) (Nat.le_of_ble_eq_true rfl) (Or.inl ⟨by simp only [V_issue, eq_true hcnp, eq_true hsdp, eq_true c_7, c_10, ecn, esd, and_true, true_and, and_false, false_and, if_true, if_false, not_true, not_false_iff, not_false_eq_true, or_true, true_or, or_false, false_or, ite_true, ite_false, and_self, Classical.not_not, Bool.false_eq_true], rfl⟩) hK hP hD hS (Nat.le_of_ble_eq_true rfl) (Nat.le_of_ble_eq_true rfl)
    · refine lv_iload hx hb dX3_issue_29 (lv_at hl 5 rfl) ?_
      refine lv_iconst (v := nI 0) hx hb dX3_issue_31 (by decide) ?_
      refine lv_sipush (v := nI 1000) hx hb dX3_issue_32 (by decide) ?_
      refine call_i (va_runS (As := [.int z, .int (nI 0), .int (nI 1000)]) (rest := []) ⟨hx, hb, hml, hown, hts⟩ (qX3_isWithin l dC dI cy e0 mi (cw cy e0 ad L S N) H.size z (nI 0) (nI 1000)) (va_cwS 3 hts gX3_issue_X3_isWithin rfl rfl rfl (by decide +kernel) ⟨Nat.le_of_ble_eq_true rfl, Nat.le_of_ble_eq_true rfl⟩) (preS hK hP hD) rfl rfl hl.1 rfl (lv_room (Nat.le_of_ble_eq_true rfl)) dX3_issue_35 ⟨Nat.le_of_ble_eq_true rfl, Nat.le_of_ble_eq_true rfl⟩) hD hS hA (fun r_11 u H locs w_12 hP hD hS => ?_)
      subst w_12
      have hP : va_P (dC, dI) vwCl (cw cy e0 ad L S N) H := hP
      have hD : va_D A (cw cy e0 ad L S N) := hD
      refine br_ne (tgt := 51) hx hb dX3_issue_38 (by decide) (fun c_13 => ?_) (fun c_13 => ?_)
      · refine lv_aload_n hx hb dX3_issue_51 rfl (lv_at hl 0 rfl) ?_
        refine lv_iload_n hx hb dX3_issue_52 rfl (lv_at hl 1 rfl) ?_
        obtain ⟨z_14, hz_14⟩ := pl_get (ad := ad) (f := cc cy e0 ad S N) (hMF 10 (by decide))
        rw [show cc cy e0 ad S N (10, 0) = .inr (4, [.ref (ad (11, 0)), .ref (ad (12, 0)), .ref (ad (13, 0)), .ref (ad (14, 0)), .ref (ad (16, 0)), .int (S 0 0 0)]) from rfl] at hz_14
        refine call_i (va_runV (As := [.int (nI cn)]) (rest := []) ⟨hx, hb, hml, hown, hts⟩ (qX3_newestNumber l dC dI cy e0 mi ad L S N H.size cn hI0 (by omega)) (cwV 1 hts gX3_issue_X3_newestNumber rfl rfl rfl (by decide +kernel) ⟨Nat.le_of_ble_eq_true rfl, Nat.le_of_ble_eq_true rfl⟩) (preV hK hP hD (w_recv (ci := 4) (q0 := z_14) hK hP hz_14 rfl)) rfl rfl hl.1 rfl (lv_room (Nat.le_of_ble_eq_true rfl)) dX3_issue_53 ⟨Nat.le_of_ble_eq_true rfl, Nat.le_of_ble_eq_true rfl⟩) hD hS hA (fun r_15 u H locs w_16 hP hD hS => ?_)
        obtain ⟨rfl, rfl⟩ := w_16
        have hP : va_P (dC, dI) vwCl (cw cy e0 ad L S N) H := hP
        have hD : va_D A (cw cy e0 ad L S N) := hD
        refine lv_iconst (v := nI 1) hx hb dX3_issue_56 (by decide) ?_
        refine lv_iadd hx hb dX3_issue_57 ?_
        refine to_i (y := nI ((N 1 0 cn) + 1)) (nI_add _ _) ?_
        refine lv_istore (lv' := [(6, .int (nI ((N 1 0 cn) + 1))), (0, .ref (ad (10, 0))), (1, .int (nI cn)), (2, .int (nI sd)), (3, .int d), (4, .int k), (5, .int z)]) hx hb dX3_issue_58 hl (by decide) rfl (fun ls hl => ?_)
        refine lv_iload hx hb dX3_issue_60 (lv_at hl 0 rfl) ?_
        refine lv_bipush (v := nI 9) hx hb dX3_issue_62 (by decide) ?_
        refine lv_icmp_le (tgt := 77) hx hb dX3_issue_64 (by decide) (fun c_17 => ?_) (fun c_17 => ?_)
        · have hm9 : N 1 0 cn < 9 := by
            have h9 := nI_leI (a := N 1 0 cn + 1) (b := 9) (by omega) (by omega)
            have := h9.mp c_17
            omega
          refine lv_aload_n hx hb dX3_issue_77 rfl (lv_at hl 1 rfl) ?_
          obtain ⟨z_18, hz_18⟩ := pl_get (ad := ad) (f := cc cy e0 ad S N) (hMF 10 (by decide))
          rw [show cc cy e0 ad S N (10, 0) = .inr (4, [.ref (ad (11, 0)), .ref (ad (12, 0)), .ref (ad (13, 0)), .ref (ad (14, 0)), .ref (ad (16, 0)), .int (S 0 0 0)]) from rfl] at hz_18
          refine va_get (D := (dC, dI)) (ci := 4) (v := .ref (ad (11, 0))) (C := RX3) (T := TX3) (N := 6) hx hb hts inX3_ hown hK hP z_18 hz_18 rfl 0 (by decide) lk2 (fun _ h9 => h9) rfl dX3_issue_78 ?_
          refine lv_iload_n hx hb dX3_issue_81 rfl (lv_at hl 2 rfl) ?_
          have hD0 := hD
          refine va_new (D := (dC, dI)) (ci := 3) (C := RX2) (T := TX2) (N := 5) (fs := [.int 0, .int 0, .int 0, .int 0, .int 0]) hx hb hts inX2_ tyX2 tyX2_ok hown lk3 lk4 lk5 hK hP hD hS hA rfl (by decide +kernel) (Nat.le_of_ble_eq_true rfl) (Nat.le_of_ble_eq_true rfl) dX3_issue_82 (fun q9 H hP hD hS => ?_)
          have hP : va_P (dC, dI) vwCl ((cw cy e0 ad L S N) ++ [(q9, .inr (3, [.int 0, .int 0, .int 0, .int 0, .int 0]))]) H := hP
          have hD : va_D A ((cw cy e0 ad L S N) ++ [(q9, .inr (3, [.int 0, .int 0, .int 0, .int 0, .int 0]))]) := hD
          refine lv_dup hx hb dX3_issue_85 rfl ?_
          refine lv_iload hx hb dX3_issue_86 (lv_at hl 0 rfl) ?_
          refine lv_iload_n hx hb dX3_issue_88 rfl (lv_at hl 3 rfl) ?_
          refine lv_iload_n hx hb dX3_issue_89 rfl (lv_at hl 4 rfl) ?_
          refine lv_iload hx hb dX3_issue_90 (lv_at hl 5 rfl) ?_
          refine lv_iload hx hb dX3_issue_92 (lv_at hl 6 rfl) ?_
          refine call_v (va_runI (As := [.int (nI ((N 1 0 cn) + 1)), .int (nI sd), .int d, .int k, .int z]) (rest := [.ref q9, .int (nI cn), .ref (ad (11, 0))]) ⟨hx, hb, hml, hown, hts⟩ (qX2_init l dC dI cy e0 mi ((cw cy e0 ad L S N) ++ [(q9, .inr (3, [.int 0, .int 0, .int 0, .int 0, .int 0]))]) H.size q9 ((cw cy e0 ad L S N).length + 0) (nI ((N 1 0 cn) + 1)) (nI sd) d k z (app_r (w := (cw cy e0 ad L S N)) (y := [(q9, .inr (3, [.int 0, .int 0, .int 0, .int 0, .int 0]))]) (k := 0) rfl)) (cwI 5 hts gX3_issue_X2_init rfl rfl rfl lk5 lk7 lk6 rfl (by decide +kernel) ⟨Nat.le_of_ble_eq_true rfl, Nat.le_of_ble_eq_true rfl⟩) (preS (As := [.ref q9, .int (nI ((N 1 0 cn) + 1)), .int (nI sd), .int d, .int k, .int z]) hK hP hD) rfl rfl hl.1 rfl (lv_room (Nat.le_of_ble_eq_true rfl)) dX3_issue_94 ⟨Nat.le_of_ble_eq_true rfl, Nat.le_of_ble_eq_true rfl⟩) hD hS hA (fun _ H locs w_19 hP hD hS => ?_)
          rw [app_setr] at hP hD
          have hP : va_P (dC, dI) vwCl ((cw cy e0 ad L S N) ++ [(q9, .inr (3, [.int (nI ((N 1 0 cn) + 1)), .int (nI sd), .int d, .int k, .int z]))]) H := hP
          have hD : va_D A ((cw cy e0 ad L S N) ++ [(q9, .inr (3, [.int (nI ((N 1 0 cn) + 1)), .int (nI sd), .int d, .int k, .int z]))]) := hD
          obtain ⟨z_20, hz_20⟩ := pl_get (ad := ad) (f := cc cy e0 ad S N) (hMF 11 (by decide))
          rw [show cc cy e0 ad S N (11, 0) = .inl (cy 2, 10, .inr (.inr (.inr (.inr (fun d => vpt ad ((N 1 0) d) d))))) from rfl] at hz_20
          refine va_astq hx hb hK hP hD hS z_20 2 ((cw cy e0 ad L S N).length + 0) 3 (app_at hz_20) rfl (app_r (w := (cw cy e0 ad L S N)) (y := [(q9, .inr (3, [.int (nI ((N 1 0 cn) + 1)), .int (nI sd), .int d, .int k, .int z]))]) (k := 0) rfl) rfl (vp_in_nI hcn (by decide)) dX3_issue_97 (fun H locs hP hD hS => ?_)
          rw [nI_clamp (show cn < 2 ^ 31 by omega), app_set hz_20] at hP hD
          obtain ⟨hP, hD, hI9, hX9⟩ := w_issue hI0 hX hcn hm9 (show sd < 2 by omega) hz_20 hD0 hP hD
          refine lv_iload hx hb dX3_issue_98 (lv_at hl 0 rfl) ?_
          rw [← hQQ]; apply vx_ret; exact end_i (u := ((au ad 9 (9 * cn + N 1 0 cn) q9), (L ++ [(9, 9 * cn + N 1 0 cn)]), (S_iss S (9 * cn + N 1 0 cn) d k z), (N_iss N cn sd))) hx hb hr hlocks dX3_issue_100 hK hP hD hS ⟨by simp only [V_issue, eq_true hcnp, eq_true hsdp, eq_true c_7, eq_true c_10, eq_true c_13, eq_true hm9, ecn, esd, and_true, true_and, and_false, false_and, if_true, if_false, not_true, not_false_iff, not_false_eq_true, or_true, true_or, or_false, false_or, ite_true, ite_false, and_self, Classical.not_not, Bool.false_eq_true], by simp only [ecn], by simp only [ecn, esd], ⟨hI9, hX9⟩, rfl⟩ (Nat.le_of_ble_eq_true rfl) (Nat.le_of_ble_eq_true rfl)
        · have hm9 : ¬ N 1 0 cn < 9 := by
            have h9 := nI_leI (a := N 1 0 cn + 1) (b := 9) (by omega) (by omega)
            intro h8; exact c_17 (h9.mpr (by omega))
          rw [← hQQ]; exact thr (cls := "java/lang/IllegalStateException") (text := "the clause has all its versions") (is := 60) (ic := 62) (ik := 58) hx hb hst hown (by decide) lk8 lk9 (by decide) ham (fun w h => hts w (List.mem_cons_of_mem _ (List.mem_append_right _ h))) (by decide) (by decide +kernel) (by decide +kernel) dX3_issue_67 dX3_issue_70 dX3_issue_71 dX3_issue_73 dX3_issue_76 (hl.1.trans hml.symm) hnt hlocks (Nat.le_of_ble_eq_true rfl) (Nat.le_of_ble_eq_true rfl) (Nat.le_of_ble_eq_true rfl) (Nat.le_of_ble_eq_true rfl) (Or.inr (⟨by simp only [V_issue, eq_true hcnp, eq_true hsdp, eq_true c_7, eq_true c_10, eq_true c_13, hm9, ecn, esd, and_true, true_and, and_false, false_and, if_true, if_false, not_true, not_false_iff, not_false_eq_true, or_true, true_or, or_false, false_or, ite_true, ite_false, and_self, Classical.not_not, Bool.false_eq_true], rfl⟩)) hK hP hD hS (Nat.le_of_ble_eq_true rfl) (Nat.le_of_ble_eq_true rfl)
      · rw [← hQQ]; exact thr (cls := "java/lang/IllegalArgumentException") (text := "days, cure or penalty out of range") (is := 49) (ic := 51) (ik := 47) hx hb hst hown (by decide) lk0 lk1 (by decide) ham (fun w h => hts w (List.mem_cons_of_mem _ (List.mem_append_left _ (List.mem_append_right _ h)))) (by decide) (by decide +kernel) (by decide +kernel) dX3_issue_41 dX3_issue_44 dX3_issue_45 dX3_issue_47 dX3_issue_50 (hl.1.trans hml.symm) hnt hlocks (Nat.le_of_ble_eq_true rfl) (Nat.le_of_ble_eq_true rfl) (Nat.le_of_ble_eq_true rfl) (Nat.le_of_ble_eq_true rfl) (Or.inl ⟨by simp only [V_issue, eq_true hcnp, eq_true hsdp, eq_true c_7, eq_true c_10, c_13, ecn, esd, and_true, true_and, and_false, false_and, if_true, if_false, not_true, not_false_iff, not_false_eq_true, or_true, true_or, or_false, false_or, ite_true, ite_false, and_self, Classical.not_not, Bool.false_eq_true], rfl⟩) hK hP hD hS (Nat.le_of_ble_eq_true rfl) (Nat.le_of_ble_eq_true rfl)

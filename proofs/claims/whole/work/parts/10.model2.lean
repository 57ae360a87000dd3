def ix (x : Int32) : Nat := x.toNatClampNeg
theorem cl_ix {x : Int32} (h : (0 : Int32) ≤ x ∧ x ≤ 9) : ∃ j : Nat, j < 10 ∧ x = nI j ∧ ix (nI j) = j := cl_of h
theorem sd_ix {x : Int32} (h : (0 : Int32) ≤ x ∧ x ≤ 1) : ∃ j : Nat, j < 2 ∧ x = nI j ∧ ix (nI j) = j := sd_of h
theorem ct_ix {x : Int32} {n : Nat} (hn : n ≤ 1000) (h : (0 : Int32) ≤ x ∧ x ≤ nI n - 1) : ∃ j : Nat, j < n ∧ x = nI j ∧ ix (nI j) = j := by
  cases n with
  | zero =>
    have h1 : (0 : Int32) ≤ nI 0 - 1 := Int32.le_trans h.1 h.2
    exact absurd h1 (by decide)
  | succ k =>
    have e : nI (k + 1) - 1 = nI k := nI_pred k
    rw [e] at h
    obtain ⟨j, h1, h2⟩ := nI_of2 (x := x) (M := nI k) (n := k) (nI_toInt (by omega)) (fun q => Int32.not_lt.mpr h.1 q) h.2
    exact ⟨j, by omega, h2, nI_clamp (by omega)⟩
abbrev isC (C : Nat → Nat) (k : Nat) (x : Int32) : Prop := (0 : Int32) ≤ x ∧ x ≤ nI (C k) - 1
abbrev isCl (x : Int32) : Prop := (0 : Int32) ≤ x ∧ x ≤ 9
abbrev isSd (x : Int32) : Prop := (0 : Int32) ≤ x ∧ x ≤ 1

def M_issue (F : Nat → Int32) (C : Nat → Nat) (R : Nat → Nat → Int32) (T : Nat → Nat → Nat) (a o d k z : Int32) : Int32 × MS :=
  if isCl a ∧ isSd o ∧ (nI 0 ≤ d ∧ d ≤ nI 100) ∧ (nI 0 ≤ k ∧ k ≤ nI 50) ∧ (nI 0 ≤ z ∧ z ≤ nI 1000) then
    (if T 2 (ix a) = 9 then (nI 0, (va_up F 0 (nI 2), C, R, T)) else
      (nI (T 2 (ix a) + 1), (va_up F 0 (nI 0), C, va_up (va_up (va_up (va_up R 3 (upd (R 3) (9 * ix a + T 2 (ix a)) o)) 4 (upd (R 4) (9 * ix a + T 2 (ix a)) d)) 5 (upd (R 5) (9 * ix a + T 2 (ix a)) k)) 6 (upd (R 6) (9 * ix a + T 2 (ix a)) z), va_up T 2 (va_up (T 2) (ix a) (T 2 (ix a) + 1)))))
  else (nI 0, (va_up F 0 (nI 1), C, R, T))

set_option maxHeartbeats 4000000 in
set_option maxRecDepth 100000 in
/-- issue -/
theorem qX4_issue (l : Launch) (dC : Nat → ClassId) (dI : Nat → Nat → Nat) (cy : Nat → ClassId) (ad : Nat → Nat) (F : Nat → Int32) (C : Nat → Nat) (R : Nat → Nat → Int32) (T : Nat → Nat → Nat) (sz : Nat) (a o d k z : Int32) (hT : ∀ j, j < 10 → T 2 j ≤ 9) : Met l yX4_issue wsX4_issue ({ frames := 2, cells := 0, slots := 0, locals := 42 }) (va_Pc [.ref ((ad 0)), .int a, .int o, .int d, .int k, .int z] (wPre (dC, dI) (tyL cy) (mw ad cy F C R T) sz)) (QI (dC, dI) (tyL cy) (fun (r : Int32) (u : MS) => (r, u) = M_issue F C R T a o d k z) (mwU ad cy) (va_A (mw ad cy F C R T) sz)) 0 0 (va_A (mw ad cy F C R T) sz) := by
  refine en (cc := cX4_issue) (maxL := 8) (ret := (some .int)) (own := RX4) (lv := [(0, .ref ((ad 0))), (1, .int a), (2, .int o), (3, .int d), (4, .int k), (5, .int z)]) (by decide) rfl rfl (Nat.le_of_ble_eq_true rfl) rfl ?_
  intro p e s m below meth c ls A H locs hx hb hr hts hown hlocks hml hin hsz hK hP hD hS hA hl
  generalize hQQ : MQ below _ _ s _ _ A = QQ
  have inM : ∀ w ∈ wsX40, w ∈ wsX4_issue := fun _ h => List.mem_cons_of_mem _ (List.mem_append_right _ h)
  have lk0 : (Cond.fieldLink RX4 65 "ClauseShopModel" "thrown" "I").before (([.ref ((ad 0)), .int a, .int o, .int d, .int k, .int z] : List Value).toArray) s = true := hts _ (List.mem_of_getElem? (i := 2) rfl)
  have lk1 : (Cond.fieldLink RX4 7 "ClauseShopModel" "latest" "[I").before (([.ref ((ad 0)), .int a, .int o, .int d, .int k, .int z] : List Value).toArray) s = true := hts _ (List.mem_of_getElem? (i := 1) rfl)
  have lk2 : (Cond.fieldLink RX4 13 "ClauseShopModel" "obligor" "[I").before (([.ref ((ad 0)), .int a, .int o, .int d, .int k, .int z] : List Value).toArray) s = true := hts _ (List.mem_of_getElem? (i := 3) rfl)
  have lk3 : (Cond.fieldLink RX4 16 "ClauseShopModel" "days" "[I").before (([.ref ((ad 0)), .int a, .int o, .int d, .int k, .int z] : List Value).toArray) s = true := hts _ (List.mem_of_getElem? (i := 4) rfl)
  have lk4 : (Cond.fieldLink RX4 19 "ClauseShopModel" "cure" "[I").before (([.ref ((ad 0)), .int a, .int o, .int d, .int k, .int z] : List Value).toArray) s = true := hts _ (List.mem_of_getElem? (i := 5) rfl)
  have lk5 : (Cond.fieldLink RX4 22 "ClauseShopModel" "penalty" "[I").before (([.ref ((ad 0)), .int a, .int o, .int d, .int k, .int z] : List Value).toArray) s = true := hts _ (List.mem_of_getElem? (i := 6) rfl)
  refine lv_iload_n hx hb dX4_issue_0 rfl (lv_at hl 1 rfl) ?_
  refine call_i (va_runS (As := [.int a]) (rest := []) ⟨hx, hb, hml, hown, hts⟩ (qX4_isClause l dC dI cy (mw ad cy F C R T) H.size a) (va_cwS 1 hts gX4_issue_X4_isClause rfl rfl rfl (by decide +kernel) ⟨Nat.le_of_ble_eq_true rfl, Nat.le_of_ble_eq_true rfl⟩) (preS hK hP hD) rfl rfl hl.1 rfl (lv_room (Nat.le_of_ble_eq_true rfl)) dX4_issue_1 ⟨Nat.zero_le _, Nat.zero_le _⟩) hD hS hA (fun r_1 u H locs w_2 hP hD hS => ?_)
  subst w_2
  have hP : va_P (dC, dI) vwCl (mw ad cy F C R T) H := hP
  have hD : va_D A (mw ad cy F C R T) := hD
  refine br_eq (tgt := 51) hx hb dX4_issue_4 (by decide) (fun c_3 => ?_) (fun c_3 => ?_)
  · refine lv_iconst (v := nI 0) hx hb dX4_issue_51 (by decide) ?_
    refine lv_istore (lv' := [(6, .int (nI 0)), (0, .ref ((ad 0))), (1, .int a), (2, .int o), (3, .int d), (4, .int k), (5, .int z)]) hx hb dX4_issue_52 hl (by decide) rfl (fun ls hl => ?_)
    refine lv_aload_n hx hb dX4_issue_54 rfl (lv_at hl 1 rfl) ?_
    refine lv_iload hx hb dX4_issue_55 (lv_at hl 0 rfl) ?_
    refine lv_if_ne (tgt := 64) hx hb dX4_issue_57 (by decide) (fun h9 => absurd h9 (by decide)) (fun _ => ?_)
    refine lv_iconst (v := nI 1) hx hb dX4_issue_60 (by decide) ?_
    refine lv_goto (tgt := 80) hx hb dX4_issue_61 (by decide) ?_
    refine va_put (D := (dC, dI)) (ci := 5) (v := .int (nI 1)) (ty := .int) (C := RX4) (T := TX4) (N := 22) hx hb hts inM tyX4 tyX4_ok nmX4 hown hK hP hD hS 0 rfl rfl 0 (by decide) lk0 (fun _ h9 => h9) rfl (by decide +kernel) rfl rfl (Nat.le_of_ble_eq_true rfl) dX4_issue_80 (fun H locs hP hD hS => ?_)
    have hP : va_P (dC, dI) vwCl (mw ad cy (va_up F 0 (nI 1)) C R T) H := hP
    have hD : va_D A (mw ad cy (va_up F 0 (nI 1)) C R T) := hD
    refine lv_aload_n hx hb dX4_issue_83 rfl (lv_at hl 1 rfl) ?_
    refine va_get (D := (dC, dI)) (ci := 5) (v := .int (nI 1)) (C := RX4) (T := TX4) (N := 22) hx hb hts inM hown hK hP 0 rfl rfl 0 (by decide) lk0 (fun _ h9 => h9) rfl dX4_issue_84 ?_
    refine lv_if_le (tgt := 92) hx hb dX4_issue_87 (by decide) (fun h9 => absurd h9 (by decide)) (fun _ => ?_)
    refine lv_iconst (v := nI 0) hx hb dX4_issue_90 (by decide) ?_
    rw [← hQQ]; exact end_i (u := (va_up F 0 (nI 1), C, R, T)) hx hb hr hlocks dX4_issue_91 hK hP hD hS (by simp only [M_issue, c_3, isC, isCl, isSd, and_true, true_and, and_false, false_and, if_true, if_false, not_true, not_false_iff, not_false_eq_true, or_true, true_or, or_false, false_or, ite_true, ite_false, and_self, Classical.not_not, Bool.false_eq_true]; try rfl) (Nat.zero_le _) (Nat.zero_le _)
  · obtain ⟨cn, hcn, ex, ecn⟩ := cl_ix c_3
    subst ex
    have hTc := hT cn hcn
    refine lv_iload_n hx hb dX4_issue_7 rfl (lv_at hl 2 rfl) ?_
    refine call_i (va_runS (As := [.int o]) (rest := []) ⟨hx, hb, hml, hown, hts⟩ (qX4_isSide l dC dI cy (mw ad cy F C R T) H.size o) (va_cwS 1 hts gX4_issue_X4_isSide rfl rfl rfl (by decide +kernel) ⟨Nat.le_of_ble_eq_true rfl, Nat.le_of_ble_eq_true rfl⟩) (preS hK hP hD) rfl rfl hl.1 rfl (lv_room (Nat.le_of_ble_eq_true rfl)) dX4_issue_8 ⟨Nat.zero_le _, Nat.zero_le _⟩) hD hS hA (fun r_6 u H locs w_7 hP hD hS => ?_)
    subst w_7
    have hP : va_P (dC, dI) vwCl (mw ad cy F C R T) H := hP
    have hD : va_D A (mw ad cy F C R T) := hD
    refine br_eq (tgt := 51) hx hb dX4_issue_11 (by decide) (fun c_8 => ?_) (fun c_8 => ?_)
    · refine lv_iconst (v := nI 0) hx hb dX4_issue_51 (by decide) ?_
      refine lv_istore (lv' := [(6, .int (nI 0)), (0, .ref ((ad 0))), (1, .int (nI cn)), (2, .int o), (3, .int d), (4, .int k), (5, .int z)]) hx hb dX4_issue_52 hl (by decide) rfl (fun ls hl => ?_)
      refine lv_aload_n hx hb dX4_issue_54 rfl (lv_at hl 1 rfl) ?_
      refine lv_iload hx hb dX4_issue_55 (lv_at hl 0 rfl) ?_
      refine lv_if_ne (tgt := 64) hx hb dX4_issue_57 (by decide) (fun h9 => absurd h9 (by decide)) (fun _ => ?_)
      refine lv_iconst (v := nI 1) hx hb dX4_issue_60 (by decide) ?_
      refine lv_goto (tgt := 80) hx hb dX4_issue_61 (by decide) ?_
      refine va_put (D := (dC, dI)) (ci := 5) (v := .int (nI 1)) (ty := .int) (C := RX4) (T := TX4) (N := 22) hx hb hts inM tyX4 tyX4_ok nmX4 hown hK hP hD hS 0 rfl rfl 0 (by decide) lk0 (fun _ h9 => h9) rfl (by decide +kernel) rfl rfl (Nat.le_of_ble_eq_true rfl) dX4_issue_80 (fun H locs hP hD hS => ?_)
      have hP : va_P (dC, dI) vwCl (mw ad cy (va_up F 0 (nI 1)) C R T) H := hP
      have hD : va_D A (mw ad cy (va_up F 0 (nI 1)) C R T) := hD
      refine lv_aload_n hx hb dX4_issue_83 rfl (lv_at hl 1 rfl) ?_
      refine va_get (D := (dC, dI)) (ci := 5) (v := .int (nI 1)) (C := RX4) (T := TX4) (N := 22) hx hb hts inM hown hK hP 0 rfl rfl 0 (by decide) lk0 (fun _ h9 => h9) rfl dX4_issue_84 ?_
      refine lv_if_le (tgt := 92) hx hb dX4_issue_87 (by decide) (fun h9 => absurd h9 (by decide)) (fun _ => ?_)
      refine lv_iconst (v := nI 0) hx hb dX4_issue_90 (by decide) ?_
      rw [← hQQ]; exact end_i (u := (va_up F 0 (nI 1), C, R, T)) hx hb hr hlocks dX4_issue_91 hK hP hD hS (by simp only [M_issue, eq_true c_3, c_8, ecn, isC, isCl, isSd, and_true, true_and, and_false, false_and, if_true, if_false, not_true, not_false_iff, not_false_eq_true, or_true, true_or, or_false, false_or, ite_true, ite_false, and_self, Classical.not_not, Bool.false_eq_true]; try rfl) (Nat.zero_le _) (Nat.zero_le _)
    · refine lv_iload_n hx hb dX4_issue_14 rfl (lv_at hl 3 rfl) ?_
      refine lv_iconst (v := nI 0) hx hb dX4_issue_15 (by decide) ?_
      refine lv_bipush (v := nI 100) hx hb dX4_issue_16 (by decide) ?_
      refine call_i (va_runS (As := [.int d, .int (nI 0), .int (nI 100)]) (rest := []) ⟨hx, hb, hml, hown, hts⟩ (qX4_in l dC dI cy (mw ad cy F C R T) H.size d (nI 0) (nI 100)) (va_cwS 3 hts gX4_issue_X4_in rfl rfl rfl (by decide +kernel) ⟨Nat.le_of_ble_eq_true rfl, Nat.le_of_ble_eq_true rfl⟩) (preS hK hP hD) rfl rfl hl.1 rfl (lv_room (Nat.le_of_ble_eq_true rfl)) dX4_issue_18 ⟨Nat.zero_le _, Nat.zero_le _⟩) hD hS hA (fun r_11 u H locs w_12 hP hD hS => ?_)
      subst w_12
      have hP : va_P (dC, dI) vwCl (mw ad cy F C R T) H := hP
      have hD : va_D A (mw ad cy F C R T) := hD
      refine br_eq (tgt := 51) hx hb dX4_issue_21 (by decide) (fun c_13 => ?_) (fun c_13 => ?_)
      · refine lv_iconst (v := nI 0) hx hb dX4_issue_51 (by decide) ?_
        refine lv_istore (lv' := [(6, .int (nI 0)), (0, .ref ((ad 0))), (1, .int (nI cn)), (2, .int o), (3, .int d), (4, .int k), (5, .int z)]) hx hb dX4_issue_52 hl (by decide) rfl (fun ls hl => ?_)
        refine lv_aload_n hx hb dX4_issue_54 rfl (lv_at hl 1 rfl) ?_
        refine lv_iload hx hb dX4_issue_55 (lv_at hl 0 rfl) ?_
        refine lv_if_ne (tgt := 64) hx hb dX4_issue_57 (by decide) (fun h9 => absurd h9 (by decide)) (fun _ => ?_)
        refine lv_iconst (v := nI 1) hx hb dX4_issue_60 (by decide) ?_
        refine lv_goto (tgt := 80) hx hb dX4_issue_61 (by decide) ?_
        refine va_put (D := (dC, dI)) (ci := 5) (v := .int (nI 1)) (ty := .int) (C := RX4) (T := TX4) (N := 22) hx hb hts inM tyX4 tyX4_ok nmX4 hown hK hP hD hS 0 rfl rfl 0 (by decide) lk0 (fun _ h9 => h9) rfl (by decide +kernel) rfl rfl (Nat.le_of_ble_eq_true rfl) dX4_issue_80 (fun H locs hP hD hS => ?_)
        have hP : va_P (dC, dI) vwCl (mw ad cy (va_up F 0 (nI 1)) C R T) H := hP
        have hD : va_D A (mw ad cy (va_up F 0 (nI 1)) C R T) := hD
        refine lv_aload_n hx hb dX4_issue_83 rfl (lv_at hl 1 rfl) ?_
        refine va_get (D := (dC, dI)) (ci := 5) (v := .int (nI 1)) (C := RX4) (T := TX4) (N := 22) hx hb hts inM hown hK hP 0 rfl rfl 0 (by decide) lk0 (fun _ h9 => h9) rfl dX4_issue_84 ?_
        refine lv_if_le (tgt := 92) hx hb dX4_issue_87 (by decide) (fun h9 => absurd h9 (by decide)) (fun _ => ?_)
        refine lv_iconst (v := nI 0) hx hb dX4_issue_90 (by decide) ?_
        rw [← hQQ]; exact end_i (u := (va_up F 0 (nI 1), C, R, T)) hx hb hr hlocks dX4_issue_91 hK hP hD hS (by simp only [M_issue, eq_true c_3, eq_true c_8, c_13, ecn, isC, isCl, isSd, and_true, true_and, and_false, false_and, if_true, if_false, not_true, not_false_iff, not_false_eq_true, or_true, true_or, or_false, false_or, ite_true, ite_false, and_self, Classical.not_not, Bool.false_eq_true]; try rfl) (Nat.zero_le _) (Nat.zero_le _)
      · refine lv_iload hx hb dX4_issue_24 (lv_at hl 4 rfl) ?_
        refine lv_iconst (v := nI 0) hx hb dX4_issue_26 (by decide) ?_
        refine lv_bipush (v := nI 50) hx hb dX4_issue_27 (by decide) ?_
        refine call_i (va_runS (As := [.int k, .int (nI 0), .int (nI 50)]) (rest := []) ⟨hx, hb, hml, hown, hts⟩ (qX4_in l dC dI cy (mw ad cy F C R T) H.size k (nI 0) (nI 50)) (va_cwS 3 hts gX4_issue_X4_in rfl rfl rfl (by decide +kernel) ⟨Nat.le_of_ble_eq_true rfl, Nat.le_of_ble_eq_true rfl⟩) (preS hK hP hD) rfl rfl hl.1 rfl (lv_room (Nat.le_of_ble_eq_true rfl)) dX4_issue_29 ⟨Nat.zero_le _, Nat.zero_le _⟩) hD hS hA (fun r_16 u H locs w_17 hP hD hS => ?_)
        subst w_17
        have hP : va_P (dC, dI) vwCl (mw ad cy F C R T) H := hP
        have hD : va_D A (mw ad cy F C R T) := hD
        refine br_eq (tgt := 51) hx hb dX4_issue_32 (by decide) (fun c_18 => ?_) (fun c_18 => ?_)
        · refine lv_iconst (v := nI 0) hx hb dX4_issue_51 (by decide) ?_
          refine lv_istore (lv' := [(6, .int (nI 0)), (0, .ref ((ad 0))), (1, .int (nI cn)), (2, .int o), (3, .int d), (4, .int k), (5, .int z)]) hx hb dX4_issue_52 hl (by decide) rfl (fun ls hl => ?_)
          refine lv_aload_n hx hb dX4_issue_54 rfl (lv_at hl 1 rfl) ?_
          refine lv_iload hx hb dX4_issue_55 (lv_at hl 0 rfl) ?_
          refine lv_if_ne (tgt := 64) hx hb dX4_issue_57 (by decide) (fun h9 => absurd h9 (by decide)) (fun _ => ?_)
          refine lv_iconst (v := nI 1) hx hb dX4_issue_60 (by decide) ?_
          refine lv_goto (tgt := 80) hx hb dX4_issue_61 (by decide) ?_
          refine va_put (D := (dC, dI)) (ci := 5) (v := .int (nI 1)) (ty := .int) (C := RX4) (T := TX4) (N := 22) hx hb hts inM tyX4 tyX4_ok nmX4 hown hK hP hD hS 0 rfl rfl 0 (by decide) lk0 (fun _ h9 => h9) rfl (by decide +kernel) rfl rfl (Nat.le_of_ble_eq_true rfl) dX4_issue_80 (fun H locs hP hD hS => ?_)
          have hP : va_P (dC, dI) vwCl (mw ad cy (va_up F 0 (nI 1)) C R T) H := hP
          have hD : va_D A (mw ad cy (va_up F 0 (nI 1)) C R T) := hD
          refine lv_aload_n hx hb dX4_issue_83 rfl (lv_at hl 1 rfl) ?_
          refine va_get (D := (dC, dI)) (ci := 5) (v := .int (nI 1)) (C := RX4) (T := TX4) (N := 22) hx hb hts inM hown hK hP 0 rfl rfl 0 (by decide) lk0 (fun _ h9 => h9) rfl dX4_issue_84 ?_
          refine lv_if_le (tgt := 92) hx hb dX4_issue_87 (by decide) (fun h9 => absurd h9 (by decide)) (fun _ => ?_)
          refine lv_iconst (v := nI 0) hx hb dX4_issue_90 (by decide) ?_
          rw [← hQQ]; exact end_i (u := (va_up F 0 (nI 1), C, R, T)) hx hb hr hlocks dX4_issue_91 hK hP hD hS (by simp only [M_issue, eq_true c_3, eq_true c_8, eq_true c_13, c_18, ecn, isC, isCl, isSd, and_true, true_and, and_false, false_and, if_true, if_false, not_true, not_false_iff, not_false_eq_true, or_true, true_or, or_false, false_or, ite_true, ite_false, and_self, Classical.not_not, Bool.false_eq_true]; try rfl) (Nat.zero_le _) (Nat.zero_le _)
        · refine lv_iload hx hb dX4_issue_35 (lv_at hl 5 rfl) ?_
          refine lv_iconst (v := nI 0) hx hb dX4_issue_37 (by decide) ?_
          refine lv_sipush (v := nI 1000) hx hb dX4_issue_38 (by decide) ?_
          refine call_i (va_runS (As := [.int z, .int (nI 0), .int (nI 1000)]) (rest := []) ⟨hx, hb, hml, hown, hts⟩ (qX4_in l dC dI cy (mw ad cy F C R T) H.size z (nI 0) (nI 1000)) (va_cwS 3 hts gX4_issue_X4_in rfl rfl rfl (by decide +kernel) ⟨Nat.le_of_ble_eq_true rfl, Nat.le_of_ble_eq_true rfl⟩) (preS hK hP hD) rfl rfl hl.1 rfl (lv_room (Nat.le_of_ble_eq_true rfl)) dX4_issue_41 ⟨Nat.zero_le _, Nat.zero_le _⟩) hD hS hA (fun r_21 u H locs w_22 hP hD hS => ?_)
          subst w_22
          have hP : va_P (dC, dI) vwCl (mw ad cy F C R T) H := hP
          have hD : va_D A (mw ad cy F C R T) := hD
          refine br_eq (tgt := 51) hx hb dX4_issue_44 (by decide) (fun c_23 => ?_) (fun c_23 => ?_)
          · refine lv_iconst (v := nI 0) hx hb dX4_issue_51 (by decide) ?_
            refine lv_istore (lv' := [(6, .int (nI 0)), (0, .ref ((ad 0))), (1, .int (nI cn)), (2, .int o), (3, .int d), (4, .int k), (5, .int z)]) hx hb dX4_issue_52 hl (by decide) rfl (fun ls hl => ?_)
            refine lv_aload_n hx hb dX4_issue_54 rfl (lv_at hl 1 rfl) ?_
            refine lv_iload hx hb dX4_issue_55 (lv_at hl 0 rfl) ?_
            refine lv_if_ne (tgt := 64) hx hb dX4_issue_57 (by decide) (fun h9 => absurd h9 (by decide)) (fun _ => ?_)
            refine lv_iconst (v := nI 1) hx hb dX4_issue_60 (by decide) ?_
            refine lv_goto (tgt := 80) hx hb dX4_issue_61 (by decide) ?_
            refine va_put (D := (dC, dI)) (ci := 5) (v := .int (nI 1)) (ty := .int) (C := RX4) (T := TX4) (N := 22) hx hb hts inM tyX4 tyX4_ok nmX4 hown hK hP hD hS 0 rfl rfl 0 (by decide) lk0 (fun _ h9 => h9) rfl (by decide +kernel) rfl rfl (Nat.le_of_ble_eq_true rfl) dX4_issue_80 (fun H locs hP hD hS => ?_)
            have hP : va_P (dC, dI) vwCl (mw ad cy (va_up F 0 (nI 1)) C R T) H := hP
            have hD : va_D A (mw ad cy (va_up F 0 (nI 1)) C R T) := hD
            refine lv_aload_n hx hb dX4_issue_83 rfl (lv_at hl 1 rfl) ?_
            refine va_get (D := (dC, dI)) (ci := 5) (v := .int (nI 1)) (C := RX4) (T := TX4) (N := 22) hx hb hts inM hown hK hP 0 rfl rfl 0 (by decide) lk0 (fun _ h9 => h9) rfl dX4_issue_84 ?_
            refine lv_if_le (tgt := 92) hx hb dX4_issue_87 (by decide) (fun h9 => absurd h9 (by decide)) (fun _ => ?_)
            refine lv_iconst (v := nI 0) hx hb dX4_issue_90 (by decide) ?_
            rw [← hQQ]; exact end_i (u := (va_up F 0 (nI 1), C, R, T)) hx hb hr hlocks dX4_issue_91 hK hP hD hS (by simp only [M_issue, eq_true c_3, eq_true c_8, eq_true c_13, eq_true c_18, c_23, ecn, isC, isCl, isSd, and_true, true_and, and_false, false_and, if_true, if_false, not_true, not_false_iff, not_false_eq_true, or_true, true_or, or_false, false_or, ite_true, ite_false, and_self, Classical.not_not, Bool.false_eq_true]; try rfl) (Nat.zero_le _) (Nat.zero_le _)
          · refine lv_iconst (v := nI 1) hx hb dX4_issue_47 (by decide) ?_
            refine lv_goto (tgt := 52) hx hb dX4_issue_48 (by decide) ?_
            refine lv_istore (lv' := [(6, .int (nI 1)), (0, .ref ((ad 0))), (1, .int (nI cn)), (2, .int o), (3, .int d), (4, .int k), (5, .int z)]) hx hb dX4_issue_52 hl (by decide) rfl (fun ls hl => ?_)
            refine lv_aload_n hx hb dX4_issue_54 rfl (lv_at hl 1 rfl) ?_
            refine lv_iload hx hb dX4_issue_55 (lv_at hl 0 rfl) ?_
            refine lv_if_ne (tgt := 64) hx hb dX4_issue_57 (by decide) (fun _ => ?_) (fun h9 => absurd h9 (by decide))
            refine lv_aload_n hx hb dX4_issue_64 rfl (lv_at hl 1 rfl) ?_
            refine va_get (D := (dC, dI)) (ci := 5) (v := .ref ((ad 2))) (C := RX4) (T := TX4) (N := 22) hx hb hts inM hown hK hP 0 rfl rfl 2 (by decide) lk1 (fun _ h9 => h9) rfl dX4_issue_65 ?_
            refine lv_iload_n hx hb dX4_issue_68 rfl (lv_at hl 2 rfl) ?_
            refine x_iald hx hb hK hP 1 0 rfl rfl (t := cn) (by omega) (by decide) dX4_issue_69 ?_
            refine lv_bipush (v := nI 9) hx hb dX4_issue_70 (by decide) ?_
            refine n_ne (tgt := 79) hx hb dX4_issue_72 (by decide) (by omega) (by omega) (fun c_27 => ?_) (fun c_27 => ?_)
            · refine lv_iconst (v := nI 0) hx hb dX4_issue_79 (by decide) ?_
              refine va_put (D := (dC, dI)) (ci := 5) (v := .int (nI 0)) (ty := .int) (C := RX4) (T := TX4) (N := 22) hx hb hts inM tyX4 tyX4_ok nmX4 hown hK hP hD hS 0 rfl rfl 0 (by decide) lk0 (fun _ h9 => h9) rfl (by decide +kernel) rfl rfl (Nat.le_of_ble_eq_true rfl) dX4_issue_80 (fun H locs hP hD hS => ?_)
              have hP : va_P (dC, dI) vwCl (mw ad cy (va_up F 0 (nI 0)) C R T) H := hP
              have hD : va_D A (mw ad cy (va_up F 0 (nI 0)) C R T) := hD
              refine lv_aload_n hx hb dX4_issue_83 rfl (lv_at hl 1 rfl) ?_
              refine va_get (D := (dC, dI)) (ci := 5) (v := .int (nI 0)) (C := RX4) (T := TX4) (N := 22) hx hb hts inM hown hK hP 0 rfl rfl 0 (by decide) lk0 (fun _ h9 => h9) rfl dX4_issue_84 ?_
              refine lv_if_le (tgt := 92) hx hb dX4_issue_87 (by decide) (fun _ => ?_) (fun h9 => absurd h9 (by decide))
              refine lv_bipush (v := nI 9) hx hb dX4_issue_92 (by decide) ?_
              refine lv_iload_n hx hb dX4_issue_94 rfl (lv_at hl 2 rfl) ?_
              refine lv_imul hx hb dX4_issue_95 ?_
              refine to_i (y := nI (9 * cn)) (pk_mul _ _) ?_
              refine lv_aload_n hx hb dX4_issue_96 rfl (lv_at hl 1 rfl) ?_
              refine va_get (D := (dC, dI)) (ci := 5) (v := .ref ((ad 2))) (C := RX4) (T := TX4) (N := 22) hx hb hts inM hown hK hP 0 rfl rfl 2 (by decide) lk1 (fun _ h9 => h9) rfl dX4_issue_97 ?_
              refine lv_iload_n hx hb dX4_issue_100 rfl (lv_at hl 2 rfl) ?_
              refine x_iald hx hb hK hP 1 0 rfl rfl (t := cn) (by omega) (by decide) dX4_issue_101 ?_
              refine lv_iadd hx hb dX4_issue_102 ?_
              refine to_i (y := nI ((9 * cn) + (T 2 cn))) (nI_add _ _) ?_
              refine lv_istore (lv' := [(7, .int (nI ((9 * cn) + (T 2 cn)))), (6, .int (nI 1)), (0, .ref ((ad 0))), (1, .int (nI cn)), (2, .int o), (3, .int d), (4, .int k), (5, .int z)]) hx hb dX4_issue_103 hl (by decide) rfl (fun ls hl => ?_)
              refine lv_aload_n hx hb dX4_issue_105 rfl (lv_at hl 2 rfl) ?_
              refine va_get (D := (dC, dI)) (ci := 5) (v := .ref ((ad 3))) (C := RX4) (T := TX4) (N := 22) hx hb hts inM hown hK hP 0 rfl rfl 3 (by decide) lk2 (fun _ h9 => h9) rfl dX4_issue_106 ?_
              refine lv_iload hx hb dX4_issue_109 (lv_at hl 0 rfl) ?_
              refine lv_iload_n hx hb dX4_issue_111 rfl (lv_at hl 4 rfl) ?_
              refine x_iast hx hb hK hP hD hS 2 0 rfl rfl (t := (9 * cn) + (T 2 cn)) (x := o) (by omega) (by decide) dX4_issue_112 (fun H locs hP hD hS => ?_)
              have hP : va_P (dC, dI) vwCl (mw ad cy (va_up F 0 (nI 0)) C (va_up R 3 (upd (R 3) ((9 * cn) + (T 2 cn)) o)) T) H := hP
              have hD : va_D A (mw ad cy (va_up F 0 (nI 0)) C (va_up R 3 (upd (R 3) ((9 * cn) + (T 2 cn)) o)) T) := hD
              refine lv_aload_n hx hb dX4_issue_113 rfl (lv_at hl 2 rfl) ?_
              refine va_get (D := (dC, dI)) (ci := 5) (v := .ref ((ad 4))) (C := RX4) (T := TX4) (N := 22) hx hb hts inM hown hK hP 0 rfl rfl 4 (by decide) lk3 (fun _ h9 => h9) rfl dX4_issue_114 ?_
              refine lv_iload hx hb dX4_issue_117 (lv_at hl 0 rfl) ?_
              refine lv_iload_n hx hb dX4_issue_119 rfl (lv_at hl 5 rfl) ?_
              refine x_iast hx hb hK hP hD hS 3 0 rfl rfl (t := (9 * cn) + (T 2 cn)) (x := d) (by omega) (by decide) dX4_issue_120 (fun H locs hP hD hS => ?_)
              have hP : va_P (dC, dI) vwCl (mw ad cy (va_up F 0 (nI 0)) C (va_up (va_up R 3 (upd (R 3) ((9 * cn) + (T 2 cn)) o)) 4 (upd (R 4) ((9 * cn) + (T 2 cn)) d)) T) H := hP
              have hD : va_D A (mw ad cy (va_up F 0 (nI 0)) C (va_up (va_up R 3 (upd (R 3) ((9 * cn) + (T 2 cn)) o)) 4 (upd (R 4) ((9 * cn) + (T 2 cn)) d)) T) := hD
              refine lv_aload_n hx hb dX4_issue_121 rfl (lv_at hl 2 rfl) ?_
              refine va_get (D := (dC, dI)) (ci := 5) (v := .ref ((ad 5))) (C := RX4) (T := TX4) (N := 22) hx hb hts inM hown hK hP 0 rfl rfl 5 (by decide) lk4 (fun _ h9 => h9) rfl dX4_issue_122 ?_
              refine lv_iload hx hb dX4_issue_125 (lv_at hl 0 rfl) ?_
              refine lv_iload hx hb dX4_issue_127 (lv_at hl 6 rfl) ?_
              refine x_iast hx hb hK hP hD hS 4 0 rfl rfl (t := (9 * cn) + (T 2 cn)) (x := k) (by omega) (by decide) dX4_issue_129 (fun H locs hP hD hS => ?_)
              have hP : va_P (dC, dI) vwCl (mw ad cy (va_up F 0 (nI 0)) C (va_up (va_up (va_up R 3 (upd (R 3) ((9 * cn) + (T 2 cn)) o)) 4 (upd (R 4) ((9 * cn) + (T 2 cn)) d)) 5 (upd (R 5) ((9 * cn) + (T 2 cn)) k)) T) H := hP
              have hD : va_D A (mw ad cy (va_up F 0 (nI 0)) C (va_up (va_up (va_up R 3 (upd (R 3) ((9 * cn) + (T 2 cn)) o)) 4 (upd (R 4) ((9 * cn) + (T 2 cn)) d)) 5 (upd (R 5) ((9 * cn) + (T 2 cn)) k)) T) := hD
              refine lv_aload_n hx hb dX4_issue_130 rfl (lv_at hl 2 rfl) ?_
              refine va_get (D := (dC, dI)) (ci := 5) (v := .ref ((ad 6))) (C := RX4) (T := TX4) (N := 22) hx hb hts inM hown hK hP 0 rfl rfl 6 (by decide) lk5 (fun _ h9 => h9) rfl dX4_issue_131 ?_
              refine lv_iload hx hb dX4_issue_134 (lv_at hl 0 rfl) ?_
              refine lv_iload hx hb dX4_issue_136 (lv_at hl 7 rfl) ?_
              refine x_iast hx hb hK hP hD hS 5 0 rfl rfl (t := (9 * cn) + (T 2 cn)) (x := z) (by omega) (by decide) dX4_issue_138 (fun H locs hP hD hS => ?_)
              have hP : va_P (dC, dI) vwCl (mw ad cy (va_up F 0 (nI 0)) C (va_up (va_up (va_up (va_up R 3 (upd (R 3) ((9 * cn) + (T 2 cn)) o)) 4 (upd (R 4) ((9 * cn) + (T 2 cn)) d)) 5 (upd (R 5) ((9 * cn) + (T 2 cn)) k)) 6 (upd (R 6) ((9 * cn) + (T 2 cn)) z)) T) H := hP
              have hD : va_D A (mw ad cy (va_up F 0 (nI 0)) C (va_up (va_up (va_up (va_up R 3 (upd (R 3) ((9 * cn) + (T 2 cn)) o)) 4 (upd (R 4) ((9 * cn) + (T 2 cn)) d)) 5 (upd (R 5) ((9 * cn) + (T 2 cn)) k)) 6 (upd (R 6) ((9 * cn) + (T 2 cn)) z)) T) := hD
              refine lv_aload_n hx hb dX4_issue_139 rfl (lv_at hl 2 rfl) ?_
              refine va_get (D := (dC, dI)) (ci := 5) (v := .ref ((ad 2))) (C := RX4) (T := TX4) (N := 22) hx hb hts inM hown hK hP 0 rfl rfl 2 (by decide) lk1 (fun _ h9 => h9) rfl dX4_issue_140 ?_
              refine lv_iload_n hx hb dX4_issue_143 rfl (lv_at hl 3 rfl) ?_
              refine lv_dup2_11 hx hb dX4_issue_144 rfl rfl ?_
              refine x_iald hx hb hK hP 1 0 rfl rfl (t := cn) (by omega) (by decide) dX4_issue_145 ?_
              refine lv_iconst (v := nI 1) hx hb dX4_issue_146 (by decide) ?_
              refine lv_iadd hx hb dX4_issue_147 ?_
              refine to_i (y := nI ((T 2 cn) + 1)) (nI_add _ _) ?_
              refine x_iast hx hb hK hP hD hS 1 0 rfl rfl (t := cn) (x := (nI ((T 2 cn) + 1))) (by omega) (by decide) dX4_issue_148 (fun H locs hP hD hS => ?_)
              rw [upd_nI] at hP hD
              have hP : va_P (dC, dI) vwCl (mw ad cy (va_up F 0 (nI 0)) C (va_up (va_up (va_up (va_up R 3 (upd (R 3) ((9 * cn) + (T 2 cn)) o)) 4 (upd (R 4) ((9 * cn) + (T 2 cn)) d)) 5 (upd (R 5) ((9 * cn) + (T 2 cn)) k)) 6 (upd (R 6) ((9 * cn) + (T 2 cn)) z)) (va_up T 2 (va_up (T 2) cn ((T 2 cn) + 1)))) H := hP
              have hD : va_D A (mw ad cy (va_up F 0 (nI 0)) C (va_up (va_up (va_up (va_up R 3 (upd (R 3) ((9 * cn) + (T 2 cn)) o)) 4 (upd (R 4) ((9 * cn) + (T 2 cn)) d)) 5 (upd (R 5) ((9 * cn) + (T 2 cn)) k)) 6 (upd (R 6) ((9 * cn) + (T 2 cn)) z)) (va_up T 2 (va_up (T 2) cn ((T 2 cn) + 1)))) := hD
              refine lv_aload_n hx hb dX4_issue_149 rfl (lv_at hl 2 rfl) ?_
              refine va_get (D := (dC, dI)) (ci := 5) (v := .ref ((ad 2))) (C := RX4) (T := TX4) (N := 22) hx hb hts inM hown hK hP 0 rfl rfl 2 (by decide) lk1 (fun _ h9 => h9) rfl dX4_issue_150 ?_
              refine lv_iload_n hx hb dX4_issue_153 rfl (lv_at hl 3 rfl) ?_
              refine x_iald hx hb hK hP 1 0 rfl rfl (t := cn) (by omega) (by decide) dX4_issue_154 ?_
              refine to_i (y := nI ((T 2 cn) + 1)) (congrArg nI (va_up_self _ _ _)) ?_
              rw [← hQQ]; exact end_i (u := (va_up F 0 (nI 0), C, va_up (va_up (va_up (va_up R 3 (upd (R 3) ((9 * cn) + (T 2 cn)) o)) 4 (upd (R 4) ((9 * cn) + (T 2 cn)) d)) 5 (upd (R 5) ((9 * cn) + (T 2 cn)) k)) 6 (upd (R 6) ((9 * cn) + (T 2 cn)) z), va_up T 2 (va_up (T 2) cn ((T 2 cn) + 1)))) hx hb hr hlocks dX4_issue_155 hK hP hD hS (by simp only [M_issue, eq_true c_3, eq_true c_8, eq_true c_13, eq_true c_18, eq_true c_23, c_27, ecn, isC, isCl, isSd, and_true, true_and, and_false, false_and, if_true, if_false, not_true, not_false_iff, not_false_eq_true, or_true, true_or, or_false, false_or, ite_true, ite_false, and_self, Classical.not_not, Bool.false_eq_true]; try rfl) (Nat.zero_le _) (Nat.zero_le _)
            · refine lv_iconst (v := nI 2) hx hb dX4_issue_75 (by decide) ?_
              refine lv_goto (tgt := 80) hx hb dX4_issue_76 (by decide) ?_
              refine va_put (D := (dC, dI)) (ci := 5) (v := .int (nI 2)) (ty := .int) (C := RX4) (T := TX4) (N := 22) hx hb hts inM tyX4 tyX4_ok nmX4 hown hK hP hD hS 0 rfl rfl 0 (by decide) lk0 (fun _ h9 => h9) rfl (by decide +kernel) rfl rfl (Nat.le_of_ble_eq_true rfl) dX4_issue_80 (fun H locs hP hD hS => ?_)
              have hP : va_P (dC, dI) vwCl (mw ad cy (va_up F 0 (nI 2)) C R T) H := hP
              have hD : va_D A (mw ad cy (va_up F 0 (nI 2)) C R T) := hD
              refine lv_aload_n hx hb dX4_issue_83 rfl (lv_at hl 1 rfl) ?_
              refine va_get (D := (dC, dI)) (ci := 5) (v := .int (nI 2)) (C := RX4) (T := TX4) (N := 22) hx hb hts inM hown hK hP 0 rfl rfl 0 (by decide) lk0 (fun _ h9 => h9) rfl dX4_issue_84 ?_
              refine lv_if_le (tgt := 92) hx hb dX4_issue_87 (by decide) (fun h9 => absurd h9 (by decide)) (fun _ => ?_)
              refine lv_iconst (v := nI 0) hx hb dX4_issue_90 (by decide) ?_
              rw [← hQQ]; exact end_i (u := (va_up F 0 (nI 2), C, R, T)) hx hb hr hlocks dX4_issue_91 hK hP hD hS (by simp only [M_issue, eq_true c_3, eq_true c_8, eq_true c_13, eq_true c_18, eq_true c_23, eq_true c_27, ecn, isC, isCl, isSd, and_true, true_and, and_false, false_and, if_true, if_false, not_true, not_false_iff, not_false_eq_true, or_true, true_or, or_false, false_or, ite_true, ite_false, and_self, Classical.not_not, Bool.false_eq_true]; try rfl) (Nat.zero_le _) (Nat.zero_le _)

def M_relate (F : Nat → Int32) (C : Nat → Nat) (R : Nat → Nat → Int32) (T : Nat → Nat → Nat) (a n f : Int32) : MS :=
  if isCl a ∧ (nI 0 ≤ n ∧ n ≤ nI 1023) ∧ (nI 0 ≤ f ∧ f ≤ nI 1023) then
    (if ((n ||| f) >>> (a &&& 31)) &&& nI 1 = nI 1 then (va_up F 0 (nI 1), C, R, T) else (va_up F 0 (nI 0), C, va_up (va_up R 7 (upd (R 7) (ix a) n)) 8 (upd (R 8) (ix a) f), T))
  else (va_up F 0 (nI 1), C, R, T)

set_option maxHeartbeats 4000000 in
set_option maxRecDepth 100000 in
/-- relate -/
theorem qX4_relate (l : Launch) (dC : Nat → ClassId) (dI : Nat → Nat → Nat) (cy : Nat → ClassId) (ad : Nat → Nat) (F : Nat → Int32) (C : Nat → Nat) (R : Nat → Nat → Int32) (T : Nat → Nat → Nat) (sz : Nat) (a n f : Int32) : Met l yX4_relate wsX4_relate ({ frames := 2, cells := 0, slots := 0, locals := 42 }) (va_Pc [.ref ((ad 0)), .int a, .int n, .int f] (wPre (dC, dI) (tyL cy) (mw ad cy F C R T) sz)) (QV (dC, dI) (tyL cy) (fun (u : MS) => u = M_relate F C R T a n f) (mwU ad cy) (va_A (mw ad cy F C R T) sz)) 0 0 (va_A (mw ad cy F C R T) sz) := by
  refine en (cc := cX4_relate) (maxL := 5) (ret := none) (own := RX4) (lv := [(0, .ref ((ad 0))), (1, .int a), (2, .int n), (3, .int f)]) (by decide) rfl rfl (Nat.le_of_ble_eq_true rfl) rfl ?_
  intro p e s m below meth c ls A H locs hx hb hr hts hown hlocks hml hin hsz hK hP hD hS hA hl
  generalize hQQ : MQ below _ _ s _ _ A = QQ
  have inM : ∀ w ∈ wsX40, w ∈ wsX4_relate := fun _ h => List.mem_cons_of_mem _ (List.mem_append_right _ h)
  have lk0 : (Cond.fieldLink RX4 65 "ClauseShopModel" "thrown" "I").before (([.ref ((ad 0)), .int a, .int n, .int f] : List Value).toArray) s = true := hts _ (List.mem_of_getElem? (i := 1) rfl)
  have lk1 : (Cond.fieldLink RX4 25 "ClauseShopModel" "needs" "[I").before (([.ref ((ad 0)), .int a, .int n, .int f] : List Value).toArray) s = true := hts _ (List.mem_of_getElem? (i := 2) rfl)
  have lk2 : (Cond.fieldLink RX4 28 "ClauseShopModel" "forbids" "[I").before (([.ref ((ad 0)), .int a, .int n, .int f] : List Value).toArray) s = true := hts _ (List.mem_of_getElem? (i := 3) rfl)
  refine lv_iload_n hx hb dX4_relate_0 rfl (lv_at hl 1 rfl) ?_
  refine call_i (va_runS (As := [.int a]) (rest := []) ⟨hx, hb, hml, hown, hts⟩ (qX4_isClause l dC dI cy (mw ad cy F C R T) H.size a) (va_cwS 1 hts gX4_relate_X4_isClause rfl rfl rfl (by decide +kernel) ⟨Nat.le_of_ble_eq_true rfl, Nat.le_of_ble_eq_true rfl⟩) (preS hK hP hD) rfl rfl hl.1 rfl (lv_room (Nat.le_of_ble_eq_true rfl)) dX4_relate_1 ⟨Nat.zero_le _, Nat.zero_le _⟩) hD hS hA (fun r_1 u H locs w_2 hP hD hS => ?_)
  subst w_2
  have hP : va_P (dC, dI) vwCl (mw ad cy F C R T) H := hP
  have hD : va_D A (mw ad cy F C R T) := hD
  refine br_eq (tgt := 33) hx hb dX4_relate_4 (by decide) (fun c_3 => ?_) (fun c_3 => ?_)
  · refine lv_iconst (v := nI 0) hx hb dX4_relate_33 (by decide) ?_
    refine lv_istore (lv' := [(4, .int (nI 0)), (0, .ref ((ad 0))), (1, .int a), (2, .int n), (3, .int f)]) hx hb dX4_relate_34 hl (by decide) rfl (fun ls hl => ?_)
    refine lv_aload_n hx hb dX4_relate_36 rfl (lv_at hl 1 rfl) ?_
    refine lv_iload hx hb dX4_relate_37 (lv_at hl 0 rfl) ?_
    refine lv_if_eq (tgt := 53) hx hb dX4_relate_39 (by decide) (fun _ => ?_) (fun h9 => absurd h9 (by decide))
    refine lv_iconst (v := nI 1) hx hb dX4_relate_53 (by decide) ?_
    refine lv_goto (tgt := 58) hx hb dX4_relate_54 (by decide) ?_
    refine va_put (D := (dC, dI)) (ci := 5) (v := .int (nI 1)) (ty := .int) (C := RX4) (T := TX4) (N := 22) hx hb hts inM tyX4 tyX4_ok nmX4 hown hK hP hD hS 0 rfl rfl 0 (by decide) lk0 (fun _ h9 => h9) rfl (by decide +kernel) rfl rfl (Nat.le_of_ble_eq_true rfl) dX4_relate_58 (fun H locs hP hD hS => ?_)
    have hP : va_P (dC, dI) vwCl (mw ad cy (va_up F 0 (nI 1)) C R T) H := hP
    have hD : va_D A (mw ad cy (va_up F 0 (nI 1)) C R T) := hD
    refine lv_aload_n hx hb dX4_relate_61 rfl (lv_at hl 1 rfl) ?_
    refine va_get (D := (dC, dI)) (ci := 5) (v := .int (nI 1)) (C := RX4) (T := TX4) (N := 22) hx hb hts inM hown hK hP 0 rfl rfl 0 (by decide) lk0 (fun _ h9 => h9) rfl dX4_relate_62 ?_
    refine lv_if_ne (tgt := 82) hx hb dX4_relate_65 (by decide) (fun _ => ?_) (fun h9 => absurd h9 (by decide))
    rw [← hQQ]; exact end_v (u := (va_up F 0 (nI 1), C, R, T)) hx hb hr hlocks dX4_relate_82 hK hP hD hS (by simp only [M_relate, c_3, isC, isCl, isSd, and_true, true_and, and_false, false_and, if_true, if_false, not_true, not_false_iff, not_false_eq_true, or_true, true_or, or_false, false_or, ite_true, ite_false, and_self, Classical.not_not, Bool.false_eq_true]; try rfl) (Nat.zero_le _) (Nat.zero_le _)
  · obtain ⟨cn, hcn, ex, ecn⟩ := cl_ix c_3
    subst ex
    refine lv_iload_n hx hb dX4_relate_7 rfl (lv_at hl 2 rfl) ?_
    refine lv_iconst (v := nI 0) hx hb dX4_relate_8 (by decide) ?_
    refine lv_sipush (v := nI 1023) hx hb dX4_relate_9 (by decide) ?_
    refine call_i (va_runS (As := [.int n, .int (nI 0), .int (nI 1023)]) (rest := []) ⟨hx, hb, hml, hown, hts⟩ (qX4_in l dC dI cy (mw ad cy F C R T) H.size n (nI 0) (nI 1023)) (va_cwS 3 hts gX4_relate_X4_in rfl rfl rfl (by decide +kernel) ⟨Nat.le_of_ble_eq_true rfl, Nat.le_of_ble_eq_true rfl⟩) (preS hK hP hD) rfl rfl hl.1 rfl (lv_room (Nat.le_of_ble_eq_true rfl)) dX4_relate_12 ⟨Nat.zero_le _, Nat.zero_le _⟩) hD hS hA (fun r_6 u H locs w_7 hP hD hS => ?_)
    subst w_7
    have hP : va_P (dC, dI) vwCl (mw ad cy F C R T) H := hP
    have hD : va_D A (mw ad cy F C R T) := hD
    refine br_eq (tgt := 33) hx hb dX4_relate_15 (by decide) (fun c_8 => ?_) (fun c_8 => ?_)
    · refine lv_iconst (v := nI 0) hx hb dX4_relate_33 (by decide) ?_
      refine lv_istore (lv' := [(4, .int (nI 0)), (0, .ref ((ad 0))), (1, .int (nI cn)), (2, .int n), (3, .int f)]) hx hb dX4_relate_34 hl (by decide) rfl (fun ls hl => ?_)
      refine lv_aload_n hx hb dX4_relate_36 rfl (lv_at hl 1 rfl) ?_
      refine lv_iload hx hb dX4_relate_37 (lv_at hl 0 rfl) ?_
      refine lv_if_eq (tgt := 53) hx hb dX4_relate_39 (by decide) (fun _ => ?_) (fun h9 => absurd h9 (by decide))
      refine lv_iconst (v := nI 1) hx hb dX4_relate_53 (by decide) ?_
      refine lv_goto (tgt := 58) hx hb dX4_relate_54 (by decide) ?_
      refine va_put (D := (dC, dI)) (ci := 5) (v := .int (nI 1)) (ty := .int) (C := RX4) (T := TX4) (N := 22) hx hb hts inM tyX4 tyX4_ok nmX4 hown hK hP hD hS 0 rfl rfl 0 (by decide) lk0 (fun _ h9 => h9) rfl (by decide +kernel) rfl rfl (Nat.le_of_ble_eq_true rfl) dX4_relate_58 (fun H locs hP hD hS => ?_)
      have hP : va_P (dC, dI) vwCl (mw ad cy (va_up F 0 (nI 1)) C R T) H := hP
      have hD : va_D A (mw ad cy (va_up F 0 (nI 1)) C R T) := hD
      refine lv_aload_n hx hb dX4_relate_61 rfl (lv_at hl 1 rfl) ?_
      refine va_get (D := (dC, dI)) (ci := 5) (v := .int (nI 1)) (C := RX4) (T := TX4) (N := 22) hx hb hts inM hown hK hP 0 rfl rfl 0 (by decide) lk0 (fun _ h9 => h9) rfl dX4_relate_62 ?_
      refine lv_if_ne (tgt := 82) hx hb dX4_relate_65 (by decide) (fun _ => ?_) (fun h9 => absurd h9 (by decide))
      rw [← hQQ]; exact end_v (u := (va_up F 0 (nI 1), C, R, T)) hx hb hr hlocks dX4_relate_82 hK hP hD hS (by simp only [M_relate, eq_true c_3, c_8, ecn, isC, isCl, isSd, and_true, true_and, and_false, false_and, if_true, if_false, not_true, not_false_iff, not_false_eq_true, or_true, true_or, or_false, false_or, ite_true, ite_false, and_self, Classical.not_not, Bool.false_eq_true]; try rfl) (Nat.zero_le _) (Nat.zero_le _)
    · refine lv_iload_n hx hb dX4_relate_18 rfl (lv_at hl 3 rfl) ?_
      refine lv_iconst (v := nI 0) hx hb dX4_relate_19 (by decide) ?_
      refine lv_sipush (v := nI 1023) hx hb dX4_relate_20 (by decide) ?_
      refine call_i (va_runS (As := [.int f, .int (nI 0), .int (nI 1023)]) (rest := []) ⟨hx, hb, hml, hown, hts⟩ (qX4_in l dC dI cy (mw ad cy F C R T) H.size f (nI 0) (nI 1023)) (va_cwS 3 hts gX4_relate_X4_in rfl rfl rfl (by decide +kernel) ⟨Nat.le_of_ble_eq_true rfl, Nat.le_of_ble_eq_true rfl⟩) (preS hK hP hD) rfl rfl hl.1 rfl (lv_room (Nat.le_of_ble_eq_true rfl)) dX4_relate_23 ⟨Nat.zero_le _, Nat.zero_le _⟩) hD hS hA (fun r_11 u H locs w_12 hP hD hS => ?_)
      subst w_12
      have hP : va_P (dC, dI) vwCl (mw ad cy F C R T) H := hP
      have hD : va_D A (mw ad cy F C R T) := hD
      refine br_eq (tgt := 33) hx hb dX4_relate_26 (by decide) (fun c_13 => ?_) (fun c_13 => ?_)
      · refine lv_iconst (v := nI 0) hx hb dX4_relate_33 (by decide) ?_
        refine lv_istore (lv' := [(4, .int (nI 0)), (0, .ref ((ad 0))), (1, .int (nI cn)), (2, .int n), (3, .int f)]) hx hb dX4_relate_34 hl (by decide) rfl (fun ls hl => ?_)
        refine lv_aload_n hx hb dX4_relate_36 rfl (lv_at hl 1 rfl) ?_
        refine lv_iload hx hb dX4_relate_37 (lv_at hl 0 rfl) ?_
        refine lv_if_eq (tgt := 53) hx hb dX4_relate_39 (by decide) (fun _ => ?_) (fun h9 => absurd h9 (by decide))
        refine lv_iconst (v := nI 1) hx hb dX4_relate_53 (by decide) ?_
        refine lv_goto (tgt := 58) hx hb dX4_relate_54 (by decide) ?_
        refine va_put (D := (dC, dI)) (ci := 5) (v := .int (nI 1)) (ty := .int) (C := RX4) (T := TX4) (N := 22) hx hb hts inM tyX4 tyX4_ok nmX4 hown hK hP hD hS 0 rfl rfl 0 (by decide) lk0 (fun _ h9 => h9) rfl (by decide +kernel) rfl rfl (Nat.le_of_ble_eq_true rfl) dX4_relate_58 (fun H locs hP hD hS => ?_)
        have hP : va_P (dC, dI) vwCl (mw ad cy (va_up F 0 (nI 1)) C R T) H := hP
        have hD : va_D A (mw ad cy (va_up F 0 (nI 1)) C R T) := hD
        refine lv_aload_n hx hb dX4_relate_61 rfl (lv_at hl 1 rfl) ?_
        refine va_get (D := (dC, dI)) (ci := 5) (v := .int (nI 1)) (C := RX4) (T := TX4) (N := 22) hx hb hts inM hown hK hP 0 rfl rfl 0 (by decide) lk0 (fun _ h9 => h9) rfl dX4_relate_62 ?_
        refine lv_if_ne (tgt := 82) hx hb dX4_relate_65 (by decide) (fun _ => ?_) (fun h9 => absurd h9 (by decide))
        rw [← hQQ]; exact end_v (u := (va_up F 0 (nI 1), C, R, T)) hx hb hr hlocks dX4_relate_82 hK hP hD hS (by simp only [M_relate, eq_true c_3, eq_true c_8, c_13, ecn, isC, isCl, isSd, and_true, true_and, and_false, false_and, if_true, if_false, not_true, not_false_iff, not_false_eq_true, or_true, true_or, or_false, false_or, ite_true, ite_false, and_self, Classical.not_not, Bool.false_eq_true]; try rfl) (Nat.zero_le _) (Nat.zero_le _)
      · refine lv_iconst (v := nI 1) hx hb dX4_relate_29 (by decide) ?_
        refine lv_goto (tgt := 34) hx hb dX4_relate_30 (by decide) ?_
        refine lv_istore (lv' := [(4, .int (nI 1)), (0, .ref ((ad 0))), (1, .int (nI cn)), (2, .int n), (3, .int f)]) hx hb dX4_relate_34 hl (by decide) rfl (fun ls hl => ?_)
        refine lv_aload_n hx hb dX4_relate_36 rfl (lv_at hl 1 rfl) ?_
        refine lv_iload hx hb dX4_relate_37 (lv_at hl 0 rfl) ?_
        refine lv_if_eq (tgt := 53) hx hb dX4_relate_39 (by decide) (fun h9 => absurd h9 (by decide)) (fun _ => ?_)
        refine lv_iload_n hx hb dX4_relate_42 rfl (lv_at hl 3 rfl) ?_
        refine lv_iload_n hx hb dX4_relate_43 rfl (lv_at hl 4 rfl) ?_
        refine lv_ior hx hb dX4_relate_44 ?_
        refine lv_iload_n hx hb dX4_relate_45 rfl (lv_at hl 2 rfl) ?_
        refine lv_ishr hx hb dX4_relate_46 ?_
        refine lv_iconst (v := nI 1) hx hb dX4_relate_47 (by decide) ?_
        refine lv_iand hx hb dX4_relate_48 ?_
        refine lv_iconst (v := nI 1) hx hb dX4_relate_49 (by decide) ?_
        refine lv_icmp_ne (tgt := 57) hx hb dX4_relate_50 (by decide) (fun c_17 => ?_) (fun c_17 => ?_)
        · refine lv_iconst (v := nI 0) hx hb dX4_relate_57 (by decide) ?_
          refine va_put (D := (dC, dI)) (ci := 5) (v := .int (nI 0)) (ty := .int) (C := RX4) (T := TX4) (N := 22) hx hb hts inM tyX4 tyX4_ok nmX4 hown hK hP hD hS 0 rfl rfl 0 (by decide) lk0 (fun _ h9 => h9) rfl (by decide +kernel) rfl rfl (Nat.le_of_ble_eq_true rfl) dX4_relate_58 (fun H locs hP hD hS => ?_)
          have hP : va_P (dC, dI) vwCl (mw ad cy (va_up F 0 (nI 0)) C R T) H := hP
          have hD : va_D A (mw ad cy (va_up F 0 (nI 0)) C R T) := hD
          refine lv_aload_n hx hb dX4_relate_61 rfl (lv_at hl 1 rfl) ?_
          refine va_get (D := (dC, dI)) (ci := 5) (v := .int (nI 0)) (C := RX4) (T := TX4) (N := 22) hx hb hts inM hown hK hP 0 rfl rfl 0 (by decide) lk0 (fun _ h9 => h9) rfl dX4_relate_62 ?_
          refine lv_if_ne (tgt := 82) hx hb dX4_relate_65 (by decide) (fun h9 => absurd h9 (by decide)) (fun _ => ?_)
          refine lv_aload_n hx hb dX4_relate_68 rfl (lv_at hl 1 rfl) ?_
          refine va_get (D := (dC, dI)) (ci := 5) (v := .ref ((ad 7))) (C := RX4) (T := TX4) (N := 22) hx hb hts inM hown hK hP 0 rfl rfl 7 (by decide) lk1 (fun _ h9 => h9) rfl dX4_relate_69 ?_
          refine lv_iload_n hx hb dX4_relate_72 rfl (lv_at hl 2 rfl) ?_
          refine lv_iload_n hx hb dX4_relate_73 rfl (lv_at hl 3 rfl) ?_
          refine x_iast hx hb hK hP hD hS 6 0 rfl rfl (t := cn) (x := n) (by omega) (by decide) dX4_relate_74 (fun H locs hP hD hS => ?_)
          have hP : va_P (dC, dI) vwCl (mw ad cy (va_up F 0 (nI 0)) C (va_up R 7 (upd (R 7) cn n)) T) H := hP
          have hD : va_D A (mw ad cy (va_up F 0 (nI 0)) C (va_up R 7 (upd (R 7) cn n)) T) := hD
          refine lv_aload_n hx hb dX4_relate_75 rfl (lv_at hl 1 rfl) ?_
          refine va_get (D := (dC, dI)) (ci := 5) (v := .ref ((ad 8))) (C := RX4) (T := TX4) (N := 22) hx hb hts inM hown hK hP 0 rfl rfl 8 (by decide) lk2 (fun _ h9 => h9) rfl dX4_relate_76 ?_
          refine lv_iload_n hx hb dX4_relate_79 rfl (lv_at hl 2 rfl) ?_
          refine lv_iload_n hx hb dX4_relate_80 rfl (lv_at hl 4 rfl) ?_
          refine x_iast hx hb hK hP hD hS 7 0 rfl rfl (t := cn) (x := f) (by omega) (by decide) dX4_relate_81 (fun H locs hP hD hS => ?_)
          have hP : va_P (dC, dI) vwCl (mw ad cy (va_up F 0 (nI 0)) C (va_up (va_up R 7 (upd (R 7) cn n)) 8 (upd (R 8) cn f)) T) H := hP
          have hD : va_D A (mw ad cy (va_up F 0 (nI 0)) C (va_up (va_up R 7 (upd (R 7) cn n)) 8 (upd (R 8) cn f)) T) := hD
          rw [← hQQ]; exact end_v (u := (va_up F 0 (nI 0), C, va_up (va_up R 7 (upd (R 7) cn n)) 8 (upd (R 8) cn f), T)) hx hb hr hlocks dX4_relate_82 hK hP hD hS (by simp only [M_relate, eq_true c_3, eq_true c_8, eq_true c_13, c_17, ecn, isC, isCl, isSd, and_true, true_and, and_false, false_and, if_true, if_false, not_true, not_false_iff, not_false_eq_true, or_true, true_or, or_false, false_or, ite_true, ite_false, and_self, Classical.not_not, Bool.false_eq_true]; try rfl) (Nat.zero_le _) (Nat.zero_le _)
        · refine lv_iconst (v := nI 1) hx hb dX4_relate_53 (by decide) ?_
          refine lv_goto (tgt := 58) hx hb dX4_relate_54 (by decide) ?_
          refine va_put (D := (dC, dI)) (ci := 5) (v := .int (nI 1)) (ty := .int) (C := RX4) (T := TX4) (N := 22) hx hb hts inM tyX4 tyX4_ok nmX4 hown hK hP hD hS 0 rfl rfl 0 (by decide) lk0 (fun _ h9 => h9) rfl (by decide +kernel) rfl rfl (Nat.le_of_ble_eq_true rfl) dX4_relate_58 (fun H locs hP hD hS => ?_)
          have hP : va_P (dC, dI) vwCl (mw ad cy (va_up F 0 (nI 1)) C R T) H := hP
          have hD : va_D A (mw ad cy (va_up F 0 (nI 1)) C R T) := hD
          refine lv_aload_n hx hb dX4_relate_61 rfl (lv_at hl 1 rfl) ?_
          refine va_get (D := (dC, dI)) (ci := 5) (v := .int (nI 1)) (C := RX4) (T := TX4) (N := 22) hx hb hts inM hown hK hP 0 rfl rfl 0 (by decide) lk0 (fun _ h9 => h9) rfl dX4_relate_62 ?_
          refine lv_if_ne (tgt := 82) hx hb dX4_relate_65 (by decide) (fun _ => ?_) (fun h9 => absurd h9 (by decide))
          rw [← hQQ]; exact end_v (u := (va_up F 0 (nI 1), C, R, T)) hx hb hr hlocks dX4_relate_82 hK hP hD hS (by simp only [M_relate, eq_true c_3, eq_true c_8, eq_true c_13, eq_true c_17, ecn, isC, isCl, isSd, and_true, true_and, and_false, false_and, if_true, if_false, not_true, not_false_iff, not_false_eq_true, or_true, true_or, or_false, false_or, ite_true, ite_false, and_self, Classical.not_not, Bool.false_eq_true]; try rfl) (Nat.zero_le _) (Nat.zero_le _)

def M_latest (F : Nat → Int32) (C : Nat → Nat) (R : Nat → Nat → Int32) (T : Nat → Nat → Nat) (a : Int32) : Int32 × MS :=
  if isCl a then (nI (T 2 (ix a)), (va_up F 0 (nI 0), C, R, T)) else (nI 0, (va_up F 0 (nI 1), C, R, T))

set_option maxHeartbeats 4000000 in
set_option maxRecDepth 100000 in
/-- latest -/
theorem qX4_latest (l : Launch) (dC : Nat → ClassId) (dI : Nat → Nat → Nat) (cy : Nat → ClassId) (ad : Nat → Nat) (F : Nat → Int32) (C : Nat → Nat) (R : Nat → Nat → Int32) (T : Nat → Nat → Nat) (sz : Nat) (a : Int32) : Met l yX4_latest wsX4_latest ({ frames := 2, cells := 0, slots := 0, locals := 42 }) (va_Pc [.ref ((ad 0)), .int a] (wPre (dC, dI) (tyL cy) (mw ad cy F C R T) sz)) (QI (dC, dI) (tyL cy) (fun (r : Int32) (u : MS) => (r, u) = M_latest F C R T a) (mwU ad cy) (va_A (mw ad cy F C R T) sz)) 0 0 (va_A (mw ad cy F C R T) sz) := by
  refine en (cc := cX4_latest) (maxL := 2) (ret := (some .int)) (own := RX4) (lv := [(0, .ref ((ad 0))), (1, .int a)]) (by decide) rfl rfl (Nat.le_of_ble_eq_true rfl) rfl ?_
  intro p e s m below meth c ls A H locs hx hb hr hts hown hlocks hml hin hsz hK hP hD hS hA hl
  generalize hQQ : MQ below _ _ s _ _ A = QQ
  have inM : ∀ w ∈ wsX40, w ∈ wsX4_latest := fun _ h => List.mem_cons_of_mem _ (List.mem_append_right _ h)
  have lk0 : (Cond.fieldLink RX4 65 "ClauseShopModel" "thrown" "I").before (([.ref ((ad 0)), .int a] : List Value).toArray) s = true := hts _ (List.mem_of_getElem? (i := 1) rfl)
  have lk1 : (Cond.fieldLink RX4 7 "ClauseShopModel" "latest" "[I").before (([.ref ((ad 0)), .int a] : List Value).toArray) s = true := hts _ (List.mem_of_getElem? (i := 2) rfl)
  refine lv_aload_n hx hb dX4_latest_0 rfl (lv_at hl 0 rfl) ?_
  refine lv_iload_n hx hb dX4_latest_1 rfl (lv_at hl 1 rfl) ?_
  refine call_i (va_runS (As := [.int a]) (rest := [.ref ((ad 0))]) ⟨hx, hb, hml, hown, hts⟩ (qX4_isClause l dC dI cy (mw ad cy F C R T) H.size a) (va_cwS 1 hts gX4_latest_X4_isClause rfl rfl rfl (by decide +kernel) ⟨Nat.le_of_ble_eq_true rfl, Nat.le_of_ble_eq_true rfl⟩) (preS hK hP hD) rfl rfl hl.1 rfl (lv_room (Nat.le_of_ble_eq_true rfl)) dX4_latest_2 ⟨Nat.zero_le _, Nat.zero_le _⟩) hD hS hA (fun r_1 u H locs w_2 hP hD hS => ?_)
  subst w_2
  have hP : va_P (dC, dI) vwCl (mw ad cy F C R T) H := hP
  have hD : va_D A (mw ad cy F C R T) := hD
  refine br_eq (tgt := 12) hx hb dX4_latest_5 (by decide) (fun c_3 => ?_) (fun c_3 => ?_)
  · refine lv_iconst (v := nI 1) hx hb dX4_latest_12 (by decide) ?_
    refine va_put (D := (dC, dI)) (ci := 5) (v := .int (nI 1)) (ty := .int) (C := RX4) (T := TX4) (N := 22) hx hb hts inM tyX4 tyX4_ok nmX4 hown hK hP hD hS 0 rfl rfl 0 (by decide) lk0 (fun _ h9 => h9) rfl (by decide +kernel) rfl rfl (Nat.le_of_ble_eq_true rfl) dX4_latest_13 (fun H locs hP hD hS => ?_)
    have hP : va_P (dC, dI) vwCl (mw ad cy (va_up F 0 (nI 1)) C R T) H := hP
    have hD : va_D A (mw ad cy (va_up F 0 (nI 1)) C R T) := hD
    refine lv_aload_n hx hb dX4_latest_16 rfl (lv_at hl 0 rfl) ?_
    refine va_get (D := (dC, dI)) (ci := 5) (v := .int (nI 1)) (C := RX4) (T := TX4) (N := 22) hx hb hts inM hown hK hP 0 rfl rfl 0 (by decide) lk0 (fun _ h9 => h9) rfl dX4_latest_17 ?_
    refine lv_if_le (tgt := 27) hx hb dX4_latest_20 (by decide) (fun h9 => absurd h9 (by decide)) (fun _ => ?_)
    refine lv_iconst (v := nI 0) hx hb dX4_latest_23 (by decide) ?_
    refine lv_goto (tgt := 33) hx hb dX4_latest_24 (by decide) ?_
    rw [← hQQ]; exact end_i (u := (va_up F 0 (nI 1), C, R, T)) hx hb hr hlocks dX4_latest_33 hK hP hD hS (by simp only [M_latest, c_3, isC, isCl, isSd, and_true, true_and, and_false, false_and, if_true, if_false, not_true, not_false_iff, not_false_eq_true, or_true, true_or, or_false, false_or, ite_true, ite_false, and_self, Classical.not_not, Bool.false_eq_true]; try rfl) (Nat.zero_le _) (Nat.zero_le _)
  · obtain ⟨cn, hcn, ex, ecn⟩ := cl_ix c_3
    subst ex
    refine lv_iconst (v := nI 0) hx hb dX4_latest_8 (by decide) ?_
    refine lv_goto (tgt := 13) hx hb dX4_latest_9 (by decide) ?_
    refine va_put (D := (dC, dI)) (ci := 5) (v := .int (nI 0)) (ty := .int) (C := RX4) (T := TX4) (N := 22) hx hb hts inM tyX4 tyX4_ok nmX4 hown hK hP hD hS 0 rfl rfl 0 (by decide) lk0 (fun _ h9 => h9) rfl (by decide +kernel) rfl rfl (Nat.le_of_ble_eq_true rfl) dX4_latest_13 (fun H locs hP hD hS => ?_)
    have hP : va_P (dC, dI) vwCl (mw ad cy (va_up F 0 (nI 0)) C R T) H := hP
    have hD : va_D A (mw ad cy (va_up F 0 (nI 0)) C R T) := hD
    refine lv_aload_n hx hb dX4_latest_16 rfl (lv_at hl 0 rfl) ?_
    refine va_get (D := (dC, dI)) (ci := 5) (v := .int (nI 0)) (C := RX4) (T := TX4) (N := 22) hx hb hts inM hown hK hP 0 rfl rfl 0 (by decide) lk0 (fun _ h9 => h9) rfl dX4_latest_17 ?_
    refine lv_if_le (tgt := 27) hx hb dX4_latest_20 (by decide) (fun _ => ?_) (fun h9 => absurd h9 (by decide))
    refine lv_aload_n hx hb dX4_latest_27 rfl (lv_at hl 0 rfl) ?_
    refine va_get (D := (dC, dI)) (ci := 5) (v := .ref ((ad 2))) (C := RX4) (T := TX4) (N := 22) hx hb hts inM hown hK hP 0 rfl rfl 2 (by decide) lk1 (fun _ h9 => h9) rfl dX4_latest_28 ?_
    refine lv_iload_n hx hb dX4_latest_31 rfl (lv_at hl 1 rfl) ?_
    refine x_iald hx hb hK hP 1 0 rfl rfl (t := cn) (by omega) (by decide) dX4_latest_32 ?_
    rw [← hQQ]; exact end_i (u := (va_up F 0 (nI 0), C, R, T)) hx hb hr hlocks dX4_latest_33 hK hP hD hS (by simp only [M_latest, eq_true c_3, ecn, isC, isCl, isSd, and_true, true_and, and_false, false_and, if_true, if_false, not_true, not_false_iff, not_false_eq_true, or_true, true_or, or_false, false_or, ite_true, ite_false, and_self, Classical.not_not, Bool.false_eq_true]; try rfl) (Nat.zero_le _) (Nat.zero_le _)

def M_marks (F : Nat → Int32) (C : Nat → Nat) (R : Nat → Nat → Int32) (T : Nat → Nat → Nat) (i sd cn : Nat) (mk : Int32) : MS :=
  if R 13 (2 * (10 * i + cn) + sd) = mk then
    (if mk = nI 2 ∧ ¬ R 13 (2 * (10 * i + cn) + 1 - sd) = nI 1 then
      (F, C, va_up R 13 (upd (upd (R 13) (2 * (10 * i + cn)) (nI 0)) (2 * (10 * i + cn) + 1) (nI 0)), va_up T 12 (va_up (T 12) (10 * i + cn) 0)) else (F, C, R, T))
  else
    (if mk = nI 2 ∧ ¬ R 13 (2 * (10 * i + cn) + 1 - sd) = nI 1 then
      (F, C, va_up (va_up R 13 (upd (upd (upd (R 13) (2 * (10 * i + cn) + sd) mk) (2 * (10 * i + cn)) (nI 0)) (2 * (10 * i + cn) + 1) (nI 0))) 11 (upd (R 11) i (nI 0)), va_up T 12 (va_up (T 12) (10 * i + cn) 0))
     else (F, C, va_up (va_up R 13 (upd (R 13) (2 * (10 * i + cn) + sd) mk)) 11 (upd (R 11) i (nI 0)), T))

set_option maxHeartbeats 4000000 in
set_option maxRecDepth 100000 in
/-- marks -/
theorem qX4_marks (l : Launch) (dC : Nat → ClassId) (dI : Nat → Nat → Nat) (cy : Nat → ClassId) (ad : Nat → Nat) (F : Nat → Int32) (C : Nat → Nat) (R : Nat → Nat → Int32) (T : Nat → Nat → Nat) (sz : Nat) (i sd cn : Nat) (mk : Int32) (hi : i < 10) (hsd : sd < 2) (hcn : cn < 10) : Met l yX4_marks wsX4_marks ({ frames := 0, cells := 0, slots := 0, locals := 0 }) (va_Pc [.ref ((ad 0)), .int (nI i), .int (nI sd), .int (nI cn), .int mk] (wPre (dC, dI) (tyL cy) (mw ad cy F C R T) sz)) (QV (dC, dI) (tyL cy) (fun (u : MS) => u = M_marks F C R T i sd cn mk) (mwU ad cy) (va_A (mw ad cy F C R T) sz)) 0 0 (va_A (mw ad cy F C R T) sz) := by
  refine en (cc := cX4_marks) (maxL := 7) (ret := none) (own := RX4) (lv := [(0, .ref ((ad 0))), (1, .int (nI i)), (2, .int (nI sd)), (3, .int (nI cn)), (4, .int mk)]) (by decide) rfl rfl (Nat.le_of_ble_eq_true rfl) rfl ?_
  intro p e s m below meth c ls A H locs hx hb hr hts hown hlocks hml hin hsz hK hP hD hS hA hl
  generalize hQQ : MQ below _ _ s _ _ A = QQ
  have inM : ∀ w ∈ wsX40, w ∈ wsX4_marks := fun _ h => List.mem_cons_of_mem _ (List.mem_append_right _ h)
  have lk0 : (Cond.fieldLink RX4 41 "ClauseShopModel" "mark" "[I").before (([.ref ((ad 0)), .int (nI i), .int (nI sd), .int (nI cn), .int mk] : List Value).toArray) s = true := hts _ (List.mem_of_getElem? (i := 1) rfl)
  have lk1 : (Cond.fieldLink RX4 38 "ClauseShopModel" "version" "[I").before (([.ref ((ad 0)), .int (nI i), .int (nI sd), .int (nI cn), .int mk] : List Value).toArray) s = true := hts _ (List.mem_of_getElem? (i := 3) rfl)
  have lk2 : (Cond.fieldLink RX4 35 "ClauseShopModel" "signed" "[I").before (([.ref ((ad 0)), .int (nI i), .int (nI sd), .int (nI cn), .int mk] : List Value).toArray) s = true := hts _ (List.mem_of_getElem? (i := 2) rfl)
  refine lv_bipush (v := nI 10) hx hb dX4_marks_0 (by decide) ?_
  refine lv_iload_n hx hb dX4_marks_2 rfl (lv_at hl 1 rfl) ?_
  refine lv_imul hx hb dX4_marks_3 ?_
  refine to_i (y := nI (10 * i)) (pk_mul _ _) ?_
  refine lv_iload_n hx hb dX4_marks_4 rfl (lv_at hl 3 rfl) ?_
  refine lv_iadd hx hb dX4_marks_5 ?_
  refine to_i (y := nI ((10 * i) + cn)) (nI_add _ _) ?_
  refine lv_istore (lv' := [(5, .int (nI ((10 * i) + cn))), (0, .ref ((ad 0))), (1, .int (nI i)), (2, .int (nI sd)), (3, .int (nI cn)), (4, .int mk)]) hx hb dX4_marks_6 hl (by decide) rfl (fun ls hl => ?_)
  refine lv_aload_n hx hb dX4_marks_8 rfl (lv_at hl 1 rfl) ?_
  refine va_get (D := (dC, dI)) (ci := 5) (v := .ref ((ad 13))) (C := RX4) (T := TX4) (N := 22) hx hb hts inM hown hK hP 0 rfl rfl 13 (by decide) lk0 (fun _ h9 => h9) rfl dX4_marks_9 ?_
  refine lv_iconst (v := nI 2) hx hb dX4_marks_12 (by decide) ?_
  refine lv_iload hx hb dX4_marks_13 (lv_at hl 0 rfl) ?_
  refine lv_imul hx hb dX4_marks_15 ?_
  refine to_i (y := nI (2 * ((10 * i) + cn))) (pk_mul _ _) ?_
  refine lv_iload_n hx hb dX4_marks_16 rfl (lv_at hl 3 rfl) ?_
  refine lv_iadd hx hb dX4_marks_17 ?_
  refine to_i (y := nI ((2 * ((10 * i) + cn)) + sd)) (nI_add _ _) ?_
  refine x_iald (f := R 13) hx hb hK hP 11 0 rfl rfl (t := (2 * ((10 * i) + cn)) + sd) (by omega) (by decide) dX4_marks_18 ?_
  refine lv_iload hx hb dX4_marks_19 (lv_at hl 5 rfl) ?_
  refine lv_icmp_eq (tgt := 44) hx hb dX4_marks_21 (by decide) (fun c_1 => ?_) (fun c_1 => ?_)
  · refine lv_aload_n hx hb dX4_marks_44 rfl (lv_at hl 1 rfl) ?_
    refine va_get (D := (dC, dI)) (ci := 5) (v := .ref ((ad 13))) (C := RX4) (T := TX4) (N := 22) hx hb hts inM hown hK hP 0 rfl rfl 13 (by decide) lk0 (fun _ h9 => h9) rfl dX4_marks_45 ?_
    refine lv_iconst (v := nI 2) hx hb dX4_marks_48 (by decide) ?_
    refine lv_iload hx hb dX4_marks_49 (lv_at hl 0 rfl) ?_
    refine lv_imul hx hb dX4_marks_51 ?_
    refine to_i (y := nI (2 * ((10 * i) + cn))) (pk_mul _ _) ?_
    refine lv_iconst (v := nI 1) hx hb dX4_marks_52 (by decide) ?_
    refine lv_iadd hx hb dX4_marks_53 ?_
    refine to_i (y := nI ((2 * ((10 * i) + cn)) + 1)) (nI_add _ _) ?_
    refine lv_iload_n hx hb dX4_marks_54 rfl (lv_at hl 3 rfl) ?_
    refine lv_isub hx hb dX4_marks_55 ?_
    refine to_i (y := nI (((2 * ((10 * i) + cn)) + 1) - sd)) (pk_sub (by omega)) ?_
    refine x_iald (f := R 13) hx hb hK hP 11 0 rfl rfl (t := ((2 * ((10 * i) + cn)) + 1) - sd) (by omega) (by decide) dX4_marks_56 ?_
    refine lv_istore (lv' := [(6, .int (R 13 (((2 * ((10 * i) + cn)) + 1) - sd))), (5, .int (nI ((10 * i) + cn))), (0, .ref ((ad 0))), (1, .int (nI i)), (2, .int (nI sd)), (3, .int (nI cn)), (4, .int mk)]) hx hb dX4_marks_57 hl (by decide) rfl (fun ls hl => ?_)
    refine lv_iload hx hb dX4_marks_59 (lv_at hl 6 rfl) ?_
    refine lv_iconst (v := nI 2) hx hb dX4_marks_61 (by decide) ?_
    refine lv_icmp_ne (tgt := 101) hx hb dX4_marks_62 (by decide) (fun c_2 => ?_) (fun c_2 => ?_)
    · rw [← hQQ]; exact end_v (u := (F, C, R, T)) hx hb hr hlocks dX4_marks_101 hK hP hD hS (by simp only [M_marks, eq_true c_1, c_2, isC, isCl, isSd, and_true, true_and, and_false, false_and, if_true, if_false, not_true, not_false_iff, not_false_eq_true, or_true, true_or, or_false, false_or, ite_true, ite_false, and_self, Classical.not_not, Bool.false_eq_true]; try rfl) (Nat.zero_le _) (Nat.zero_le _)
    · refine lv_iload hx hb dX4_marks_65 (lv_at hl 0 rfl) ?_
      refine lv_iconst (v := nI 1) hx hb dX4_marks_67 (by decide) ?_
      refine lv_icmp_eq (tgt := 101) hx hb dX4_marks_68 (by decide) (fun c_3 => ?_) (fun c_3 => ?_)
      · rw [← hQQ]; exact end_v (u := (F, C, R, T)) hx hb hr hlocks dX4_marks_101 hK hP hD hS (by simp only [M_marks, eq_true c_1, eq_true c_2, eq_true c_3, isC, isCl, isSd, and_true, true_and, and_false, false_and, if_true, if_false, not_true, not_false_iff, not_false_eq_true, or_true, true_or, or_false, false_or, ite_true, ite_false, and_self, Classical.not_not, Bool.false_eq_true]; try rfl) (Nat.zero_le _) (Nat.zero_le _)
      · refine lv_aload_n hx hb dX4_marks_71 rfl (lv_at hl 2 rfl) ?_
        refine va_get (D := (dC, dI)) (ci := 5) (v := .ref ((ad 12))) (C := RX4) (T := TX4) (N := 22) hx hb hts inM hown hK hP 0 rfl rfl 12 (by decide) lk1 (fun _ h9 => h9) rfl dX4_marks_72 ?_
        refine lv_iload hx hb dX4_marks_75 (lv_at hl 1 rfl) ?_
        refine lv_iconst (v := nI 0) hx hb dX4_marks_77 (by decide) ?_
        refine x_iast hx hb hK hP hD hS 10 0 rfl rfl (t := (10 * i) + cn) (x := (nI 0)) (by omega) (by decide) dX4_marks_78 (fun H locs hP hD hS => ?_)
        rw [upd_nI] at hP hD
        have hP : va_P (dC, dI) vwCl (mw ad cy F C R (va_up T 12 (va_up (T 12) ((10 * i) + cn) 0))) H := hP
        have hD : va_D A (mw ad cy F C R (va_up T 12 (va_up (T 12) ((10 * i) + cn) 0))) := hD
        refine lv_aload_n hx hb dX4_marks_79 rfl (lv_at hl 2 rfl) ?_
        refine va_get (D := (dC, dI)) (ci := 5) (v := .ref ((ad 13))) (C := RX4) (T := TX4) (N := 22) hx hb hts inM hown hK hP 0 rfl rfl 13 (by decide) lk0 (fun _ h9 => h9) rfl dX4_marks_80 ?_
        refine lv_iconst (v := nI 2) hx hb dX4_marks_83 (by decide) ?_
        refine lv_iload hx hb dX4_marks_84 (lv_at hl 1 rfl) ?_
        refine lv_imul hx hb dX4_marks_86 ?_
        refine to_i (y := nI (2 * ((10 * i) + cn))) (pk_mul _ _) ?_
        refine lv_iconst (v := nI 0) hx hb dX4_marks_87 (by decide) ?_
        refine x_iast hx hb hK hP hD hS 11 0 rfl rfl (t := 2 * ((10 * i) + cn)) (x := (nI 0)) (by omega) (by decide) dX4_marks_88 (fun H locs hP hD hS => ?_)
        have hP : va_P (dC, dI) vwCl (mw ad cy F C (va_up R 13 (upd (R 13) (2 * ((10 * i) + cn)) (nI 0))) (va_up T 12 (va_up (T 12) ((10 * i) + cn) 0))) H := hP
        have hD : va_D A (mw ad cy F C (va_up R 13 (upd (R 13) (2 * ((10 * i) + cn)) (nI 0))) (va_up T 12 (va_up (T 12) ((10 * i) + cn) 0))) := hD
        refine lv_aload_n hx hb dX4_marks_89 rfl (lv_at hl 2 rfl) ?_
        refine va_get (D := (dC, dI)) (ci := 5) (v := .ref ((ad 13))) (C := RX4) (T := TX4) (N := 22) hx hb hts inM hown hK hP 0 rfl rfl 13 (by decide) lk0 (fun _ h9 => h9) rfl dX4_marks_90 ?_
        refine lv_iconst (v := nI 2) hx hb dX4_marks_93 (by decide) ?_
        refine lv_iload hx hb dX4_marks_94 (lv_at hl 1 rfl) ?_
        refine lv_imul hx hb dX4_marks_96 ?_
        refine to_i (y := nI (2 * ((10 * i) + cn))) (pk_mul _ _) ?_
        refine lv_iconst (v := nI 1) hx hb dX4_marks_97 (by decide) ?_
        refine lv_iadd hx hb dX4_marks_98 ?_
        refine to_i (y := nI ((2 * ((10 * i) + cn)) + 1)) (nI_add _ _) ?_
        refine lv_iconst (v := nI 0) hx hb dX4_marks_99 (by decide) ?_
        refine x_iast hx hb hK hP hD hS 11 0 rfl rfl (t := (2 * ((10 * i) + cn)) + 1) (x := (nI 0)) (by omega) (by decide) dX4_marks_100 (fun H locs hP hD hS => ?_)
        have hP : va_P (dC, dI) vwCl (mw ad cy F C (va_up R 13 (upd (upd (R 13) (2 * ((10 * i) + cn)) (nI 0)) ((2 * ((10 * i) + cn)) + 1) (nI 0))) (va_up T 12 (va_up (T 12) ((10 * i) + cn) 0))) H := hP
        have hD : va_D A (mw ad cy F C (va_up R 13 (upd (upd (R 13) (2 * ((10 * i) + cn)) (nI 0)) ((2 * ((10 * i) + cn)) + 1) (nI 0))) (va_up T 12 (va_up (T 12) ((10 * i) + cn) 0))) := hD
        rw [← hQQ]; exact end_v (u := (F, C, va_up R 13 (upd (upd (R 13) (2 * ((10 * i) + cn)) (nI 0)) ((2 * ((10 * i) + cn)) + 1) (nI 0)), va_up T 12 (va_up (T 12) ((10 * i) + cn) 0))) hx hb hr hlocks dX4_marks_101 hK hP hD hS (by simp only [M_marks, eq_true c_1, eq_true c_2, c_3, isC, isCl, isSd, and_true, true_and, and_false, false_and, if_true, if_false, not_true, not_false_iff, not_false_eq_true, or_true, true_or, or_false, false_or, ite_true, ite_false, and_self, Classical.not_not, Bool.false_eq_true]; try rfl) (Nat.zero_le _) (Nat.zero_le _)
  · refine lv_aload_n hx hb dX4_marks_24 rfl (lv_at hl 1 rfl) ?_
    refine va_get (D := (dC, dI)) (ci := 5) (v := .ref ((ad 13))) (C := RX4) (T := TX4) (N := 22) hx hb hts inM hown hK hP 0 rfl rfl 13 (by decide) lk0 (fun _ h9 => h9) rfl dX4_marks_25 ?_
    refine lv_iconst (v := nI 2) hx hb dX4_marks_28 (by decide) ?_
    refine lv_iload hx hb dX4_marks_29 (lv_at hl 0 rfl) ?_
    refine lv_imul hx hb dX4_marks_31 ?_
    refine to_i (y := nI (2 * ((10 * i) + cn))) (pk_mul _ _) ?_
    refine lv_iload_n hx hb dX4_marks_32 rfl (lv_at hl 3 rfl) ?_
    refine lv_iadd hx hb dX4_marks_33 ?_
    refine to_i (y := nI ((2 * ((10 * i) + cn)) + sd)) (nI_add _ _) ?_
    refine lv_iload hx hb dX4_marks_34 (lv_at hl 5 rfl) ?_
    refine x_iast hx hb hK hP hD hS 11 0 rfl rfl (t := (2 * ((10 * i) + cn)) + sd) (x := mk) (by omega) (by decide) dX4_marks_36 (fun H locs hP hD hS => ?_)
    have hP : va_P (dC, dI) vwCl (mw ad cy F C (va_up R 13 (upd (R 13) ((2 * ((10 * i) + cn)) + sd) mk)) T) H := hP
    have hD : va_D A (mw ad cy F C (va_up R 13 (upd (R 13) ((2 * ((10 * i) + cn)) + sd) mk)) T) := hD
    refine lv_aload_n hx hb dX4_marks_37 rfl (lv_at hl 1 rfl) ?_
    refine va_get (D := (dC, dI)) (ci := 5) (v := .ref ((ad 11))) (C := RX4) (T := TX4) (N := 22) hx hb hts inM hown hK hP 0 rfl rfl 11 (by decide) lk2 (fun _ h9 => h9) rfl dX4_marks_38 ?_
    refine lv_iload_n hx hb dX4_marks_41 rfl (lv_at hl 2 rfl) ?_
    refine lv_iconst (v := nI 0) hx hb dX4_marks_42 (by decide) ?_
    refine x_iast hx hb hK hP hD hS 9 0 rfl rfl (t := i) (x := (nI 0)) (by omega) (by decide) dX4_marks_43 (fun H locs hP hD hS => ?_)
    have hP : va_P (dC, dI) vwCl (mw ad cy F C (va_up (va_up R 13 (upd (R 13) ((2 * ((10 * i) + cn)) + sd) mk)) 11 (upd (R 11) i (nI 0))) T) H := hP
    have hD : va_D A (mw ad cy F C (va_up (va_up R 13 (upd (R 13) ((2 * ((10 * i) + cn)) + sd) mk)) 11 (upd (R 11) i (nI 0))) T) := hD
    refine lv_aload_n hx hb dX4_marks_44 rfl (lv_at hl 1 rfl) ?_
    refine va_get (D := (dC, dI)) (ci := 5) (v := .ref ((ad 13))) (C := RX4) (T := TX4) (N := 22) hx hb hts inM hown hK hP 0 rfl rfl 13 (by decide) lk0 (fun _ h9 => h9) rfl dX4_marks_45 ?_
    refine lv_iconst (v := nI 2) hx hb dX4_marks_48 (by decide) ?_
    refine lv_iload hx hb dX4_marks_49 (lv_at hl 0 rfl) ?_
    refine lv_imul hx hb dX4_marks_51 ?_
    refine to_i (y := nI (2 * ((10 * i) + cn))) (pk_mul _ _) ?_
    refine lv_iconst (v := nI 1) hx hb dX4_marks_52 (by decide) ?_
    refine lv_iadd hx hb dX4_marks_53 ?_
    refine to_i (y := nI ((2 * ((10 * i) + cn)) + 1)) (nI_add _ _) ?_
    refine lv_iload_n hx hb dX4_marks_54 rfl (lv_at hl 3 rfl) ?_
    refine lv_isub hx hb dX4_marks_55 ?_
    refine to_i (y := nI (((2 * ((10 * i) + cn)) + 1) - sd)) (pk_sub (by omega)) ?_
    refine x_iald (f := upd (R 13) ((2 * ((10 * i) + cn)) + sd) mk) hx hb hK hP 11 0 rfl rfl (t := ((2 * ((10 * i) + cn)) + 1) - sd) (by omega) (by decide) dX4_marks_56 ?_
    refine to_i (y := R 13 (((2 * ((10 * i) + cn)) + 1) - sd)) (pk_un (by omega)) ?_
    refine lv_istore (lv' := [(6, .int (R 13 (((2 * ((10 * i) + cn)) + 1) - sd))), (5, .int (nI ((10 * i) + cn))), (0, .ref ((ad 0))), (1, .int (nI i)), (2, .int (nI sd)), (3, .int (nI cn)), (4, .int mk)]) hx hb dX4_marks_57 hl (by decide) rfl (fun ls hl => ?_)
    refine lv_iload hx hb dX4_marks_59 (lv_at hl 6 rfl) ?_
    refine lv_iconst (v := nI 2) hx hb dX4_marks_61 (by decide) ?_
    refine lv_icmp_ne (tgt := 101) hx hb dX4_marks_62 (by decide) (fun c_4 => ?_) (fun c_4 => ?_)
    · rw [← hQQ]; exact end_v (u := (F, C, va_up (va_up R 13 (upd (R 13) ((2 * ((10 * i) + cn)) + sd) mk)) 11 (upd (R 11) i (nI 0)), T)) hx hb hr hlocks dX4_marks_101 hK hP hD hS (by simp only [M_marks, c_1, c_4, isC, isCl, isSd, and_true, true_and, and_false, false_and, if_true, if_false, not_true, not_false_iff, not_false_eq_true, or_true, true_or, or_false, false_or, ite_true, ite_false, and_self, Classical.not_not, Bool.false_eq_true]; try rfl) (Nat.zero_le _) (Nat.zero_le _)
    · refine lv_iload hx hb dX4_marks_65 (lv_at hl 0 rfl) ?_
      refine lv_iconst (v := nI 1) hx hb dX4_marks_67 (by decide) ?_
      refine lv_icmp_eq (tgt := 101) hx hb dX4_marks_68 (by decide) (fun c_5 => ?_) (fun c_5 => ?_)
      · rw [← hQQ]; exact end_v (u := (F, C, va_up (va_up R 13 (upd (R 13) ((2 * ((10 * i) + cn)) + sd) mk)) 11 (upd (R 11) i (nI 0)), T)) hx hb hr hlocks dX4_marks_101 hK hP hD hS (by simp only [M_marks, c_1, eq_true c_4, eq_true c_5, isC, isCl, isSd, and_true, true_and, and_false, false_and, if_true, if_false, not_true, not_false_iff, not_false_eq_true, or_true, true_or, or_false, false_or, ite_true, ite_false, and_self, Classical.not_not, Bool.false_eq_true]; try rfl) (Nat.zero_le _) (Nat.zero_le _)
      · refine lv_aload_n hx hb dX4_marks_71 rfl (lv_at hl 2 rfl) ?_
        refine va_get (D := (dC, dI)) (ci := 5) (v := .ref ((ad 12))) (C := RX4) (T := TX4) (N := 22) hx hb hts inM hown hK hP 0 rfl rfl 12 (by decide) lk1 (fun _ h9 => h9) rfl dX4_marks_72 ?_
        refine lv_iload hx hb dX4_marks_75 (lv_at hl 1 rfl) ?_
        refine lv_iconst (v := nI 0) hx hb dX4_marks_77 (by decide) ?_
        refine x_iast hx hb hK hP hD hS 10 0 rfl rfl (t := (10 * i) + cn) (x := (nI 0)) (by omega) (by decide) dX4_marks_78 (fun H locs hP hD hS => ?_)
        rw [upd_nI] at hP hD
        have hP : va_P (dC, dI) vwCl (mw ad cy F C (va_up (va_up R 13 (upd (R 13) ((2 * ((10 * i) + cn)) + sd) mk)) 11 (upd (R 11) i (nI 0))) (va_up T 12 (va_up (T 12) ((10 * i) + cn) 0))) H := hP
        have hD : va_D A (mw ad cy F C (va_up (va_up R 13 (upd (R 13) ((2 * ((10 * i) + cn)) + sd) mk)) 11 (upd (R 11) i (nI 0))) (va_up T 12 (va_up (T 12) ((10 * i) + cn) 0))) := hD
        refine lv_aload_n hx hb dX4_marks_79 rfl (lv_at hl 2 rfl) ?_
        refine va_get (D := (dC, dI)) (ci := 5) (v := .ref ((ad 13))) (C := RX4) (T := TX4) (N := 22) hx hb hts inM hown hK hP 0 rfl rfl 13 (by decide) lk0 (fun _ h9 => h9) rfl dX4_marks_80 ?_
        refine lv_iconst (v := nI 2) hx hb dX4_marks_83 (by decide) ?_
        refine lv_iload hx hb dX4_marks_84 (lv_at hl 1 rfl) ?_
        refine lv_imul hx hb dX4_marks_86 ?_
        refine to_i (y := nI (2 * ((10 * i) + cn))) (pk_mul _ _) ?_
        refine lv_iconst (v := nI 0) hx hb dX4_marks_87 (by decide) ?_
        refine x_iast hx hb hK hP hD hS 11 0 rfl rfl (t := 2 * ((10 * i) + cn)) (x := (nI 0)) (by omega) (by decide) dX4_marks_88 (fun H locs hP hD hS => ?_)
        have hP : va_P (dC, dI) vwCl (mw ad cy F C (va_up (va_up R 13 (upd (upd (R 13) ((2 * ((10 * i) + cn)) + sd) mk) (2 * ((10 * i) + cn)) (nI 0))) 11 (upd (R 11) i (nI 0))) (va_up T 12 (va_up (T 12) ((10 * i) + cn) 0))) H := hP
        have hD : va_D A (mw ad cy F C (va_up (va_up R 13 (upd (upd (R 13) ((2 * ((10 * i) + cn)) + sd) mk) (2 * ((10 * i) + cn)) (nI 0))) 11 (upd (R 11) i (nI 0))) (va_up T 12 (va_up (T 12) ((10 * i) + cn) 0))) := hD
        refine lv_aload_n hx hb dX4_marks_89 rfl (lv_at hl 2 rfl) ?_
        refine va_get (D := (dC, dI)) (ci := 5) (v := .ref ((ad 13))) (C := RX4) (T := TX4) (N := 22) hx hb hts inM hown hK hP 0 rfl rfl 13 (by decide) lk0 (fun _ h9 => h9) rfl dX4_marks_90 ?_
        refine lv_iconst (v := nI 2) hx hb dX4_marks_93 (by decide) ?_
        refine lv_iload hx hb dX4_marks_94 (lv_at hl 1 rfl) ?_
        refine lv_imul hx hb dX4_marks_96 ?_
        refine to_i (y := nI (2 * ((10 * i) + cn))) (pk_mul _ _) ?_
        refine lv_iconst (v := nI 1) hx hb dX4_marks_97 (by decide) ?_
        refine lv_iadd hx hb dX4_marks_98 ?_
        refine to_i (y := nI ((2 * ((10 * i) + cn)) + 1)) (nI_add _ _) ?_
        refine lv_iconst (v := nI 0) hx hb dX4_marks_99 (by decide) ?_
        refine x_iast hx hb hK hP hD hS 11 0 rfl rfl (t := (2 * ((10 * i) + cn)) + 1) (x := (nI 0)) (by omega) (by decide) dX4_marks_100 (fun H locs hP hD hS => ?_)
        have hP : va_P (dC, dI) vwCl (mw ad cy F C (va_up (va_up R 13 (upd (upd (upd (R 13) ((2 * ((10 * i) + cn)) + sd) mk) (2 * ((10 * i) + cn)) (nI 0)) ((2 * ((10 * i) + cn)) + 1) (nI 0))) 11 (upd (R 11) i (nI 0))) (va_up T 12 (va_up (T 12) ((10 * i) + cn) 0))) H := hP
        have hD : va_D A (mw ad cy F C (va_up (va_up R 13 (upd (upd (upd (R 13) ((2 * ((10 * i) + cn)) + sd) mk) (2 * ((10 * i) + cn)) (nI 0)) ((2 * ((10 * i) + cn)) + 1) (nI 0))) 11 (upd (R 11) i (nI 0))) (va_up T 12 (va_up (T 12) ((10 * i) + cn) 0))) := hD
        rw [← hQQ]; exact end_v (u := (F, C, va_up (va_up R 13 (upd (upd (upd (R 13) ((2 * ((10 * i) + cn)) + sd) mk) (2 * ((10 * i) + cn)) (nI 0)) ((2 * ((10 * i) + cn)) + 1) (nI 0))) 11 (upd (R 11) i (nI 0)), va_up T 12 (va_up (T 12) ((10 * i) + cn) 0))) hx hb hr hlocks dX4_marks_101 hK hP hD hS (by simp only [M_marks, c_1, eq_true c_4, c_5, isC, isCl, isSd, and_true, true_and, and_false, false_and, if_true, if_false, not_true, not_false_iff, not_false_eq_true, or_true, true_or, or_false, false_or, ite_true, ite_false, and_self, Classical.not_not, Bool.false_eq_true]; try rfl) (Nat.zero_le _) (Nat.zero_le _)

def M_mark (F : Nat → Int32) (C : Nat → Nat) (R : Nat → Nat → Int32) (T : Nat → Nat → Nat) (a b d mk : Int32) : Int32 × MS :=
  if isC C 9 a then
    (if isSd b ∧ isCl d ∧ (nI 1 ≤ mk ∧ mk ≤ nI 2) then
      (if R 10 (ix a) = 0 then
        (if T 12 (10 * ix a + ix d) = 0 then
          (if mk = nI 2 then (nI 0, (va_up F 0 (nI 3), C, R, T)) else if T 2 (ix d) = 0 then (nI 0, (va_up F 0 (nI 3), C, R, T)) else
            (R 13 (2 * (10 * ix a + ix d) + ix b), M_marks (va_up F 0 (nI 0)) C R (va_up T 12 (va_up (T 12) (10 * ix a + ix d) (T 2 (ix d)))) (ix a) (ix b) (ix d) mk))
        else (R 13 (2 * (10 * ix a + ix d) + ix b), M_marks (va_up F 0 (nI 0)) C R (va_up T 12 (va_up (T 12) (10 * ix a + ix d) (T 12 (10 * ix a + ix d)))) (ix a) (ix b) (ix d) mk))
      else (nI 0, (va_up F 0 (nI 3), C, R, T)))
    else (nI 0, (va_up F 0 (nI 2), C, R, T)))
  else (nI 0, (va_up F 0 (nI 1), C, R, T))

set_option maxHeartbeats 4000000 in
set_option maxRecDepth 100000 in
/-- mark -/
theorem qX4_mark (l : Launch) (dC : Nat → ClassId) (dI : Nat → Nat → Nat) (cy : Nat → ClassId) (ad : Nat → Nat) (F : Nat → Int32) (C : Nat → Nat) (R : Nat → Nat → Int32) (T : Nat → Nat → Nat) (sz : Nat) (a b d mk : Int32) (hC : C 9 ≤ 10) (hT : ∀ j, j < 10 → T 2 j ≤ 9) (hV : ∀ j, j < 100 → T 12 j ≤ 9) : Met l yX4_mark wsX4_mark ({ frames := 2, cells := 0, slots := 0, locals := 43 }) (va_Pc [.ref ((ad 0)), .int a, .int b, .int d, .int mk] (wPre (dC, dI) (tyL cy) (mw ad cy F C R T) sz)) (QI (dC, dI) (tyL cy) (fun (r : Int32) (u : MS) => (r, u) = M_mark F C R T a b d mk) (mwU ad cy) (va_A (mw ad cy F C R T) sz)) 0 0 (va_A (mw ad cy F C R T) sz) := by
  refine en (cc := cX4_mark) (maxL := 7) (ret := (some .int)) (own := RX4) (lv := [(0, .ref ((ad 0))), (1, .int a), (2, .int b), (3, .int d), (4, .int mk)]) (by decide) rfl rfl (Nat.le_of_ble_eq_true rfl) rfl ?_
  intro p e s m below meth c ls A H locs hx hb hr hts hown hlocks hml hin hsz hK hP hD hS hA hl
  generalize hQQ : MQ below _ _ s _ _ A = QQ
  have inM : ∀ w ∈ wsX40, w ∈ wsX4_mark := fun _ h => List.mem_cons_of_mem _ (List.mem_append_right _ h)
  have lk0 : (Cond.fieldLink RX4 65 "ClauseShopModel" "thrown" "I").before (([.ref ((ad 0)), .int a, .int b, .int d, .int mk] : List Value).toArray) s = true := hts _ (List.mem_of_getElem? (i := 1) rfl)
  have lk1 : (Cond.fieldLink RX4 38 "ClauseShopModel" "version" "[I").before (([.ref ((ad 0)), .int a, .int b, .int d, .int mk] : List Value).toArray) s = true := hts _ (List.mem_of_getElem? (i := 2) rfl)
  have lk2 : (Cond.fieldLink RX4 31 "ClauseShopModel" "isSigned" "[Z").before (([.ref ((ad 0)), .int a, .int b, .int d, .int mk] : List Value).toArray) s = true := hts _ (List.mem_of_getElem? (i := 3) rfl)
  have lk3 : (Cond.fieldLink RX4 41 "ClauseShopModel" "mark" "[I").before (([.ref ((ad 0)), .int a, .int b, .int d, .int mk] : List Value).toArray) s = true := hts _ (List.mem_of_getElem? (i := 5) rfl)
  have lk4 : (Cond.fieldLink RX4 7 "ClauseShopModel" "latest" "[I").before (([.ref ((ad 0)), .int a, .int b, .int d, .int mk] : List Value).toArray) s = true := hts _ (List.mem_of_getElem? (i := 4) rfl)
  refine lv_aload_n hx hb dX4_mark_0 rfl (lv_at hl 0 rfl) ?_
  refine lv_aload_n hx hb dX4_mark_1 rfl (lv_at hl 0 rfl) ?_
  refine lv_iload_n hx hb dX4_mark_2 rfl (lv_at hl 1 rfl) ?_
  refine call_i (va_runV (As := [.int a]) (rest := [.ref ((ad 0))]) ⟨hx, hb, hml, hown, hts⟩ (qX4_isContract l dC dI cy ad F C R T H.size a) (cwV 1 hts gX4_mark_X4_isContract rfl rfl rfl (by decide +kernel) ⟨Nat.le_of_ble_eq_true rfl, Nat.le_of_ble_eq_true rfl⟩) (preV hK hP hD (w_recv (ci := 5) (q0 := 0) hK hP rfl rfl)) rfl rfl hl.1 rfl (lv_room (Nat.le_of_ble_eq_true rfl)) dX4_mark_3 ⟨Nat.zero_le _, Nat.zero_le _⟩) hD hS hA (fun r_1 u H locs w_2 hP hD hS => ?_)
  obtain ⟨rfl, rfl⟩ := w_2
  have hP : va_P (dC, dI) vwCl (mw ad cy F C R T) H := hP
  have hD : va_D A (mw ad cy F C R T) := hD
  refine br_ne (tgt := 13) hx hb dX4_mark_6 (by decide) (fun c_3 => ?_) (fun c_3 => ?_)
  · have c_3_ := c_3
    obtain ⟨i, hi, ex, ei⟩ := ct_ix (n := C 9) (by omega) c_3
    subst ex
    refine lv_iload_n hx hb dX4_mark_13 rfl (lv_at hl 2 rfl) ?_
    refine call_i (va_runS (As := [.int b]) (rest := [.ref ((ad 0))]) ⟨hx, hb, hml, hown, hts⟩ (qX4_isSide l dC dI cy (mw ad cy F C R T) H.size b) (va_cwS 1 hts gX4_mark_X4_isSide rfl rfl rfl (by decide +kernel) ⟨Nat.le_of_ble_eq_true rfl, Nat.le_of_ble_eq_true rfl⟩) (preS hK hP hD) rfl rfl hl.1 rfl (lv_room (Nat.le_of_ble_eq_true rfl)) dX4_mark_14 ⟨Nat.zero_le _, Nat.zero_le _⟩) hD hS hA (fun r_4 u H locs w_5 hP hD hS => ?_)
    subst w_5
    have hP : va_P (dC, dI) vwCl (mw ad cy F C R T) H := hP
    have hD : va_D A (mw ad cy F C R T) := hD
    refine br_eq (tgt := 37) hx hb dX4_mark_17 (by decide) (fun c_6 => ?_) (fun c_6 => ?_)
    · refine lv_iconst (v := nI 2) hx hb dX4_mark_37 (by decide) ?_
      refine lv_goto (tgt := 42) hx hb dX4_mark_38 (by decide) ?_
      refine va_put (D := (dC, dI)) (ci := 5) (v := .int (nI 2)) (ty := .int) (C := RX4) (T := TX4) (N := 22) hx hb hts inM tyX4 tyX4_ok nmX4 hown hK hP hD hS 0 rfl rfl 0 (by decide) lk0 (fun _ h9 => h9) rfl (by decide +kernel) rfl rfl (Nat.le_of_ble_eq_true rfl) dX4_mark_42 (fun H locs hP hD hS => ?_)
      have hP : va_P (dC, dI) vwCl (mw ad cy (va_up F 0 (nI 2)) C R T) H := hP
      have hD : va_D A (mw ad cy (va_up F 0 (nI 2)) C R T) := hD
      refine lv_bipush (v := nI 10) hx hb dX4_mark_45 (by decide) ?_
      refine lv_iload_n hx hb dX4_mark_47 rfl (lv_at hl 1 rfl) ?_
      refine lv_imul hx hb dX4_mark_48 ?_
      refine to_i (y := nI (10 * i)) (pk_mul _ _) ?_
      refine lv_iload_n hx hb dX4_mark_49 rfl (lv_at hl 3 rfl) ?_
      refine lv_iadd hx hb dX4_mark_50 ?_
      refine lv_istore (lv' := [(5, .int ((nI (10 * i)) + d)), (0, .ref ((ad 0))), (1, .int (nI i)), (2, .int b), (3, .int d), (4, .int mk)]) hx hb dX4_mark_51 hl (by decide) rfl (fun ls hl => ?_)
      refine lv_aload_n hx hb dX4_mark_53 rfl (lv_at hl 1 rfl) ?_
      refine va_get (D := (dC, dI)) (ci := 5) (v := .int (nI 2)) (C := RX4) (T := TX4) (N := 22) hx hb hts inM hown hK hP 0 rfl rfl 0 (by decide) lk0 (fun _ h9 => h9) rfl dX4_mark_54 ?_
      refine lv_if_ne (tgt := 115) hx hb dX4_mark_57 (by decide) (fun _ => ?_) (fun h9 => absurd h9 (by decide))
      refine lv_aload_n hx hb dX4_mark_115 rfl (lv_at hl 1 rfl) ?_
      refine va_get (D := (dC, dI)) (ci := 5) (v := .int (nI 2)) (C := RX4) (T := TX4) (N := 22) hx hb hts inM hown hK hP 0 rfl rfl 0 (by decide) lk0 (fun _ h9 => h9) rfl dX4_mark_116 ?_
      refine lv_if_le (tgt := 124) hx hb dX4_mark_119 (by decide) (fun h9 => absurd h9 (by decide)) (fun _ => ?_)
      refine lv_iconst (v := nI 0) hx hb dX4_mark_122 (by decide) ?_
      rw [← hQQ]; exact end_i (u := (va_up F 0 (nI 2), C, R, T)) hx hb hr hlocks dX4_mark_123 hK hP hD hS (by simp only [M_mark, eq_true c_3, c_6, ei, isC, isCl, isSd, and_true, true_and, and_false, false_and, if_true, if_false, not_true, not_false_iff, not_false_eq_true, or_true, true_or, or_false, false_or, ite_true, ite_false, and_self, Classical.not_not, Bool.false_eq_true]; try rfl) (Nat.zero_le _) (Nat.zero_le _)
    · obtain ⟨sd, hsd, ex, esd⟩ := sd_ix c_6
      subst ex
      refine lv_iload_n hx hb dX4_mark_20 rfl (lv_at hl 3 rfl) ?_
      refine call_i (va_runS (As := [.int d]) (rest := [.ref ((ad 0))]) ⟨hx, hb, hml, hown, hts⟩ (qX4_isClause l dC dI cy (mw ad cy F C R T) H.size d) (va_cwS 1 hts gX4_mark_X4_isClause rfl rfl rfl (by decide +kernel) ⟨Nat.le_of_ble_eq_true rfl, Nat.le_of_ble_eq_true rfl⟩) (preS hK hP hD) rfl rfl hl.1 rfl (lv_room (Nat.le_of_ble_eq_true rfl)) dX4_mark_21 ⟨Nat.zero_le _, Nat.zero_le _⟩) hD hS hA (fun r_9 u H locs w_10 hP hD hS => ?_)
      subst w_10
      have hP : va_P (dC, dI) vwCl (mw ad cy F C R T) H := hP
      have hD : va_D A (mw ad cy F C R T) := hD
      refine br_eq (tgt := 37) hx hb dX4_mark_24 (by decide) (fun c_11 => ?_) (fun c_11 => ?_)
      · refine lv_iconst (v := nI 2) hx hb dX4_mark_37 (by decide) ?_
        refine lv_goto (tgt := 42) hx hb dX4_mark_38 (by decide) ?_
        refine va_put (D := (dC, dI)) (ci := 5) (v := .int (nI 2)) (ty := .int) (C := RX4) (T := TX4) (N := 22) hx hb hts inM tyX4 tyX4_ok nmX4 hown hK hP hD hS 0 rfl rfl 0 (by decide) lk0 (fun _ h9 => h9) rfl (by decide +kernel) rfl rfl (Nat.le_of_ble_eq_true rfl) dX4_mark_42 (fun H locs hP hD hS => ?_)
        have hP : va_P (dC, dI) vwCl (mw ad cy (va_up F 0 (nI 2)) C R T) H := hP
        have hD : va_D A (mw ad cy (va_up F 0 (nI 2)) C R T) := hD
        refine lv_bipush (v := nI 10) hx hb dX4_mark_45 (by decide) ?_
        refine lv_iload_n hx hb dX4_mark_47 rfl (lv_at hl 1 rfl) ?_
        refine lv_imul hx hb dX4_mark_48 ?_
        refine to_i (y := nI (10 * i)) (pk_mul _ _) ?_
        refine lv_iload_n hx hb dX4_mark_49 rfl (lv_at hl 3 rfl) ?_
        refine lv_iadd hx hb dX4_mark_50 ?_
        refine lv_istore (lv' := [(5, .int ((nI (10 * i)) + d)), (0, .ref ((ad 0))), (1, .int (nI i)), (2, .int (nI sd)), (3, .int d), (4, .int mk)]) hx hb dX4_mark_51 hl (by decide) rfl (fun ls hl => ?_)
        refine lv_aload_n hx hb dX4_mark_53 rfl (lv_at hl 1 rfl) ?_
        refine va_get (D := (dC, dI)) (ci := 5) (v := .int (nI 2)) (C := RX4) (T := TX4) (N := 22) hx hb hts inM hown hK hP 0 rfl rfl 0 (by decide) lk0 (fun _ h9 => h9) rfl dX4_mark_54 ?_
        refine lv_if_ne (tgt := 115) hx hb dX4_mark_57 (by decide) (fun _ => ?_) (fun h9 => absurd h9 (by decide))
        refine lv_aload_n hx hb dX4_mark_115 rfl (lv_at hl 1 rfl) ?_
        refine va_get (D := (dC, dI)) (ci := 5) (v := .int (nI 2)) (C := RX4) (T := TX4) (N := 22) hx hb hts inM hown hK hP 0 rfl rfl 0 (by decide) lk0 (fun _ h9 => h9) rfl dX4_mark_116 ?_
        refine lv_if_le (tgt := 124) hx hb dX4_mark_119 (by decide) (fun h9 => absurd h9 (by decide)) (fun _ => ?_)
        refine lv_iconst (v := nI 0) hx hb dX4_mark_122 (by decide) ?_
        rw [← hQQ]; exact end_i (u := (va_up F 0 (nI 2), C, R, T)) hx hb hr hlocks dX4_mark_123 hK hP hD hS (by simp only [M_mark, eq_true c_3, eq_true c_6, c_11, ei, esd, isC, isCl, isSd, and_true, true_and, and_false, false_and, if_true, if_false, not_true, not_false_iff, not_false_eq_true, or_true, true_or, or_false, false_or, ite_true, ite_false, and_self, Classical.not_not, Bool.false_eq_true]; try rfl) (Nat.zero_le _) (Nat.zero_le _)
      · obtain ⟨cn, hcn, ex, ecn⟩ := cl_ix c_11
        subst ex
        have hTc := hT cn hcn
        have hVc := hV (10 * i + cn) (by omega)
        refine lv_iload hx hb dX4_mark_27 (lv_at hl 4 rfl) ?_
        refine lv_iconst (v := nI 1) hx hb dX4_mark_29 (by decide) ?_
        refine lv_iconst (v := nI 2) hx hb dX4_mark_30 (by decide) ?_
        refine call_i (va_runS (As := [.int mk, .int (nI 1), .int (nI 2)]) (rest := [.ref ((ad 0))]) ⟨hx, hb, hml, hown, hts⟩ (qX4_in l dC dI cy (mw ad cy F C R T) H.size mk (nI 1) (nI 2)) (va_cwS 3 hts gX4_mark_X4_in rfl rfl rfl (by decide +kernel) ⟨Nat.le_of_ble_eq_true rfl, Nat.le_of_ble_eq_true rfl⟩) (preS hK hP hD) rfl rfl hl.1 rfl (lv_room (Nat.le_of_ble_eq_true rfl)) dX4_mark_31 ⟨Nat.zero_le _, Nat.zero_le _⟩) hD hS hA (fun r_14 u H locs w_15 hP hD hS => ?_)
        subst w_15
        have hP : va_P (dC, dI) vwCl (mw ad cy F C R T) H := hP
        have hD : va_D A (mw ad cy F C R T) := hD
        refine br_ne (tgt := 41) hx hb dX4_mark_34 (by decide) (fun c_16 => ?_) (fun c_16 => ?_)
        · refine lv_iconst (v := nI 0) hx hb dX4_mark_41 (by decide) ?_
          refine va_put (D := (dC, dI)) (ci := 5) (v := .int (nI 0)) (ty := .int) (C := RX4) (T := TX4) (N := 22) hx hb hts inM tyX4 tyX4_ok nmX4 hown hK hP hD hS 0 rfl rfl 0 (by decide) lk0 (fun _ h9 => h9) rfl (by decide +kernel) rfl rfl (Nat.le_of_ble_eq_true rfl) dX4_mark_42 (fun H locs hP hD hS => ?_)
          have hP : va_P (dC, dI) vwCl (mw ad cy (va_up F 0 (nI 0)) C R T) H := hP
          have hD : va_D A (mw ad cy (va_up F 0 (nI 0)) C R T) := hD
          refine lv_bipush (v := nI 10) hx hb dX4_mark_45 (by decide) ?_
          refine lv_iload_n hx hb dX4_mark_47 rfl (lv_at hl 1 rfl) ?_
          refine lv_imul hx hb dX4_mark_48 ?_
          refine to_i (y := nI (10 * i)) (pk_mul _ _) ?_
          refine lv_iload_n hx hb dX4_mark_49 rfl (lv_at hl 3 rfl) ?_
          refine lv_iadd hx hb dX4_mark_50 ?_
          refine to_i (y := nI ((10 * i) + cn)) (nI_add _ _) ?_
          refine lv_istore (lv' := [(5, .int (nI ((10 * i) + cn))), (0, .ref ((ad 0))), (1, .int (nI i)), (2, .int (nI sd)), (3, .int (nI cn)), (4, .int mk)]) hx hb dX4_mark_51 hl (by decide) rfl (fun ls hl => ?_)
          refine lv_aload_n hx hb dX4_mark_53 rfl (lv_at hl 1 rfl) ?_
          refine va_get (D := (dC, dI)) (ci := 5) (v := .int (nI 0)) (C := RX4) (T := TX4) (N := 22) hx hb hts inM hown hK hP 0 rfl rfl 0 (by decide) lk0 (fun _ h9 => h9) rfl dX4_mark_54 ?_
          refine lv_if_ne (tgt := 115) hx hb dX4_mark_57 (by decide) (fun h9 => absurd h9 (by decide)) (fun _ => ?_)
          refine lv_aload_n hx hb dX4_mark_60 rfl (lv_at hl 1 rfl) ?_
          refine va_get (D := (dC, dI)) (ci := 5) (v := .ref ((ad 12))) (C := RX4) (T := TX4) (N := 22) hx hb hts inM hown hK hP 0 rfl rfl 12 (by decide) lk1 (fun _ h9 => h9) rfl dX4_mark_61 ?_
          refine lv_iload hx hb dX4_mark_64 (lv_at hl 0 rfl) ?_
          refine x_iald hx hb hK hP 10 0 rfl rfl (t := (10 * i) + cn) (by omega) (by decide) dX4_mark_66 ?_
          refine n_if_ne (tgt := 74) hx hb dX4_mark_67 (by decide) (by omega) (fun c_18 => ?_) (fun c_18 => ?_)
          · refine lv_iconst (v := nI 0) hx hb dX4_mark_74 (by decide) ?_
            refine lv_istore (lv' := [(6, .int (nI 0)), (5, .int (nI ((10 * i) + cn))), (0, .ref ((ad 0))), (1, .int (nI i)), (2, .int (nI sd)), (3, .int (nI cn)), (4, .int mk)]) hx hb dX4_mark_75 hl (by decide) rfl (fun ls hl => ?_)
            refine lv_aload_n hx hb dX4_mark_77 rfl (lv_at hl 2 rfl) ?_
            refine lv_aload_n hx hb dX4_mark_78 rfl (lv_at hl 2 rfl) ?_
            refine va_get (D := (dC, dI)) (ci := 5) (v := .ref ((ad 10))) (C := RX4) (T := TX4) (N := 22) hx hb hts inM hown hK hP 0 rfl rfl 10 (by decide) lk2 (fun _ h9 => h9) rfl dX4_mark_79 ?_
            refine lv_iload_n hx hb dX4_mark_82 rfl (lv_at hl 3 rfl) ?_
            refine x_zald (f := R 10) hx hb hK hP 8 1 rfl rfl (t := i) (by omega) (by decide) dX4_mark_83 ?_
            refine lv_if_ne (tgt := 107) hx hb dX4_mark_84 (by decide) (fun c_19 => ?_) (fun c_19 => ?_)
            · refine lv_iconst (v := nI 3) hx hb dX4_mark_107 (by decide) ?_
              refine lv_goto (tgt := 112) hx hb dX4_mark_108 (by decide) ?_
              refine va_put (D := (dC, dI)) (ci := 5) (v := .int (nI 3)) (ty := .int) (C := RX4) (T := TX4) (N := 22) hx hb hts inM tyX4 tyX4_ok nmX4 hown hK hP hD hS 0 rfl rfl 0 (by decide) lk0 (fun _ h9 => h9) rfl (by decide +kernel) rfl rfl (Nat.le_of_ble_eq_true rfl) dX4_mark_112 (fun H locs hP hD hS => ?_)
              have hP : va_P (dC, dI) vwCl (mw ad cy (va_up F 0 (nI 3)) C R T) H := hP
              have hD : va_D A (mw ad cy (va_up F 0 (nI 3)) C R T) := hD
              refine lv_aload_n hx hb dX4_mark_115 rfl (lv_at hl 2 rfl) ?_
              refine va_get (D := (dC, dI)) (ci := 5) (v := .int (nI 3)) (C := RX4) (T := TX4) (N := 22) hx hb hts inM hown hK hP 0 rfl rfl 0 (by decide) lk0 (fun _ h9 => h9) rfl dX4_mark_116 ?_
              refine lv_if_le (tgt := 124) hx hb dX4_mark_119 (by decide) (fun h9 => absurd h9 (by decide)) (fun _ => ?_)
              refine lv_iconst (v := nI 0) hx hb dX4_mark_122 (by decide) ?_
              rw [← hQQ]; exact end_i (u := (va_up F 0 (nI 3), C, R, T)) hx hb hr hlocks dX4_mark_123 hK hP hD hS (by simp only [M_mark, eq_true c_3, eq_true c_6, eq_true c_11, eq_true c_16, c_18, c_19, ei, esd, ecn, isC, isCl, isSd, and_true, true_and, and_false, false_and, if_true, if_false, not_true, not_false_iff, not_false_eq_true, or_true, true_or, or_false, false_or, ite_true, ite_false, and_self, Classical.not_not, Bool.false_eq_true]; try rfl) (Nat.zero_le _) (Nat.zero_le _)
            · refine lv_iload hx hb dX4_mark_87 (lv_at hl 0 rfl) ?_
              refine lv_if_eq (tgt := 111) hx hb dX4_mark_89 (by decide) (fun _ => ?_) (fun h9 => absurd h9 (by decide))
              refine lv_iconst (v := nI 0) hx hb dX4_mark_111 (by decide) ?_
              refine va_put (D := (dC, dI)) (ci := 5) (v := .int (nI 0)) (ty := .int) (C := RX4) (T := TX4) (N := 22) hx hb hts inM tyX4 tyX4_ok nmX4 hown hK hP hD hS 0 rfl rfl 0 (by decide) lk0 (fun _ h9 => h9) rfl (by decide +kernel) rfl rfl (Nat.le_of_ble_eq_true rfl) dX4_mark_112 (fun H locs hP hD hS => ?_)
              have hP : va_P (dC, dI) vwCl (mw ad cy (va_up F 0 (nI 0)) C R T) H := hP
              have hD : va_D A (mw ad cy (va_up F 0 (nI 0)) C R T) := hD
              refine lv_aload_n hx hb dX4_mark_115 rfl (lv_at hl 2 rfl) ?_
              refine va_get (D := (dC, dI)) (ci := 5) (v := .int (nI 0)) (C := RX4) (T := TX4) (N := 22) hx hb hts inM hown hK hP 0 rfl rfl 0 (by decide) lk0 (fun _ h9 => h9) rfl dX4_mark_116 ?_
              refine lv_if_le (tgt := 124) hx hb dX4_mark_119 (by decide) (fun _ => ?_) (fun h9 => absurd h9 (by decide))
              refine lv_aload_n hx hb dX4_mark_124 rfl (lv_at hl 2 rfl) ?_
              refine va_get (D := (dC, dI)) (ci := 5) (v := .ref ((ad 13))) (C := RX4) (T := TX4) (N := 22) hx hb hts inM hown hK hP 0 rfl rfl 13 (by decide) lk3 (fun _ h9 => h9) rfl dX4_mark_125 ?_
              refine lv_iconst (v := nI 2) hx hb dX4_mark_128 (by decide) ?_
              refine lv_iload hx hb dX4_mark_129 (lv_at hl 1 rfl) ?_
              refine lv_imul hx hb dX4_mark_131 ?_
              refine to_i (y := nI (2 * ((10 * i) + cn))) (pk_mul _ _) ?_
              refine lv_iload_n hx hb dX4_mark_132 rfl (lv_at hl 4 rfl) ?_
              refine lv_iadd hx hb dX4_mark_133 ?_
              refine to_i (y := nI ((2 * ((10 * i) + cn)) + sd)) (nI_add _ _) ?_
              refine x_iald (f := R 13) hx hb hK hP 11 0 rfl rfl (t := (2 * ((10 * i) + cn)) + sd) (by omega) (by decide) dX4_mark_134 ?_
              refine lv_istore (lv' := [(6, .int (R 13 ((2 * ((10 * i) + cn)) + sd))), (5, .int (nI ((10 * i) + cn))), (0, .ref ((ad 0))), (1, .int (nI i)), (2, .int (nI sd)), (3, .int (nI cn)), (4, .int mk)]) hx hb dX4_mark_135 hl (by decide) rfl (fun ls hl => ?_)
              refine lv_aload_n hx hb dX4_mark_137 rfl (lv_at hl 2 rfl) ?_
              refine va_get (D := (dC, dI)) (ci := 5) (v := .ref ((ad 12))) (C := RX4) (T := TX4) (N := 22) hx hb hts inM hown hK hP 0 rfl rfl 12 (by decide) lk1 (fun _ h9 => h9) rfl dX4_mark_138 ?_
              refine lv_iload hx hb dX4_mark_141 (lv_at hl 1 rfl) ?_
              refine lv_aload_n hx hb dX4_mark_143 rfl (lv_at hl 2 rfl) ?_
              refine va_get (D := (dC, dI)) (ci := 5) (v := .ref ((ad 12))) (C := RX4) (T := TX4) (N := 22) hx hb hts inM hown hK hP 0 rfl rfl 12 (by decide) lk1 (fun _ h9 => h9) rfl dX4_mark_144 ?_
              refine lv_iload hx hb dX4_mark_147 (lv_at hl 1 rfl) ?_
              refine x_iald hx hb hK hP 10 0 rfl rfl (t := (10 * i) + cn) (by omega) (by decide) dX4_mark_149 ?_
              refine n_if_ne (tgt := 162) hx hb dX4_mark_150 (by decide) (by omega) (fun _ => ?_) (fun h9 => absurd h9 c_18)
              refine lv_aload_n hx hb dX4_mark_162 rfl (lv_at hl 2 rfl) ?_
              refine va_get (D := (dC, dI)) (ci := 5) (v := .ref ((ad 12))) (C := RX4) (T := TX4) (N := 22) hx hb hts inM hown hK hP 0 rfl rfl 12 (by decide) lk1 (fun _ h9 => h9) rfl dX4_mark_163 ?_
              refine lv_iload hx hb dX4_mark_166 (lv_at hl 1 rfl) ?_
              refine x_iald hx hb hK hP 10 0 rfl rfl (t := (10 * i) + cn) (by omega) (by decide) dX4_mark_168 ?_
              refine x_iast hx hb hK hP hD hS 10 0 rfl rfl (t := (10 * i) + cn) (x := (nI (T 12 ((10 * i) + cn)))) (by omega) (by decide) dX4_mark_169 (fun H locs hP hD hS => ?_)
              rw [upd_nI] at hP hD
              have hP : va_P (dC, dI) vwCl (mw ad cy (va_up F 0 (nI 0)) C R (va_up T 12 (va_up (T 12) ((10 * i) + cn) (T 12 ((10 * i) + cn))))) H := hP
              have hD : va_D A (mw ad cy (va_up F 0 (nI 0)) C R (va_up T 12 (va_up (T 12) ((10 * i) + cn) (T 12 ((10 * i) + cn))))) := hD
              refine lv_aload_n hx hb dX4_mark_170 rfl (lv_at hl 2 rfl) ?_
              refine lv_iload_n hx hb dX4_mark_171 rfl (lv_at hl 3 rfl) ?_
              refine lv_iload_n hx hb dX4_mark_172 rfl (lv_at hl 4 rfl) ?_
              refine lv_iload_n hx hb dX4_mark_173 rfl (lv_at hl 5 rfl) ?_
              refine lv_iload hx hb dX4_mark_174 (lv_at hl 6 rfl) ?_
              refine call_v (va_runV (As := [.int (nI i), .int (nI sd), .int (nI cn), .int mk]) (rest := []) ⟨hx, hb, hml, hown, hts⟩ (qX4_marks l dC dI cy ad (va_up F 0 (nI 0)) C R (va_up T 12 (va_up (T 12) ((10 * i) + cn) (T 12 ((10 * i) + cn)))) H.size i sd cn mk (by omega) hsd hcn) (cwV 4 hts gX4_mark_X4_marks rfl rfl rfl (by decide +kernel) ⟨Nat.le_of_ble_eq_true rfl, Nat.le_of_ble_eq_true rfl⟩) (preV hK hP hD (w_recv (ci := 5) (q0 := 0) hK hP rfl rfl)) rfl rfl hl.1 rfl (lv_room (Nat.le_of_ble_eq_true rfl)) dX4_mark_176 ⟨Nat.zero_le _, Nat.zero_le _⟩) hD hS hA (fun u H locs w_25 hP hD hS => ?_)
              subst w_25
              have hP : va_P (dC, dI) vwCl (mwU ad cy (M_marks (va_up F 0 (nI 0)) C R (va_up T 12 (va_up (T 12) ((10 * i) + cn) (T 12 ((10 * i) + cn)))) i sd cn mk)) H := hP
              have hD : va_D A (mwU ad cy (M_marks (va_up F 0 (nI 0)) C R (va_up T 12 (va_up (T 12) ((10 * i) + cn) (T 12 ((10 * i) + cn)))) i sd cn mk)) := hD
              refine lv_iload hx hb dX4_mark_179 (lv_at hl 0 rfl) ?_
              rw [← hQQ]; exact end_i (u := M_marks (va_up F 0 (nI 0)) C R (va_up T 12 (va_up (T 12) ((10 * i) + cn) (T 12 ((10 * i) + cn)))) i sd cn mk) hx hb hr hlocks dX4_mark_181 hK hP hD hS (by simp only [M_mark, eq_true c_3, eq_true c_6, eq_true c_11, eq_true c_16, c_18, eq_true c_19, ei, esd, ecn, isC, isCl, isSd, and_true, true_and, and_false, false_and, if_true, if_false, not_true, not_false_iff, not_false_eq_true, or_true, true_or, or_false, false_or, ite_true, ite_false, and_self, Classical.not_not, Bool.false_eq_true]; try rfl) (Nat.zero_le _) (Nat.zero_le _)
          · refine lv_iconst (v := nI 1) hx hb dX4_mark_70 (by decide) ?_
            refine lv_goto (tgt := 75) hx hb dX4_mark_71 (by decide) ?_
            refine lv_istore (lv' := [(6, .int (nI 1)), (5, .int (nI ((10 * i) + cn))), (0, .ref ((ad 0))), (1, .int (nI i)), (2, .int (nI sd)), (3, .int (nI cn)), (4, .int mk)]) hx hb dX4_mark_75 hl (by decide) rfl (fun ls hl => ?_)
            refine lv_aload_n hx hb dX4_mark_77 rfl (lv_at hl 2 rfl) ?_
            refine lv_aload_n hx hb dX4_mark_78 rfl (lv_at hl 2 rfl) ?_
            refine va_get (D := (dC, dI)) (ci := 5) (v := .ref ((ad 10))) (C := RX4) (T := TX4) (N := 22) hx hb hts inM hown hK hP 0 rfl rfl 10 (by decide) lk2 (fun _ h9 => h9) rfl dX4_mark_79 ?_
            refine lv_iload_n hx hb dX4_mark_82 rfl (lv_at hl 3 rfl) ?_
            refine x_zald (f := R 10) hx hb hK hP 8 1 rfl rfl (t := i) (by omega) (by decide) dX4_mark_83 ?_
            refine lv_if_ne (tgt := 107) hx hb dX4_mark_84 (by decide) (fun c_26 => ?_) (fun c_26 => ?_)
            · refine lv_iconst (v := nI 3) hx hb dX4_mark_107 (by decide) ?_
              refine lv_goto (tgt := 112) hx hb dX4_mark_108 (by decide) ?_
              refine va_put (D := (dC, dI)) (ci := 5) (v := .int (nI 3)) (ty := .int) (C := RX4) (T := TX4) (N := 22) hx hb hts inM tyX4 tyX4_ok nmX4 hown hK hP hD hS 0 rfl rfl 0 (by decide) lk0 (fun _ h9 => h9) rfl (by decide +kernel) rfl rfl (Nat.le_of_ble_eq_true rfl) dX4_mark_112 (fun H locs hP hD hS => ?_)
              have hP : va_P (dC, dI) vwCl (mw ad cy (va_up F 0 (nI 3)) C R T) H := hP
              have hD : va_D A (mw ad cy (va_up F 0 (nI 3)) C R T) := hD
              refine lv_aload_n hx hb dX4_mark_115 rfl (lv_at hl 2 rfl) ?_
              refine va_get (D := (dC, dI)) (ci := 5) (v := .int (nI 3)) (C := RX4) (T := TX4) (N := 22) hx hb hts inM hown hK hP 0 rfl rfl 0 (by decide) lk0 (fun _ h9 => h9) rfl dX4_mark_116 ?_
              refine lv_if_le (tgt := 124) hx hb dX4_mark_119 (by decide) (fun h9 => absurd h9 (by decide)) (fun _ => ?_)
              refine lv_iconst (v := nI 0) hx hb dX4_mark_122 (by decide) ?_
              rw [← hQQ]; exact end_i (u := (va_up F 0 (nI 3), C, R, T)) hx hb hr hlocks dX4_mark_123 hK hP hD hS (by simp only [M_mark, eq_true c_3, eq_true c_6, eq_true c_11, eq_true c_16, eq_true c_18, c_26, ei, esd, ecn, isC, isCl, isSd, and_true, true_and, and_false, false_and, if_true, if_false, not_true, not_false_iff, not_false_eq_true, or_true, true_or, or_false, false_or, ite_true, ite_false, and_self, Classical.not_not, Bool.false_eq_true]; try rfl) (Nat.zero_le _) (Nat.zero_le _)
            · refine lv_iload hx hb dX4_mark_87 (lv_at hl 0 rfl) ?_
              refine lv_if_eq (tgt := 111) hx hb dX4_mark_89 (by decide) (fun h9 => absurd h9 (by decide)) (fun _ => ?_)
              refine lv_iload hx hb dX4_mark_92 (lv_at hl 6 rfl) ?_
              refine lv_iconst (v := nI 2) hx hb dX4_mark_94 (by decide) ?_
              refine lv_icmp_eq (tgt := 107) hx hb dX4_mark_95 (by decide) (fun c_29 => ?_) (fun c_29 => ?_)
              · refine lv_iconst (v := nI 3) hx hb dX4_mark_107 (by decide) ?_
                refine lv_goto (tgt := 112) hx hb dX4_mark_108 (by decide) ?_
                refine va_put (D := (dC, dI)) (ci := 5) (v := .int (nI 3)) (ty := .int) (C := RX4) (T := TX4) (N := 22) hx hb hts inM tyX4 tyX4_ok nmX4 hown hK hP hD hS 0 rfl rfl 0 (by decide) lk0 (fun _ h9 => h9) rfl (by decide +kernel) rfl rfl (Nat.le_of_ble_eq_true rfl) dX4_mark_112 (fun H locs hP hD hS => ?_)
                have hP : va_P (dC, dI) vwCl (mw ad cy (va_up F 0 (nI 3)) C R T) H := hP
                have hD : va_D A (mw ad cy (va_up F 0 (nI 3)) C R T) := hD
                refine lv_aload_n hx hb dX4_mark_115 rfl (lv_at hl 2 rfl) ?_
                refine va_get (D := (dC, dI)) (ci := 5) (v := .int (nI 3)) (C := RX4) (T := TX4) (N := 22) hx hb hts inM hown hK hP 0 rfl rfl 0 (by decide) lk0 (fun _ h9 => h9) rfl dX4_mark_116 ?_
                refine lv_if_le (tgt := 124) hx hb dX4_mark_119 (by decide) (fun h9 => absurd h9 (by decide)) (fun _ => ?_)
                refine lv_iconst (v := nI 0) hx hb dX4_mark_122 (by decide) ?_
                rw [← hQQ]; exact end_i (u := (va_up F 0 (nI 3), C, R, T)) hx hb hr hlocks dX4_mark_123 hK hP hD hS (by simp only [M_mark, eq_true c_3, eq_true c_6, eq_true c_11, eq_true c_16, eq_true c_18, eq_true c_26, eq_true c_29, ei, esd, ecn, isC, isCl, isSd, and_true, true_and, and_false, false_and, if_true, if_false, not_true, not_false_iff, not_false_eq_true, or_true, true_or, or_false, false_or, ite_true, ite_false, and_self, Classical.not_not, Bool.false_eq_true]; try rfl) (Nat.zero_le _) (Nat.zero_le _)
              · refine lv_aload_n hx hb dX4_mark_98 rfl (lv_at hl 2 rfl) ?_
                refine va_get (D := (dC, dI)) (ci := 5) (v := .ref ((ad 2))) (C := RX4) (T := TX4) (N := 22) hx hb hts inM hown hK hP 0 rfl rfl 2 (by decide) lk4 (fun _ h9 => h9) rfl dX4_mark_99 ?_
                refine lv_iload_n hx hb dX4_mark_102 rfl (lv_at hl 5 rfl) ?_
                refine x_iald hx hb hK hP 1 0 rfl rfl (t := cn) (by omega) (by decide) dX4_mark_103 ?_
                refine n_if_ne (tgt := 111) hx hb dX4_mark_104 (by decide) (by omega) (fun c_31 => ?_) (fun c_31 => ?_)
                · refine lv_iconst (v := nI 0) hx hb dX4_mark_111 (by decide) ?_
                  refine va_put (D := (dC, dI)) (ci := 5) (v := .int (nI 0)) (ty := .int) (C := RX4) (T := TX4) (N := 22) hx hb hts inM tyX4 tyX4_ok nmX4 hown hK hP hD hS 0 rfl rfl 0 (by decide) lk0 (fun _ h9 => h9) rfl (by decide +kernel) rfl rfl (Nat.le_of_ble_eq_true rfl) dX4_mark_112 (fun H locs hP hD hS => ?_)
                  have hP : va_P (dC, dI) vwCl (mw ad cy (va_up F 0 (nI 0)) C R T) H := hP
                  have hD : va_D A (mw ad cy (va_up F 0 (nI 0)) C R T) := hD
                  refine lv_aload_n hx hb dX4_mark_115 rfl (lv_at hl 2 rfl) ?_
                  refine va_get (D := (dC, dI)) (ci := 5) (v := .int (nI 0)) (C := RX4) (T := TX4) (N := 22) hx hb hts inM hown hK hP 0 rfl rfl 0 (by decide) lk0 (fun _ h9 => h9) rfl dX4_mark_116 ?_
                  refine lv_if_le (tgt := 124) hx hb dX4_mark_119 (by decide) (fun _ => ?_) (fun h9 => absurd h9 (by decide))
                  refine lv_aload_n hx hb dX4_mark_124 rfl (lv_at hl 2 rfl) ?_
                  refine va_get (D := (dC, dI)) (ci := 5) (v := .ref ((ad 13))) (C := RX4) (T := TX4) (N := 22) hx hb hts inM hown hK hP 0 rfl rfl 13 (by decide) lk3 (fun _ h9 => h9) rfl dX4_mark_125 ?_
                  refine lv_iconst (v := nI 2) hx hb dX4_mark_128 (by decide) ?_
                  refine lv_iload hx hb dX4_mark_129 (lv_at hl 1 rfl) ?_
                  refine lv_imul hx hb dX4_mark_131 ?_
                  refine to_i (y := nI (2 * ((10 * i) + cn))) (pk_mul _ _) ?_
                  refine lv_iload_n hx hb dX4_mark_132 rfl (lv_at hl 4 rfl) ?_
                  refine lv_iadd hx hb dX4_mark_133 ?_
                  refine to_i (y := nI ((2 * ((10 * i) + cn)) + sd)) (nI_add _ _) ?_
                  refine x_iald (f := R 13) hx hb hK hP 11 0 rfl rfl (t := (2 * ((10 * i) + cn)) + sd) (by omega) (by decide) dX4_mark_134 ?_
                  refine lv_istore (lv' := [(6, .int (R 13 ((2 * ((10 * i) + cn)) + sd))), (5, .int (nI ((10 * i) + cn))), (0, .ref ((ad 0))), (1, .int (nI i)), (2, .int (nI sd)), (3, .int (nI cn)), (4, .int mk)]) hx hb dX4_mark_135 hl (by decide) rfl (fun ls hl => ?_)
                  refine lv_aload_n hx hb dX4_mark_137 rfl (lv_at hl 2 rfl) ?_
                  refine va_get (D := (dC, dI)) (ci := 5) (v := .ref ((ad 12))) (C := RX4) (T := TX4) (N := 22) hx hb hts inM hown hK hP 0 rfl rfl 12 (by decide) lk1 (fun _ h9 => h9) rfl dX4_mark_138 ?_
                  refine lv_iload hx hb dX4_mark_141 (lv_at hl 1 rfl) ?_
                  refine lv_aload_n hx hb dX4_mark_143 rfl (lv_at hl 2 rfl) ?_
                  refine va_get (D := (dC, dI)) (ci := 5) (v := .ref ((ad 12))) (C := RX4) (T := TX4) (N := 22) hx hb hts inM hown hK hP 0 rfl rfl 12 (by decide) lk1 (fun _ h9 => h9) rfl dX4_mark_144 ?_
                  refine lv_iload hx hb dX4_mark_147 (lv_at hl 1 rfl) ?_
                  refine x_iald hx hb hK hP 10 0 rfl rfl (t := (10 * i) + cn) (by omega) (by decide) dX4_mark_149 ?_
                  refine n_if_ne (tgt := 162) hx hb dX4_mark_150 (by decide) (by omega) (fun h9 => absurd c_18 h9) (fun _ => ?_)
                  refine lv_aload_n hx hb dX4_mark_153 rfl (lv_at hl 2 rfl) ?_
                  refine va_get (D := (dC, dI)) (ci := 5) (v := .ref ((ad 2))) (C := RX4) (T := TX4) (N := 22) hx hb hts inM hown hK hP 0 rfl rfl 2 (by decide) lk4 (fun _ h9 => h9) rfl dX4_mark_154 ?_
                  refine lv_iload_n hx hb dX4_mark_157 rfl (lv_at hl 5 rfl) ?_
                  refine x_iald hx hb hK hP 1 0 rfl rfl (t := cn) (by omega) (by decide) dX4_mark_158 ?_
                  refine lv_goto (tgt := 169) hx hb dX4_mark_159 (by decide) ?_
                  refine x_iast hx hb hK hP hD hS 10 0 rfl rfl (t := (10 * i) + cn) (x := (nI (T 2 cn))) (by omega) (by decide) dX4_mark_169 (fun H locs hP hD hS => ?_)
                  rw [upd_nI] at hP hD
                  have hP : va_P (dC, dI) vwCl (mw ad cy (va_up F 0 (nI 0)) C R (va_up T 12 (va_up (T 12) ((10 * i) + cn) (T 2 cn)))) H := hP
                  have hD : va_D A (mw ad cy (va_up F 0 (nI 0)) C R (va_up T 12 (va_up (T 12) ((10 * i) + cn) (T 2 cn)))) := hD
                  refine lv_aload_n hx hb dX4_mark_170 rfl (lv_at hl 2 rfl) ?_
                  refine lv_iload_n hx hb dX4_mark_171 rfl (lv_at hl 3 rfl) ?_
                  refine lv_iload_n hx hb dX4_mark_172 rfl (lv_at hl 4 rfl) ?_
                  refine lv_iload_n hx hb dX4_mark_173 rfl (lv_at hl 5 rfl) ?_
                  refine lv_iload hx hb dX4_mark_174 (lv_at hl 6 rfl) ?_
                  refine call_v (va_runV (As := [.int (nI i), .int (nI sd), .int (nI cn), .int mk]) (rest := []) ⟨hx, hb, hml, hown, hts⟩ (qX4_marks l dC dI cy ad (va_up F 0 (nI 0)) C R (va_up T 12 (va_up (T 12) ((10 * i) + cn) (T 2 cn))) H.size i sd cn mk (by omega) hsd hcn) (cwV 4 hts gX4_mark_X4_marks rfl rfl rfl (by decide +kernel) ⟨Nat.le_of_ble_eq_true rfl, Nat.le_of_ble_eq_true rfl⟩) (preV hK hP hD (w_recv (ci := 5) (q0 := 0) hK hP rfl rfl)) rfl rfl hl.1 rfl (lv_room (Nat.le_of_ble_eq_true rfl)) dX4_mark_176 ⟨Nat.zero_le _, Nat.zero_le _⟩) hD hS hA (fun u H locs w_35 hP hD hS => ?_)
                  subst w_35
                  have hP : va_P (dC, dI) vwCl (mwU ad cy (M_marks (va_up F 0 (nI 0)) C R (va_up T 12 (va_up (T 12) ((10 * i) + cn) (T 2 cn))) i sd cn mk)) H := hP
                  have hD : va_D A (mwU ad cy (M_marks (va_up F 0 (nI 0)) C R (va_up T 12 (va_up (T 12) ((10 * i) + cn) (T 2 cn))) i sd cn mk)) := hD
                  refine lv_iload hx hb dX4_mark_179 (lv_at hl 0 rfl) ?_
                  rw [← hQQ]; exact end_i (u := M_marks (va_up F 0 (nI 0)) C R (va_up T 12 (va_up (T 12) ((10 * i) + cn) (T 2 cn))) i sd cn mk) hx hb hr hlocks dX4_mark_181 hK hP hD hS (by simp only [M_mark, eq_true c_3, eq_true c_6, eq_true c_11, eq_true c_16, eq_true c_18, eq_true c_26, c_29, c_31, ei, esd, ecn, isC, isCl, isSd, and_true, true_and, and_false, false_and, if_true, if_false, not_true, not_false_iff, not_false_eq_true, or_true, true_or, or_false, false_or, ite_true, ite_false, and_self, Classical.not_not, Bool.false_eq_true]; try rfl) (Nat.zero_le _) (Nat.zero_le _)
                · refine lv_iconst (v := nI 3) hx hb dX4_mark_107 (by decide) ?_
                  refine lv_goto (tgt := 112) hx hb dX4_mark_108 (by decide) ?_
                  refine va_put (D := (dC, dI)) (ci := 5) (v := .int (nI 3)) (ty := .int) (C := RX4) (T := TX4) (N := 22) hx hb hts inM tyX4 tyX4_ok nmX4 hown hK hP hD hS 0 rfl rfl 0 (by decide) lk0 (fun _ h9 => h9) rfl (by decide +kernel) rfl rfl (Nat.le_of_ble_eq_true rfl) dX4_mark_112 (fun H locs hP hD hS => ?_)
                  have hP : va_P (dC, dI) vwCl (mw ad cy (va_up F 0 (nI 3)) C R T) H := hP
                  have hD : va_D A (mw ad cy (va_up F 0 (nI 3)) C R T) := hD
                  refine lv_aload_n hx hb dX4_mark_115 rfl (lv_at hl 2 rfl) ?_
                  refine va_get (D := (dC, dI)) (ci := 5) (v := .int (nI 3)) (C := RX4) (T := TX4) (N := 22) hx hb hts inM hown hK hP 0 rfl rfl 0 (by decide) lk0 (fun _ h9 => h9) rfl dX4_mark_116 ?_
                  refine lv_if_le (tgt := 124) hx hb dX4_mark_119 (by decide) (fun h9 => absurd h9 (by decide)) (fun _ => ?_)
                  refine lv_iconst (v := nI 0) hx hb dX4_mark_122 (by decide) ?_
                  rw [← hQQ]; exact end_i (u := (va_up F 0 (nI 3), C, R, T)) hx hb hr hlocks dX4_mark_123 hK hP hD hS (by simp only [M_mark, eq_true c_3, eq_true c_6, eq_true c_11, eq_true c_16, eq_true c_18, eq_true c_26, c_29, eq_true c_31, ei, esd, ecn, isC, isCl, isSd, and_true, true_and, and_false, false_and, if_true, if_false, not_true, not_false_iff, not_false_eq_true, or_true, true_or, or_false, false_or, ite_true, ite_false, and_self, Classical.not_not, Bool.false_eq_true]; try rfl) (Nat.zero_le _) (Nat.zero_le _)
        · refine lv_iconst (v := nI 2) hx hb dX4_mark_37 (by decide) ?_
          refine lv_goto (tgt := 42) hx hb dX4_mark_38 (by decide) ?_
          refine va_put (D := (dC, dI)) (ci := 5) (v := .int (nI 2)) (ty := .int) (C := RX4) (T := TX4) (N := 22) hx hb hts inM tyX4 tyX4_ok nmX4 hown hK hP hD hS 0 rfl rfl 0 (by decide) lk0 (fun _ h9 => h9) rfl (by decide +kernel) rfl rfl (Nat.le_of_ble_eq_true rfl) dX4_mark_42 (fun H locs hP hD hS => ?_)
          have hP : va_P (dC, dI) vwCl (mw ad cy (va_up F 0 (nI 2)) C R T) H := hP
          have hD : va_D A (mw ad cy (va_up F 0 (nI 2)) C R T) := hD
          refine lv_bipush (v := nI 10) hx hb dX4_mark_45 (by decide) ?_
          refine lv_iload_n hx hb dX4_mark_47 rfl (lv_at hl 1 rfl) ?_
          refine lv_imul hx hb dX4_mark_48 ?_
          refine to_i (y := nI (10 * i)) (pk_mul _ _) ?_
          refine lv_iload_n hx hb dX4_mark_49 rfl (lv_at hl 3 rfl) ?_
          refine lv_iadd hx hb dX4_mark_50 ?_
          refine to_i (y := nI ((10 * i) + cn)) (nI_add _ _) ?_
          refine lv_istore (lv' := [(5, .int (nI ((10 * i) + cn))), (0, .ref ((ad 0))), (1, .int (nI i)), (2, .int (nI sd)), (3, .int (nI cn)), (4, .int mk)]) hx hb dX4_mark_51 hl (by decide) rfl (fun ls hl => ?_)
          refine lv_aload_n hx hb dX4_mark_53 rfl (lv_at hl 1 rfl) ?_
          refine va_get (D := (dC, dI)) (ci := 5) (v := .int (nI 2)) (C := RX4) (T := TX4) (N := 22) hx hb hts inM hown hK hP 0 rfl rfl 0 (by decide) lk0 (fun _ h9 => h9) rfl dX4_mark_54 ?_
          refine lv_if_ne (tgt := 115) hx hb dX4_mark_57 (by decide) (fun _ => ?_) (fun h9 => absurd h9 (by decide))
          refine lv_aload_n hx hb dX4_mark_115 rfl (lv_at hl 1 rfl) ?_
          refine va_get (D := (dC, dI)) (ci := 5) (v := .int (nI 2)) (C := RX4) (T := TX4) (N := 22) hx hb hts inM hown hK hP 0 rfl rfl 0 (by decide) lk0 (fun _ h9 => h9) rfl dX4_mark_116 ?_
          refine lv_if_le (tgt := 124) hx hb dX4_mark_119 (by decide) (fun h9 => absurd h9 (by decide)) (fun _ => ?_)
          refine lv_iconst (v := nI 0) hx hb dX4_mark_122 (by decide) ?_
          rw [← hQQ]; exact end_i (u := (va_up F 0 (nI 2), C, R, T)) hx hb hr hlocks dX4_mark_123 hK hP hD hS (by simp only [M_mark, eq_true c_3, eq_true c_6, eq_true c_11, c_16, ei, esd, ecn, isC, isCl, isSd, and_true, true_and, and_false, false_and, if_true, if_false, not_true, not_false_iff, not_false_eq_true, or_true, true_or, or_false, false_or, ite_true, ite_false, and_self, Classical.not_not, Bool.false_eq_true]; try rfl) (Nat.zero_le _) (Nat.zero_le _)
  · refine lv_iconst (v := nI 1) hx hb dX4_mark_9 (by decide) ?_
    refine lv_goto (tgt := 42) hx hb dX4_mark_10 (by decide) ?_
    refine va_put (D := (dC, dI)) (ci := 5) (v := .int (nI 1)) (ty := .int) (C := RX4) (T := TX4) (N := 22) hx hb hts inM tyX4 tyX4_ok nmX4 hown hK hP hD hS 0 rfl rfl 0 (by decide) lk0 (fun _ h9 => h9) rfl (by decide +kernel) rfl rfl (Nat.le_of_ble_eq_true rfl) dX4_mark_42 (fun H locs hP hD hS => ?_)
    have hP : va_P (dC, dI) vwCl (mw ad cy (va_up F 0 (nI 1)) C R T) H := hP
    have hD : va_D A (mw ad cy (va_up F 0 (nI 1)) C R T) := hD
    refine lv_bipush (v := nI 10) hx hb dX4_mark_45 (by decide) ?_
    refine lv_iload_n hx hb dX4_mark_47 rfl (lv_at hl 1 rfl) ?_
    refine lv_imul hx hb dX4_mark_48 ?_
    refine lv_iload_n hx hb dX4_mark_49 rfl (lv_at hl 3 rfl) ?_
    refine lv_iadd hx hb dX4_mark_50 ?_
    refine lv_istore (lv' := [(5, .int (((nI 10) * a) + d)), (0, .ref ((ad 0))), (1, .int a), (2, .int b), (3, .int d), (4, .int mk)]) hx hb dX4_mark_51 hl (by decide) rfl (fun ls hl => ?_)
    refine lv_aload_n hx hb dX4_mark_53 rfl (lv_at hl 1 rfl) ?_
    refine va_get (D := (dC, dI)) (ci := 5) (v := .int (nI 1)) (C := RX4) (T := TX4) (N := 22) hx hb hts inM hown hK hP 0 rfl rfl 0 (by decide) lk0 (fun _ h9 => h9) rfl dX4_mark_54 ?_
    refine lv_if_ne (tgt := 115) hx hb dX4_mark_57 (by decide) (fun _ => ?_) (fun h9 => absurd h9 (by decide))
    refine lv_aload_n hx hb dX4_mark_115 rfl (lv_at hl 1 rfl) ?_
    refine va_get (D := (dC, dI)) (ci := 5) (v := .int (nI 1)) (C := RX4) (T := TX4) (N := 22) hx hb hts inM hown hK hP 0 rfl rfl 0 (by decide) lk0 (fun _ h9 => h9) rfl dX4_mark_116 ?_
    refine lv_if_le (tgt := 124) hx hb dX4_mark_119 (by decide) (fun h9 => absurd h9 (by decide)) (fun _ => ?_)
    refine lv_iconst (v := nI 0) hx hb dX4_mark_122 (by decide) ?_
    rw [← hQQ]; exact end_i (u := (va_up F 0 (nI 1), C, R, T)) hx hb hr hlocks dX4_mark_123 hK hP hD hS (by simp only [M_mark, c_3, isC, isCl, isSd, and_true, true_and, and_false, false_and, if_true, if_false, not_true, not_false_iff, not_false_eq_true, or_true, true_or, or_false, false_or, ite_true, ite_false, and_self, Classical.not_not, Bool.false_eq_true]; try rfl) (Nat.zero_le _) (Nat.zero_le _)

def M_renew (F : Nat → Int32) (C : Nat → Nat) (R : Nat → Nat → Int32) (T : Nat → Nat → Nat) (a b d : Int32) : Int32 × MS :=
  if isC C 9 a then
    (if isSd b ∧ isCl d then
      (if R 10 (ix a) = 0 then
        (if T 12 (10 * ix a + ix d) = 0 then (nI 0, (va_up F 0 (nI 3), C, R, T))
         else if T 12 (10 * ix a + ix d) = T 2 (ix d) then (nI 0, (va_up F 0 (nI 3), C, R, T)) else
          (nI (T 12 (10 * ix a + ix d)), (va_up F 0 (nI 0), C, va_up (va_up R 13 (upd (upd (R 13) (2 * (10 * ix a + ix d) + ix b) (nI 1)) (2 * (10 * ix a + ix d) + 1 - ix b) (nI 0))) 11 (upd (R 11) (ix a) (nI 0)), va_up T 12 (va_up (T 12) (10 * ix a + ix d) (T 2 (ix d))))))
      else (nI 0, (va_up F 0 (nI 3), C, R, T)))
    else (nI 0, (va_up F 0 (nI 2), C, R, T)))
  else (nI 0, (va_up F 0 (nI 1), C, R, T))

set_option maxHeartbeats 4000000 in
set_option maxRecDepth 100000 in
/-- renew -/
theorem qX4_renew (l : Launch) (dC : Nat → ClassId) (dI : Nat → Nat → Nat) (cy : Nat → ClassId) (ad : Nat → Nat) (F : Nat → Int32) (C : Nat → Nat) (R : Nat → Nat → Int32) (T : Nat → Nat → Nat) (sz : Nat) (a b d : Int32) (hC : C 9 ≤ 10) (hT : ∀ j, j < 10 → T 2 j ≤ 9) (hV : ∀ j, j < 100 → T 12 j ≤ 9) : Met l yX4_renew wsX4_renew ({ frames := 2, cells := 0, slots := 0, locals := 43 }) (va_Pc [.ref ((ad 0)), .int a, .int b, .int d] (wPre (dC, dI) (tyL cy) (mw ad cy F C R T) sz)) (QI (dC, dI) (tyL cy) (fun (r : Int32) (u : MS) => (r, u) = M_renew F C R T a b d) (mwU ad cy) (va_A (mw ad cy F C R T) sz)) 0 0 (va_A (mw ad cy F C R T) sz) := by
  refine en (cc := cX4_renew) (maxL := 6) (ret := (some .int)) (own := RX4) (lv := [(0, .ref ((ad 0))), (1, .int a), (2, .int b), (3, .int d)]) (by decide) rfl rfl (Nat.le_of_ble_eq_true rfl) rfl ?_
  intro p e s m below meth c ls A H locs hx hb hr hts hown hlocks hml hin hsz hK hP hD hS hA hl
  generalize hQQ : MQ below _ _ s _ _ A = QQ
  have inM : ∀ w ∈ wsX40, w ∈ wsX4_renew := fun _ h => List.mem_cons_of_mem _ (List.mem_append_right _ h)
  have lk0 : (Cond.fieldLink RX4 65 "ClauseShopModel" "thrown" "I").before (([.ref ((ad 0)), .int a, .int b, .int d] : List Value).toArray) s = true := hts _ (List.mem_of_getElem? (i := 1) rfl)
  have lk1 : (Cond.fieldLink RX4 31 "ClauseShopModel" "isSigned" "[Z").before (([.ref ((ad 0)), .int a, .int b, .int d] : List Value).toArray) s = true := hts _ (List.mem_of_getElem? (i := 2) rfl)
  have lk2 : (Cond.fieldLink RX4 38 "ClauseShopModel" "version" "[I").before (([.ref ((ad 0)), .int a, .int b, .int d] : List Value).toArray) s = true := hts _ (List.mem_of_getElem? (i := 3) rfl)
  have lk3 : (Cond.fieldLink RX4 7 "ClauseShopModel" "latest" "[I").before (([.ref ((ad 0)), .int a, .int b, .int d] : List Value).toArray) s = true := hts _ (List.mem_of_getElem? (i := 4) rfl)
  have lk4 : (Cond.fieldLink RX4 41 "ClauseShopModel" "mark" "[I").before (([.ref ((ad 0)), .int a, .int b, .int d] : List Value).toArray) s = true := hts _ (List.mem_of_getElem? (i := 5) rfl)
  have lk5 : (Cond.fieldLink RX4 35 "ClauseShopModel" "signed" "[I").before (([.ref ((ad 0)), .int a, .int b, .int d] : List Value).toArray) s = true := hts _ (List.mem_of_getElem? (i := 6) rfl)
  refine lv_aload_n hx hb dX4_renew_0 rfl (lv_at hl 0 rfl) ?_
  refine lv_aload_n hx hb dX4_renew_1 rfl (lv_at hl 0 rfl) ?_
  refine lv_iload_n hx hb dX4_renew_2 rfl (lv_at hl 1 rfl) ?_
  refine call_i (va_runV (As := [.int a]) (rest := [.ref ((ad 0))]) ⟨hx, hb, hml, hown, hts⟩ (qX4_isContract l dC dI cy ad F C R T H.size a) (cwV 1 hts gX4_renew_X4_isContract rfl rfl rfl (by decide +kernel) ⟨Nat.le_of_ble_eq_true rfl, Nat.le_of_ble_eq_true rfl⟩) (preV hK hP hD (w_recv (ci := 5) (q0 := 0) hK hP rfl rfl)) rfl rfl hl.1 rfl (lv_room (Nat.le_of_ble_eq_true rfl)) dX4_renew_3 ⟨Nat.zero_le _, Nat.zero_le _⟩) hD hS hA (fun r_1 u H locs w_2 hP hD hS => ?_)
  obtain ⟨rfl, rfl⟩ := w_2
  have hP : va_P (dC, dI) vwCl (mw ad cy F C R T) H := hP
  have hD : va_D A (mw ad cy F C R T) := hD
  refine br_ne (tgt := 13) hx hb dX4_renew_6 (by decide) (fun c_3 => ?_) (fun c_3 => ?_)
  · obtain ⟨i, hi, ex, ei⟩ := ct_ix (n := C 9) (by omega) c_3
    subst ex
    refine lv_iload_n hx hb dX4_renew_13 rfl (lv_at hl 2 rfl) ?_
    refine call_i (va_runS (As := [.int b]) (rest := [.ref ((ad 0))]) ⟨hx, hb, hml, hown, hts⟩ (qX4_isSide l dC dI cy (mw ad cy F C R T) H.size b) (va_cwS 1 hts gX4_renew_X4_isSide rfl rfl rfl (by decide +kernel) ⟨Nat.le_of_ble_eq_true rfl, Nat.le_of_ble_eq_true rfl⟩) (preS hK hP hD) rfl rfl hl.1 rfl (lv_room (Nat.le_of_ble_eq_true rfl)) dX4_renew_14 ⟨Nat.zero_le _, Nat.zero_le _⟩) hD hS hA (fun r_4 u H locs w_5 hP hD hS => ?_)
    subst w_5
    have hP : va_P (dC, dI) vwCl (mw ad cy F C R T) H := hP
    have hD : va_D A (mw ad cy F C R T) := hD
    refine br_eq (tgt := 27) hx hb dX4_renew_17 (by decide) (fun c_6 => ?_) (fun c_6 => ?_)
    · refine lv_iconst (v := nI 2) hx hb dX4_renew_27 (by decide) ?_
      refine lv_goto (tgt := 32) hx hb dX4_renew_28 (by decide) ?_
      refine va_put (D := (dC, dI)) (ci := 5) (v := .int (nI 2)) (ty := .int) (C := RX4) (T := TX4) (N := 22) hx hb hts inM tyX4 tyX4_ok nmX4 hown hK hP hD hS 0 rfl rfl 0 (by decide) lk0 (fun _ h9 => h9) rfl (by decide +kernel) rfl rfl (Nat.le_of_ble_eq_true rfl) dX4_renew_32 (fun H locs hP hD hS => ?_)
      have hP : va_P (dC, dI) vwCl (mw ad cy (va_up F 0 (nI 2)) C R T) H := hP
      have hD : va_D A (mw ad cy (va_up F 0 (nI 2)) C R T) := hD
      refine lv_bipush (v := nI 10) hx hb dX4_renew_35 (by decide) ?_
      refine lv_iload_n hx hb dX4_renew_37 rfl (lv_at hl 1 rfl) ?_
      refine lv_imul hx hb dX4_renew_38 ?_
      refine to_i (y := nI (10 * i)) (pk_mul _ _) ?_
      refine lv_iload_n hx hb dX4_renew_39 rfl (lv_at hl 3 rfl) ?_
      refine lv_iadd hx hb dX4_renew_40 ?_
      refine lv_istore (lv' := [(4, .int ((nI (10 * i)) + d)), (0, .ref ((ad 0))), (1, .int (nI i)), (2, .int b), (3, .int d)]) hx hb dX4_renew_41 hl (by decide) rfl (fun ls hl => ?_)
      refine lv_aload_n hx hb dX4_renew_43 rfl (lv_at hl 1 rfl) ?_
      refine va_get (D := (dC, dI)) (ci := 5) (v := .int (nI 2)) (C := RX4) (T := TX4) (N := 22) hx hb hts inM hown hK hP 0 rfl rfl 0 (by decide) lk0 (fun _ h9 => h9) rfl dX4_renew_44 ?_
      refine lv_if_ne (tgt := 94) hx hb dX4_renew_47 (by decide) (fun _ => ?_) (fun h9 => absurd h9 (by decide))
      refine lv_aload_n hx hb dX4_renew_94 rfl (lv_at hl 1 rfl) ?_
      refine va_get (D := (dC, dI)) (ci := 5) (v := .int (nI 2)) (C := RX4) (T := TX4) (N := 22) hx hb hts inM hown hK hP 0 rfl rfl 0 (by decide) lk0 (fun _ h9 => h9) rfl dX4_renew_95 ?_
      refine lv_if_le (tgt := 103) hx hb dX4_renew_98 (by decide) (fun h9 => absurd h9 (by decide)) (fun _ => ?_)
      refine lv_iconst (v := nI 0) hx hb dX4_renew_101 (by decide) ?_
      rw [← hQQ]; exact end_i (u := (va_up F 0 (nI 2), C, R, T)) hx hb hr hlocks dX4_renew_102 hK hP hD hS (by simp only [M_renew, eq_true c_3, c_6, ei, isC, isCl, isSd, and_true, true_and, and_false, false_and, if_true, if_false, not_true, not_false_iff, not_false_eq_true, or_true, true_or, or_false, false_or, ite_true, ite_false, and_self, Classical.not_not, Bool.false_eq_true]; try rfl) (Nat.zero_le _) (Nat.zero_le _)
    · obtain ⟨sd, hsd, ex, esd⟩ := sd_ix c_6
      subst ex
      refine lv_iload_n hx hb dX4_renew_20 rfl (lv_at hl 3 rfl) ?_
      refine call_i (va_runS (As := [.int d]) (rest := [.ref ((ad 0))]) ⟨hx, hb, hml, hown, hts⟩ (qX4_isClause l dC dI cy (mw ad cy F C R T) H.size d) (va_cwS 1 hts gX4_renew_X4_isClause rfl rfl rfl (by decide +kernel) ⟨Nat.le_of_ble_eq_true rfl, Nat.le_of_ble_eq_true rfl⟩) (preS hK hP hD) rfl rfl hl.1 rfl (lv_room (Nat.le_of_ble_eq_true rfl)) dX4_renew_21 ⟨Nat.zero_le _, Nat.zero_le _⟩) hD hS hA (fun r_9 u H locs w_10 hP hD hS => ?_)
      subst w_10
      have hP : va_P (dC, dI) vwCl (mw ad cy F C R T) H := hP
      have hD : va_D A (mw ad cy F C R T) := hD
      refine br_ne (tgt := 31) hx hb dX4_renew_24 (by decide) (fun c_11 => ?_) (fun c_11 => ?_)
      · obtain ⟨cn, hcn, ex, ecn⟩ := cl_ix c_11
        subst ex
        have hTc := hT cn hcn
        have hVc := hV (10 * i + cn) (by omega)
        refine lv_iconst (v := nI 0) hx hb dX4_renew_31 (by decide) ?_
        refine va_put (D := (dC, dI)) (ci := 5) (v := .int (nI 0)) (ty := .int) (C := RX4) (T := TX4) (N := 22) hx hb hts inM tyX4 tyX4_ok nmX4 hown hK hP hD hS 0 rfl rfl 0 (by decide) lk0 (fun _ h9 => h9) rfl (by decide +kernel) rfl rfl (Nat.le_of_ble_eq_true rfl) dX4_renew_32 (fun H locs hP hD hS => ?_)
        have hP : va_P (dC, dI) vwCl (mw ad cy (va_up F 0 (nI 0)) C R T) H := hP
        have hD : va_D A (mw ad cy (va_up F 0 (nI 0)) C R T) := hD
        refine lv_bipush (v := nI 10) hx hb dX4_renew_35 (by decide) ?_
        refine lv_iload_n hx hb dX4_renew_37 rfl (lv_at hl 1 rfl) ?_
        refine lv_imul hx hb dX4_renew_38 ?_
        refine to_i (y := nI (10 * i)) (pk_mul _ _) ?_
        refine lv_iload_n hx hb dX4_renew_39 rfl (lv_at hl 3 rfl) ?_
        refine lv_iadd hx hb dX4_renew_40 ?_
        refine to_i (y := nI ((10 * i) + cn)) (nI_add _ _) ?_
        refine lv_istore (lv' := [(4, .int (nI ((10 * i) + cn))), (0, .ref ((ad 0))), (1, .int (nI i)), (2, .int (nI sd)), (3, .int (nI cn))]) hx hb dX4_renew_41 hl (by decide) rfl (fun ls hl => ?_)
        refine lv_aload_n hx hb dX4_renew_43 rfl (lv_at hl 1 rfl) ?_
        refine va_get (D := (dC, dI)) (ci := 5) (v := .int (nI 0)) (C := RX4) (T := TX4) (N := 22) hx hb hts inM hown hK hP 0 rfl rfl 0 (by decide) lk0 (fun _ h9 => h9) rfl dX4_renew_44 ?_
        refine lv_if_ne (tgt := 94) hx hb dX4_renew_47 (by decide) (fun h9 => absurd h9 (by decide)) (fun _ => ?_)
        refine lv_aload_n hx hb dX4_renew_50 rfl (lv_at hl 1 rfl) ?_
        refine lv_aload_n hx hb dX4_renew_51 rfl (lv_at hl 1 rfl) ?_
        refine va_get (D := (dC, dI)) (ci := 5) (v := .ref ((ad 10))) (C := RX4) (T := TX4) (N := 22) hx hb hts inM hown hK hP 0 rfl rfl 10 (by decide) lk1 (fun _ h9 => h9) rfl dX4_renew_52 ?_
        refine lv_iload_n hx hb dX4_renew_55 rfl (lv_at hl 2 rfl) ?_
        refine x_zald (f := R 10) hx hb hK hP 8 1 rfl rfl (t := i) (by omega) (by decide) dX4_renew_56 ?_
        refine lv_if_ne (tgt := 86) hx hb dX4_renew_57 (by decide) (fun c_13 => ?_) (fun c_13 => ?_)
        · refine lv_iconst (v := nI 3) hx hb dX4_renew_86 (by decide) ?_
          refine lv_goto (tgt := 91) hx hb dX4_renew_87 (by decide) ?_
          refine va_put (D := (dC, dI)) (ci := 5) (v := .int (nI 3)) (ty := .int) (C := RX4) (T := TX4) (N := 22) hx hb hts inM tyX4 tyX4_ok nmX4 hown hK hP hD hS 0 rfl rfl 0 (by decide) lk0 (fun _ h9 => h9) rfl (by decide +kernel) rfl rfl (Nat.le_of_ble_eq_true rfl) dX4_renew_91 (fun H locs hP hD hS => ?_)
          have hP : va_P (dC, dI) vwCl (mw ad cy (va_up F 0 (nI 3)) C R T) H := hP
          have hD : va_D A (mw ad cy (va_up F 0 (nI 3)) C R T) := hD
          refine lv_aload_n hx hb dX4_renew_94 rfl (lv_at hl 1 rfl) ?_
          refine va_get (D := (dC, dI)) (ci := 5) (v := .int (nI 3)) (C := RX4) (T := TX4) (N := 22) hx hb hts inM hown hK hP 0 rfl rfl 0 (by decide) lk0 (fun _ h9 => h9) rfl dX4_renew_95 ?_
          refine lv_if_le (tgt := 103) hx hb dX4_renew_98 (by decide) (fun h9 => absurd h9 (by decide)) (fun _ => ?_)
          refine lv_iconst (v := nI 0) hx hb dX4_renew_101 (by decide) ?_
          rw [← hQQ]; exact end_i (u := (va_up F 0 (nI 3), C, R, T)) hx hb hr hlocks dX4_renew_102 hK hP hD hS (by simp only [M_renew, eq_true c_3, eq_true c_6, eq_true c_11, c_13, ei, esd, ecn, isC, isCl, isSd, and_true, true_and, and_false, false_and, if_true, if_false, not_true, not_false_iff, not_false_eq_true, or_true, true_or, or_false, false_or, ite_true, ite_false, and_self, Classical.not_not, Bool.false_eq_true]; try rfl) (Nat.zero_le _) (Nat.zero_le _)
        · refine lv_aload_n hx hb dX4_renew_60 rfl (lv_at hl 1 rfl) ?_
          refine va_get (D := (dC, dI)) (ci := 5) (v := .ref ((ad 12))) (C := RX4) (T := TX4) (N := 22) hx hb hts inM hown hK hP 0 rfl rfl 12 (by decide) lk2 (fun _ h9 => h9) rfl dX4_renew_61 ?_
          refine lv_iload hx hb dX4_renew_64 (lv_at hl 0 rfl) ?_
          refine x_iald hx hb hK hP 10 0 rfl rfl (t := (10 * i) + cn) (by omega) (by decide) dX4_renew_66 ?_
          refine n_if_eq (tgt := 86) hx hb dX4_renew_67 (by decide) (by omega) (fun c_15 => ?_) (fun c_15 => ?_)
          · refine lv_iconst (v := nI 3) hx hb dX4_renew_86 (by decide) ?_
            refine lv_goto (tgt := 91) hx hb dX4_renew_87 (by decide) ?_
            refine va_put (D := (dC, dI)) (ci := 5) (v := .int (nI 3)) (ty := .int) (C := RX4) (T := TX4) (N := 22) hx hb hts inM tyX4 tyX4_ok nmX4 hown hK hP hD hS 0 rfl rfl 0 (by decide) lk0 (fun _ h9 => h9) rfl (by decide +kernel) rfl rfl (Nat.le_of_ble_eq_true rfl) dX4_renew_91 (fun H locs hP hD hS => ?_)
            have hP : va_P (dC, dI) vwCl (mw ad cy (va_up F 0 (nI 3)) C R T) H := hP
            have hD : va_D A (mw ad cy (va_up F 0 (nI 3)) C R T) := hD
            refine lv_aload_n hx hb dX4_renew_94 rfl (lv_at hl 1 rfl) ?_
            refine va_get (D := (dC, dI)) (ci := 5) (v := .int (nI 3)) (C := RX4) (T := TX4) (N := 22) hx hb hts inM hown hK hP 0 rfl rfl 0 (by decide) lk0 (fun _ h9 => h9) rfl dX4_renew_95 ?_
            refine lv_if_le (tgt := 103) hx hb dX4_renew_98 (by decide) (fun h9 => absurd h9 (by decide)) (fun _ => ?_)
            refine lv_iconst (v := nI 0) hx hb dX4_renew_101 (by decide) ?_
            rw [← hQQ]; exact end_i (u := (va_up F 0 (nI 3), C, R, T)) hx hb hr hlocks dX4_renew_102 hK hP hD hS (by simp only [M_renew, eq_true c_3, eq_true c_6, eq_true c_11, eq_true c_13, eq_true c_15, ei, esd, ecn, isC, isCl, isSd, and_true, true_and, and_false, false_and, if_true, if_false, not_true, not_false_iff, not_false_eq_true, or_true, true_or, or_false, false_or, ite_true, ite_false, and_self, Classical.not_not, Bool.false_eq_true]; try rfl) (Nat.zero_le _) (Nat.zero_le _)
          · refine lv_aload_n hx hb dX4_renew_70 rfl (lv_at hl 1 rfl) ?_
            refine va_get (D := (dC, dI)) (ci := 5) (v := .ref ((ad 12))) (C := RX4) (T := TX4) (N := 22) hx hb hts inM hown hK hP 0 rfl rfl 12 (by decide) lk2 (fun _ h9 => h9) rfl dX4_renew_71 ?_
            refine lv_iload hx hb dX4_renew_74 (lv_at hl 0 rfl) ?_
            refine x_iald hx hb hK hP 10 0 rfl rfl (t := (10 * i) + cn) (by omega) (by decide) dX4_renew_76 ?_
            refine lv_aload_n hx hb dX4_renew_77 rfl (lv_at hl 1 rfl) ?_
            refine va_get (D := (dC, dI)) (ci := 5) (v := .ref ((ad 2))) (C := RX4) (T := TX4) (N := 22) hx hb hts inM hown hK hP 0 rfl rfl 2 (by decide) lk3 (fun _ h9 => h9) rfl dX4_renew_78 ?_
            refine lv_iload_n hx hb dX4_renew_81 rfl (lv_at hl 4 rfl) ?_
            refine x_iald hx hb hK hP 1 0 rfl rfl (t := cn) (by omega) (by decide) dX4_renew_82 ?_
            refine n_ne (tgt := 90) hx hb dX4_renew_83 (by decide) (by omega) (by omega) (fun c_17 => ?_) (fun c_17 => ?_)
            · refine lv_iconst (v := nI 0) hx hb dX4_renew_90 (by decide) ?_
              refine va_put (D := (dC, dI)) (ci := 5) (v := .int (nI 0)) (ty := .int) (C := RX4) (T := TX4) (N := 22) hx hb hts inM tyX4 tyX4_ok nmX4 hown hK hP hD hS 0 rfl rfl 0 (by decide) lk0 (fun _ h9 => h9) rfl (by decide +kernel) rfl rfl (Nat.le_of_ble_eq_true rfl) dX4_renew_91 (fun H locs hP hD hS => ?_)
              have hP : va_P (dC, dI) vwCl (mw ad cy (va_up F 0 (nI 0)) C R T) H := hP
              have hD : va_D A (mw ad cy (va_up F 0 (nI 0)) C R T) := hD
              refine lv_aload_n hx hb dX4_renew_94 rfl (lv_at hl 1 rfl) ?_
              refine va_get (D := (dC, dI)) (ci := 5) (v := .int (nI 0)) (C := RX4) (T := TX4) (N := 22) hx hb hts inM hown hK hP 0 rfl rfl 0 (by decide) lk0 (fun _ h9 => h9) rfl dX4_renew_95 ?_
              refine lv_if_le (tgt := 103) hx hb dX4_renew_98 (by decide) (fun _ => ?_) (fun h9 => absurd h9 (by decide))
              refine lv_aload_n hx hb dX4_renew_103 rfl (lv_at hl 1 rfl) ?_
              refine va_get (D := (dC, dI)) (ci := 5) (v := .ref ((ad 12))) (C := RX4) (T := TX4) (N := 22) hx hb hts inM hown hK hP 0 rfl rfl 12 (by decide) lk2 (fun _ h9 => h9) rfl dX4_renew_104 ?_
              refine lv_iload hx hb dX4_renew_107 (lv_at hl 0 rfl) ?_
              refine x_iald hx hb hK hP 10 0 rfl rfl (t := (10 * i) + cn) (by omega) (by decide) dX4_renew_109 ?_
              refine lv_istore (lv' := [(5, .int (nI (T 12 ((10 * i) + cn)))), (4, .int (nI ((10 * i) + cn))), (0, .ref ((ad 0))), (1, .int (nI i)), (2, .int (nI sd)), (3, .int (nI cn))]) hx hb dX4_renew_110 hl (by decide) rfl (fun ls hl => ?_)
              refine lv_aload_n hx hb dX4_renew_112 rfl (lv_at hl 2 rfl) ?_
              refine va_get (D := (dC, dI)) (ci := 5) (v := .ref ((ad 12))) (C := RX4) (T := TX4) (N := 22) hx hb hts inM hown hK hP 0 rfl rfl 12 (by decide) lk2 (fun _ h9 => h9) rfl dX4_renew_113 ?_
              refine lv_iload hx hb dX4_renew_116 (lv_at hl 1 rfl) ?_
              refine lv_aload_n hx hb dX4_renew_118 rfl (lv_at hl 2 rfl) ?_
              refine va_get (D := (dC, dI)) (ci := 5) (v := .ref ((ad 2))) (C := RX4) (T := TX4) (N := 22) hx hb hts inM hown hK hP 0 rfl rfl 2 (by decide) lk3 (fun _ h9 => h9) rfl dX4_renew_119 ?_
              refine lv_iload_n hx hb dX4_renew_122 rfl (lv_at hl 5 rfl) ?_
              refine x_iald hx hb hK hP 1 0 rfl rfl (t := cn) (by omega) (by decide) dX4_renew_123 ?_
              refine x_iast hx hb hK hP hD hS 10 0 rfl rfl (t := (10 * i) + cn) (x := (nI (T 2 cn))) (by omega) (by decide) dX4_renew_124 (fun H locs hP hD hS => ?_)
              rw [upd_nI] at hP hD
              have hP : va_P (dC, dI) vwCl (mw ad cy (va_up F 0 (nI 0)) C R (va_up T 12 (va_up (T 12) ((10 * i) + cn) (T 2 cn)))) H := hP
              have hD : va_D A (mw ad cy (va_up F 0 (nI 0)) C R (va_up T 12 (va_up (T 12) ((10 * i) + cn) (T 2 cn)))) := hD
              refine lv_aload_n hx hb dX4_renew_125 rfl (lv_at hl 2 rfl) ?_
              refine va_get (D := (dC, dI)) (ci := 5) (v := .ref ((ad 13))) (C := RX4) (T := TX4) (N := 22) hx hb hts inM hown hK hP 0 rfl rfl 13 (by decide) lk4 (fun _ h9 => h9) rfl dX4_renew_126 ?_
              refine lv_iconst (v := nI 2) hx hb dX4_renew_129 (by decide) ?_
              refine lv_iload hx hb dX4_renew_130 (lv_at hl 1 rfl) ?_
              refine lv_imul hx hb dX4_renew_132 ?_
              refine to_i (y := nI (2 * ((10 * i) + cn))) (pk_mul _ _) ?_
              refine lv_iload_n hx hb dX4_renew_133 rfl (lv_at hl 4 rfl) ?_
              refine lv_iadd hx hb dX4_renew_134 ?_
              refine to_i (y := nI ((2 * ((10 * i) + cn)) + sd)) (nI_add _ _) ?_
              refine lv_iconst (v := nI 1) hx hb dX4_renew_135 (by decide) ?_
              refine x_iast hx hb hK hP hD hS 11 0 rfl rfl (t := (2 * ((10 * i) + cn)) + sd) (x := (nI 1)) (by omega) (by decide) dX4_renew_136 (fun H locs hP hD hS => ?_)
              have hP : va_P (dC, dI) vwCl (mw ad cy (va_up F 0 (nI 0)) C (va_up R 13 (upd (R 13) ((2 * ((10 * i) + cn)) + sd) (nI 1))) (va_up T 12 (va_up (T 12) ((10 * i) + cn) (T 2 cn)))) H := hP
              have hD : va_D A (mw ad cy (va_up F 0 (nI 0)) C (va_up R 13 (upd (R 13) ((2 * ((10 * i) + cn)) + sd) (nI 1))) (va_up T 12 (va_up (T 12) ((10 * i) + cn) (T 2 cn)))) := hD
              refine lv_aload_n hx hb dX4_renew_137 rfl (lv_at hl 2 rfl) ?_
              refine va_get (D := (dC, dI)) (ci := 5) (v := .ref ((ad 13))) (C := RX4) (T := TX4) (N := 22) hx hb hts inM hown hK hP 0 rfl rfl 13 (by decide) lk4 (fun _ h9 => h9) rfl dX4_renew_138 ?_
              refine lv_iconst (v := nI 2) hx hb dX4_renew_141 (by decide) ?_
              refine lv_iload hx hb dX4_renew_142 (lv_at hl 1 rfl) ?_
              refine lv_imul hx hb dX4_renew_144 ?_
              refine to_i (y := nI (2 * ((10 * i) + cn))) (pk_mul _ _) ?_
              refine lv_iconst (v := nI 1) hx hb dX4_renew_145 (by decide) ?_
              refine lv_iadd hx hb dX4_renew_146 ?_
              refine to_i (y := nI ((2 * ((10 * i) + cn)) + 1)) (nI_add _ _) ?_
              refine lv_iload_n hx hb dX4_renew_147 rfl (lv_at hl 4 rfl) ?_
              refine lv_isub hx hb dX4_renew_148 ?_
              refine to_i (y := nI (((2 * ((10 * i) + cn)) + 1) - sd)) (pk_sub (by omega)) ?_
              refine lv_iconst (v := nI 0) hx hb dX4_renew_149 (by decide) ?_
              refine x_iast hx hb hK hP hD hS 11 0 rfl rfl (t := ((2 * ((10 * i) + cn)) + 1) - sd) (x := (nI 0)) (by omega) (by decide) dX4_renew_150 (fun H locs hP hD hS => ?_)
              have hP : va_P (dC, dI) vwCl (mw ad cy (va_up F 0 (nI 0)) C (va_up R 13 (upd (upd (R 13) ((2 * ((10 * i) + cn)) + sd) (nI 1)) (((2 * ((10 * i) + cn)) + 1) - sd) (nI 0))) (va_up T 12 (va_up (T 12) ((10 * i) + cn) (T 2 cn)))) H := hP
              have hD : va_D A (mw ad cy (va_up F 0 (nI 0)) C (va_up R 13 (upd (upd (R 13) ((2 * ((10 * i) + cn)) + sd) (nI 1)) (((2 * ((10 * i) + cn)) + 1) - sd) (nI 0))) (va_up T 12 (va_up (T 12) ((10 * i) + cn) (T 2 cn)))) := hD
              refine lv_aload_n hx hb dX4_renew_151 rfl (lv_at hl 2 rfl) ?_
              refine va_get (D := (dC, dI)) (ci := 5) (v := .ref ((ad 11))) (C := RX4) (T := TX4) (N := 22) hx hb hts inM hown hK hP 0 rfl rfl 11 (by decide) lk5 (fun _ h9 => h9) rfl dX4_renew_152 ?_
              refine lv_iload_n hx hb dX4_renew_155 rfl (lv_at hl 3 rfl) ?_
              refine lv_iconst (v := nI 0) hx hb dX4_renew_156 (by decide) ?_
              refine x_iast hx hb hK hP hD hS 9 0 rfl rfl (t := i) (x := (nI 0)) (by omega) (by decide) dX4_renew_157 (fun H locs hP hD hS => ?_)
              have hP : va_P (dC, dI) vwCl (mw ad cy (va_up F 0 (nI 0)) C (va_up (va_up R 13 (upd (upd (R 13) ((2 * ((10 * i) + cn)) + sd) (nI 1)) (((2 * ((10 * i) + cn)) + 1) - sd) (nI 0))) 11 (upd (R 11) i (nI 0))) (va_up T 12 (va_up (T 12) ((10 * i) + cn) (T 2 cn)))) H := hP
              have hD : va_D A (mw ad cy (va_up F 0 (nI 0)) C (va_up (va_up R 13 (upd (upd (R 13) ((2 * ((10 * i) + cn)) + sd) (nI 1)) (((2 * ((10 * i) + cn)) + 1) - sd) (nI 0))) 11 (upd (R 11) i (nI 0))) (va_up T 12 (va_up (T 12) ((10 * i) + cn) (T 2 cn)))) := hD
              refine lv_iload hx hb dX4_renew_158 (lv_at hl 0 rfl) ?_
              rw [← hQQ]; exact end_i (u := (va_up F 0 (nI 0), C, va_up (va_up R 13 (upd (upd (R 13) ((2 * ((10 * i) + cn)) + sd) (nI 1)) (((2 * ((10 * i) + cn)) + 1) - sd) (nI 0))) 11 (upd (R 11) i (nI 0)), va_up T 12 (va_up (T 12) ((10 * i) + cn) (T 2 cn)))) hx hb hr hlocks dX4_renew_160 hK hP hD hS (by simp only [M_renew, eq_true c_3, eq_true c_6, eq_true c_11, eq_true c_13, c_15, c_17, ei, esd, ecn, isC, isCl, isSd, and_true, true_and, and_false, false_and, if_true, if_false, not_true, not_false_iff, not_false_eq_true, or_true, true_or, or_false, false_or, ite_true, ite_false, and_self, Classical.not_not, Bool.false_eq_true]; try rfl) (Nat.zero_le _) (Nat.zero_le _)
            · refine lv_iconst (v := nI 3) hx hb dX4_renew_86 (by decide) ?_
              refine lv_goto (tgt := 91) hx hb dX4_renew_87 (by decide) ?_
              refine va_put (D := (dC, dI)) (ci := 5) (v := .int (nI 3)) (ty := .int) (C := RX4) (T := TX4) (N := 22) hx hb hts inM tyX4 tyX4_ok nmX4 hown hK hP hD hS 0 rfl rfl 0 (by decide) lk0 (fun _ h9 => h9) rfl (by decide +kernel) rfl rfl (Nat.le_of_ble_eq_true rfl) dX4_renew_91 (fun H locs hP hD hS => ?_)
              have hP : va_P (dC, dI) vwCl (mw ad cy (va_up F 0 (nI 3)) C R T) H := hP
              have hD : va_D A (mw ad cy (va_up F 0 (nI 3)) C R T) := hD
              refine lv_aload_n hx hb dX4_renew_94 rfl (lv_at hl 1 rfl) ?_
              refine va_get (D := (dC, dI)) (ci := 5) (v := .int (nI 3)) (C := RX4) (T := TX4) (N := 22) hx hb hts inM hown hK hP 0 rfl rfl 0 (by decide) lk0 (fun _ h9 => h9) rfl dX4_renew_95 ?_
              refine lv_if_le (tgt := 103) hx hb dX4_renew_98 (by decide) (fun h9 => absurd h9 (by decide)) (fun _ => ?_)
              refine lv_iconst (v := nI 0) hx hb dX4_renew_101 (by decide) ?_
              rw [← hQQ]; exact end_i (u := (va_up F 0 (nI 3), C, R, T)) hx hb hr hlocks dX4_renew_102 hK hP hD hS (by simp only [M_renew, eq_true c_3, eq_true c_6, eq_true c_11, eq_true c_13, c_15, eq_true c_17, ei, esd, ecn, isC, isCl, isSd, and_true, true_and, and_false, false_and, if_true, if_false, not_true, not_false_iff, not_false_eq_true, or_true, true_or, or_false, false_or, ite_true, ite_false, and_self, Classical.not_not, Bool.false_eq_true]; try rfl) (Nat.zero_le _) (Nat.zero_le _)
      · refine lv_iconst (v := nI 2) hx hb dX4_renew_27 (by decide) ?_
        refine lv_goto (tgt := 32) hx hb dX4_renew_28 (by decide) ?_
        refine va_put (D := (dC, dI)) (ci := 5) (v := .int (nI 2)) (ty := .int) (C := RX4) (T := TX4) (N := 22) hx hb hts inM tyX4 tyX4_ok nmX4 hown hK hP hD hS 0 rfl rfl 0 (by decide) lk0 (fun _ h9 => h9) rfl (by decide +kernel) rfl rfl (Nat.le_of_ble_eq_true rfl) dX4_renew_32 (fun H locs hP hD hS => ?_)
        have hP : va_P (dC, dI) vwCl (mw ad cy (va_up F 0 (nI 2)) C R T) H := hP
        have hD : va_D A (mw ad cy (va_up F 0 (nI 2)) C R T) := hD
        refine lv_bipush (v := nI 10) hx hb dX4_renew_35 (by decide) ?_
        refine lv_iload_n hx hb dX4_renew_37 rfl (lv_at hl 1 rfl) ?_
        refine lv_imul hx hb dX4_renew_38 ?_
        refine to_i (y := nI (10 * i)) (pk_mul _ _) ?_
        refine lv_iload_n hx hb dX4_renew_39 rfl (lv_at hl 3 rfl) ?_
        refine lv_iadd hx hb dX4_renew_40 ?_
        refine lv_istore (lv' := [(4, .int ((nI (10 * i)) + d)), (0, .ref ((ad 0))), (1, .int (nI i)), (2, .int (nI sd)), (3, .int d)]) hx hb dX4_renew_41 hl (by decide) rfl (fun ls hl => ?_)
        refine lv_aload_n hx hb dX4_renew_43 rfl (lv_at hl 1 rfl) ?_
        refine va_get (D := (dC, dI)) (ci := 5) (v := .int (nI 2)) (C := RX4) (T := TX4) (N := 22) hx hb hts inM hown hK hP 0 rfl rfl 0 (by decide) lk0 (fun _ h9 => h9) rfl dX4_renew_44 ?_
        refine lv_if_ne (tgt := 94) hx hb dX4_renew_47 (by decide) (fun _ => ?_) (fun h9 => absurd h9 (by decide))
        refine lv_aload_n hx hb dX4_renew_94 rfl (lv_at hl 1 rfl) ?_
        refine va_get (D := (dC, dI)) (ci := 5) (v := .int (nI 2)) (C := RX4) (T := TX4) (N := 22) hx hb hts inM hown hK hP 0 rfl rfl 0 (by decide) lk0 (fun _ h9 => h9) rfl dX4_renew_95 ?_
        refine lv_if_le (tgt := 103) hx hb dX4_renew_98 (by decide) (fun h9 => absurd h9 (by decide)) (fun _ => ?_)
        refine lv_iconst (v := nI 0) hx hb dX4_renew_101 (by decide) ?_
        rw [← hQQ]; exact end_i (u := (va_up F 0 (nI 2), C, R, T)) hx hb hr hlocks dX4_renew_102 hK hP hD hS (by simp only [M_renew, eq_true c_3, eq_true c_6, c_11, ei, esd, isC, isCl, isSd, and_true, true_and, and_false, false_and, if_true, if_false, not_true, not_false_iff, not_false_eq_true, or_true, true_or, or_false, false_or, ite_true, ite_false, and_self, Classical.not_not, Bool.false_eq_true]; try rfl) (Nat.zero_le _) (Nat.zero_le _)
  · refine lv_iconst (v := nI 1) hx hb dX4_renew_9 (by decide) ?_
    refine lv_goto (tgt := 32) hx hb dX4_renew_10 (by decide) ?_
    refine va_put (D := (dC, dI)) (ci := 5) (v := .int (nI 1)) (ty := .int) (C := RX4) (T := TX4) (N := 22) hx hb hts inM tyX4 tyX4_ok nmX4 hown hK hP hD hS 0 rfl rfl 0 (by decide) lk0 (fun _ h9 => h9) rfl (by decide +kernel) rfl rfl (Nat.le_of_ble_eq_true rfl) dX4_renew_32 (fun H locs hP hD hS => ?_)
    have hP : va_P (dC, dI) vwCl (mw ad cy (va_up F 0 (nI 1)) C R T) H := hP
    have hD : va_D A (mw ad cy (va_up F 0 (nI 1)) C R T) := hD
    refine lv_bipush (v := nI 10) hx hb dX4_renew_35 (by decide) ?_
    refine lv_iload_n hx hb dX4_renew_37 rfl (lv_at hl 1 rfl) ?_
    refine lv_imul hx hb dX4_renew_38 ?_
    refine lv_iload_n hx hb dX4_renew_39 rfl (lv_at hl 3 rfl) ?_
    refine lv_iadd hx hb dX4_renew_40 ?_
    refine lv_istore (lv' := [(4, .int (((nI 10) * a) + d)), (0, .ref ((ad 0))), (1, .int a), (2, .int b), (3, .int d)]) hx hb dX4_renew_41 hl (by decide) rfl (fun ls hl => ?_)
    refine lv_aload_n hx hb dX4_renew_43 rfl (lv_at hl 1 rfl) ?_
    refine va_get (D := (dC, dI)) (ci := 5) (v := .int (nI 1)) (C := RX4) (T := TX4) (N := 22) hx hb hts inM hown hK hP 0 rfl rfl 0 (by decide) lk0 (fun _ h9 => h9) rfl dX4_renew_44 ?_
    refine lv_if_ne (tgt := 94) hx hb dX4_renew_47 (by decide) (fun _ => ?_) (fun h9 => absurd h9 (by decide))
    refine lv_aload_n hx hb dX4_renew_94 rfl (lv_at hl 1 rfl) ?_
    refine va_get (D := (dC, dI)) (ci := 5) (v := .int (nI 1)) (C := RX4) (T := TX4) (N := 22) hx hb hts inM hown hK hP 0 rfl rfl 0 (by decide) lk0 (fun _ h9 => h9) rfl dX4_renew_95 ?_
    refine lv_if_le (tgt := 103) hx hb dX4_renew_98 (by decide) (fun h9 => absurd h9 (by decide)) (fun _ => ?_)
    refine lv_iconst (v := nI 0) hx hb dX4_renew_101 (by decide) ?_
    rw [← hQQ]; exact end_i (u := (va_up F 0 (nI 1), C, R, T)) hx hb hr hlocks dX4_renew_102 hK hP hD hS (by simp only [M_renew, c_3, isC, isCl, isSd, and_true, true_and, and_false, false_and, if_true, if_false, not_true, not_false_iff, not_false_eq_true, or_true, true_or, or_false, false_or, ite_true, ite_false, and_self, Classical.not_not, Bool.false_eq_true]; try rfl) (Nat.zero_le _) (Nat.zero_le _)

def M_version (F : Nat → Int32) (C : Nat → Nat) (R : Nat → Nat → Int32) (T : Nat → Nat → Nat) (a d : Int32) : Int32 × MS :=
  if isC C 9 a then
    (if isCl d then (nI (T 12 (10 * ix a + ix d)), (va_up F 0 (nI 0), C, R, T)) else (nI 0, (va_up F 0 (nI 2), C, R, T)))
  else (nI 0, (va_up F 0 (nI 1), C, R, T))

set_option maxHeartbeats 4000000 in
set_option maxRecDepth 100000 in
/-- version -/
theorem qX4_version (l : Launch) (dC : Nat → ClassId) (dI : Nat → Nat → Nat) (cy : Nat → ClassId) (ad : Nat → Nat) (F : Nat → Int32) (C : Nat → Nat) (R : Nat → Nat → Int32) (T : Nat → Nat → Nat) (sz : Nat) (a d : Int32) (hC : C 9 ≤ 10) : Met l yX4_version wsX4_version ({ frames := 2, cells := 0, slots := 0, locals := 43 }) (va_Pc [.ref ((ad 0)), .int a, .int d] (wPre (dC, dI) (tyL cy) (mw ad cy F C R T) sz)) (QI (dC, dI) (tyL cy) (fun (r : Int32) (u : MS) => (r, u) = M_version F C R T a d) (mwU ad cy) (va_A (mw ad cy F C R T) sz)) 0 0 (va_A (mw ad cy F C R T) sz) := by
  refine en (cc := cX4_version) (maxL := 3) (ret := (some .int)) (own := RX4) (lv := [(0, .ref ((ad 0))), (1, .int a), (2, .int d)]) (by decide) rfl rfl (Nat.le_of_ble_eq_true rfl) rfl ?_
  intro p e s m below meth c ls A H locs hx hb hr hts hown hlocks hml hin hsz hK hP hD hS hA hl
  generalize hQQ : MQ below _ _ s _ _ A = QQ
  have inM : ∀ w ∈ wsX40, w ∈ wsX4_version := fun _ h => List.mem_cons_of_mem _ (List.mem_append_right _ h)
  have lk0 : (Cond.fieldLink RX4 65 "ClauseShopModel" "thrown" "I").before (([.ref ((ad 0)), .int a, .int d] : List Value).toArray) s = true := hts _ (List.mem_of_getElem? (i := 1) rfl)
  have lk1 : (Cond.fieldLink RX4 38 "ClauseShopModel" "version" "[I").before (([.ref ((ad 0)), .int a, .int d] : List Value).toArray) s = true := hts _ (List.mem_of_getElem? (i := 2) rfl)
  refine lv_aload_n hx hb dX4_version_0 rfl (lv_at hl 0 rfl) ?_
  refine lv_aload_n hx hb dX4_version_1 rfl (lv_at hl 0 rfl) ?_
  refine lv_iload_n hx hb dX4_version_2 rfl (lv_at hl 1 rfl) ?_
  refine call_i (va_runV (As := [.int a]) (rest := [.ref ((ad 0))]) ⟨hx, hb, hml, hown, hts⟩ (qX4_isContract l dC dI cy ad F C R T H.size a) (cwV 1 hts gX4_version_X4_isContract rfl rfl rfl (by decide +kernel) ⟨Nat.le_of_ble_eq_true rfl, Nat.le_of_ble_eq_true rfl⟩) (preV hK hP hD (w_recv (ci := 5) (q0 := 0) hK hP rfl rfl)) rfl rfl hl.1 rfl (lv_room (Nat.le_of_ble_eq_true rfl)) dX4_version_3 ⟨Nat.zero_le _, Nat.zero_le _⟩) hD hS hA (fun r_1 u H locs w_2 hP hD hS => ?_)
  obtain ⟨rfl, rfl⟩ := w_2
  have hP : va_P (dC, dI) vwCl (mw ad cy F C R T) H := hP
  have hD : va_D A (mw ad cy F C R T) := hD
  refine br_ne (tgt := 13) hx hb dX4_version_6 (by decide) (fun c_3 => ?_) (fun c_3 => ?_)
  · obtain ⟨i, hi, ex, ei⟩ := ct_ix (n := C 9) (by omega) c_3
    subst ex
    refine lv_iload_n hx hb dX4_version_13 rfl (lv_at hl 2 rfl) ?_
    refine call_i (va_runS (As := [.int d]) (rest := [.ref ((ad 0))]) ⟨hx, hb, hml, hown, hts⟩ (qX4_isClause l dC dI cy (mw ad cy F C R T) H.size d) (va_cwS 1 hts gX4_version_X4_isClause rfl rfl rfl (by decide +kernel) ⟨Nat.le_of_ble_eq_true rfl, Nat.le_of_ble_eq_true rfl⟩) (preS hK hP hD) rfl rfl hl.1 rfl (lv_room (Nat.le_of_ble_eq_true rfl)) dX4_version_14 ⟨Nat.zero_le _, Nat.zero_le _⟩) hD hS hA (fun r_4 u H locs w_5 hP hD hS => ?_)
    subst w_5
    have hP : va_P (dC, dI) vwCl (mw ad cy F C R T) H := hP
    have hD : va_D A (mw ad cy F C R T) := hD
    refine br_eq (tgt := 24) hx hb dX4_version_17 (by decide) (fun c_6 => ?_) (fun c_6 => ?_)
    · refine lv_iconst (v := nI 2) hx hb dX4_version_24 (by decide) ?_
      refine va_put (D := (dC, dI)) (ci := 5) (v := .int (nI 2)) (ty := .int) (C := RX4) (T := TX4) (N := 22) hx hb hts inM tyX4 tyX4_ok nmX4 hown hK hP hD hS 0 rfl rfl 0 (by decide) lk0 (fun _ h9 => h9) rfl (by decide +kernel) rfl rfl (Nat.le_of_ble_eq_true rfl) dX4_version_25 (fun H locs hP hD hS => ?_)
      have hP : va_P (dC, dI) vwCl (mw ad cy (va_up F 0 (nI 2)) C R T) H := hP
      have hD : va_D A (mw ad cy (va_up F 0 (nI 2)) C R T) := hD
      refine lv_aload_n hx hb dX4_version_28 rfl (lv_at hl 0 rfl) ?_
      refine va_get (D := (dC, dI)) (ci := 5) (v := .int (nI 2)) (C := RX4) (T := TX4) (N := 22) hx hb hts inM hown hK hP 0 rfl rfl 0 (by decide) lk0 (fun _ h9 => h9) rfl dX4_version_29 ?_
      refine lv_if_le (tgt := 39) hx hb dX4_version_32 (by decide) (fun h9 => absurd h9 (by decide)) (fun _ => ?_)
      refine lv_iconst (v := nI 0) hx hb dX4_version_35 (by decide) ?_
      refine lv_goto (tgt := 50) hx hb dX4_version_36 (by decide) ?_
      rw [← hQQ]; exact end_i (u := (va_up F 0 (nI 2), C, R, T)) hx hb hr hlocks dX4_version_50 hK hP hD hS (by simp only [M_version, eq_true c_3, c_6, ei, isC, isCl, isSd, and_true, true_and, and_false, false_and, if_true, if_false, not_true, not_false_iff, not_false_eq_true, or_true, true_or, or_false, false_or, ite_true, ite_false, and_self, Classical.not_not, Bool.false_eq_true]; try rfl) (Nat.zero_le _) (Nat.zero_le _)
    · obtain ⟨cn, hcn, ex, ecn⟩ := cl_ix c_6
      subst ex
      refine lv_iconst (v := nI 0) hx hb dX4_version_20 (by decide) ?_
      refine lv_goto (tgt := 25) hx hb dX4_version_21 (by decide) ?_
      refine va_put (D := (dC, dI)) (ci := 5) (v := .int (nI 0)) (ty := .int) (C := RX4) (T := TX4) (N := 22) hx hb hts inM tyX4 tyX4_ok nmX4 hown hK hP hD hS 0 rfl rfl 0 (by decide) lk0 (fun _ h9 => h9) rfl (by decide +kernel) rfl rfl (Nat.le_of_ble_eq_true rfl) dX4_version_25 (fun H locs hP hD hS => ?_)
      have hP : va_P (dC, dI) vwCl (mw ad cy (va_up F 0 (nI 0)) C R T) H := hP
      have hD : va_D A (mw ad cy (va_up F 0 (nI 0)) C R T) := hD
      refine lv_aload_n hx hb dX4_version_28 rfl (lv_at hl 0 rfl) ?_
      refine va_get (D := (dC, dI)) (ci := 5) (v := .int (nI 0)) (C := RX4) (T := TX4) (N := 22) hx hb hts inM hown hK hP 0 rfl rfl 0 (by decide) lk0 (fun _ h9 => h9) rfl dX4_version_29 ?_
      refine lv_if_le (tgt := 39) hx hb dX4_version_32 (by decide) (fun _ => ?_) (fun h9 => absurd h9 (by decide))
      refine lv_aload_n hx hb dX4_version_39 rfl (lv_at hl 0 rfl) ?_
      refine va_get (D := (dC, dI)) (ci := 5) (v := .ref ((ad 12))) (C := RX4) (T := TX4) (N := 22) hx hb hts inM hown hK hP 0 rfl rfl 12 (by decide) lk1 (fun _ h9 => h9) rfl dX4_version_40 ?_
      refine lv_bipush (v := nI 10) hx hb dX4_version_43 (by decide) ?_
      refine lv_iload_n hx hb dX4_version_45 rfl (lv_at hl 1 rfl) ?_
      refine lv_imul hx hb dX4_version_46 ?_
      refine to_i (y := nI (10 * i)) (pk_mul _ _) ?_
      refine lv_iload_n hx hb dX4_version_47 rfl (lv_at hl 2 rfl) ?_
      refine lv_iadd hx hb dX4_version_48 ?_
      refine to_i (y := nI ((10 * i) + cn)) (nI_add _ _) ?_
      refine x_iald hx hb hK hP 10 0 rfl rfl (t := (10 * i) + cn) (by omega) (by decide) dX4_version_49 ?_
      rw [← hQQ]; exact end_i (u := (va_up F 0 (nI 0), C, R, T)) hx hb hr hlocks dX4_version_50 hK hP hD hS (by simp only [M_version, eq_true c_3, eq_true c_6, ei, ecn, isC, isCl, isSd, and_true, true_and, and_false, false_and, if_true, if_false, not_true, not_false_iff, not_false_eq_true, or_true, true_or, or_false, false_or, ite_true, ite_false, and_self, Classical.not_not, Bool.false_eq_true]; try rfl) (Nat.zero_le _) (Nat.zero_le _)
  · refine lv_iconst (v := nI 1) hx hb dX4_version_9 (by decide) ?_
    refine lv_goto (tgt := 25) hx hb dX4_version_10 (by decide) ?_
    refine va_put (D := (dC, dI)) (ci := 5) (v := .int (nI 1)) (ty := .int) (C := RX4) (T := TX4) (N := 22) hx hb hts inM tyX4 tyX4_ok nmX4 hown hK hP hD hS 0 rfl rfl 0 (by decide) lk0 (fun _ h9 => h9) rfl (by decide +kernel) rfl rfl (Nat.le_of_ble_eq_true rfl) dX4_version_25 (fun H locs hP hD hS => ?_)
    have hP : va_P (dC, dI) vwCl (mw ad cy (va_up F 0 (nI 1)) C R T) H := hP
    have hD : va_D A (mw ad cy (va_up F 0 (nI 1)) C R T) := hD
    refine lv_aload_n hx hb dX4_version_28 rfl (lv_at hl 0 rfl) ?_
    refine va_get (D := (dC, dI)) (ci := 5) (v := .int (nI 1)) (C := RX4) (T := TX4) (N := 22) hx hb hts inM hown hK hP 0 rfl rfl 0 (by decide) lk0 (fun _ h9 => h9) rfl dX4_version_29 ?_
    refine lv_if_le (tgt := 39) hx hb dX4_version_32 (by decide) (fun h9 => absurd h9 (by decide)) (fun _ => ?_)
    refine lv_iconst (v := nI 0) hx hb dX4_version_35 (by decide) ?_
    refine lv_goto (tgt := 50) hx hb dX4_version_36 (by decide) ?_
    rw [← hQQ]; exact end_i (u := (va_up F 0 (nI 1), C, R, T)) hx hb hr hlocks dX4_version_50 hK hP hD hS (by simp only [M_version, c_3, isC, isCl, isSd, and_true, true_and, and_false, false_and, if_true, if_false, not_true, not_false_iff, not_false_eq_true, or_true, true_or, or_false, false_or, ite_true, ite_false, and_self, Classical.not_not, Bool.false_eq_true]; try rfl) (Nat.zero_le _) (Nat.zero_le _)

def M_state (F : Nat → Int32) (C : Nat → Nat) (R : Nat → Nat → Int32) (T : Nat → Nat → Nat) (a : Int32) : Int32 × MS :=
  if isC C 14 a then (R 19 (ix a), (va_up F 0 (nI 0), C, R, T)) else (nI 0, (va_up F 0 (nI 1), C, R, T))

set_option maxHeartbeats 4000000 in
set_option maxRecDepth 100000 in
/-- state -/
theorem qX4_state (l : Launch) (dC : Nat → ClassId) (dI : Nat → Nat → Nat) (cy : Nat → ClassId) (ad : Nat → Nat) (F : Nat → Int32) (C : Nat → Nat) (R : Nat → Nat → Int32) (T : Nat → Nat → Nat) (sz : Nat) (a : Int32) (hC : C 14 ≤ 100) : Met l yX4_state wsX4_state ({ frames := 2, cells := 0, slots := 0, locals := 43 }) (va_Pc [.ref ((ad 0)), .int a] (wPre (dC, dI) (tyL cy) (mw ad cy F C R T) sz)) (QI (dC, dI) (tyL cy) (fun (r : Int32) (u : MS) => (r, u) = M_state F C R T a) (mwU ad cy) (va_A (mw ad cy F C R T) sz)) 0 0 (va_A (mw ad cy F C R T) sz) := by
  refine en (cc := cX4_state) (maxL := 2) (ret := (some .int)) (own := RX4) (lv := [(0, .ref ((ad 0))), (1, .int a)]) (by decide) rfl rfl (Nat.le_of_ble_eq_true rfl) rfl ?_
  intro p e s m below meth c ls A H locs hx hb hr hts hown hlocks hml hin hsz hK hP hD hS hA hl
  generalize hQQ : MQ below _ _ s _ _ A = QQ
  have inM : ∀ w ∈ wsX40, w ∈ wsX4_state := fun _ h => List.mem_cons_of_mem _ (List.mem_append_right _ h)
  have lk0 : (Cond.fieldLink RX4 65 "ClauseShopModel" "thrown" "I").before (([.ref ((ad 0)), .int a] : List Value).toArray) s = true := hts _ (List.mem_of_getElem? (i := 1) rfl)
  have lk1 : (Cond.fieldLink RX4 56 "ClauseShopModel" "state" "[I").before (([.ref ((ad 0)), .int a] : List Value).toArray) s = true := hts _ (List.mem_of_getElem? (i := 2) rfl)
  refine lv_aload_n hx hb dX4_state_0 rfl (lv_at hl 0 rfl) ?_
  refine lv_aload_n hx hb dX4_state_1 rfl (lv_at hl 0 rfl) ?_
  refine lv_iload_n hx hb dX4_state_2 rfl (lv_at hl 1 rfl) ?_
  refine call_i (va_runV (As := [.int a]) (rest := [.ref ((ad 0))]) ⟨hx, hb, hml, hown, hts⟩ (qX4_isDuty l dC dI cy ad F C R T H.size a) (cwV 1 hts gX4_state_X4_isDuty rfl rfl rfl (by decide +kernel) ⟨Nat.le_of_ble_eq_true rfl, Nat.le_of_ble_eq_true rfl⟩) (preV hK hP hD (w_recv (ci := 5) (q0 := 0) hK hP rfl rfl)) rfl rfl hl.1 rfl (lv_room (Nat.le_of_ble_eq_true rfl)) dX4_state_3 ⟨Nat.zero_le _, Nat.zero_le _⟩) hD hS hA (fun r_1 u H locs w_2 hP hD hS => ?_)
  obtain ⟨rfl, rfl⟩ := w_2
  have hP : va_P (dC, dI) vwCl (mw ad cy F C R T) H := hP
  have hD : va_D A (mw ad cy F C R T) := hD
  refine br_eq (tgt := 13) hx hb dX4_state_6 (by decide) (fun c_3 => ?_) (fun c_3 => ?_)
  · refine lv_iconst (v := nI 1) hx hb dX4_state_13 (by decide) ?_
    refine va_put (D := (dC, dI)) (ci := 5) (v := .int (nI 1)) (ty := .int) (C := RX4) (T := TX4) (N := 22) hx hb hts inM tyX4 tyX4_ok nmX4 hown hK hP hD hS 0 rfl rfl 0 (by decide) lk0 (fun _ h9 => h9) rfl (by decide +kernel) rfl rfl (Nat.le_of_ble_eq_true rfl) dX4_state_14 (fun H locs hP hD hS => ?_)
    have hP : va_P (dC, dI) vwCl (mw ad cy (va_up F 0 (nI 1)) C R T) H := hP
    have hD : va_D A (mw ad cy (va_up F 0 (nI 1)) C R T) := hD
    refine lv_aload_n hx hb dX4_state_17 rfl (lv_at hl 0 rfl) ?_
    refine va_get (D := (dC, dI)) (ci := 5) (v := .int (nI 1)) (C := RX4) (T := TX4) (N := 22) hx hb hts inM hown hK hP 0 rfl rfl 0 (by decide) lk0 (fun _ h9 => h9) rfl dX4_state_18 ?_
    refine lv_if_le (tgt := 28) hx hb dX4_state_21 (by decide) (fun h9 => absurd h9 (by decide)) (fun _ => ?_)
    refine lv_iconst (v := nI 0) hx hb dX4_state_24 (by decide) ?_
    refine lv_goto (tgt := 34) hx hb dX4_state_25 (by decide) ?_
    rw [← hQQ]; exact end_i (u := (va_up F 0 (nI 1), C, R, T)) hx hb hr hlocks dX4_state_34 hK hP hD hS (by simp only [M_state, c_3, isC, isCl, isSd, and_true, true_and, and_false, false_and, if_true, if_false, not_true, not_false_iff, not_false_eq_true, or_true, true_or, or_false, false_or, ite_true, ite_false, and_self, Classical.not_not, Bool.false_eq_true]; try rfl) (Nat.zero_le _) (Nat.zero_le _)
  · obtain ⟨i, hi, ex, ei⟩ := ct_ix (n := C 14) (by omega) c_3
    subst ex
    refine lv_iconst (v := nI 0) hx hb dX4_state_9 (by decide) ?_
    refine lv_goto (tgt := 14) hx hb dX4_state_10 (by decide) ?_
    refine va_put (D := (dC, dI)) (ci := 5) (v := .int (nI 0)) (ty := .int) (C := RX4) (T := TX4) (N := 22) hx hb hts inM tyX4 tyX4_ok nmX4 hown hK hP hD hS 0 rfl rfl 0 (by decide) lk0 (fun _ h9 => h9) rfl (by decide +kernel) rfl rfl (Nat.le_of_ble_eq_true rfl) dX4_state_14 (fun H locs hP hD hS => ?_)
    have hP : va_P (dC, dI) vwCl (mw ad cy (va_up F 0 (nI 0)) C R T) H := hP
    have hD : va_D A (mw ad cy (va_up F 0 (nI 0)) C R T) := hD
    refine lv_aload_n hx hb dX4_state_17 rfl (lv_at hl 0 rfl) ?_
    refine va_get (D := (dC, dI)) (ci := 5) (v := .int (nI 0)) (C := RX4) (T := TX4) (N := 22) hx hb hts inM hown hK hP 0 rfl rfl 0 (by decide) lk0 (fun _ h9 => h9) rfl dX4_state_18 ?_
    refine lv_if_le (tgt := 28) hx hb dX4_state_21 (by decide) (fun _ => ?_) (fun h9 => absurd h9 (by decide))
    refine lv_aload_n hx hb dX4_state_28 rfl (lv_at hl 0 rfl) ?_
    refine va_get (D := (dC, dI)) (ci := 5) (v := .ref ((ad 19))) (C := RX4) (T := TX4) (N := 22) hx hb hts inM hown hK hP 0 rfl rfl 19 (by decide) lk1 (fun _ h9 => h9) rfl dX4_state_29 ?_
    refine lv_iload_n hx hb dX4_state_32 rfl (lv_at hl 1 rfl) ?_
    refine x_iald (f := R 19) hx hb hK hP 16 0 rfl rfl (t := i) (by omega) (by decide) dX4_state_33 ?_
    rw [← hQQ]; exact end_i (u := (va_up F 0 (nI 0), C, R, T)) hx hb hr hlocks dX4_state_34 hK hP hD hS (by simp only [M_state, eq_true c_3, ei, isC, isCl, isSd, and_true, true_and, and_false, false_and, if_true, if_false, not_true, not_false_iff, not_false_eq_true, or_true, true_or, or_false, false_or, ite_true, ite_false, and_self, Classical.not_not, Bool.false_eq_true]; try rfl) (Nat.zero_le _) (Nat.zero_le _)

def M_day (F : Nat → Int32) (C : Nat → Nat) (R : Nat → Nat → Int32) (T : Nat → Nat → Nat) (a : Int32) : Int32 × MS :=
  if isC C 14 a then (R 20 (ix a), (va_up F 0 (nI 0), C, R, T)) else (nI 0, (va_up F 0 (nI 1), C, R, T))

set_option maxHeartbeats 4000000 in
set_option maxRecDepth 100000 in
/-- day -/
theorem qX4_day (l : Launch) (dC : Nat → ClassId) (dI : Nat → Nat → Nat) (cy : Nat → ClassId) (ad : Nat → Nat) (F : Nat → Int32) (C : Nat → Nat) (R : Nat → Nat → Int32) (T : Nat → Nat → Nat) (sz : Nat) (a : Int32) (hC : C 14 ≤ 100) : Met l yX4_day wsX4_day ({ frames := 2, cells := 0, slots := 0, locals := 43 }) (va_Pc [.ref ((ad 0)), .int a] (wPre (dC, dI) (tyL cy) (mw ad cy F C R T) sz)) (QI (dC, dI) (tyL cy) (fun (r : Int32) (u : MS) => (r, u) = M_day F C R T a) (mwU ad cy) (va_A (mw ad cy F C R T) sz)) 0 0 (va_A (mw ad cy F C R T) sz) := by
  refine en (cc := cX4_day) (maxL := 2) (ret := (some .int)) (own := RX4) (lv := [(0, .ref ((ad 0))), (1, .int a)]) (by decide) rfl rfl (Nat.le_of_ble_eq_true rfl) rfl ?_
  intro p e s m below meth c ls A H locs hx hb hr hts hown hlocks hml hin hsz hK hP hD hS hA hl
  generalize hQQ : MQ below _ _ s _ _ A = QQ
  have inM : ∀ w ∈ wsX40, w ∈ wsX4_day := fun _ h => List.mem_cons_of_mem _ (List.mem_append_right _ h)
  have lk0 : (Cond.fieldLink RX4 65 "ClauseShopModel" "thrown" "I").before (([.ref ((ad 0)), .int a] : List Value).toArray) s = true := hts _ (List.mem_of_getElem? (i := 1) rfl)
  have lk1 : (Cond.fieldLink RX4 59 "ClauseShopModel" "counts" "[I").before (([.ref ((ad 0)), .int a] : List Value).toArray) s = true := hts _ (List.mem_of_getElem? (i := 2) rfl)
  refine lv_aload_n hx hb dX4_day_0 rfl (lv_at hl 0 rfl) ?_
  refine lv_aload_n hx hb dX4_day_1 rfl (lv_at hl 0 rfl) ?_
  refine lv_iload_n hx hb dX4_day_2 rfl (lv_at hl 1 rfl) ?_
  refine call_i (va_runV (As := [.int a]) (rest := [.ref ((ad 0))]) ⟨hx, hb, hml, hown, hts⟩ (qX4_isDuty l dC dI cy ad F C R T H.size a) (cwV 1 hts gX4_day_X4_isDuty rfl rfl rfl (by decide +kernel) ⟨Nat.le_of_ble_eq_true rfl, Nat.le_of_ble_eq_true rfl⟩) (preV hK hP hD (w_recv (ci := 5) (q0 := 0) hK hP rfl rfl)) rfl rfl hl.1 rfl (lv_room (Nat.le_of_ble_eq_true rfl)) dX4_day_3 ⟨Nat.zero_le _, Nat.zero_le _⟩) hD hS hA (fun r_1 u H locs w_2 hP hD hS => ?_)
  obtain ⟨rfl, rfl⟩ := w_2
  have hP : va_P (dC, dI) vwCl (mw ad cy F C R T) H := hP
  have hD : va_D A (mw ad cy F C R T) := hD
  refine br_eq (tgt := 13) hx hb dX4_day_6 (by decide) (fun c_3 => ?_) (fun c_3 => ?_)
  · refine lv_iconst (v := nI 1) hx hb dX4_day_13 (by decide) ?_
    refine va_put (D := (dC, dI)) (ci := 5) (v := .int (nI 1)) (ty := .int) (C := RX4) (T := TX4) (N := 22) hx hb hts inM tyX4 tyX4_ok nmX4 hown hK hP hD hS 0 rfl rfl 0 (by decide) lk0 (fun _ h9 => h9) rfl (by decide +kernel) rfl rfl (Nat.le_of_ble_eq_true rfl) dX4_day_14 (fun H locs hP hD hS => ?_)
    have hP : va_P (dC, dI) vwCl (mw ad cy (va_up F 0 (nI 1)) C R T) H := hP
    have hD : va_D A (mw ad cy (va_up F 0 (nI 1)) C R T) := hD
    refine lv_aload_n hx hb dX4_day_17 rfl (lv_at hl 0 rfl) ?_
    refine va_get (D := (dC, dI)) (ci := 5) (v := .int (nI 1)) (C := RX4) (T := TX4) (N := 22) hx hb hts inM hown hK hP 0 rfl rfl 0 (by decide) lk0 (fun _ h9 => h9) rfl dX4_day_18 ?_
    refine lv_if_le (tgt := 28) hx hb dX4_day_21 (by decide) (fun h9 => absurd h9 (by decide)) (fun _ => ?_)
    refine lv_iconst (v := nI 0) hx hb dX4_day_24 (by decide) ?_
    refine lv_goto (tgt := 34) hx hb dX4_day_25 (by decide) ?_
    rw [← hQQ]; exact end_i (u := (va_up F 0 (nI 1), C, R, T)) hx hb hr hlocks dX4_day_34 hK hP hD hS (by simp only [M_day, c_3, isC, isCl, isSd, and_true, true_and, and_false, false_and, if_true, if_false, not_true, not_false_iff, not_false_eq_true, or_true, true_or, or_false, false_or, ite_true, ite_false, and_self, Classical.not_not, Bool.false_eq_true]; try rfl) (Nat.zero_le _) (Nat.zero_le _)
  · obtain ⟨i, hi, ex, ei⟩ := ct_ix (n := C 14) (by omega) c_3
    subst ex
    refine lv_iconst (v := nI 0) hx hb dX4_day_9 (by decide) ?_
    refine lv_goto (tgt := 14) hx hb dX4_day_10 (by decide) ?_
    refine va_put (D := (dC, dI)) (ci := 5) (v := .int (nI 0)) (ty := .int) (C := RX4) (T := TX4) (N := 22) hx hb hts inM tyX4 tyX4_ok nmX4 hown hK hP hD hS 0 rfl rfl 0 (by decide) lk0 (fun _ h9 => h9) rfl (by decide +kernel) rfl rfl (Nat.le_of_ble_eq_true rfl) dX4_day_14 (fun H locs hP hD hS => ?_)
    have hP : va_P (dC, dI) vwCl (mw ad cy (va_up F 0 (nI 0)) C R T) H := hP
    have hD : va_D A (mw ad cy (va_up F 0 (nI 0)) C R T) := hD
    refine lv_aload_n hx hb dX4_day_17 rfl (lv_at hl 0 rfl) ?_
    refine va_get (D := (dC, dI)) (ci := 5) (v := .int (nI 0)) (C := RX4) (T := TX4) (N := 22) hx hb hts inM hown hK hP 0 rfl rfl 0 (by decide) lk0 (fun _ h9 => h9) rfl dX4_day_18 ?_
    refine lv_if_le (tgt := 28) hx hb dX4_day_21 (by decide) (fun _ => ?_) (fun h9 => absurd h9 (by decide))
    refine lv_aload_n hx hb dX4_day_28 rfl (lv_at hl 0 rfl) ?_
    refine va_get (D := (dC, dI)) (ci := 5) (v := .ref ((ad 20))) (C := RX4) (T := TX4) (N := 22) hx hb hts inM hown hK hP 0 rfl rfl 20 (by decide) lk1 (fun _ h9 => h9) rfl dX4_day_29 ?_
    refine lv_iload_n hx hb dX4_day_32 rfl (lv_at hl 1 rfl) ?_
    refine x_iald (f := R 20) hx hb hK hP 17 0 rfl rfl (t := i) (by omega) (by decide) dX4_day_33 ?_
    rw [← hQQ]; exact end_i (u := (va_up F 0 (nI 0), C, R, T)) hx hb hr hlocks dX4_day_34 hK hP hD hS (by simp only [M_day, eq_true c_3, ei, isC, isCl, isSd, and_true, true_and, and_false, false_and, if_true, if_false, not_true, not_false_iff, not_false_eq_true, or_true, true_or, or_false, false_or, ite_true, ite_false, and_self, Classical.not_not, Bool.false_eq_true]; try rfl) (Nat.zero_le _) (Nat.zero_le _)

def M_perform (F : Nat → Int32) (C : Nat → Nat) (R : Nat → Nat → Int32) (T : Nat → Nat → Nat) (a : Int32) : Int32 × MS :=
  if isC C 14 a then
    (if R 19 (ix a) = 0 ∨ R 19 (ix a) = nI 2 then
      (if R 19 (ix a) = nI 2 ∨ ¬ F 1 ≤ R 20 (ix a) then nI 1 else nI 0, (va_up F 0 (nI 0), C, va_up (va_up R 19 (upd (R 19) (ix a) (nI 1))) 20 (upd (R 20) (ix a) (F 1)), T))
    else (nI 0, (va_up F 0 (nI 2), C, R, T)))
  else (nI 0, (va_up F 0 (nI 1), C, R, T))

set_option maxHeartbeats 4000000 in
set_option maxRecDepth 100000 in
/-- perform -/
theorem qX4_perform (l : Launch) (dC : Nat → ClassId) (dI : Nat → Nat → Nat) (cy : Nat → ClassId) (ad : Nat → Nat) (F : Nat → Int32) (C : Nat → Nat) (R : Nat → Nat → Int32) (T : Nat → Nat → Nat) (sz : Nat) (a : Int32) (hC : C 14 ≤ 100) : Met l yX4_perform wsX4_perform ({ frames := 2, cells := 0, slots := 0, locals := 43 }) (va_Pc [.ref ((ad 0)), .int a] (wPre (dC, dI) (tyL cy) (mw ad cy F C R T) sz)) (QI (dC, dI) (tyL cy) (fun (r : Int32) (u : MS) => (r, u) = M_perform F C R T a) (mwU ad cy) (va_A (mw ad cy F C R T) sz)) 0 0 (va_A (mw ad cy F C R T) sz) := by
  refine en (cc := cX4_perform) (maxL := 3) (ret := (some .boolean)) (own := RX4) (lv := [(0, .ref ((ad 0))), (1, .int a)]) (by decide) rfl rfl (Nat.le_of_ble_eq_true rfl) rfl ?_
  intro p e s m below meth c ls A H locs hx hb hr hts hown hlocks hml hin hsz hK hP hD hS hA hl
  generalize hQQ : MQ below _ _ s _ _ A = QQ
  have inM : ∀ w ∈ wsX40, w ∈ wsX4_perform := fun _ h => List.mem_cons_of_mem _ (List.mem_append_right _ h)
  have lk0 : (Cond.fieldLink RX4 56 "ClauseShopModel" "state" "[I").before (([.ref ((ad 0)), .int a] : List Value).toArray) s = true := hts _ (List.mem_of_getElem? (i := 1) rfl)
  have lk1 : (Cond.fieldLink RX4 65 "ClauseShopModel" "thrown" "I").before (([.ref ((ad 0)), .int a] : List Value).toArray) s = true := hts _ (List.mem_of_getElem? (i := 2) rfl)
  have lk2 : (Cond.fieldLink RX4 59 "ClauseShopModel" "counts" "[I").before (([.ref ((ad 0)), .int a] : List Value).toArray) s = true := hts _ (List.mem_of_getElem? (i := 4) rfl)
  have lk3 : (Cond.fieldLink RX4 97 "ClauseShopModel" "day" "I").before (([.ref ((ad 0)), .int a] : List Value).toArray) s = true := hts _ (List.mem_of_getElem? (i := 3) rfl)
  refine lv_aload_n hx hb dX4_perform_0 rfl (lv_at hl 0 rfl) ?_
  refine lv_aload_n hx hb dX4_perform_1 rfl (lv_at hl 0 rfl) ?_
  refine lv_iload_n hx hb dX4_perform_2 rfl (lv_at hl 1 rfl) ?_
  refine call_i (va_runV (As := [.int a]) (rest := [.ref ((ad 0))]) ⟨hx, hb, hml, hown, hts⟩ (qX4_isDuty l dC dI cy ad F C R T H.size a) (cwV 1 hts gX4_perform_X4_isDuty rfl rfl rfl (by decide +kernel) ⟨Nat.le_of_ble_eq_true rfl, Nat.le_of_ble_eq_true rfl⟩) (preV hK hP hD (w_recv (ci := 5) (q0 := 0) hK hP rfl rfl)) rfl rfl hl.1 rfl (lv_room (Nat.le_of_ble_eq_true rfl)) dX4_perform_3 ⟨Nat.zero_le _, Nat.zero_le _⟩) hD hS hA (fun r_1 u H locs w_2 hP hD hS => ?_)
  obtain ⟨rfl, rfl⟩ := w_2
  have hP : va_P (dC, dI) vwCl (mw ad cy F C R T) H := hP
  have hD : va_D A (mw ad cy F C R T) := hD
  refine br_ne (tgt := 13) hx hb dX4_perform_6 (by decide) (fun c_3 => ?_) (fun c_3 => ?_)
  · obtain ⟨i, hi, ex, ei⟩ := ct_ix (n := C 14) (by omega) c_3
    subst ex
    refine lv_aload_n hx hb dX4_perform_13 rfl (lv_at hl 0 rfl) ?_
    refine va_get (D := (dC, dI)) (ci := 5) (v := .ref ((ad 19))) (C := RX4) (T := TX4) (N := 22) hx hb hts inM hown hK hP 0 rfl rfl 19 (by decide) lk0 (fun _ h9 => h9) rfl dX4_perform_14 ?_
    refine lv_iload_n hx hb dX4_perform_17 rfl (lv_at hl 1 rfl) ?_
    refine x_iald (f := R 19) hx hb hK hP 16 0 rfl rfl (t := i) (by omega) (by decide) dX4_perform_18 ?_
    refine lv_if_eq (tgt := 32) hx hb dX4_perform_19 (by decide) (fun c_4 => ?_) (fun c_4 => ?_)
    · refine lv_iconst (v := nI 0) hx hb dX4_perform_32 (by decide) ?_
      refine lv_goto (tgt := 37) hx hb dX4_perform_33 (by decide) ?_
      refine va_put (D := (dC, dI)) (ci := 5) (v := .int (nI 0)) (ty := .int) (C := RX4) (T := TX4) (N := 22) hx hb hts inM tyX4 tyX4_ok nmX4 hown hK hP hD hS 0 rfl rfl 0 (by decide) lk1 (fun _ h9 => h9) rfl (by decide +kernel) rfl rfl (Nat.le_of_ble_eq_true rfl) dX4_perform_37 (fun H locs hP hD hS => ?_)
      have hP : va_P (dC, dI) vwCl (mw ad cy (va_up F 0 (nI 0)) C R T) H := hP
      have hD : va_D A (mw ad cy (va_up F 0 (nI 0)) C R T) := hD
      refine lv_aload_n hx hb dX4_perform_40 rfl (lv_at hl 0 rfl) ?_
      refine va_get (D := (dC, dI)) (ci := 5) (v := .int (nI 0)) (C := RX4) (T := TX4) (N := 22) hx hb hts inM hown hK hP 0 rfl rfl 0 (by decide) lk1 (fun _ h9 => h9) rfl dX4_perform_41 ?_
      refine lv_if_le (tgt := 49) hx hb dX4_perform_44 (by decide) (fun _ => ?_) (fun h9 => absurd h9 (by decide))
      refine lv_aload_n hx hb dX4_perform_49 rfl (lv_at hl 0 rfl) ?_
      refine va_get (D := (dC, dI)) (ci := 5) (v := .ref ((ad 19))) (C := RX4) (T := TX4) (N := 22) hx hb hts inM hown hK hP 0 rfl rfl 19 (by decide) lk0 (fun _ h9 => h9) rfl dX4_perform_50 ?_
      refine lv_iload_n hx hb dX4_perform_53 rfl (lv_at hl 1 rfl) ?_
      refine x_iald (f := R 19) hx hb hK hP 16 0 rfl rfl (t := i) (by omega) (by decide) dX4_perform_54 ?_
      refine lv_iconst (v := nI 2) hx hb dX4_perform_55 (by decide) ?_
      refine lv_icmp_eq (tgt := 72) hx hb dX4_perform_56 (by decide) (fun c_6 => ?_) (fun c_6 => ?_)
      · refine lv_iconst (v := nI 1) hx hb dX4_perform_72 (by decide) ?_
        refine lv_goto (tgt := 77) hx hb dX4_perform_73 (by decide) ?_
        refine lv_istore_n (lv' := [(2, .int (nI 1)), (0, .ref ((ad 0))), (1, .int (nI i))]) hx hb dX4_perform_77 rfl hl (by decide) rfl (fun ls hl => ?_)
        refine lv_aload_n hx hb dX4_perform_78 rfl (lv_at hl 1 rfl) ?_
        refine va_get (D := (dC, dI)) (ci := 5) (v := .ref ((ad 19))) (C := RX4) (T := TX4) (N := 22) hx hb hts inM hown hK hP 0 rfl rfl 19 (by decide) lk0 (fun _ h9 => h9) rfl dX4_perform_79 ?_
        refine lv_iload_n hx hb dX4_perform_82 rfl (lv_at hl 2 rfl) ?_
        refine lv_iconst (v := nI 1) hx hb dX4_perform_83 (by decide) ?_
        refine x_iast hx hb hK hP hD hS 16 0 rfl rfl (t := i) (x := (nI 1)) (by omega) (by decide) dX4_perform_84 (fun H locs hP hD hS => ?_)
        have hP : va_P (dC, dI) vwCl (mw ad cy (va_up F 0 (nI 0)) C (va_up R 19 (upd (R 19) i (nI 1))) T) H := hP
        have hD : va_D A (mw ad cy (va_up F 0 (nI 0)) C (va_up R 19 (upd (R 19) i (nI 1))) T) := hD
        refine lv_aload_n hx hb dX4_perform_85 rfl (lv_at hl 1 rfl) ?_
        refine va_get (D := (dC, dI)) (ci := 5) (v := .ref ((ad 20))) (C := RX4) (T := TX4) (N := 22) hx hb hts inM hown hK hP 0 rfl rfl 20 (by decide) lk2 (fun _ h9 => h9) rfl dX4_perform_86 ?_
        refine lv_iload_n hx hb dX4_perform_89 rfl (lv_at hl 2 rfl) ?_
        refine lv_aload_n hx hb dX4_perform_90 rfl (lv_at hl 1 rfl) ?_
        refine va_get (D := (dC, dI)) (ci := 5) (v := .int (F 1)) (C := RX4) (T := TX4) (N := 22) hx hb hts inM hown hK hP 0 rfl rfl 1 (by decide) lk3 (fun _ h9 => h9) rfl dX4_perform_91 ?_
        refine x_iast hx hb hK hP hD hS 17 0 rfl rfl (t := i) (x := (F 1)) (by omega) (by decide) dX4_perform_94 (fun H locs hP hD hS => ?_)
        have hP : va_P (dC, dI) vwCl (mw ad cy (va_up F 0 (nI 0)) C (va_up (va_up R 19 (upd (R 19) i (nI 1))) 20 (upd (R 20) i (F 1))) T) H := hP
        have hD : va_D A (mw ad cy (va_up F 0 (nI 0)) C (va_up (va_up R 19 (upd (R 19) i (nI 1))) 20 (upd (R 20) i (F 1))) T) := hD
        refine lv_iload_n hx hb dX4_perform_95 rfl (lv_at hl 0 rfl) ?_
        rw [← hQQ]; exact end_z (u := (va_up F 0 (nI 0), C, va_up (va_up R 19 (upd (R 19) i (nI 1))) 20 (upd (R 20) i (F 1)), T)) hx hb hr hlocks dX4_perform_96 hK hP hD hS (by rfl) (by simp only [M_perform, eq_true c_3, eq_true c_4, eq_true c_6, ei, isC, isCl, isSd, and_true, true_and, and_false, false_and, if_true, if_false, not_true, not_false_iff, not_false_eq_true, or_true, true_or, or_false, false_or, ite_true, ite_false, and_self, Classical.not_not, Bool.false_eq_true]; try rfl) (Nat.zero_le _) (Nat.zero_le _)
      · refine lv_aload_n hx hb dX4_perform_59 rfl (lv_at hl 0 rfl) ?_
        refine va_get (D := (dC, dI)) (ci := 5) (v := .int (F 1)) (C := RX4) (T := TX4) (N := 22) hx hb hts inM hown hK hP 0 rfl rfl 1 (by decide) lk3 (fun _ h9 => h9) rfl dX4_perform_60 ?_
        refine lv_aload_n hx hb dX4_perform_63 rfl (lv_at hl 0 rfl) ?_
        refine va_get (D := (dC, dI)) (ci := 5) (v := .ref ((ad 20))) (C := RX4) (T := TX4) (N := 22) hx hb hts inM hown hK hP 0 rfl rfl 20 (by decide) lk2 (fun _ h9 => h9) rfl dX4_perform_64 ?_
        refine lv_iload_n hx hb dX4_perform_67 rfl (lv_at hl 1 rfl) ?_
        refine x_iald (f := R 20) hx hb hK hP 17 0 rfl rfl (t := i) (by omega) (by decide) dX4_perform_68 ?_
        refine lv_icmp_le (tgt := 76) hx hb dX4_perform_69 (by decide) (fun c_7 => ?_) (fun c_7 => ?_)
        · refine lv_iconst (v := nI 0) hx hb dX4_perform_76 (by decide) ?_
          refine lv_istore_n (lv' := [(2, .int (nI 0)), (0, .ref ((ad 0))), (1, .int (nI i))]) hx hb dX4_perform_77 rfl hl (by decide) rfl (fun ls hl => ?_)
          refine lv_aload_n hx hb dX4_perform_78 rfl (lv_at hl 1 rfl) ?_
          refine va_get (D := (dC, dI)) (ci := 5) (v := .ref ((ad 19))) (C := RX4) (T := TX4) (N := 22) hx hb hts inM hown hK hP 0 rfl rfl 19 (by decide) lk0 (fun _ h9 => h9) rfl dX4_perform_79 ?_
          refine lv_iload_n hx hb dX4_perform_82 rfl (lv_at hl 2 rfl) ?_
          refine lv_iconst (v := nI 1) hx hb dX4_perform_83 (by decide) ?_
          refine x_iast hx hb hK hP hD hS 16 0 rfl rfl (t := i) (x := (nI 1)) (by omega) (by decide) dX4_perform_84 (fun H locs hP hD hS => ?_)
          have hP : va_P (dC, dI) vwCl (mw ad cy (va_up F 0 (nI 0)) C (va_up R 19 (upd (R 19) i (nI 1))) T) H := hP
          have hD : va_D A (mw ad cy (va_up F 0 (nI 0)) C (va_up R 19 (upd (R 19) i (nI 1))) T) := hD
          refine lv_aload_n hx hb dX4_perform_85 rfl (lv_at hl 1 rfl) ?_
          refine va_get (D := (dC, dI)) (ci := 5) (v := .ref ((ad 20))) (C := RX4) (T := TX4) (N := 22) hx hb hts inM hown hK hP 0 rfl rfl 20 (by decide) lk2 (fun _ h9 => h9) rfl dX4_perform_86 ?_
          refine lv_iload_n hx hb dX4_perform_89 rfl (lv_at hl 2 rfl) ?_
          refine lv_aload_n hx hb dX4_perform_90 rfl (lv_at hl 1 rfl) ?_
          refine va_get (D := (dC, dI)) (ci := 5) (v := .int (F 1)) (C := RX4) (T := TX4) (N := 22) hx hb hts inM hown hK hP 0 rfl rfl 1 (by decide) lk3 (fun _ h9 => h9) rfl dX4_perform_91 ?_
          refine x_iast hx hb hK hP hD hS 17 0 rfl rfl (t := i) (x := (F 1)) (by omega) (by decide) dX4_perform_94 (fun H locs hP hD hS => ?_)
          have hP : va_P (dC, dI) vwCl (mw ad cy (va_up F 0 (nI 0)) C (va_up (va_up R 19 (upd (R 19) i (nI 1))) 20 (upd (R 20) i (F 1))) T) H := hP
          have hD : va_D A (mw ad cy (va_up F 0 (nI 0)) C (va_up (va_up R 19 (upd (R 19) i (nI 1))) 20 (upd (R 20) i (F 1))) T) := hD
          refine lv_iload_n hx hb dX4_perform_95 rfl (lv_at hl 0 rfl) ?_
          rw [← hQQ]; exact end_z (u := (va_up F 0 (nI 0), C, va_up (va_up R 19 (upd (R 19) i (nI 1))) 20 (upd (R 20) i (F 1)), T)) hx hb hr hlocks dX4_perform_96 hK hP hD hS (by rfl) (by simp only [M_perform, eq_true c_3, eq_true c_4, c_6, eq_true c_7, ei, isC, isCl, isSd, and_true, true_and, and_false, false_and, if_true, if_false, not_true, not_false_iff, not_false_eq_true, or_true, true_or, or_false, false_or, ite_true, ite_false, and_self, Classical.not_not, Bool.false_eq_true]; try rfl) (Nat.zero_le _) (Nat.zero_le _)
        · refine lv_iconst (v := nI 1) hx hb dX4_perform_72 (by decide) ?_
          refine lv_goto (tgt := 77) hx hb dX4_perform_73 (by decide) ?_
          refine lv_istore_n (lv' := [(2, .int (nI 1)), (0, .ref ((ad 0))), (1, .int (nI i))]) hx hb dX4_perform_77 rfl hl (by decide) rfl (fun ls hl => ?_)
          refine lv_aload_n hx hb dX4_perform_78 rfl (lv_at hl 1 rfl) ?_
          refine va_get (D := (dC, dI)) (ci := 5) (v := .ref ((ad 19))) (C := RX4) (T := TX4) (N := 22) hx hb hts inM hown hK hP 0 rfl rfl 19 (by decide) lk0 (fun _ h9 => h9) rfl dX4_perform_79 ?_
          refine lv_iload_n hx hb dX4_perform_82 rfl (lv_at hl 2 rfl) ?_
          refine lv_iconst (v := nI 1) hx hb dX4_perform_83 (by decide) ?_
          refine x_iast hx hb hK hP hD hS 16 0 rfl rfl (t := i) (x := (nI 1)) (by omega) (by decide) dX4_perform_84 (fun H locs hP hD hS => ?_)
          have hP : va_P (dC, dI) vwCl (mw ad cy (va_up F 0 (nI 0)) C (va_up R 19 (upd (R 19) i (nI 1))) T) H := hP
          have hD : va_D A (mw ad cy (va_up F 0 (nI 0)) C (va_up R 19 (upd (R 19) i (nI 1))) T) := hD
          refine lv_aload_n hx hb dX4_perform_85 rfl (lv_at hl 1 rfl) ?_
          refine va_get (D := (dC, dI)) (ci := 5) (v := .ref ((ad 20))) (C := RX4) (T := TX4) (N := 22) hx hb hts inM hown hK hP 0 rfl rfl 20 (by decide) lk2 (fun _ h9 => h9) rfl dX4_perform_86 ?_
          refine lv_iload_n hx hb dX4_perform_89 rfl (lv_at hl 2 rfl) ?_
          refine lv_aload_n hx hb dX4_perform_90 rfl (lv_at hl 1 rfl) ?_
          refine va_get (D := (dC, dI)) (ci := 5) (v := .int (F 1)) (C := RX4) (T := TX4) (N := 22) hx hb hts inM hown hK hP 0 rfl rfl 1 (by decide) lk3 (fun _ h9 => h9) rfl dX4_perform_91 ?_
          refine x_iast hx hb hK hP hD hS 17 0 rfl rfl (t := i) (x := (F 1)) (by omega) (by decide) dX4_perform_94 (fun H locs hP hD hS => ?_)
          have hP : va_P (dC, dI) vwCl (mw ad cy (va_up F 0 (nI 0)) C (va_up (va_up R 19 (upd (R 19) i (nI 1))) 20 (upd (R 20) i (F 1))) T) H := hP
          have hD : va_D A (mw ad cy (va_up F 0 (nI 0)) C (va_up (va_up R 19 (upd (R 19) i (nI 1))) 20 (upd (R 20) i (F 1))) T) := hD
          refine lv_iload_n hx hb dX4_perform_95 rfl (lv_at hl 0 rfl) ?_
          rw [← hQQ]; exact end_z (u := (va_up F 0 (nI 0), C, va_up (va_up R 19 (upd (R 19) i (nI 1))) 20 (upd (R 20) i (F 1)), T)) hx hb hr hlocks dX4_perform_96 hK hP hD hS (by rfl) (by simp only [M_perform, eq_true c_3, eq_true c_4, c_6, c_7, ei, isC, isCl, isSd, and_true, true_and, and_false, false_and, if_true, if_false, not_true, not_false_iff, not_false_eq_true, or_true, true_or, or_false, false_or, ite_true, ite_false, and_self, Classical.not_not, Bool.false_eq_true]; try rfl) (Nat.zero_le _) (Nat.zero_le _)
    · refine lv_aload_n hx hb dX4_perform_22 rfl (lv_at hl 0 rfl) ?_
      refine va_get (D := (dC, dI)) (ci := 5) (v := .ref ((ad 19))) (C := RX4) (T := TX4) (N := 22) hx hb hts inM hown hK hP 0 rfl rfl 19 (by decide) lk0 (fun _ h9 => h9) rfl dX4_perform_23 ?_
      refine lv_iload_n hx hb dX4_perform_26 rfl (lv_at hl 1 rfl) ?_
      refine x_iald (f := R 19) hx hb hK hP 16 0 rfl rfl (t := i) (by omega) (by decide) dX4_perform_27 ?_
      refine lv_iconst (v := nI 2) hx hb dX4_perform_28 (by decide) ?_
      refine lv_icmp_ne (tgt := 36) hx hb dX4_perform_29 (by decide) (fun c_8 => ?_) (fun c_8 => ?_)
      · refine lv_iconst (v := nI 2) hx hb dX4_perform_36 (by decide) ?_
        refine va_put (D := (dC, dI)) (ci := 5) (v := .int (nI 2)) (ty := .int) (C := RX4) (T := TX4) (N := 22) hx hb hts inM tyX4 tyX4_ok nmX4 hown hK hP hD hS 0 rfl rfl 0 (by decide) lk1 (fun _ h9 => h9) rfl (by decide +kernel) rfl rfl (Nat.le_of_ble_eq_true rfl) dX4_perform_37 (fun H locs hP hD hS => ?_)
        have hP : va_P (dC, dI) vwCl (mw ad cy (va_up F 0 (nI 2)) C R T) H := hP
        have hD : va_D A (mw ad cy (va_up F 0 (nI 2)) C R T) := hD
        refine lv_aload_n hx hb dX4_perform_40 rfl (lv_at hl 0 rfl) ?_
        refine va_get (D := (dC, dI)) (ci := 5) (v := .int (nI 2)) (C := RX4) (T := TX4) (N := 22) hx hb hts inM hown hK hP 0 rfl rfl 0 (by decide) lk1 (fun _ h9 => h9) rfl dX4_perform_41 ?_
        refine lv_if_le (tgt := 49) hx hb dX4_perform_44 (by decide) (fun h9 => absurd h9 (by decide)) (fun _ => ?_)
        refine lv_iconst (v := nI 0) hx hb dX4_perform_47 (by decide) ?_
        rw [← hQQ]; exact end_z (u := (va_up F 0 (nI 2), C, R, T)) hx hb hr hlocks dX4_perform_48 hK hP hD hS (by rfl) (by simp only [M_perform, eq_true c_3, c_4, c_8, ei, isC, isCl, isSd, and_true, true_and, and_false, false_and, if_true, if_false, not_true, not_false_iff, not_false_eq_true, or_true, true_or, or_false, false_or, ite_true, ite_false, and_self, Classical.not_not, Bool.false_eq_true]; try rfl) (Nat.zero_le _) (Nat.zero_le _)
      · refine lv_iconst (v := nI 0) hx hb dX4_perform_32 (by decide) ?_
        refine lv_goto (tgt := 37) hx hb dX4_perform_33 (by decide) ?_
        refine va_put (D := (dC, dI)) (ci := 5) (v := .int (nI 0)) (ty := .int) (C := RX4) (T := TX4) (N := 22) hx hb hts inM tyX4 tyX4_ok nmX4 hown hK hP hD hS 0 rfl rfl 0 (by decide) lk1 (fun _ h9 => h9) rfl (by decide +kernel) rfl rfl (Nat.le_of_ble_eq_true rfl) dX4_perform_37 (fun H locs hP hD hS => ?_)
        have hP : va_P (dC, dI) vwCl (mw ad cy (va_up F 0 (nI 0)) C R T) H := hP
        have hD : va_D A (mw ad cy (va_up F 0 (nI 0)) C R T) := hD
        refine lv_aload_n hx hb dX4_perform_40 rfl (lv_at hl 0 rfl) ?_
        refine va_get (D := (dC, dI)) (ci := 5) (v := .int (nI 0)) (C := RX4) (T := TX4) (N := 22) hx hb hts inM hown hK hP 0 rfl rfl 0 (by decide) lk1 (fun _ h9 => h9) rfl dX4_perform_41 ?_
        refine lv_if_le (tgt := 49) hx hb dX4_perform_44 (by decide) (fun _ => ?_) (fun h9 => absurd h9 (by decide))
        refine lv_aload_n hx hb dX4_perform_49 rfl (lv_at hl 0 rfl) ?_
        refine va_get (D := (dC, dI)) (ci := 5) (v := .ref ((ad 19))) (C := RX4) (T := TX4) (N := 22) hx hb hts inM hown hK hP 0 rfl rfl 19 (by decide) lk0 (fun _ h9 => h9) rfl dX4_perform_50 ?_
        refine lv_iload_n hx hb dX4_perform_53 rfl (lv_at hl 1 rfl) ?_
        refine x_iald (f := R 19) hx hb hK hP 16 0 rfl rfl (t := i) (by omega) (by decide) dX4_perform_54 ?_
        refine lv_iconst (v := nI 2) hx hb dX4_perform_55 (by decide) ?_
        refine lv_icmp_eq (tgt := 72) hx hb dX4_perform_56 (by decide) (fun _ => ?_) (fun h9 => absurd c_8 h9)
        refine lv_iconst (v := nI 1) hx hb dX4_perform_72 (by decide) ?_
        refine lv_goto (tgt := 77) hx hb dX4_perform_73 (by decide) ?_
        refine lv_istore_n (lv' := [(2, .int (nI 1)), (0, .ref ((ad 0))), (1, .int (nI i))]) hx hb dX4_perform_77 rfl hl (by decide) rfl (fun ls hl => ?_)
        refine lv_aload_n hx hb dX4_perform_78 rfl (lv_at hl 1 rfl) ?_
        refine va_get (D := (dC, dI)) (ci := 5) (v := .ref ((ad 19))) (C := RX4) (T := TX4) (N := 22) hx hb hts inM hown hK hP 0 rfl rfl 19 (by decide) lk0 (fun _ h9 => h9) rfl dX4_perform_79 ?_
        refine lv_iload_n hx hb dX4_perform_82 rfl (lv_at hl 2 rfl) ?_
        refine lv_iconst (v := nI 1) hx hb dX4_perform_83 (by decide) ?_
        refine x_iast hx hb hK hP hD hS 16 0 rfl rfl (t := i) (x := (nI 1)) (by omega) (by decide) dX4_perform_84 (fun H locs hP hD hS => ?_)
        have hP : va_P (dC, dI) vwCl (mw ad cy (va_up F 0 (nI 0)) C (va_up R 19 (upd (R 19) i (nI 1))) T) H := hP
        have hD : va_D A (mw ad cy (va_up F 0 (nI 0)) C (va_up R 19 (upd (R 19) i (nI 1))) T) := hD
        refine lv_aload_n hx hb dX4_perform_85 rfl (lv_at hl 1 rfl) ?_
        refine va_get (D := (dC, dI)) (ci := 5) (v := .ref ((ad 20))) (C := RX4) (T := TX4) (N := 22) hx hb hts inM hown hK hP 0 rfl rfl 20 (by decide) lk2 (fun _ h9 => h9) rfl dX4_perform_86 ?_
        refine lv_iload_n hx hb dX4_perform_89 rfl (lv_at hl 2 rfl) ?_
        refine lv_aload_n hx hb dX4_perform_90 rfl (lv_at hl 1 rfl) ?_
        refine va_get (D := (dC, dI)) (ci := 5) (v := .int (F 1)) (C := RX4) (T := TX4) (N := 22) hx hb hts inM hown hK hP 0 rfl rfl 1 (by decide) lk3 (fun _ h9 => h9) rfl dX4_perform_91 ?_
        refine x_iast hx hb hK hP hD hS 17 0 rfl rfl (t := i) (x := (F 1)) (by omega) (by decide) dX4_perform_94 (fun H locs hP hD hS => ?_)
        have hP : va_P (dC, dI) vwCl (mw ad cy (va_up F 0 (nI 0)) C (va_up (va_up R 19 (upd (R 19) i (nI 1))) 20 (upd (R 20) i (F 1))) T) H := hP
        have hD : va_D A (mw ad cy (va_up F 0 (nI 0)) C (va_up (va_up R 19 (upd (R 19) i (nI 1))) 20 (upd (R 20) i (F 1))) T) := hD
        refine lv_iload_n hx hb dX4_perform_95 rfl (lv_at hl 0 rfl) ?_
        rw [← hQQ]; exact end_z (u := (va_up F 0 (nI 0), C, va_up (va_up R 19 (upd (R 19) i (nI 1))) 20 (upd (R 20) i (F 1)), T)) hx hb hr hlocks dX4_perform_96 hK hP hD hS (by rfl) (by simp only [M_perform, eq_true c_3, c_4, eq_true c_8, ei, isC, isCl, isSd, and_true, true_and, and_false, false_and, if_true, if_false, not_true, not_false_iff, not_false_eq_true, or_true, true_or, or_false, false_or, ite_true, ite_false, and_self, Classical.not_not, Bool.false_eq_true]; try rfl) (Nat.zero_le _) (Nat.zero_le _)
  · refine lv_iconst (v := nI 1) hx hb dX4_perform_9 (by decide) ?_
    refine lv_goto (tgt := 37) hx hb dX4_perform_10 (by decide) ?_
    refine va_put (D := (dC, dI)) (ci := 5) (v := .int (nI 1)) (ty := .int) (C := RX4) (T := TX4) (N := 22) hx hb hts inM tyX4 tyX4_ok nmX4 hown hK hP hD hS 0 rfl rfl 0 (by decide) lk1 (fun _ h9 => h9) rfl (by decide +kernel) rfl rfl (Nat.le_of_ble_eq_true rfl) dX4_perform_37 (fun H locs hP hD hS => ?_)
    have hP : va_P (dC, dI) vwCl (mw ad cy (va_up F 0 (nI 1)) C R T) H := hP
    have hD : va_D A (mw ad cy (va_up F 0 (nI 1)) C R T) := hD
    refine lv_aload_n hx hb dX4_perform_40 rfl (lv_at hl 0 rfl) ?_
    refine va_get (D := (dC, dI)) (ci := 5) (v := .int (nI 1)) (C := RX4) (T := TX4) (N := 22) hx hb hts inM hown hK hP 0 rfl rfl 0 (by decide) lk1 (fun _ h9 => h9) rfl dX4_perform_41 ?_
    refine lv_if_le (tgt := 49) hx hb dX4_perform_44 (by decide) (fun h9 => absurd h9 (by decide)) (fun _ => ?_)
    refine lv_iconst (v := nI 0) hx hb dX4_perform_47 (by decide) ?_
    rw [← hQQ]; exact end_z (u := (va_up F 0 (nI 1), C, R, T)) hx hb hr hlocks dX4_perform_48 hK hP hD hS (by rfl) (by simp only [M_perform, c_3, isC, isCl, isSd, and_true, true_and, and_false, false_and, if_true, if_false, not_true, not_false_iff, not_false_eq_true, or_true, true_or, or_false, false_or, ite_true, ite_false, and_self, Classical.not_not, Bool.false_eq_true]; try rfl) (Nat.zero_le _) (Nat.zero_le _)

def M_notice (F : Nat → Int32) (C : Nat → Nat) (R : Nat → Nat → Int32) (T : Nat → Nat → Nat) (a : Int32) : Int32 × MS :=
  if isC C 14 a then
    (if R 19 (ix a) = 0 ∧ ¬ F 1 ≤ R 20 (ix a) then
      (F 1 + R 17 (ix a), (va_up F 0 (nI 0), C, va_up (va_up R 19 (upd (R 19) (ix a) (nI 2))) 20 (upd (R 20) (ix a) (F 1 + R 17 (ix a))), T))
    else (nI 0, (va_up F 0 (nI 2), C, R, T)))
  else (nI 0, (va_up F 0 (nI 1), C, R, T))

set_option maxHeartbeats 4000000 in
set_option maxRecDepth 100000 in
/-- notice -/
theorem qX4_notice (l : Launch) (dC : Nat → ClassId) (dI : Nat → Nat → Nat) (cy : Nat → ClassId) (ad : Nat → Nat) (F : Nat → Int32) (C : Nat → Nat) (R : Nat → Nat → Int32) (T : Nat → Nat → Nat) (sz : Nat) (a : Int32) (hC : C 14 ≤ 100) : Met l yX4_notice wsX4_notice ({ frames := 2, cells := 0, slots := 0, locals := 43 }) (va_Pc [.ref ((ad 0)), .int a] (wPre (dC, dI) (tyL cy) (mw ad cy F C R T) sz)) (QI (dC, dI) (tyL cy) (fun (r : Int32) (u : MS) => (r, u) = M_notice F C R T a) (mwU ad cy) (va_A (mw ad cy F C R T) sz)) 0 0 (va_A (mw ad cy F C R T) sz) := by
  refine en (cc := cX4_notice) (maxL := 2) (ret := (some .int)) (own := RX4) (lv := [(0, .ref ((ad 0))), (1, .int a)]) (by decide) rfl rfl (Nat.le_of_ble_eq_true rfl) rfl ?_
  intro p e s m below meth c ls A H locs hx hb hr hts hown hlocks hml hin hsz hK hP hD hS hA hl
  generalize hQQ : MQ below _ _ s _ _ A = QQ
  have inM : ∀ w ∈ wsX40, w ∈ wsX4_notice := fun _ h => List.mem_cons_of_mem _ (List.mem_append_right _ h)
  have lk0 : (Cond.fieldLink RX4 56 "ClauseShopModel" "state" "[I").before (([.ref ((ad 0)), .int a] : List Value).toArray) s = true := hts _ (List.mem_of_getElem? (i := 1) rfl)
  have lk1 : (Cond.fieldLink RX4 65 "ClauseShopModel" "thrown" "I").before (([.ref ((ad 0)), .int a] : List Value).toArray) s = true := hts _ (List.mem_of_getElem? (i := 4) rfl)
  have lk2 : (Cond.fieldLink RX4 97 "ClauseShopModel" "day" "I").before (([.ref ((ad 0)), .int a] : List Value).toArray) s = true := hts _ (List.mem_of_getElem? (i := 2) rfl)
  have lk3 : (Cond.fieldLink RX4 59 "ClauseShopModel" "counts" "[I").before (([.ref ((ad 0)), .int a] : List Value).toArray) s = true := hts _ (List.mem_of_getElem? (i := 3) rfl)
  have lk4 : (Cond.fieldLink RX4 50 "ClauseShopModel" "itsCure" "[I").before (([.ref ((ad 0)), .int a] : List Value).toArray) s = true := hts _ (List.mem_of_getElem? (i := 5) rfl)
  refine lv_aload_n hx hb dX4_notice_0 rfl (lv_at hl 0 rfl) ?_
  refine lv_aload_n hx hb dX4_notice_1 rfl (lv_at hl 0 rfl) ?_
  refine lv_iload_n hx hb dX4_notice_2 rfl (lv_at hl 1 rfl) ?_
  refine call_i (va_runV (As := [.int a]) (rest := [.ref ((ad 0))]) ⟨hx, hb, hml, hown, hts⟩ (qX4_isDuty l dC dI cy ad F C R T H.size a) (cwV 1 hts gX4_notice_X4_isDuty rfl rfl rfl (by decide +kernel) ⟨Nat.le_of_ble_eq_true rfl, Nat.le_of_ble_eq_true rfl⟩) (preV hK hP hD (w_recv (ci := 5) (q0 := 0) hK hP rfl rfl)) rfl rfl hl.1 rfl (lv_room (Nat.le_of_ble_eq_true rfl)) dX4_notice_3 ⟨Nat.zero_le _, Nat.zero_le _⟩) hD hS hA (fun r_1 u H locs w_2 hP hD hS => ?_)
  obtain ⟨rfl, rfl⟩ := w_2
  have hP : va_P (dC, dI) vwCl (mw ad cy F C R T) H := hP
  have hD : va_D A (mw ad cy F C R T) := hD
  refine br_ne (tgt := 13) hx hb dX4_notice_6 (by decide) (fun c_3 => ?_) (fun c_3 => ?_)
  · obtain ⟨i, hi, ex, ei⟩ := ct_ix (n := C 14) (by omega) c_3
    subst ex
    refine lv_aload_n hx hb dX4_notice_13 rfl (lv_at hl 0 rfl) ?_
    refine va_get (D := (dC, dI)) (ci := 5) (v := .ref ((ad 19))) (C := RX4) (T := TX4) (N := 22) hx hb hts inM hown hK hP 0 rfl rfl 19 (by decide) lk0 (fun _ h9 => h9) rfl dX4_notice_14 ?_
    refine lv_iload_n hx hb dX4_notice_17 rfl (lv_at hl 1 rfl) ?_
    refine x_iald (f := R 19) hx hb hK hP 16 0 rfl rfl (t := i) (by omega) (by decide) dX4_notice_18 ?_
    refine lv_if_ne (tgt := 39) hx hb dX4_notice_19 (by decide) (fun c_4 => ?_) (fun c_4 => ?_)
    · refine lv_iconst (v := nI 2) hx hb dX4_notice_39 (by decide) ?_
      refine va_put (D := (dC, dI)) (ci := 5) (v := .int (nI 2)) (ty := .int) (C := RX4) (T := TX4) (N := 22) hx hb hts inM tyX4 tyX4_ok nmX4 hown hK hP hD hS 0 rfl rfl 0 (by decide) lk1 (fun _ h9 => h9) rfl (by decide +kernel) rfl rfl (Nat.le_of_ble_eq_true rfl) dX4_notice_40 (fun H locs hP hD hS => ?_)
      have hP : va_P (dC, dI) vwCl (mw ad cy (va_up F 0 (nI 2)) C R T) H := hP
      have hD : va_D A (mw ad cy (va_up F 0 (nI 2)) C R T) := hD
      refine lv_aload_n hx hb dX4_notice_43 rfl (lv_at hl 0 rfl) ?_
      refine va_get (D := (dC, dI)) (ci := 5) (v := .int (nI 2)) (C := RX4) (T := TX4) (N := 22) hx hb hts inM hown hK hP 0 rfl rfl 0 (by decide) lk1 (fun _ h9 => h9) rfl dX4_notice_44 ?_
      refine lv_if_le (tgt := 52) hx hb dX4_notice_47 (by decide) (fun h9 => absurd h9 (by decide)) (fun _ => ?_)
      refine lv_iconst (v := nI 0) hx hb dX4_notice_50 (by decide) ?_
      rw [← hQQ]; exact end_i (u := (va_up F 0 (nI 2), C, R, T)) hx hb hr hlocks dX4_notice_51 hK hP hD hS (by simp only [M_notice, eq_true c_3, c_4, ei, isC, isCl, isSd, and_true, true_and, and_false, false_and, if_true, if_false, not_true, not_false_iff, not_false_eq_true, or_true, true_or, or_false, false_or, ite_true, ite_false, and_self, Classical.not_not, Bool.false_eq_true]; try rfl) (Nat.zero_le _) (Nat.zero_le _)
    · refine lv_aload_n hx hb dX4_notice_22 rfl (lv_at hl 0 rfl) ?_
      refine va_get (D := (dC, dI)) (ci := 5) (v := .int (F 1)) (C := RX4) (T := TX4) (N := 22) hx hb hts inM hown hK hP 0 rfl rfl 1 (by decide) lk2 (fun _ h9 => h9) rfl dX4_notice_23 ?_
      refine lv_aload_n hx hb dX4_notice_26 rfl (lv_at hl 0 rfl) ?_
      refine va_get (D := (dC, dI)) (ci := 5) (v := .ref ((ad 20))) (C := RX4) (T := TX4) (N := 22) hx hb hts inM hown hK hP 0 rfl rfl 20 (by decide) lk3 (fun _ h9 => h9) rfl dX4_notice_27 ?_
      refine lv_iload_n hx hb dX4_notice_30 rfl (lv_at hl 1 rfl) ?_
      refine x_iald (f := R 20) hx hb hK hP 17 0 rfl rfl (t := i) (by omega) (by decide) dX4_notice_31 ?_
      refine lv_icmp_le (tgt := 39) hx hb dX4_notice_32 (by decide) (fun c_6 => ?_) (fun c_6 => ?_)
      · refine lv_iconst (v := nI 2) hx hb dX4_notice_39 (by decide) ?_
        refine va_put (D := (dC, dI)) (ci := 5) (v := .int (nI 2)) (ty := .int) (C := RX4) (T := TX4) (N := 22) hx hb hts inM tyX4 tyX4_ok nmX4 hown hK hP hD hS 0 rfl rfl 0 (by decide) lk1 (fun _ h9 => h9) rfl (by decide +kernel) rfl rfl (Nat.le_of_ble_eq_true rfl) dX4_notice_40 (fun H locs hP hD hS => ?_)
        have hP : va_P (dC, dI) vwCl (mw ad cy (va_up F 0 (nI 2)) C R T) H := hP
        have hD : va_D A (mw ad cy (va_up F 0 (nI 2)) C R T) := hD
        refine lv_aload_n hx hb dX4_notice_43 rfl (lv_at hl 0 rfl) ?_
        refine va_get (D := (dC, dI)) (ci := 5) (v := .int (nI 2)) (C := RX4) (T := TX4) (N := 22) hx hb hts inM hown hK hP 0 rfl rfl 0 (by decide) lk1 (fun _ h9 => h9) rfl dX4_notice_44 ?_
        refine lv_if_le (tgt := 52) hx hb dX4_notice_47 (by decide) (fun h9 => absurd h9 (by decide)) (fun _ => ?_)
        refine lv_iconst (v := nI 0) hx hb dX4_notice_50 (by decide) ?_
        rw [← hQQ]; exact end_i (u := (va_up F 0 (nI 2), C, R, T)) hx hb hr hlocks dX4_notice_51 hK hP hD hS (by simp only [M_notice, eq_true c_3, eq_true c_4, eq_true c_6, ei, isC, isCl, isSd, and_true, true_and, and_false, false_and, if_true, if_false, not_true, not_false_iff, not_false_eq_true, or_true, true_or, or_false, false_or, ite_true, ite_false, and_self, Classical.not_not, Bool.false_eq_true]; try rfl) (Nat.zero_le _) (Nat.zero_le _)
      · refine lv_iconst (v := nI 0) hx hb dX4_notice_35 (by decide) ?_
        refine lv_goto (tgt := 40) hx hb dX4_notice_36 (by decide) ?_
        refine va_put (D := (dC, dI)) (ci := 5) (v := .int (nI 0)) (ty := .int) (C := RX4) (T := TX4) (N := 22) hx hb hts inM tyX4 tyX4_ok nmX4 hown hK hP hD hS 0 rfl rfl 0 (by decide) lk1 (fun _ h9 => h9) rfl (by decide +kernel) rfl rfl (Nat.le_of_ble_eq_true rfl) dX4_notice_40 (fun H locs hP hD hS => ?_)
        have hP : va_P (dC, dI) vwCl (mw ad cy (va_up F 0 (nI 0)) C R T) H := hP
        have hD : va_D A (mw ad cy (va_up F 0 (nI 0)) C R T) := hD
        refine lv_aload_n hx hb dX4_notice_43 rfl (lv_at hl 0 rfl) ?_
        refine va_get (D := (dC, dI)) (ci := 5) (v := .int (nI 0)) (C := RX4) (T := TX4) (N := 22) hx hb hts inM hown hK hP 0 rfl rfl 0 (by decide) lk1 (fun _ h9 => h9) rfl dX4_notice_44 ?_
        refine lv_if_le (tgt := 52) hx hb dX4_notice_47 (by decide) (fun _ => ?_) (fun h9 => absurd h9 (by decide))
        refine lv_aload_n hx hb dX4_notice_52 rfl (lv_at hl 0 rfl) ?_
        refine va_get (D := (dC, dI)) (ci := 5) (v := .ref ((ad 19))) (C := RX4) (T := TX4) (N := 22) hx hb hts inM hown hK hP 0 rfl rfl 19 (by decide) lk0 (fun _ h9 => h9) rfl dX4_notice_53 ?_
        refine lv_iload_n hx hb dX4_notice_56 rfl (lv_at hl 1 rfl) ?_
        refine lv_iconst (v := nI 2) hx hb dX4_notice_57 (by decide) ?_
        refine x_iast hx hb hK hP hD hS 16 0 rfl rfl (t := i) (x := (nI 2)) (by omega) (by decide) dX4_notice_58 (fun H locs hP hD hS => ?_)
        have hP : va_P (dC, dI) vwCl (mw ad cy (va_up F 0 (nI 0)) C (va_up R 19 (upd (R 19) i (nI 2))) T) H := hP
        have hD : va_D A (mw ad cy (va_up F 0 (nI 0)) C (va_up R 19 (upd (R 19) i (nI 2))) T) := hD
        refine lv_aload_n hx hb dX4_notice_59 rfl (lv_at hl 0 rfl) ?_
        refine va_get (D := (dC, dI)) (ci := 5) (v := .ref ((ad 20))) (C := RX4) (T := TX4) (N := 22) hx hb hts inM hown hK hP 0 rfl rfl 20 (by decide) lk3 (fun _ h9 => h9) rfl dX4_notice_60 ?_
        refine lv_iload_n hx hb dX4_notice_63 rfl (lv_at hl 1 rfl) ?_
        refine lv_aload_n hx hb dX4_notice_64 rfl (lv_at hl 0 rfl) ?_
        refine va_get (D := (dC, dI)) (ci := 5) (v := .int (F 1)) (C := RX4) (T := TX4) (N := 22) hx hb hts inM hown hK hP 0 rfl rfl 1 (by decide) lk2 (fun _ h9 => h9) rfl dX4_notice_65 ?_
        refine lv_aload_n hx hb dX4_notice_68 rfl (lv_at hl 0 rfl) ?_
        refine va_get (D := (dC, dI)) (ci := 5) (v := .ref ((ad 17))) (C := RX4) (T := TX4) (N := 22) hx hb hts inM hown hK hP 0 rfl rfl 17 (by decide) lk4 (fun _ h9 => h9) rfl dX4_notice_69 ?_
        refine lv_iload_n hx hb dX4_notice_72 rfl (lv_at hl 1 rfl) ?_
        refine x_iald (f := R 17) hx hb hK hP 14 0 rfl rfl (t := i) (by omega) (by decide) dX4_notice_73 ?_
        refine lv_iadd hx hb dX4_notice_74 ?_
        refine x_iast hx hb hK hP hD hS 17 0 rfl rfl (t := i) (x := ((F 1) + (R 17 i))) (by omega) (by decide) dX4_notice_75 (fun H locs hP hD hS => ?_)
        have hP : va_P (dC, dI) vwCl (mw ad cy (va_up F 0 (nI 0)) C (va_up (va_up R 19 (upd (R 19) i (nI 2))) 20 (upd (R 20) i ((F 1) + (R 17 i)))) T) H := hP
        have hD : va_D A (mw ad cy (va_up F 0 (nI 0)) C (va_up (va_up R 19 (upd (R 19) i (nI 2))) 20 (upd (R 20) i ((F 1) + (R 17 i)))) T) := hD
        refine lv_aload_n hx hb dX4_notice_76 rfl (lv_at hl 0 rfl) ?_
        refine va_get (D := (dC, dI)) (ci := 5) (v := .ref ((ad 20))) (C := RX4) (T := TX4) (N := 22) hx hb hts inM hown hK hP 0 rfl rfl 20 (by decide) lk3 (fun _ h9 => h9) rfl dX4_notice_77 ?_
        refine lv_iload_n hx hb dX4_notice_80 rfl (lv_at hl 1 rfl) ?_
        refine x_iald (f := upd (R 20) i ((F 1) + (R 17 i))) hx hb hK hP 17 0 rfl rfl (t := i) (by omega) (by decide) dX4_notice_81 ?_
        refine to_i (y := ((F 1) + (R 17 i))) pk_us ?_
        rw [← hQQ]; exact end_i (u := (va_up F 0 (nI 0), C, va_up (va_up R 19 (upd (R 19) i (nI 2))) 20 (upd (R 20) i ((F 1) + (R 17 i))), T)) hx hb hr hlocks dX4_notice_82 hK hP hD hS (by simp only [M_notice, eq_true c_3, eq_true c_4, c_6, ei, isC, isCl, isSd, and_true, true_and, and_false, false_and, if_true, if_false, not_true, not_false_iff, not_false_eq_true, or_true, true_or, or_false, false_or, ite_true, ite_false, and_self, Classical.not_not, Bool.false_eq_true]; try rfl) (Nat.zero_le _) (Nat.zero_le _)
  · refine lv_iconst (v := nI 1) hx hb dX4_notice_9 (by decide) ?_
    refine lv_goto (tgt := 40) hx hb dX4_notice_10 (by decide) ?_
    refine va_put (D := (dC, dI)) (ci := 5) (v := .int (nI 1)) (ty := .int) (C := RX4) (T := TX4) (N := 22) hx hb hts inM tyX4 tyX4_ok nmX4 hown hK hP hD hS 0 rfl rfl 0 (by decide) lk1 (fun _ h9 => h9) rfl (by decide +kernel) rfl rfl (Nat.le_of_ble_eq_true rfl) dX4_notice_40 (fun H locs hP hD hS => ?_)
    have hP : va_P (dC, dI) vwCl (mw ad cy (va_up F 0 (nI 1)) C R T) H := hP
    have hD : va_D A (mw ad cy (va_up F 0 (nI 1)) C R T) := hD
    refine lv_aload_n hx hb dX4_notice_43 rfl (lv_at hl 0 rfl) ?_
    refine va_get (D := (dC, dI)) (ci := 5) (v := .int (nI 1)) (C := RX4) (T := TX4) (N := 22) hx hb hts inM hown hK hP 0 rfl rfl 0 (by decide) lk1 (fun _ h9 => h9) rfl dX4_notice_44 ?_
    refine lv_if_le (tgt := 52) hx hb dX4_notice_47 (by decide) (fun h9 => absurd h9 (by decide)) (fun _ => ?_)
    refine lv_iconst (v := nI 0) hx hb dX4_notice_50 (by decide) ?_
    rw [← hQQ]; exact end_i (u := (va_up F 0 (nI 1), C, R, T)) hx hb hr hlocks dX4_notice_51 hK hP hD hS (by simp only [M_notice, c_3, isC, isCl, isSd, and_true, true_and, and_false, false_and, if_true, if_false, not_true, not_false_iff, not_false_eq_true, or_true, true_or, or_false, false_or, ite_true, ite_false, and_self, Classical.not_not, Bool.false_eq_true]; try rfl) (Nat.zero_le _) (Nat.zero_le _)

def M_settle (F : Nat → Int32) (C : Nat → Nat) (R : Nat → Nat → Int32) (T : Nat → Nat → Nat) (a : Int32) : Int32 × MS :=
  if isC C 14 a then
    (if R 19 (ix a) = nI 3 then
      (R 18 (ix a), (va_up F 0 (nI 0), C, va_up (va_up R 19 (upd (R 19) (ix a) (nI 4))) 20 (upd (R 20) (ix a) (F 1)), T))
    else (nI 0, (va_up F 0 (nI 2), C, R, T)))
  else (nI 0, (va_up F 0 (nI 1), C, R, T))

set_option maxHeartbeats 4000000 in
set_option maxRecDepth 100000 in
/-- settle -/
theorem qX4_settle (l : Launch) (dC : Nat → ClassId) (dI : Nat → Nat → Nat) (cy : Nat → ClassId) (ad : Nat → Nat) (F : Nat → Int32) (C : Nat → Nat) (R : Nat → Nat → Int32) (T : Nat → Nat → Nat) (sz : Nat) (a : Int32) (hC : C 14 ≤ 100) : Met l yX4_settle wsX4_settle ({ frames := 2, cells := 0, slots := 0, locals := 43 }) (va_Pc [.ref ((ad 0)), .int a] (wPre (dC, dI) (tyL cy) (mw ad cy F C R T) sz)) (QI (dC, dI) (tyL cy) (fun (r : Int32) (u : MS) => (r, u) = M_settle F C R T a) (mwU ad cy) (va_A (mw ad cy F C R T) sz)) 0 0 (va_A (mw ad cy F C R T) sz) := by
  refine en (cc := cX4_settle) (maxL := 2) (ret := (some .int)) (own := RX4) (lv := [(0, .ref ((ad 0))), (1, .int a)]) (by decide) rfl rfl (Nat.le_of_ble_eq_true rfl) rfl ?_
  intro p e s m below meth c ls A H locs hx hb hr hts hown hlocks hml hin hsz hK hP hD hS hA hl
  generalize hQQ : MQ below _ _ s _ _ A = QQ
  have inM : ∀ w ∈ wsX40, w ∈ wsX4_settle := fun _ h => List.mem_cons_of_mem _ (List.mem_append_right _ h)
  have lk0 : (Cond.fieldLink RX4 56 "ClauseShopModel" "state" "[I").before (([.ref ((ad 0)), .int a] : List Value).toArray) s = true := hts _ (List.mem_of_getElem? (i := 1) rfl)
  have lk1 : (Cond.fieldLink RX4 65 "ClauseShopModel" "thrown" "I").before (([.ref ((ad 0)), .int a] : List Value).toArray) s = true := hts _ (List.mem_of_getElem? (i := 2) rfl)
  have lk2 : (Cond.fieldLink RX4 59 "ClauseShopModel" "counts" "[I").before (([.ref ((ad 0)), .int a] : List Value).toArray) s = true := hts _ (List.mem_of_getElem? (i := 3) rfl)
  have lk3 : (Cond.fieldLink RX4 97 "ClauseShopModel" "day" "I").before (([.ref ((ad 0)), .int a] : List Value).toArray) s = true := hts _ (List.mem_of_getElem? (i := 4) rfl)
  have lk4 : (Cond.fieldLink RX4 53 "ClauseShopModel" "itsPenalty" "[I").before (([.ref ((ad 0)), .int a] : List Value).toArray) s = true := hts _ (List.mem_of_getElem? (i := 5) rfl)
  refine lv_aload_n hx hb dX4_settle_0 rfl (lv_at hl 0 rfl) ?_
  refine lv_aload_n hx hb dX4_settle_1 rfl (lv_at hl 0 rfl) ?_
  refine lv_iload_n hx hb dX4_settle_2 rfl (lv_at hl 1 rfl) ?_
  refine call_i (va_runV (As := [.int a]) (rest := [.ref ((ad 0))]) ⟨hx, hb, hml, hown, hts⟩ (qX4_isDuty l dC dI cy ad F C R T H.size a) (cwV 1 hts gX4_settle_X4_isDuty rfl rfl rfl (by decide +kernel) ⟨Nat.le_of_ble_eq_true rfl, Nat.le_of_ble_eq_true rfl⟩) (preV hK hP hD (w_recv (ci := 5) (q0 := 0) hK hP rfl rfl)) rfl rfl hl.1 rfl (lv_room (Nat.le_of_ble_eq_true rfl)) dX4_settle_3 ⟨Nat.zero_le _, Nat.zero_le _⟩) hD hS hA (fun r_1 u H locs w_2 hP hD hS => ?_)
  obtain ⟨rfl, rfl⟩ := w_2
  have hP : va_P (dC, dI) vwCl (mw ad cy F C R T) H := hP
  have hD : va_D A (mw ad cy F C R T) := hD
  refine br_ne (tgt := 13) hx hb dX4_settle_6 (by decide) (fun c_3 => ?_) (fun c_3 => ?_)
  · obtain ⟨i, hi, ex, ei⟩ := ct_ix (n := C 14) (by omega) c_3
    subst ex
    refine lv_aload_n hx hb dX4_settle_13 rfl (lv_at hl 0 rfl) ?_
    refine va_get (D := (dC, dI)) (ci := 5) (v := .ref ((ad 19))) (C := RX4) (T := TX4) (N := 22) hx hb hts inM hown hK hP 0 rfl rfl 19 (by decide) lk0 (fun _ h9 => h9) rfl dX4_settle_14 ?_
    refine lv_iload_n hx hb dX4_settle_17 rfl (lv_at hl 1 rfl) ?_
    refine x_iald (f := R 19) hx hb hK hP 16 0 rfl rfl (t := i) (by omega) (by decide) dX4_settle_18 ?_
    refine lv_iconst (v := nI 3) hx hb dX4_settle_19 (by decide) ?_
    refine lv_icmp_ne (tgt := 27) hx hb dX4_settle_20 (by decide) (fun c_4 => ?_) (fun c_4 => ?_)
    · refine lv_iconst (v := nI 2) hx hb dX4_settle_27 (by decide) ?_
      refine va_put (D := (dC, dI)) (ci := 5) (v := .int (nI 2)) (ty := .int) (C := RX4) (T := TX4) (N := 22) hx hb hts inM tyX4 tyX4_ok nmX4 hown hK hP hD hS 0 rfl rfl 0 (by decide) lk1 (fun _ h9 => h9) rfl (by decide +kernel) rfl rfl (Nat.le_of_ble_eq_true rfl) dX4_settle_28 (fun H locs hP hD hS => ?_)
      have hP : va_P (dC, dI) vwCl (mw ad cy (va_up F 0 (nI 2)) C R T) H := hP
      have hD : va_D A (mw ad cy (va_up F 0 (nI 2)) C R T) := hD
      refine lv_aload_n hx hb dX4_settle_31 rfl (lv_at hl 0 rfl) ?_
      refine va_get (D := (dC, dI)) (ci := 5) (v := .int (nI 2)) (C := RX4) (T := TX4) (N := 22) hx hb hts inM hown hK hP 0 rfl rfl 0 (by decide) lk1 (fun _ h9 => h9) rfl dX4_settle_32 ?_
      refine lv_if_le (tgt := 40) hx hb dX4_settle_35 (by decide) (fun h9 => absurd h9 (by decide)) (fun _ => ?_)
      refine lv_iconst (v := nI 0) hx hb dX4_settle_38 (by decide) ?_
      rw [← hQQ]; exact end_i (u := (va_up F 0 (nI 2), C, R, T)) hx hb hr hlocks dX4_settle_39 hK hP hD hS (by simp only [M_settle, eq_true c_3, c_4, ei, isC, isCl, isSd, and_true, true_and, and_false, false_and, if_true, if_false, not_true, not_false_iff, not_false_eq_true, or_true, true_or, or_false, false_or, ite_true, ite_false, and_self, Classical.not_not, Bool.false_eq_true]; try rfl) (Nat.zero_le _) (Nat.zero_le _)
    · refine lv_iconst (v := nI 0) hx hb dX4_settle_23 (by decide) ?_
      refine lv_goto (tgt := 28) hx hb dX4_settle_24 (by decide) ?_
      refine va_put (D := (dC, dI)) (ci := 5) (v := .int (nI 0)) (ty := .int) (C := RX4) (T := TX4) (N := 22) hx hb hts inM tyX4 tyX4_ok nmX4 hown hK hP hD hS 0 rfl rfl 0 (by decide) lk1 (fun _ h9 => h9) rfl (by decide +kernel) rfl rfl (Nat.le_of_ble_eq_true rfl) dX4_settle_28 (fun H locs hP hD hS => ?_)
      have hP : va_P (dC, dI) vwCl (mw ad cy (va_up F 0 (nI 0)) C R T) H := hP
      have hD : va_D A (mw ad cy (va_up F 0 (nI 0)) C R T) := hD
      refine lv_aload_n hx hb dX4_settle_31 rfl (lv_at hl 0 rfl) ?_
      refine va_get (D := (dC, dI)) (ci := 5) (v := .int (nI 0)) (C := RX4) (T := TX4) (N := 22) hx hb hts inM hown hK hP 0 rfl rfl 0 (by decide) lk1 (fun _ h9 => h9) rfl dX4_settle_32 ?_
      refine lv_if_le (tgt := 40) hx hb dX4_settle_35 (by decide) (fun _ => ?_) (fun h9 => absurd h9 (by decide))
      refine lv_aload_n hx hb dX4_settle_40 rfl (lv_at hl 0 rfl) ?_
      refine va_get (D := (dC, dI)) (ci := 5) (v := .ref ((ad 19))) (C := RX4) (T := TX4) (N := 22) hx hb hts inM hown hK hP 0 rfl rfl 19 (by decide) lk0 (fun _ h9 => h9) rfl dX4_settle_41 ?_
      refine lv_iload_n hx hb dX4_settle_44 rfl (lv_at hl 1 rfl) ?_
      refine lv_iconst (v := nI 4) hx hb dX4_settle_45 (by decide) ?_
      refine x_iast hx hb hK hP hD hS 16 0 rfl rfl (t := i) (x := (nI 4)) (by omega) (by decide) dX4_settle_46 (fun H locs hP hD hS => ?_)
      have hP : va_P (dC, dI) vwCl (mw ad cy (va_up F 0 (nI 0)) C (va_up R 19 (upd (R 19) i (nI 4))) T) H := hP
      have hD : va_D A (mw ad cy (va_up F 0 (nI 0)) C (va_up R 19 (upd (R 19) i (nI 4))) T) := hD
      refine lv_aload_n hx hb dX4_settle_47 rfl (lv_at hl 0 rfl) ?_
      refine va_get (D := (dC, dI)) (ci := 5) (v := .ref ((ad 20))) (C := RX4) (T := TX4) (N := 22) hx hb hts inM hown hK hP 0 rfl rfl 20 (by decide) lk2 (fun _ h9 => h9) rfl dX4_settle_48 ?_
      refine lv_iload_n hx hb dX4_settle_51 rfl (lv_at hl 1 rfl) ?_
      refine lv_aload_n hx hb dX4_settle_52 rfl (lv_at hl 0 rfl) ?_
      refine va_get (D := (dC, dI)) (ci := 5) (v := .int (F 1)) (C := RX4) (T := TX4) (N := 22) hx hb hts inM hown hK hP 0 rfl rfl 1 (by decide) lk3 (fun _ h9 => h9) rfl dX4_settle_53 ?_
      refine x_iast hx hb hK hP hD hS 17 0 rfl rfl (t := i) (x := (F 1)) (by omega) (by decide) dX4_settle_56 (fun H locs hP hD hS => ?_)
      have hP : va_P (dC, dI) vwCl (mw ad cy (va_up F 0 (nI 0)) C (va_up (va_up R 19 (upd (R 19) i (nI 4))) 20 (upd (R 20) i (F 1))) T) H := hP
      have hD : va_D A (mw ad cy (va_up F 0 (nI 0)) C (va_up (va_up R 19 (upd (R 19) i (nI 4))) 20 (upd (R 20) i (F 1))) T) := hD
      refine lv_aload_n hx hb dX4_settle_57 rfl (lv_at hl 0 rfl) ?_
      refine va_get (D := (dC, dI)) (ci := 5) (v := .ref ((ad 18))) (C := RX4) (T := TX4) (N := 22) hx hb hts inM hown hK hP 0 rfl rfl 18 (by decide) lk4 (fun _ h9 => h9) rfl dX4_settle_58 ?_
      refine lv_iload_n hx hb dX4_settle_61 rfl (lv_at hl 1 rfl) ?_
      refine x_iald (f := R 18) hx hb hK hP 15 0 rfl rfl (t := i) (by omega) (by decide) dX4_settle_62 ?_
      rw [← hQQ]; exact end_i (u := (va_up F 0 (nI 0), C, va_up (va_up R 19 (upd (R 19) i (nI 4))) 20 (upd (R 20) i (F 1)), T)) hx hb hr hlocks dX4_settle_63 hK hP hD hS (by simp only [M_settle, eq_true c_3, eq_true c_4, ei, isC, isCl, isSd, and_true, true_and, and_false, false_and, if_true, if_false, not_true, not_false_iff, not_false_eq_true, or_true, true_or, or_false, false_or, ite_true, ite_false, and_self, Classical.not_not, Bool.false_eq_true]; try rfl) (Nat.zero_le _) (Nat.zero_le _)
  · refine lv_iconst (v := nI 1) hx hb dX4_settle_9 (by decide) ?_
    refine lv_goto (tgt := 28) hx hb dX4_settle_10 (by decide) ?_
    refine va_put (D := (dC, dI)) (ci := 5) (v := .int (nI 1)) (ty := .int) (C := RX4) (T := TX4) (N := 22) hx hb hts inM tyX4 tyX4_ok nmX4 hown hK hP hD hS 0 rfl rfl 0 (by decide) lk1 (fun _ h9 => h9) rfl (by decide +kernel) rfl rfl (Nat.le_of_ble_eq_true rfl) dX4_settle_28 (fun H locs hP hD hS => ?_)
    have hP : va_P (dC, dI) vwCl (mw ad cy (va_up F 0 (nI 1)) C R T) H := hP
    have hD : va_D A (mw ad cy (va_up F 0 (nI 1)) C R T) := hD
    refine lv_aload_n hx hb dX4_settle_31 rfl (lv_at hl 0 rfl) ?_
    refine va_get (D := (dC, dI)) (ci := 5) (v := .int (nI 1)) (C := RX4) (T := TX4) (N := 22) hx hb hts inM hown hK hP 0 rfl rfl 0 (by decide) lk1 (fun _ h9 => h9) rfl dX4_settle_32 ?_
    refine lv_if_le (tgt := 40) hx hb dX4_settle_35 (by decide) (fun h9 => absurd h9 (by decide)) (fun _ => ?_)
    refine lv_iconst (v := nI 0) hx hb dX4_settle_38 (by decide) ?_
    rw [← hQQ]; exact end_i (u := (va_up F 0 (nI 1), C, R, T)) hx hb hr hlocks dX4_settle_39 hK hP hD hS (by simp only [M_settle, c_3, isC, isCl, isSd, and_true, true_and, and_false, false_and, if_true, if_false, not_true, not_false_iff, not_false_eq_true, or_true, true_or, or_false, false_or, ite_true, ite_false, and_self, Classical.not_not, Bool.false_eq_true]; try rfl) (Nat.zero_le _) (Nat.zero_le _)

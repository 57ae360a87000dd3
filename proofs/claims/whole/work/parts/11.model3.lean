def M_off (v l : Nat → Nat) (i : Nat) : Nat → Nat
  | 0 => 0
  | c + 1 => M_off v l i c + (if v (10 * i + c) = 0 then 0 else if v (10 * i + c) < l c then 1 else 0)
theorem M_off_le (v l : Nat → Nat) (i : Nat) : ∀ c, M_off v l i c ≤ c
  | 0 => Nat.le_refl _
  | c + 1 => by
    have := M_off_le v l i c
    simp only [M_off]
    split
    · omega
    · split <;> omega
def M_offered (F : Nat → Int32) (C : Nat → Nat) (R : Nat → Nat → Int32) (T : Nat → Nat → Nat) (a : Int32) : Int32 × MS :=
  if isC C 9 a then
    (if R 10 (ix a) = 0 then (nI (M_off (T 12) (T 2) (ix a) 10), (va_up F 0 (nI 0), C, R, T)) else (nI 0, (va_up F 0 (nI 0), C, R, T)))
  else (nI 0, (va_up F 0 (nI 1), C, R, T))

set_option maxHeartbeats 4000000 in
set_option maxRecDepth 100000 in
/-- offered -/
theorem qX4_offered (l : Launch) (dC : Nat → ClassId) (dI : Nat → Nat → Nat) (cy : Nat → ClassId) (ad : Nat → Nat) (F : Nat → Int32) (C : Nat → Nat) (R : Nat → Nat → Int32) (T : Nat → Nat → Nat) (sz : Nat) (a : Int32) (hC : C 9 ≤ 10) (hT : ∀ j, j < 10 → T 2 j ≤ 9) (hV : ∀ j, j < 100 → T 12 j ≤ 9) : Met l yX4_offered wsX4_offered ({ frames := 2, cells := 0, slots := 0, locals := 43 }) (va_Pc [.ref ((ad 0)), .int a] (wPre (dC, dI) (tyL cy) (mw ad cy F C R T) sz)) (QI (dC, dI) (tyL cy) (fun (r : Int32) (u : MS) => (r, u) = M_offered F C R T a) (mwU ad cy) (va_A (mw ad cy F C R T) sz)) 0 0 (va_A (mw ad cy F C R T) sz) := by
  refine en (cc := cX4_offered) (maxL := 5) (ret := (some .int)) (own := RX4) (lv := [(0, .ref ((ad 0))), (1, .int a)]) (by decide) rfl rfl (Nat.le_of_ble_eq_true rfl) rfl ?_
  intro p e s m below meth c ls A H locs hx hb hr hts hown hlocks hml hin hsz hK hP hD hS hA hl
  generalize hQQ : MQ below _ _ s _ _ A = QQ
  have inM : ∀ w ∈ wsX40, w ∈ wsX4_offered := fun _ h => List.mem_cons_of_mem _ (List.mem_append_right _ h)
  have lk0 : (Cond.fieldLink RX4 65 "ClauseShopModel" "thrown" "I").before (([.ref ((ad 0)), .int a] : List Value).toArray) s = true := hts _ (List.mem_of_getElem? (i := 1) rfl)
  have lk1 : (Cond.fieldLink RX4 31 "ClauseShopModel" "isSigned" "[Z").before (([.ref ((ad 0)), .int a] : List Value).toArray) s = true := hts _ (List.mem_of_getElem? (i := 2) rfl)
  have lk2 : (Cond.fieldLink RX4 38 "ClauseShopModel" "version" "[I").before (([.ref ((ad 0)), .int a] : List Value).toArray) s = true := hts _ (List.mem_of_getElem? (i := 3) rfl)
  have lk3 : (Cond.fieldLink RX4 7 "ClauseShopModel" "latest" "[I").before (([.ref ((ad 0)), .int a] : List Value).toArray) s = true := hts _ (List.mem_of_getElem? (i := 4) rfl)
  refine lv_aload_n hx hb dX4_offered_0 rfl (lv_at hl 0 rfl) ?_
  refine lv_aload_n hx hb dX4_offered_1 rfl (lv_at hl 0 rfl) ?_
  refine lv_iload_n hx hb dX4_offered_2 rfl (lv_at hl 1 rfl) ?_
  refine call_i (va_runV (As := [.int a]) (rest := [.ref ((ad 0))]) ⟨hx, hb, hml, hown, hts⟩ (qX4_isContract l dC dI cy ad F C R T H.size a) (cwV 1 hts gX4_offered_X4_isContract rfl rfl rfl (by decide +kernel) ⟨Nat.le_of_ble_eq_true rfl, Nat.le_of_ble_eq_true rfl⟩) (preV hK hP hD (w_recv (ci := 5) (q0 := 0) hK hP rfl rfl)) rfl rfl hl.1 rfl (lv_room (Nat.le_of_ble_eq_true rfl)) dX4_offered_3 ⟨Nat.zero_le _, Nat.zero_le _⟩) hD hS hA (fun r_1 u H locs w_2 hP hD hS => ?_)
  obtain ⟨rfl, rfl⟩ := w_2
  have hP : va_P (dC, dI) vwCl (mw ad cy F C R T) H := hP
  have hD : va_D A (mw ad cy F C R T) := hD
  refine br_eq (tgt := 13) hx hb dX4_offered_6 (by decide) (fun c_3 => ?_) (fun c_3 => ?_)
  · refine lv_iconst (v := nI 1) hx hb dX4_offered_13 (by decide) ?_
    refine va_put (D := (dC, dI)) (ci := 5) (v := .int (nI 1)) (ty := .int) (C := RX4) (T := TX4) (N := 22) hx hb hts inM tyX4 tyX4_ok nmX4 hown hK hP hD hS 0 rfl rfl 0 (by decide) lk0 (fun _ h9 => h9) rfl (by decide +kernel) rfl rfl (Nat.le_of_ble_eq_true rfl) dX4_offered_14 (fun H locs hP hD hS => ?_)
    have hP : va_P (dC, dI) vwCl (mw ad cy (va_up F 0 (nI 1)) C R T) H := hP
    have hD : va_D A (mw ad cy (va_up F 0 (nI 1)) C R T) := hD
    refine lv_iconst (v := nI 0) hx hb dX4_offered_17 (by decide) ?_
    refine lv_istore_n (lv' := [(2, .int (nI 0)), (0, .ref ((ad 0))), (1, .int a)]) hx hb dX4_offered_18 rfl hl (by decide) rfl (fun ls hl => ?_)
    refine lv_iconst (v := nI 0) hx hb dX4_offered_19 (by decide) ?_
    refine lv_istore_n (lv' := [(3, .int (nI 0)), (2, .int (nI 0)), (0, .ref ((ad 0))), (1, .int a)]) hx hb dX4_offered_20 rfl hl (by decide) rfl (fun ls hl => ?_)
    refine lv_iload_n hx hb dX4_offered_21 rfl (lv_at hl 0 rfl) ?_
    refine lv_bipush (v := nI 10) hx hb dX4_offered_22 (by decide) ?_
    refine lv_icmp_ge (tgt := 86) hx hb dX4_offered_24 (by decide) (fun h9 => absurd h9 (by decide)) (fun _ => ?_)
    refine lv_aload_n hx hb dX4_offered_27 rfl (lv_at hl 2 rfl) ?_
    refine va_get (D := (dC, dI)) (ci := 5) (v := .int (nI 1)) (C := RX4) (T := TX4) (N := 22) hx hb hts inM hown hK hP 0 rfl rfl 0 (by decide) lk0 (fun _ h9 => h9) rfl dX4_offered_28 ?_
    refine lv_if_ne (tgt := 86) hx hb dX4_offered_31 (by decide) (fun _ => ?_) (fun h9 => absurd h9 (by decide))
    refine lv_iload_n hx hb dX4_offered_86 rfl (lv_at hl 1 rfl) ?_
    rw [← hQQ]; exact end_i (u := (va_up F 0 (nI 1), C, R, T)) hx hb hr hlocks dX4_offered_87 hK hP hD hS (by simp only [M_offered, c_3, isC, isCl, isSd, and_true, true_and, and_false, false_and, if_true, if_false, not_true, not_false_iff, not_false_eq_true, or_true, true_or, or_false, false_or, ite_true, ite_false, and_self, Classical.not_not, Bool.false_eq_true]; try rfl) (Nat.zero_le _) (Nat.zero_le _)
  · obtain ⟨i, hi, ex, ei⟩ := ct_ix (n := C 9) (by omega) c_3
    subst ex
    refine lv_iconst (v := nI 0) hx hb dX4_offered_9 (by decide) ?_
    refine lv_goto (tgt := 14) hx hb dX4_offered_10 (by decide) ?_
    refine va_put (D := (dC, dI)) (ci := 5) (v := .int (nI 0)) (ty := .int) (C := RX4) (T := TX4) (N := 22) hx hb hts inM tyX4 tyX4_ok nmX4 hown hK hP hD hS 0 rfl rfl 0 (by decide) lk0 (fun _ h9 => h9) rfl (by decide +kernel) rfl rfl (Nat.le_of_ble_eq_true rfl) dX4_offered_14 (fun H locs hP hD hS => ?_)
    have hP : va_P (dC, dI) vwCl (mw ad cy (va_up F 0 (nI 0)) C R T) H := hP
    have hD : va_D A (mw ad cy (va_up F 0 (nI 0)) C R T) := hD
    refine lv_iconst (v := nI 0) hx hb dX4_offered_17 (by decide) ?_
    refine lv_istore_n (lv' := [(2, .int (nI 0)), (0, .ref ((ad 0))), (1, .int (nI i))]) hx hb dX4_offered_18 rfl hl (by decide) rfl (fun ls hl => ?_)
    refine lv_iconst (v := nI 0) hx hb dX4_offered_19 (by decide) ?_
    refine lv_istore_n (lv' := [(3, .int (nI 0)), (2, .int (nI 0)), (0, .ref ((ad 0))), (1, .int (nI i))]) hx hb dX4_offered_20 rfl hl (by decide) rfl (fun ls hl => ?_)
    by_cases hsg : R 10 i = 0
    · have hl_off : ∀ (k9 j : Nat), 10 - j = k9 → j ≤ 10 → ∀ (H : Heap) (locs : List Loc) (ls : Array Slot), va_P (dC, dI) vwCl (mw ad cy (va_up F 0 (nI 0)) C R T) H → va_D A (mw ad cy (va_up F 0 (nI 0)) C R T) → va_S A s.heap H locs → lv_has ls 5 [(0, .ref ((ad 0))), (1, .int (nI i)), (2, .int (nI (M_off (T 12) (T 2) i j))), (3, .int (nI j))] → W p l e ({ frames := 2, cells := 0, slots := 0, locals := 43 }) s m (([.ref ((ad 0)), .int (nI i)] : List Value).toArray) below meth c H locs 0 0 QQ (F0 m 21 ls []) := by
        intro k9
        induction k9 using Nat.strongRecOn with
        | _ k9 ih =>
          intro j  hk9 hle9  H locs ls hP hD hS hl
          refine lv_iload_n hx hb dX4_offered_21 rfl (lv_at hl 3 rfl) ?_
          refine lv_bipush (v := nI 10) hx hb dX4_offered_22 (by decide) ?_
          refine n_ge (tgt := 86) hx hb dX4_offered_24 (by decide) (by omega) (by omega) (fun c_6 => ?_) (fun c_6 => ?_)
          · obtain rfl : j = 10 := by omega
            refine lv_iload_n hx hb dX4_offered_86 rfl (lv_at hl 2 rfl) ?_
            rw [← hQQ]; exact end_i (u := (va_up F 0 (nI 0), C, R, T)) hx hb hr hlocks dX4_offered_87 hK hP hD hS (by simp only [M_offered, eq_true c_3, eq_true hsg, ei, isC, isCl, isSd, and_true, true_and, and_false, false_and, if_true, if_false, not_true, not_false_iff, not_false_eq_true, or_true, true_or, or_false, false_or, ite_true, ite_false, and_self, Classical.not_not, Bool.false_eq_true]; try rfl) (Nat.zero_le _) (Nat.zero_le _)
          · refine lv_aload_n hx hb dX4_offered_27 rfl (lv_at hl 0 rfl) ?_
            refine va_get (D := (dC, dI)) (ci := 5) (v := .int (nI 0)) (C := RX4) (T := TX4) (N := 22) hx hb hts inM hown hK hP 0 rfl rfl 0 (by decide) lk0 (fun _ h9 => h9) rfl dX4_offered_28 ?_
            refine lv_if_ne (tgt := 86) hx hb dX4_offered_31 (by decide) (fun h9 => absurd h9 (by decide)) (fun _ => ?_)
            refine lv_aload_n hx hb dX4_offered_34 rfl (lv_at hl 0 rfl) ?_
            refine va_get (D := (dC, dI)) (ci := 5) (v := .ref ((ad 10))) (C := RX4) (T := TX4) (N := 22) hx hb hts inM hown hK hP 0 rfl rfl 10 (by decide) lk1 (fun _ h9 => h9) rfl dX4_offered_35 ?_
            refine lv_iload_n hx hb dX4_offered_38 rfl (lv_at hl 1 rfl) ?_
            refine x_zald (f := R 10) hx hb hK hP 8 1 rfl rfl (t := i) (by omega) (by decide) dX4_offered_39 ?_
            refine lv_if_ne (tgt := 86) hx hb dX4_offered_40 (by decide) (fun h9 => absurd hsg h9) (fun _ => ?_)
            have hVj := hV (10 * i + j) (by omega)
            have hTj := hT j (by omega)
            refine lv_aload_n hx hb dX4_offered_43 rfl (lv_at hl 0 rfl) ?_
            refine va_get (D := (dC, dI)) (ci := 5) (v := .ref ((ad 12))) (C := RX4) (T := TX4) (N := 22) hx hb hts inM hown hK hP 0 rfl rfl 12 (by decide) lk2 (fun _ h9 => h9) rfl dX4_offered_44 ?_
            refine lv_bipush (v := nI 10) hx hb dX4_offered_47 (by decide) ?_
            refine lv_iload_n hx hb dX4_offered_49 rfl (lv_at hl 1 rfl) ?_
            refine lv_imul hx hb dX4_offered_50 ?_
            refine to_i (y := nI (10 * i)) (pk_mul _ _) ?_
            refine lv_iload_n hx hb dX4_offered_51 rfl (lv_at hl 3 rfl) ?_
            refine lv_iadd hx hb dX4_offered_52 ?_
            refine to_i (y := nI ((10 * i) + j)) (nI_add _ _) ?_
            refine x_iald hx hb hK hP 10 0 rfl rfl (t := (10 * i) + j) (by omega) (by decide) dX4_offered_53 ?_
            refine lv_istore (lv' := [(4, .int (nI (T 12 ((10 * i) + j)))), (0, .ref ((ad 0))), (1, .int (nI i)), (2, .int (nI (M_off (T 12) (T 2) i j))), (3, .int (nI j))]) hx hb dX4_offered_54 hl (by decide) rfl (fun ls hl => ?_)
            refine lv_iload_n hx hb dX4_offered_56 rfl (lv_at hl 3 rfl) ?_
            refine lv_iload hx hb dX4_offered_57 (lv_at hl 0 rfl) ?_
            refine n_if_le (tgt := 77) hx hb dX4_offered_59 (by decide) (by omega) (fun c_9 => ?_) (fun c_9 => ?_)
            · refine lv_iconst (v := nI 0) hx hb dX4_offered_77 (by decide) ?_
              refine lv_iadd hx hb dX4_offered_78 ?_
              refine to_i (y := nI ((M_off (T 12) (T 2) i j) + 0)) (nI_add _ _) ?_
              refine lv_istore_n (lv' := [(2, .int (nI ((M_off (T 12) (T 2) i j) + 0))), (4, .int (nI (T 12 ((10 * i) + j)))), (0, .ref ((ad 0))), (1, .int (nI i)), (3, .int (nI j))]) hx hb dX4_offered_79 rfl hl (by decide) rfl (fun ls hl => ?_)
              refine lv_iinc (v := nI (j + 1)) (lv' := [(3, .int (nI (j + 1))), (2, .int (nI ((M_off (T 12) (T 2) i j) + 0))), (4, .int (nI (T 12 ((10 * i) + j)))), (0, .ref ((ad 0))), (1, .int (nI i))]) hx hb dX4_offered_80 hl (k := 4) rfl (by rw [show Int32.ofInt 1 = 1 from rfl]; exact nI_1 _) (by decide) rfl (fun ls hl => ?_)
              refine lv_goto (tgt := 21) hx hb dX4_offered_83 (by decide) ?_
              have e9 : M_off (T 12) (T 2) i (j + 1) = (M_off (T 12) (T 2) i j) + 0 := by simp only [M_off, eq_true c_3, eq_true hsg, eq_true c_9, ei, and_true, true_and, and_false, false_and, if_true, if_false, not_true, not_false_iff, not_false_eq_true, or_true, true_or, or_false, false_or, ite_true, ite_false, and_self, Classical.not_not, Bool.false_eq_true]
              exact ih (10 - (j + 1)) (by omega) (j + 1)  rfl (by omega)  H locs ls hP hD hS (by rw [e9]; exact lv_sub hl [3, 4, 1, 0] rfl)
            · have c_9n : ¬ T 12 (10 * i + j) = 0 := by omega
              refine lv_iload hx hb dX4_offered_62 (lv_at hl 0 rfl) ?_
              refine lv_aload_n hx hb dX4_offered_64 rfl (lv_at hl 1 rfl) ?_
              refine va_get (D := (dC, dI)) (ci := 5) (v := .ref ((ad 2))) (C := RX4) (T := TX4) (N := 22) hx hb hts inM hown hK hP 0 rfl rfl 2 (by decide) lk3 (fun _ h9 => h9) rfl dX4_offered_65 ?_
              refine lv_iload_n hx hb dX4_offered_68 rfl (lv_at hl 4 rfl) ?_
              refine x_iald hx hb hK hP 1 0 rfl rfl (t := j) (by omega) (by decide) dX4_offered_69 ?_
              refine n_ge (tgt := 77) hx hb dX4_offered_70 (by decide) (by omega) (by omega) (fun c_10 => ?_) (fun c_10 => ?_)
              · have c_10n : ¬ T 12 (10 * i + j) < T 2 j := by omega
                refine lv_iconst (v := nI 0) hx hb dX4_offered_77 (by decide) ?_
                refine lv_iadd hx hb dX4_offered_78 ?_
                refine to_i (y := nI ((M_off (T 12) (T 2) i j) + 0)) (nI_add _ _) ?_
                refine lv_istore_n (lv' := [(2, .int (nI ((M_off (T 12) (T 2) i j) + 0))), (4, .int (nI (T 12 ((10 * i) + j)))), (0, .ref ((ad 0))), (1, .int (nI i)), (3, .int (nI j))]) hx hb dX4_offered_79 rfl hl (by decide) rfl (fun ls hl => ?_)
                refine lv_iinc (v := nI (j + 1)) (lv' := [(3, .int (nI (j + 1))), (2, .int (nI ((M_off (T 12) (T 2) i j) + 0))), (4, .int (nI (T 12 ((10 * i) + j)))), (0, .ref ((ad 0))), (1, .int (nI i))]) hx hb dX4_offered_80 hl (k := 4) rfl (by rw [show Int32.ofInt 1 = 1 from rfl]; exact nI_1 _) (by decide) rfl (fun ls hl => ?_)
                refine lv_goto (tgt := 21) hx hb dX4_offered_83 (by decide) ?_
                have e9 : M_off (T 12) (T 2) i (j + 1) = (M_off (T 12) (T 2) i j) + 0 := by simp only [M_off, eq_true c_3, eq_true hsg, eq_true c_9, c_9n, eq_true c_10, c_10n, ei, and_true, true_and, and_false, false_and, if_true, if_false, not_true, not_false_iff, not_false_eq_true, or_true, true_or, or_false, false_or, ite_true, ite_false, and_self, Classical.not_not, Bool.false_eq_true]
                exact ih (10 - (j + 1)) (by omega) (j + 1)  rfl (by omega)  H locs ls hP hD hS (by rw [e9]; exact lv_sub hl [3, 4, 1, 0] rfl)
              · refine lv_iconst (v := nI 1) hx hb dX4_offered_73 (by decide) ?_
                refine lv_goto (tgt := 78) hx hb dX4_offered_74 (by decide) ?_
                refine lv_iadd hx hb dX4_offered_78 ?_
                refine to_i (y := nI ((M_off (T 12) (T 2) i j) + 1)) (nI_add _ _) ?_
                refine lv_istore_n (lv' := [(2, .int (nI ((M_off (T 12) (T 2) i j) + 1))), (4, .int (nI (T 12 ((10 * i) + j)))), (0, .ref ((ad 0))), (1, .int (nI i)), (3, .int (nI j))]) hx hb dX4_offered_79 rfl hl (by decide) rfl (fun ls hl => ?_)
                refine lv_iinc (v := nI (j + 1)) (lv' := [(3, .int (nI (j + 1))), (2, .int (nI ((M_off (T 12) (T 2) i j) + 1))), (4, .int (nI (T 12 ((10 * i) + j)))), (0, .ref ((ad 0))), (1, .int (nI i))]) hx hb dX4_offered_80 hl (k := 4) rfl (by rw [show Int32.ofInt 1 = 1 from rfl]; exact nI_1 _) (by decide) rfl (fun ls hl => ?_)
                refine lv_goto (tgt := 21) hx hb dX4_offered_83 (by decide) ?_
                have e9 : M_off (T 12) (T 2) i (j + 1) = (M_off (T 12) (T 2) i j) + 1 := by simp only [M_off, eq_true c_3, eq_true hsg, eq_true c_9, c_9n, eq_true c_10, ei, and_true, true_and, and_false, false_and, if_true, if_false, not_true, not_false_iff, not_false_eq_true, or_true, true_or, or_false, false_or, ite_true, ite_false, and_self, Classical.not_not, Bool.false_eq_true]
                exact ih (10 - (j + 1)) (by omega) (j + 1)  rfl (by omega)  H locs ls hP hD hS (by rw [e9]; exact lv_sub hl [3, 4, 1, 0] rfl)
      exact hl_off 10 0  rfl (Nat.zero_le _)  H locs ls hP hD hS (lv_sub hl [2, 3, 1, 0] rfl)
    · refine lv_iload_n hx hb dX4_offered_21 rfl (lv_at hl 0 rfl) ?_
      refine lv_bipush (v := nI 10) hx hb dX4_offered_22 (by decide) ?_
      refine lv_icmp_ge (tgt := 86) hx hb dX4_offered_24 (by decide) (fun h9 => absurd h9 (by decide)) (fun _ => ?_)
      refine lv_aload_n hx hb dX4_offered_27 rfl (lv_at hl 2 rfl) ?_
      refine va_get (D := (dC, dI)) (ci := 5) (v := .int (nI 0)) (C := RX4) (T := TX4) (N := 22) hx hb hts inM hown hK hP 0 rfl rfl 0 (by decide) lk0 (fun _ h9 => h9) rfl dX4_offered_28 ?_
      refine lv_if_ne (tgt := 86) hx hb dX4_offered_31 (by decide) (fun h9 => absurd h9 (by decide)) (fun _ => ?_)
      refine lv_aload_n hx hb dX4_offered_34 rfl (lv_at hl 2 rfl) ?_
      refine va_get (D := (dC, dI)) (ci := 5) (v := .ref ((ad 10))) (C := RX4) (T := TX4) (N := 22) hx hb hts inM hown hK hP 0 rfl rfl 10 (by decide) lk1 (fun _ h9 => h9) rfl dX4_offered_35 ?_
      refine lv_iload_n hx hb dX4_offered_38 rfl (lv_at hl 3 rfl) ?_
      refine x_zald (f := R 10) hx hb hK hP 8 1 rfl rfl (t := i) (by omega) (by decide) dX4_offered_39 ?_
      refine lv_if_ne (tgt := 86) hx hb dX4_offered_40 (by decide) (fun _ => ?_) (fun h9 => absurd h9 hsg)
      refine lv_iload_n hx hb dX4_offered_86 rfl (lv_at hl 1 rfl) ?_
      rw [← hQQ]; exact end_i (u := (va_up F 0 (nI 0), C, R, T)) hx hb hr hlocks dX4_offered_87 hK hP hD hS (by simp only [M_offered, eq_true c_3, hsg, ei, isC, isCl, isSd, and_true, true_and, and_false, false_and, if_true, if_false, not_true, not_false_iff, not_false_eq_true, or_true, true_or, or_false, false_or, ite_true, ite_false, and_self, Classical.not_not, Bool.false_eq_true]; try rfl) (Nat.zero_le _) (Nat.zero_le _)

def M_items (v : Nat → Nat) (i : Nat) : Nat → Int32
  | 0 => nI 0
  | c + 1 => if v (10 * i + c) = 0 then M_items v i c else M_items v i c ||| nI 1 <<< (nI c &&& 31)
def M_un (v : Nat → Nat) (r : Nat → Int32) (i : Nat) : Nat → Int32
  | 0 => nI 0
  | c + 1 => if v (10 * i + c) = 0 then M_un v r i c else M_un v r i c ||| r c
def M_agr (v : Nat → Nat) (mk : Nat → Int32) (i : Nat) : Nat → Bool
  | 0 => true
  | c + 1 => if v (10 * i + c) = 0 then M_agr v mk i c else (M_agr v mk i c && decide (mk (2 * (10 * i + c)) = nI 1) && decide (mk (2 * (10 * i + c) + 1) = nI 1))
def M_reason (v : Nat → Nat) (r7 r8 r10 mk : Nat → Int32) (i : Nat) : Nat :=
  if r10 i = 0 then
    (if M_items v i 10 = 0 then 2 else if M_agr v mk i 10 = true then
      (if M_un v r7 i 10 &&& (M_items v i 10 ^^^ (-1)) = 0 then (if M_un v r8 i 10 &&& M_items v i 10 = 0 then 0 else 5) else 4)
     else 3)
  else 1
theorem M_reason_le (v : Nat → Nat) (r7 r8 r10 mk : Nat → Int32) (i : Nat) : M_reason v r7 r8 r10 mk i ≤ 5 := by
  unfold M_reason
  repeat' split
  all_goals omega

set_option maxHeartbeats 4000000 in
set_option maxRecDepth 100000 in
/-- why it can not be signed -/
theorem qX4_reason (l : Launch) (dC : Nat → ClassId) (dI : Nat → Nat → Nat) (cy : Nat → ClassId) (ad : Nat → Nat) (F : Nat → Int32) (C : Nat → Nat) (R : Nat → Nat → Int32) (T : Nat → Nat → Nat) (sz : Nat) (i : Nat) (hi : i < 10) (hV : ∀ j, j < 100 → T 12 j ≤ 9) : Met l yX4_reason wsX4_reason ({ frames := 0, cells := 0, slots := 0, locals := 0 }) (va_Pc [.ref ((ad 0)), .int (nI i)] (wPre (dC, dI) (tyL cy) (mw ad cy F C R T) sz)) (QI (dC, dI) (tyL cy) (fun (r : Int32) (u : MS) => r = nI (M_reason (T 12) (R 7) (R 8) (R 10) (R 13) i) ∧ u = (F, C, R, T)) (mwU ad cy) (va_A (mw ad cy F C R T) sz)) 0 0 (va_A (mw ad cy F C R T) sz) := by
  refine en (cc := cX4_reason) (maxL := 8) (ret := (some .int)) (own := RX4) (lv := [(0, .ref ((ad 0))), (1, .int (nI i))]) (by decide) rfl rfl (Nat.le_of_ble_eq_true rfl) rfl ?_
  intro p e s m below meth c ls A H locs hx hb hr hts hown hlocks hml hin hsz hK hP hD hS hA hl
  generalize hQQ : MQ below _ _ s _ _ A = QQ
  have inM : ∀ w ∈ wsX40, w ∈ wsX4_reason := fun _ h => List.mem_cons_of_mem _ (List.mem_append_right _ h)
  have lk0 : (Cond.fieldLink RX4 31 "ClauseShopModel" "isSigned" "[Z").before (([.ref ((ad 0)), .int (nI i)] : List Value).toArray) s = true := hts _ (List.mem_of_getElem? (i := 5) rfl)
  have lk1 : (Cond.fieldLink RX4 38 "ClauseShopModel" "version" "[I").before (([.ref ((ad 0)), .int (nI i)] : List Value).toArray) s = true := hts _ (List.mem_of_getElem? (i := 1) rfl)
  have lk2 : (Cond.fieldLink RX4 25 "ClauseShopModel" "needs" "[I").before (([.ref ((ad 0)), .int (nI i)] : List Value).toArray) s = true := hts _ (List.mem_of_getElem? (i := 2) rfl)
  have lk3 : (Cond.fieldLink RX4 28 "ClauseShopModel" "forbids" "[I").before (([.ref ((ad 0)), .int (nI i)] : List Value).toArray) s = true := hts _ (List.mem_of_getElem? (i := 3) rfl)
  have lk4 : (Cond.fieldLink RX4 41 "ClauseShopModel" "mark" "[I").before (([.ref ((ad 0)), .int (nI i)] : List Value).toArray) s = true := hts _ (List.mem_of_getElem? (i := 4) rfl)
  refine lv_iconst (v := nI 0) hx hb dX4_reason_0 (by decide) ?_
  refine lv_istore_n (lv' := [(2, .int (nI 0)), (0, .ref ((ad 0))), (1, .int (nI i))]) hx hb dX4_reason_1 rfl hl (by decide) rfl (fun ls hl => ?_)
  refine lv_iconst (v := nI 0) hx hb dX4_reason_2 (by decide) ?_
  refine lv_istore_n (lv' := [(3, .int (nI 0)), (2, .int (nI 0)), (0, .ref ((ad 0))), (1, .int (nI i))]) hx hb dX4_reason_3 rfl hl (by decide) rfl (fun ls hl => ?_)
  refine lv_iconst (v := nI 0) hx hb dX4_reason_4 (by decide) ?_
  refine lv_istore (lv' := [(4, .int (nI 0)), (3, .int (nI 0)), (2, .int (nI 0)), (0, .ref ((ad 0))), (1, .int (nI i))]) hx hb dX4_reason_5 hl (by decide) rfl (fun ls hl => ?_)
  refine lv_iconst (v := nI 1) hx hb dX4_reason_7 (by decide) ?_
  refine lv_istore (lv' := [(5, .int (nI 1)), (4, .int (nI 0)), (3, .int (nI 0)), (2, .int (nI 0)), (0, .ref ((ad 0))), (1, .int (nI i))]) hx hb dX4_reason_8 hl (by decide) rfl (fun ls hl => ?_)
  refine lv_iconst (v := nI 0) hx hb dX4_reason_10 (by decide) ?_
  refine lv_istore (lv' := [(6, .int (nI 0)), (5, .int (nI 1)), (4, .int (nI 0)), (3, .int (nI 0)), (2, .int (nI 0)), (0, .ref ((ad 0))), (1, .int (nI i))]) hx hb dX4_reason_11 hl (by decide) rfl (fun ls hl => ?_)
  have hl_rea : ∀ (k9 j : Nat), 10 - j = k9 → j ≤ 10 → ∀ (H : Heap) (locs : List Loc) (ls : Array Slot), va_P (dC, dI) vwCl (mw ad cy F C R T) H → va_D A (mw ad cy F C R T) → va_S A s.heap H locs → lv_has ls 8 [(0, .ref ((ad 0))), (1, .int (nI i)), (2, .int (M_items (T 12) i j)), (3, .int (M_un (T 12) (R 7) i j)), (4, .int (M_un (T 12) (R 8) i j)), (5, .int (bi (M_agr (T 12) (R 13) i j = true))), (6, .int (nI j))] → W p l e ({ frames := 0, cells := 0, slots := 0, locals := 0 }) s m (([.ref ((ad 0)), .int (nI i)] : List Value).toArray) below meth c H locs 0 0 QQ (F0 m 13 ls []) := by
    intro k9
    induction k9 using Nat.strongRecOn with
    | _ k9 ih =>
      intro j  hk9 hle9  H locs ls hP hD hS hl
      refine lv_iload hx hb dX4_reason_13 (lv_at hl 6 rfl) ?_
      refine lv_bipush (v := nI 10) hx hb dX4_reason_15 (by decide) ?_
      refine n_ge (tgt := 114) hx hb dX4_reason_17 (by decide) (by omega) (by omega) (fun c_1 => ?_) (fun c_1 => ?_)
      · obtain rfl : j = 10 := by omega
        refine lv_aload_n hx hb dX4_reason_114 rfl (lv_at hl 0 rfl) ?_
        refine va_get (D := (dC, dI)) (ci := 5) (v := .ref ((ad 10))) (C := RX4) (T := TX4) (N := 22) hx hb hts inM hown hK hP 0 rfl rfl 10 (by decide) lk0 (fun _ h9 => h9) rfl dX4_reason_115 ?_
        refine lv_iload_n hx hb dX4_reason_118 rfl (lv_at hl 1 rfl) ?_
        refine x_zald (f := R 10) hx hb hK hP 8 1 rfl rfl (t := i) (by omega) (by decide) dX4_reason_119 ?_
        refine lv_if_eq (tgt := 127) hx hb dX4_reason_120 (by decide) (fun c_2 => ?_) (fun c_2 => ?_)
        · refine lv_iload_n hx hb dX4_reason_127 rfl (lv_at hl 2 rfl) ?_
          refine lv_if_ne (tgt := 135) hx hb dX4_reason_128 (by decide) (fun c_3 => ?_) (fun c_3 => ?_)
          · refine lv_iload hx hb dX4_reason_135 (lv_at hl 5 rfl) ?_
            refine br_ne (tgt := 144) hx hb dX4_reason_137 (by decide) (fun c_4 => ?_) (fun c_4 => ?_)
            · refine lv_iload_n hx hb dX4_reason_144 rfl (lv_at hl 3 rfl) ?_
              refine lv_iload_n hx hb dX4_reason_145 rfl (lv_at hl 2 rfl) ?_
              refine lv_iconst (v := -1) hx hb dX4_reason_146 (by decide) ?_
              refine lv_ixor hx hb dX4_reason_147 ?_
              refine lv_iand hx hb dX4_reason_148 ?_
              refine lv_if_eq (tgt := 156) hx hb dX4_reason_149 (by decide) (fun c_5 => ?_) (fun c_5 => ?_)
              · refine lv_iload hx hb dX4_reason_156 (lv_at hl 4 rfl) ?_
                refine lv_iload_n hx hb dX4_reason_158 rfl (lv_at hl 2 rfl) ?_
                refine lv_iand hx hb dX4_reason_159 ?_
                refine lv_if_eq (tgt := 167) hx hb dX4_reason_160 (by decide) (fun c_6 => ?_) (fun c_6 => ?_)
                · refine lv_iconst (v := nI 0) hx hb dX4_reason_167 (by decide) ?_
                  rw [← hQQ]; exact end_i (u := (F, C, R, T)) hx hb hr hlocks dX4_reason_168 hK hP hD hS ⟨by simp only [M_reason, eq_true c_2, c_3, eq_true c_4, eq_true c_5, eq_true c_6, and_true, true_and, and_false, false_and, if_true, if_false, not_true, not_false_iff, not_false_eq_true, or_true, true_or, or_false, false_or, ite_true, ite_false, and_self, Classical.not_not, Bool.false_eq_true], rfl⟩ (Nat.zero_le _) (Nat.zero_le _)
                · refine lv_iconst (v := nI 5) hx hb dX4_reason_163 (by decide) ?_
                  refine lv_goto (tgt := 168) hx hb dX4_reason_164 (by decide) ?_
                  rw [← hQQ]; exact end_i (u := (F, C, R, T)) hx hb hr hlocks dX4_reason_168 hK hP hD hS ⟨by simp only [M_reason, eq_true c_2, c_3, eq_true c_4, eq_true c_5, c_6, and_true, true_and, and_false, false_and, if_true, if_false, not_true, not_false_iff, not_false_eq_true, or_true, true_or, or_false, false_or, ite_true, ite_false, and_self, Classical.not_not, Bool.false_eq_true], rfl⟩ (Nat.zero_le _) (Nat.zero_le _)
              · refine lv_iconst (v := nI 4) hx hb dX4_reason_152 (by decide) ?_
                refine lv_goto (tgt := 168) hx hb dX4_reason_153 (by decide) ?_
                rw [← hQQ]; exact end_i (u := (F, C, R, T)) hx hb hr hlocks dX4_reason_168 hK hP hD hS ⟨by simp only [M_reason, eq_true c_2, c_3, eq_true c_4, c_5, and_true, true_and, and_false, false_and, if_true, if_false, not_true, not_false_iff, not_false_eq_true, or_true, true_or, or_false, false_or, ite_true, ite_false, and_self, Classical.not_not, Bool.false_eq_true], rfl⟩ (Nat.zero_le _) (Nat.zero_le _)
            · refine lv_iconst (v := nI 3) hx hb dX4_reason_140 (by decide) ?_
              refine lv_goto (tgt := 168) hx hb dX4_reason_141 (by decide) ?_
              rw [← hQQ]; exact end_i (u := (F, C, R, T)) hx hb hr hlocks dX4_reason_168 hK hP hD hS ⟨by simp only [M_reason, eq_true c_2, c_3, c_4, and_true, true_and, and_false, false_and, if_true, if_false, not_true, not_false_iff, not_false_eq_true, or_true, true_or, or_false, false_or, ite_true, ite_false, and_self, Classical.not_not, Bool.false_eq_true], rfl⟩ (Nat.zero_le _) (Nat.zero_le _)
          · refine lv_iconst (v := nI 2) hx hb dX4_reason_131 (by decide) ?_
            refine lv_goto (tgt := 168) hx hb dX4_reason_132 (by decide) ?_
            rw [← hQQ]; exact end_i (u := (F, C, R, T)) hx hb hr hlocks dX4_reason_168 hK hP hD hS ⟨by simp only [M_reason, eq_true c_2, eq_true c_3, and_true, true_and, and_false, false_and, if_true, if_false, not_true, not_false_iff, not_false_eq_true, or_true, true_or, or_false, false_or, ite_true, ite_false, and_self, Classical.not_not, Bool.false_eq_true], rfl⟩ (Nat.zero_le _) (Nat.zero_le _)
        · refine lv_iconst (v := nI 1) hx hb dX4_reason_123 (by decide) ?_
          refine lv_goto (tgt := 168) hx hb dX4_reason_124 (by decide) ?_
          rw [← hQQ]; exact end_i (u := (F, C, R, T)) hx hb hr hlocks dX4_reason_168 hK hP hD hS ⟨by simp only [M_reason, c_2, and_true, true_and, and_false, false_and, if_true, if_false, not_true, not_false_iff, not_false_eq_true, or_true, true_or, or_false, false_or, ite_true, ite_false, and_self, Classical.not_not, Bool.false_eq_true], rfl⟩ (Nat.zero_le _) (Nat.zero_le _)
      · refine lv_bipush (v := nI 10) hx hb dX4_reason_20 (by decide) ?_
        refine lv_iload_n hx hb dX4_reason_22 rfl (lv_at hl 1 rfl) ?_
        refine lv_imul hx hb dX4_reason_23 ?_
        refine to_i (y := nI (10 * i)) (pk_mul _ _) ?_
        refine lv_iload hx hb dX4_reason_24 (lv_at hl 6 rfl) ?_
        refine lv_iadd hx hb dX4_reason_26 ?_
        refine to_i (y := nI ((10 * i) + j)) (nI_add _ _) ?_
        refine lv_istore (lv' := [(7, .int (nI ((10 * i) + j))), (0, .ref ((ad 0))), (1, .int (nI i)), (2, .int (M_items (T 12) i j)), (3, .int (M_un (T 12) (R 7) i j)), (4, .int (M_un (T 12) (R 8) i j)), (5, .int (bi (M_agr (T 12) (R 13) i j = true))), (6, .int (nI j))]) hx hb dX4_reason_27 hl (by decide) rfl (fun ls hl => ?_)
        have hVj := hV (10 * i + j) (by omega)
        refine lv_aload_n hx hb dX4_reason_29 rfl (lv_at hl 1 rfl) ?_
        refine va_get (D := (dC, dI)) (ci := 5) (v := .ref ((ad 12))) (C := RX4) (T := TX4) (N := 22) hx hb hts inM hown hK hP 0 rfl rfl 12 (by decide) lk1 (fun _ h9 => h9) rfl dX4_reason_30 ?_
        refine lv_iload hx hb dX4_reason_33 (lv_at hl 0 rfl) ?_
        refine x_iald hx hb hK hP 10 0 rfl rfl (t := (10 * i) + j) (by omega) (by decide) dX4_reason_35 ?_
        refine n_if_le (tgt := 108) hx hb dX4_reason_36 (by decide) (by omega) (fun c_7 => ?_) (fun c_7 => ?_)
        · refine lv_iinc (v := nI (j + 1)) (lv' := [(6, .int (nI (j + 1))), (7, .int (nI ((10 * i) + j))), (0, .ref ((ad 0))), (1, .int (nI i)), (2, .int (M_items (T 12) i j)), (3, .int (M_un (T 12) (R 7) i j)), (4, .int (M_un (T 12) (R 8) i j)), (5, .int (bi (M_agr (T 12) (R 13) i j = true)))]) hx hb dX4_reason_108 hl (k := 7) rfl (by rw [show Int32.ofInt 1 = 1 from rfl]; exact nI_1 _) (by decide) rfl (fun ls hl => ?_)
          refine lv_goto (tgt := 13) hx hb dX4_reason_111 (by decide) ?_
          have e2 : M_items (T 12) i (j + 1) = M_items (T 12) i j := by simp only [M_items, eq_true c_7, and_true, true_and, and_false, false_and, if_true, if_false, not_true, not_false_iff, not_false_eq_true, or_true, true_or, or_false, false_or, ite_true, ite_false, and_self, Classical.not_not, Bool.false_eq_true]
          have e3 : M_un (T 12) (R 7) i (j + 1) = M_un (T 12) (R 7) i j := by simp only [M_un, eq_true c_7, and_true, true_and, and_false, false_and, if_true, if_false, not_true, not_false_iff, not_false_eq_true, or_true, true_or, or_false, false_or, ite_true, ite_false, and_self, Classical.not_not, Bool.false_eq_true]
          have e4 : M_un (T 12) (R 8) i (j + 1) = M_un (T 12) (R 8) i j := by simp only [M_un, eq_true c_7, and_true, true_and, and_false, false_and, if_true, if_false, not_true, not_false_iff, not_false_eq_true, or_true, true_or, or_false, false_or, ite_true, ite_false, and_self, Classical.not_not, Bool.false_eq_true]
          have e5 : M_agr (T 12) (R 13) i (j + 1) = M_agr (T 12) (R 13) i j := by simp only [M_agr, eq_true c_7, and_true, true_and, and_false, false_and, if_true, if_false, not_true, not_false_iff, not_false_eq_true, or_true, true_or, or_false, false_or, ite_true, ite_false, and_self, Classical.not_not, Bool.false_eq_true]
          exact ih (10 - (j + 1)) (by omega) (j + 1)  rfl (by omega)  H locs ls hP hD hS (by rw [e2]; rw [e3]; rw [e4]; rw [e5]; exact lv_sub hl [2, 3, 4, 5, 6, 7, 0] rfl)
        · have c_7n : ¬ T 12 (10 * i + j) = 0 := by omega
          refine lv_iload_n hx hb dX4_reason_39 rfl (lv_at hl 3 rfl) ?_
          refine lv_iconst (v := nI 1) hx hb dX4_reason_40 (by decide) ?_
          refine lv_iload hx hb dX4_reason_41 (lv_at hl 7 rfl) ?_
          refine lv_ishl hx hb dX4_reason_43 ?_
          refine lv_ior hx hb dX4_reason_44 ?_
          refine lv_istore_n (lv' := [(2, .int ((M_items (T 12) i j) ||| ((nI 1) <<< ((nI j) &&& 31)))), (7, .int (nI ((10 * i) + j))), (0, .ref ((ad 0))), (1, .int (nI i)), (3, .int (M_un (T 12) (R 7) i j)), (4, .int (M_un (T 12) (R 8) i j)), (5, .int (bi (M_agr (T 12) (R 13) i j = true))), (6, .int (nI j))]) hx hb dX4_reason_45 rfl hl (by decide) rfl (fun ls hl => ?_)
          refine lv_iload_n hx hb dX4_reason_46 rfl (lv_at hl 4 rfl) ?_
          refine lv_aload_n hx hb dX4_reason_47 rfl (lv_at hl 2 rfl) ?_
          refine va_get (D := (dC, dI)) (ci := 5) (v := .ref ((ad 7))) (C := RX4) (T := TX4) (N := 22) hx hb hts inM hown hK hP 0 rfl rfl 7 (by decide) lk2 (fun _ h9 => h9) rfl dX4_reason_48 ?_
          refine lv_iload hx hb dX4_reason_51 (lv_at hl 7 rfl) ?_
          refine x_iald (f := R 7) hx hb hK hP 6 0 rfl rfl (t := j) (by omega) (by decide) dX4_reason_53 ?_
          refine lv_ior hx hb dX4_reason_54 ?_
          refine lv_istore_n (lv' := [(3, .int ((M_un (T 12) (R 7) i j) ||| (R 7 j))), (2, .int ((M_items (T 12) i j) ||| ((nI 1) <<< ((nI j) &&& 31)))), (7, .int (nI ((10 * i) + j))), (0, .ref ((ad 0))), (1, .int (nI i)), (4, .int (M_un (T 12) (R 8) i j)), (5, .int (bi (M_agr (T 12) (R 13) i j = true))), (6, .int (nI j))]) hx hb dX4_reason_55 rfl hl (by decide) rfl (fun ls hl => ?_)
          refine lv_iload hx hb dX4_reason_56 (lv_at hl 5 rfl) ?_
          refine lv_aload_n hx hb dX4_reason_58 rfl (lv_at hl 3 rfl) ?_
          refine va_get (D := (dC, dI)) (ci := 5) (v := .ref ((ad 8))) (C := RX4) (T := TX4) (N := 22) hx hb hts inM hown hK hP 0 rfl rfl 8 (by decide) lk3 (fun _ h9 => h9) rfl dX4_reason_59 ?_
          refine lv_iload hx hb dX4_reason_62 (lv_at hl 7 rfl) ?_
          refine x_iald (f := R 8) hx hb hK hP 7 0 rfl rfl (t := j) (by omega) (by decide) dX4_reason_64 ?_
          refine lv_ior hx hb dX4_reason_65 ?_
          refine lv_istore (lv' := [(4, .int ((M_un (T 12) (R 8) i j) ||| (R 8 j))), (3, .int ((M_un (T 12) (R 7) i j) ||| (R 7 j))), (2, .int ((M_items (T 12) i j) ||| ((nI 1) <<< ((nI j) &&& 31)))), (7, .int (nI ((10 * i) + j))), (0, .ref ((ad 0))), (1, .int (nI i)), (5, .int (bi (M_agr (T 12) (R 13) i j = true))), (6, .int (nI j))]) hx hb dX4_reason_66 hl (by decide) rfl (fun ls hl => ?_)
          refine lv_iload hx hb dX4_reason_68 (lv_at hl 6 rfl) ?_
          refine br_eq (tgt := 105) hx hb dX4_reason_70 (by decide) (fun c_8 => ?_) (fun c_8 => ?_)
          · refine lv_iconst (v := nI 0) hx hb dX4_reason_105 (by decide) ?_
            refine lv_istore (lv' := [(5, .int (nI 0)), (4, .int ((M_un (T 12) (R 8) i j) ||| (R 8 j))), (3, .int ((M_un (T 12) (R 7) i j) ||| (R 7 j))), (2, .int ((M_items (T 12) i j) ||| ((nI 1) <<< ((nI j) &&& 31)))), (7, .int (nI ((10 * i) + j))), (0, .ref ((ad 0))), (1, .int (nI i)), (6, .int (nI j))]) hx hb dX4_reason_106 hl (by decide) rfl (fun ls hl => ?_)
            refine lv_iinc (v := nI (j + 1)) (lv' := [(6, .int (nI (j + 1))), (5, .int (nI 0)), (4, .int ((M_un (T 12) (R 8) i j) ||| (R 8 j))), (3, .int ((M_un (T 12) (R 7) i j) ||| (R 7 j))), (2, .int ((M_items (T 12) i j) ||| ((nI 1) <<< ((nI j) &&& 31)))), (7, .int (nI ((10 * i) + j))), (0, .ref ((ad 0))), (1, .int (nI i))]) hx hb dX4_reason_108 hl (k := 7) rfl (by rw [show Int32.ofInt 1 = 1 from rfl]; exact nI_1 _) (by decide) rfl (fun ls hl => ?_)
            refine lv_goto (tgt := 13) hx hb dX4_reason_111 (by decide) ?_
            have e2 : M_items (T 12) i (j + 1) = (M_items (T 12) i j) ||| ((nI 1) <<< ((nI j) &&& 31)) := by simp only [M_items, c_7n, c_8, and_true, true_and, and_false, false_and, if_true, if_false, not_true, not_false_iff, not_false_eq_true, or_true, true_or, or_false, false_or, ite_true, ite_false, and_self, Classical.not_not, Bool.false_eq_true]
            have e3 : M_un (T 12) (R 7) i (j + 1) = (M_un (T 12) (R 7) i j) ||| (R 7 j) := by simp only [M_un, c_7n, c_8, and_true, true_and, and_false, false_and, if_true, if_false, not_true, not_false_iff, not_false_eq_true, or_true, true_or, or_false, false_or, ite_true, ite_false, and_self, Classical.not_not, Bool.false_eq_true]
            have e4 : M_un (T 12) (R 8) i (j + 1) = (M_un (T 12) (R 8) i j) ||| (R 8 j) := by simp only [M_un, c_7n, c_8, and_true, true_and, and_false, false_and, if_true, if_false, not_true, not_false_iff, not_false_eq_true, or_true, true_or, or_false, false_or, ite_true, ite_false, and_self, Classical.not_not, Bool.false_eq_true]
            have e5 : bi (M_agr (T 12) (R 13) i (j + 1) = true) = nI 0 := bi_f (by simp [M_agr, c_7n, c_8])
            exact ih (10 - (j + 1)) (by omega) (j + 1)  rfl (by omega)  H locs ls hP hD hS (by rw [e2]; rw [e3]; rw [e4]; rw [e5]; exact lv_sub hl [6, 7, 4, 3, 2, 1, 0] rfl)
          · refine lv_aload_n hx hb dX4_reason_73 rfl (lv_at hl 4 rfl) ?_
            refine va_get (D := (dC, dI)) (ci := 5) (v := .ref ((ad 13))) (C := RX4) (T := TX4) (N := 22) hx hb hts inM hown hK hP 0 rfl rfl 13 (by decide) lk4 (fun _ h9 => h9) rfl dX4_reason_74 ?_
            refine lv_iconst (v := nI 2) hx hb dX4_reason_77 (by decide) ?_
            refine lv_iload hx hb dX4_reason_78 (lv_at hl 3 rfl) ?_
            refine lv_imul hx hb dX4_reason_80 ?_
            refine to_i (y := nI (2 * ((10 * i) + j))) (pk_mul _ _) ?_
            refine x_iald (f := R 13) hx hb hK hP 11 0 rfl rfl (t := 2 * ((10 * i) + j)) (by omega) (by decide) dX4_reason_81 ?_
            refine lv_iconst (v := nI 1) hx hb dX4_reason_82 (by decide) ?_
            refine lv_icmp_ne (tgt := 105) hx hb dX4_reason_83 (by decide) (fun c_9 => ?_) (fun c_9 => ?_)
            · refine lv_iconst (v := nI 0) hx hb dX4_reason_105 (by decide) ?_
              refine lv_istore (lv' := [(5, .int (nI 0)), (4, .int ((M_un (T 12) (R 8) i j) ||| (R 8 j))), (3, .int ((M_un (T 12) (R 7) i j) ||| (R 7 j))), (2, .int ((M_items (T 12) i j) ||| ((nI 1) <<< ((nI j) &&& 31)))), (7, .int (nI ((10 * i) + j))), (0, .ref ((ad 0))), (1, .int (nI i)), (6, .int (nI j))]) hx hb dX4_reason_106 hl (by decide) rfl (fun ls hl => ?_)
              refine lv_iinc (v := nI (j + 1)) (lv' := [(6, .int (nI (j + 1))), (5, .int (nI 0)), (4, .int ((M_un (T 12) (R 8) i j) ||| (R 8 j))), (3, .int ((M_un (T 12) (R 7) i j) ||| (R 7 j))), (2, .int ((M_items (T 12) i j) ||| ((nI 1) <<< ((nI j) &&& 31)))), (7, .int (nI ((10 * i) + j))), (0, .ref ((ad 0))), (1, .int (nI i))]) hx hb dX4_reason_108 hl (k := 7) rfl (by rw [show Int32.ofInt 1 = 1 from rfl]; exact nI_1 _) (by decide) rfl (fun ls hl => ?_)
              refine lv_goto (tgt := 13) hx hb dX4_reason_111 (by decide) ?_
              have e2 : M_items (T 12) i (j + 1) = (M_items (T 12) i j) ||| ((nI 1) <<< ((nI j) &&& 31)) := by simp only [M_items, c_7n, eq_true c_8, c_9, and_true, true_and, and_false, false_and, if_true, if_false, not_true, not_false_iff, not_false_eq_true, or_true, true_or, or_false, false_or, ite_true, ite_false, and_self, Classical.not_not, Bool.false_eq_true]
              have e3 : M_un (T 12) (R 7) i (j + 1) = (M_un (T 12) (R 7) i j) ||| (R 7 j) := by simp only [M_un, c_7n, eq_true c_8, c_9, and_true, true_and, and_false, false_and, if_true, if_false, not_true, not_false_iff, not_false_eq_true, or_true, true_or, or_false, false_or, ite_true, ite_false, and_self, Classical.not_not, Bool.false_eq_true]
              have e4 : M_un (T 12) (R 8) i (j + 1) = (M_un (T 12) (R 8) i j) ||| (R 8 j) := by simp only [M_un, c_7n, eq_true c_8, c_9, and_true, true_and, and_false, false_and, if_true, if_false, not_true, not_false_iff, not_false_eq_true, or_true, true_or, or_false, false_or, ite_true, ite_false, and_self, Classical.not_not, Bool.false_eq_true]
              have e5 : bi (M_agr (T 12) (R 13) i (j + 1) = true) = nI 0 := bi_f (by simp [M_agr, c_7n, eq_true c_8, c_9])
              exact ih (10 - (j + 1)) (by omega) (j + 1)  rfl (by omega)  H locs ls hP hD hS (by rw [e2]; rw [e3]; rw [e4]; rw [e5]; exact lv_sub hl [6, 7, 4, 3, 2, 1, 0] rfl)
            · refine lv_aload_n hx hb dX4_reason_86 rfl (lv_at hl 4 rfl) ?_
              refine va_get (D := (dC, dI)) (ci := 5) (v := .ref ((ad 13))) (C := RX4) (T := TX4) (N := 22) hx hb hts inM hown hK hP 0 rfl rfl 13 (by decide) lk4 (fun _ h9 => h9) rfl dX4_reason_87 ?_
              refine lv_iconst (v := nI 2) hx hb dX4_reason_90 (by decide) ?_
              refine lv_iload hx hb dX4_reason_91 (lv_at hl 3 rfl) ?_
              refine lv_imul hx hb dX4_reason_93 ?_
              refine to_i (y := nI (2 * ((10 * i) + j))) (pk_mul _ _) ?_
              refine lv_iconst (v := nI 1) hx hb dX4_reason_94 (by decide) ?_
              refine lv_iadd hx hb dX4_reason_95 ?_
              refine to_i (y := nI ((2 * ((10 * i) + j)) + 1)) (nI_add _ _) ?_
              refine x_iald (f := R 13) hx hb hK hP 11 0 rfl rfl (t := (2 * ((10 * i) + j)) + 1) (by omega) (by decide) dX4_reason_96 ?_
              refine lv_iconst (v := nI 1) hx hb dX4_reason_97 (by decide) ?_
              refine lv_icmp_ne (tgt := 105) hx hb dX4_reason_98 (by decide) (fun c_10 => ?_) (fun c_10 => ?_)
              · refine lv_iconst (v := nI 0) hx hb dX4_reason_105 (by decide) ?_
                refine lv_istore (lv' := [(5, .int (nI 0)), (4, .int ((M_un (T 12) (R 8) i j) ||| (R 8 j))), (3, .int ((M_un (T 12) (R 7) i j) ||| (R 7 j))), (2, .int ((M_items (T 12) i j) ||| ((nI 1) <<< ((nI j) &&& 31)))), (7, .int (nI ((10 * i) + j))), (0, .ref ((ad 0))), (1, .int (nI i)), (6, .int (nI j))]) hx hb dX4_reason_106 hl (by decide) rfl (fun ls hl => ?_)
                refine lv_iinc (v := nI (j + 1)) (lv' := [(6, .int (nI (j + 1))), (5, .int (nI 0)), (4, .int ((M_un (T 12) (R 8) i j) ||| (R 8 j))), (3, .int ((M_un (T 12) (R 7) i j) ||| (R 7 j))), (2, .int ((M_items (T 12) i j) ||| ((nI 1) <<< ((nI j) &&& 31)))), (7, .int (nI ((10 * i) + j))), (0, .ref ((ad 0))), (1, .int (nI i))]) hx hb dX4_reason_108 hl (k := 7) rfl (by rw [show Int32.ofInt 1 = 1 from rfl]; exact nI_1 _) (by decide) rfl (fun ls hl => ?_)
                refine lv_goto (tgt := 13) hx hb dX4_reason_111 (by decide) ?_
                have e2 : M_items (T 12) i (j + 1) = (M_items (T 12) i j) ||| ((nI 1) <<< ((nI j) &&& 31)) := by simp only [M_items, c_7n, eq_true c_8, eq_true c_9, c_10, and_true, true_and, and_false, false_and, if_true, if_false, not_true, not_false_iff, not_false_eq_true, or_true, true_or, or_false, false_or, ite_true, ite_false, and_self, Classical.not_not, Bool.false_eq_true]
                have e3 : M_un (T 12) (R 7) i (j + 1) = (M_un (T 12) (R 7) i j) ||| (R 7 j) := by simp only [M_un, c_7n, eq_true c_8, eq_true c_9, c_10, and_true, true_and, and_false, false_and, if_true, if_false, not_true, not_false_iff, not_false_eq_true, or_true, true_or, or_false, false_or, ite_true, ite_false, and_self, Classical.not_not, Bool.false_eq_true]
                have e4 : M_un (T 12) (R 8) i (j + 1) = (M_un (T 12) (R 8) i j) ||| (R 8 j) := by simp only [M_un, c_7n, eq_true c_8, eq_true c_9, c_10, and_true, true_and, and_false, false_and, if_true, if_false, not_true, not_false_iff, not_false_eq_true, or_true, true_or, or_false, false_or, ite_true, ite_false, and_self, Classical.not_not, Bool.false_eq_true]
                have e5 : bi (M_agr (T 12) (R 13) i (j + 1) = true) = nI 0 := bi_f (by simp [M_agr, c_7n, eq_true c_8, eq_true c_9, c_10])
                exact ih (10 - (j + 1)) (by omega) (j + 1)  rfl (by omega)  H locs ls hP hD hS (by rw [e2]; rw [e3]; rw [e4]; rw [e5]; exact lv_sub hl [6, 7, 4, 3, 2, 1, 0] rfl)
              · refine lv_iconst (v := nI 1) hx hb dX4_reason_101 (by decide) ?_
                refine lv_goto (tgt := 106) hx hb dX4_reason_102 (by decide) ?_
                refine lv_istore (lv' := [(5, .int (nI 1)), (4, .int ((M_un (T 12) (R 8) i j) ||| (R 8 j))), (3, .int ((M_un (T 12) (R 7) i j) ||| (R 7 j))), (2, .int ((M_items (T 12) i j) ||| ((nI 1) <<< ((nI j) &&& 31)))), (7, .int (nI ((10 * i) + j))), (0, .ref ((ad 0))), (1, .int (nI i)), (6, .int (nI j))]) hx hb dX4_reason_106 hl (by decide) rfl (fun ls hl => ?_)
                refine lv_iinc (v := nI (j + 1)) (lv' := [(6, .int (nI (j + 1))), (5, .int (nI 1)), (4, .int ((M_un (T 12) (R 8) i j) ||| (R 8 j))), (3, .int ((M_un (T 12) (R 7) i j) ||| (R 7 j))), (2, .int ((M_items (T 12) i j) ||| ((nI 1) <<< ((nI j) &&& 31)))), (7, .int (nI ((10 * i) + j))), (0, .ref ((ad 0))), (1, .int (nI i))]) hx hb dX4_reason_108 hl (k := 7) rfl (by rw [show Int32.ofInt 1 = 1 from rfl]; exact nI_1 _) (by decide) rfl (fun ls hl => ?_)
                refine lv_goto (tgt := 13) hx hb dX4_reason_111 (by decide) ?_
                have e2 : M_items (T 12) i (j + 1) = (M_items (T 12) i j) ||| ((nI 1) <<< ((nI j) &&& 31)) := by simp only [M_items, c_7n, eq_true c_8, eq_true c_9, eq_true c_10, and_true, true_and, and_false, false_and, if_true, if_false, not_true, not_false_iff, not_false_eq_true, or_true, true_or, or_false, false_or, ite_true, ite_false, and_self, Classical.not_not, Bool.false_eq_true]
                have e3 : M_un (T 12) (R 7) i (j + 1) = (M_un (T 12) (R 7) i j) ||| (R 7 j) := by simp only [M_un, c_7n, eq_true c_8, eq_true c_9, eq_true c_10, and_true, true_and, and_false, false_and, if_true, if_false, not_true, not_false_iff, not_false_eq_true, or_true, true_or, or_false, false_or, ite_true, ite_false, and_self, Classical.not_not, Bool.false_eq_true]
                have e4 : M_un (T 12) (R 8) i (j + 1) = (M_un (T 12) (R 8) i j) ||| (R 8 j) := by simp only [M_un, c_7n, eq_true c_8, eq_true c_9, eq_true c_10, and_true, true_and, and_false, false_and, if_true, if_false, not_true, not_false_iff, not_false_eq_true, or_true, true_or, or_false, false_or, ite_true, ite_false, and_self, Classical.not_not, Bool.false_eq_true]
                have e5 : bi (M_agr (T 12) (R 13) i (j + 1) = true) = nI 1 := bi_t (by simp only [M_agr, c_7n, eq_true c_8, eq_true c_9, eq_true c_10, and_true, true_and, and_false, false_and, if_true, if_false, not_true, not_false_iff, not_false_eq_true, or_true, true_or, or_false, false_or, ite_true, ite_false, and_self, Classical.not_not, Bool.false_eq_true, decide_true, Bool.and_self, Bool.and_true])
                exact ih (10 - (j + 1)) (by omega) (j + 1)  rfl (by omega)  H locs ls hP hD hS (by rw [e2]; rw [e3]; rw [e4]; rw [e5]; exact lv_sub hl [6, 7, 4, 3, 2, 1, 0] rfl)
  exact hl_rea 10 0  rfl (Nat.zero_le _)  H locs ls hP hD hS (lv_sub hl [5, 6, 4, 3, 2, 1, 0] rfl)

def M_whyNot (F : Nat → Int32) (C : Nat → Nat) (R : Nat → Nat → Int32) (T : Nat → Nat → Nat) (a : Int32) : Int32 × MS :=
  if isC C 9 a then (nI (M_reason (T 12) (R 7) (R 8) (R 10) (R 13) (ix a)), (va_up F 0 (nI 0), C, R, T)) else (nI 0, (va_up F 0 (nI 1), C, R, T))

set_option maxHeartbeats 4000000 in
set_option maxRecDepth 100000 in
/-- whyNot -/
theorem qX4_whyNot (l : Launch) (dC : Nat → ClassId) (dI : Nat → Nat → Nat) (cy : Nat → ClassId) (ad : Nat → Nat) (F : Nat → Int32) (C : Nat → Nat) (R : Nat → Nat → Int32) (T : Nat → Nat → Nat) (sz : Nat) (a : Int32) (hC : C 9 ≤ 10) (hV : ∀ j, j < 100 → T 12 j ≤ 9) : Met l yX4_whyNot wsX4_whyNot ({ frames := 2, cells := 0, slots := 0, locals := 43 }) (va_Pc [.ref ((ad 0)), .int a] (wPre (dC, dI) (tyL cy) (mw ad cy F C R T) sz)) (QI (dC, dI) (tyL cy) (fun (r : Int32) (u : MS) => (r, u) = M_whyNot F C R T a) (mwU ad cy) (va_A (mw ad cy F C R T) sz)) 0 0 (va_A (mw ad cy F C R T) sz) := by
  refine en (cc := cX4_whyNot) (maxL := 2) (ret := (some .int)) (own := RX4) (lv := [(0, .ref ((ad 0))), (1, .int a)]) (by decide) rfl rfl (Nat.le_of_ble_eq_true rfl) rfl ?_
  intro p e s m below meth c ls A H locs hx hb hr hts hown hlocks hml hin hsz hK hP hD hS hA hl
  generalize hQQ : MQ below _ _ s _ _ A = QQ
  have inM : ∀ w ∈ wsX40, w ∈ wsX4_whyNot := fun _ h => List.mem_cons_of_mem _ (List.mem_append_right _ h)
  have lk0 : (Cond.fieldLink RX4 65 "ClauseShopModel" "thrown" "I").before (([.ref ((ad 0)), .int a] : List Value).toArray) s = true := hts _ (List.mem_of_getElem? (i := 1) rfl)
  refine lv_aload_n hx hb dX4_whyNot_0 rfl (lv_at hl 0 rfl) ?_
  refine lv_aload_n hx hb dX4_whyNot_1 rfl (lv_at hl 0 rfl) ?_
  refine lv_iload_n hx hb dX4_whyNot_2 rfl (lv_at hl 1 rfl) ?_
  refine call_i (va_runV (As := [.int a]) (rest := [.ref ((ad 0))]) ⟨hx, hb, hml, hown, hts⟩ (qX4_isContract l dC dI cy ad F C R T H.size a) (cwV 1 hts gX4_whyNot_X4_isContract rfl rfl rfl (by decide +kernel) ⟨Nat.le_of_ble_eq_true rfl, Nat.le_of_ble_eq_true rfl⟩) (preV hK hP hD (w_recv (ci := 5) (q0 := 0) hK hP rfl rfl)) rfl rfl hl.1 rfl (lv_room (Nat.le_of_ble_eq_true rfl)) dX4_whyNot_3 ⟨Nat.zero_le _, Nat.zero_le _⟩) hD hS hA (fun r_1 u H locs w_2 hP hD hS => ?_)
  obtain ⟨rfl, rfl⟩ := w_2
  have hP : va_P (dC, dI) vwCl (mw ad cy F C R T) H := hP
  have hD : va_D A (mw ad cy F C R T) := hD
  refine br_eq (tgt := 13) hx hb dX4_whyNot_6 (by decide) (fun c_3 => ?_) (fun c_3 => ?_)
  · refine lv_iconst (v := nI 1) hx hb dX4_whyNot_13 (by decide) ?_
    refine va_put (D := (dC, dI)) (ci := 5) (v := .int (nI 1)) (ty := .int) (C := RX4) (T := TX4) (N := 22) hx hb hts inM tyX4 tyX4_ok nmX4 hown hK hP hD hS 0 rfl rfl 0 (by decide) lk0 (fun _ h9 => h9) rfl (by decide +kernel) rfl rfl (Nat.le_of_ble_eq_true rfl) dX4_whyNot_14 (fun H locs hP hD hS => ?_)
    have hP : va_P (dC, dI) vwCl (mw ad cy (va_up F 0 (nI 1)) C R T) H := hP
    have hD : va_D A (mw ad cy (va_up F 0 (nI 1)) C R T) := hD
    refine lv_aload_n hx hb dX4_whyNot_17 rfl (lv_at hl 0 rfl) ?_
    refine va_get (D := (dC, dI)) (ci := 5) (v := .int (nI 1)) (C := RX4) (T := TX4) (N := 22) hx hb hts inM hown hK hP 0 rfl rfl 0 (by decide) lk0 (fun _ h9 => h9) rfl dX4_whyNot_18 ?_
    refine lv_if_le (tgt := 28) hx hb dX4_whyNot_21 (by decide) (fun h9 => absurd h9 (by decide)) (fun _ => ?_)
    refine lv_iconst (v := nI 0) hx hb dX4_whyNot_24 (by decide) ?_
    refine lv_goto (tgt := 33) hx hb dX4_whyNot_25 (by decide) ?_
    rw [← hQQ]; exact end_i (u := (va_up F 0 (nI 1), C, R, T)) hx hb hr hlocks dX4_whyNot_33 hK hP hD hS (by simp only [M_whyNot, c_3, isC, isCl, isSd, and_true, true_and, and_false, false_and, if_true, if_false, not_true, not_false_iff, not_false_eq_true, or_true, true_or, or_false, false_or, ite_true, ite_false, and_self, Classical.not_not, Bool.false_eq_true]; try rfl) (Nat.zero_le _) (Nat.zero_le _)
  · obtain ⟨i, hi, ex, ei⟩ := ct_ix (n := C 9) (by omega) c_3
    subst ex
    refine lv_iconst (v := nI 0) hx hb dX4_whyNot_9 (by decide) ?_
    refine lv_goto (tgt := 14) hx hb dX4_whyNot_10 (by decide) ?_
    refine va_put (D := (dC, dI)) (ci := 5) (v := .int (nI 0)) (ty := .int) (C := RX4) (T := TX4) (N := 22) hx hb hts inM tyX4 tyX4_ok nmX4 hown hK hP hD hS 0 rfl rfl 0 (by decide) lk0 (fun _ h9 => h9) rfl (by decide +kernel) rfl rfl (Nat.le_of_ble_eq_true rfl) dX4_whyNot_14 (fun H locs hP hD hS => ?_)
    have hP : va_P (dC, dI) vwCl (mw ad cy (va_up F 0 (nI 0)) C R T) H := hP
    have hD : va_D A (mw ad cy (va_up F 0 (nI 0)) C R T) := hD
    refine lv_aload_n hx hb dX4_whyNot_17 rfl (lv_at hl 0 rfl) ?_
    refine va_get (D := (dC, dI)) (ci := 5) (v := .int (nI 0)) (C := RX4) (T := TX4) (N := 22) hx hb hts inM hown hK hP 0 rfl rfl 0 (by decide) lk0 (fun _ h9 => h9) rfl dX4_whyNot_18 ?_
    refine lv_if_le (tgt := 28) hx hb dX4_whyNot_21 (by decide) (fun _ => ?_) (fun h9 => absurd h9 (by decide))
    refine lv_aload_n hx hb dX4_whyNot_28 rfl (lv_at hl 0 rfl) ?_
    refine lv_iload_n hx hb dX4_whyNot_29 rfl (lv_at hl 1 rfl) ?_
    refine call_i (va_runV (As := [.int (nI i)]) (rest := []) ⟨hx, hb, hml, hown, hts⟩ (qX4_reason l dC dI cy ad (va_up F 0 (nI 0)) C R T H.size i (by omega) hV) (cwV 1 hts gX4_whyNot_X4_reason rfl rfl rfl (by decide +kernel) ⟨Nat.le_of_ble_eq_true rfl, Nat.le_of_ble_eq_true rfl⟩) (preV hK hP hD (w_recv (ci := 5) (q0 := 0) hK hP rfl rfl)) rfl rfl hl.1 rfl (lv_room (Nat.le_of_ble_eq_true rfl)) dX4_whyNot_30 ⟨Nat.zero_le _, Nat.zero_le _⟩) hD hS hA (fun r_6 u H locs w_7 hP hD hS => ?_)
    obtain ⟨rfl, rfl⟩ := w_7
    have hP : va_P (dC, dI) vwCl (mw ad cy (va_up F 0 (nI 0)) C R T) H := hP
    have hD : va_D A (mw ad cy (va_up F 0 (nI 0)) C R T) := hD
    rw [← hQQ]; exact end_i (u := (va_up F 0 (nI 0), C, R, T)) hx hb hr hlocks dX4_whyNot_33 hK hP hD hS (by simp only [M_whyNot, eq_true c_3, ei, isC, isCl, isSd, and_true, true_and, and_false, false_and, if_true, if_false, not_true, not_false_iff, not_false_eq_true, or_true, true_or, or_false, false_or, ite_true, ite_false, and_self, Classical.not_not, Bool.false_eq_true]; try rfl) (Nat.zero_le _) (Nat.zero_le _)

def M_sus (con : Nat → Nat) (sd stt : Nat → Int32) (d : Nat) : Nat → Bool
  | 0 => false
  | k + 1 => M_sus con sd stt d k || (decide (con k = con d) && !decide (sd k = sd d) && decide (stt k = nI 3))
abbrev M_isS (con : Nat → Nat) (sd stt : Nat → Int32) (n d : Nat) : Prop := M_sus con sd stt d n = true ∧ (stt d = 0 ∨ stt d = nI 2)

set_option maxHeartbeats 4000000 in
set_option maxRecDepth 100000 in
/-- isSuspendedNow -/
theorem qX4_isSuspendedNow (l : Launch) (dC : Nat → ClassId) (dI : Nat → Nat → Nat) (cy : Nat → ClassId) (ad : Nat → Nat) (F : Nat → Int32) (C : Nat → Nat) (R : Nat → Nat → Int32) (T : Nat → Nat → Nat) (sz : Nat) (d : Nat) (hd : d < C 14) (hC : C 14 ≤ 100) (hCn : ∀ j, j < 100 → T 15 j ≤ 10) : Met l yX4_isSuspendedNow wsX4_isSuspendedNow ({ frames := 0, cells := 0, slots := 0, locals := 0 }) (va_Pc [.ref ((ad 0)), .int (nI d)] (wPre (dC, dI) (tyL cy) (mw ad cy F C R T) sz)) (QI (dC, dI) (tyL cy) (fun (r : Int32) (u : MS) => r = bi (M_isS (T 15) (R 16) (R 19) (C 14) d) ∧ u = (F, C, R, T)) (mwU ad cy) (va_A (mw ad cy F C R T) sz)) 0 0 (va_A (mw ad cy F C R T) sz) := by
  refine en (cc := cX4_isSuspendedNow) (maxL := 4) (ret := (some .boolean)) (own := RX4) (lv := [(0, .ref ((ad 0))), (1, .int (nI d))]) (by decide) rfl rfl (Nat.le_of_ble_eq_true rfl) rfl ?_
  intro p e s m below meth c ls A H locs hx hb hr hts hown hlocks hml hin hsz hK hP hD hS hA hl
  generalize hQQ : MQ below _ _ s _ _ A = QQ
  have inM : ∀ w ∈ wsX40, w ∈ wsX4_isSuspendedNow := fun _ h => List.mem_cons_of_mem _ (List.mem_append_right _ h)
  have lk0 : (Cond.fieldLink RX4 76 "ClauseShopModel" "duties" "I").before (([.ref ((ad 0)), .int (nI d)] : List Value).toArray) s = true := hts _ (List.mem_of_getElem? (i := 1) rfl)
  have lk1 : (Cond.fieldLink RX4 56 "ClauseShopModel" "state" "[I").before (([.ref ((ad 0)), .int (nI d)] : List Value).toArray) s = true := hts _ (List.mem_of_getElem? (i := 4) rfl)
  have lk2 : (Cond.fieldLink RX4 44 "ClauseShopModel" "contract" "[I").before (([.ref ((ad 0)), .int (nI d)] : List Value).toArray) s = true := hts _ (List.mem_of_getElem? (i := 2) rfl)
  have lk3 : (Cond.fieldLink RX4 47 "ClauseShopModel" "side" "[I").before (([.ref ((ad 0)), .int (nI d)] : List Value).toArray) s = true := hts _ (List.mem_of_getElem? (i := 3) rfl)
  refine lv_iconst (v := nI 0) hx hb dX4_isSuspendedNow_0 (by decide) ?_
  refine lv_istore_n (lv' := [(2, .int (nI 0)), (0, .ref ((ad 0))), (1, .int (nI d))]) hx hb dX4_isSuspendedNow_1 rfl hl (by decide) rfl (fun ls hl => ?_)
  refine lv_iconst (v := nI 0) hx hb dX4_isSuspendedNow_2 (by decide) ?_
  refine lv_istore_n (lv' := [(3, .int (nI 0)), (2, .int (nI 0)), (0, .ref ((ad 0))), (1, .int (nI d))]) hx hb dX4_isSuspendedNow_3 rfl hl (by decide) rfl (fun ls hl => ?_)
  have hl_sus : ∀ (k9 j : Nat), C 14 - j = k9 → j ≤ C 14 → ∀ (H : Heap) (locs : List Loc) (ls : Array Slot), va_P (dC, dI) vwCl (mw ad cy F C R T) H → va_D A (mw ad cy F C R T) → va_S A s.heap H locs → lv_has ls 4 [(0, .ref ((ad 0))), (1, .int (nI d)), (2, .int (bi (M_sus (T 15) (R 16) (R 19) d j = true))), (3, .int (nI j))] → W p l e ({ frames := 0, cells := 0, slots := 0, locals := 0 }) s m (([.ref ((ad 0)), .int (nI d)] : List Value).toArray) below meth c H locs 0 0 QQ (F0 m 4 ls []) := by
    intro k9
    induction k9 using Nat.strongRecOn with
    | _ k9 ih =>
      intro j  hk9 hle9  H locs ls hP hD hS hl
      refine lv_iload_n hx hb dX4_isSuspendedNow_4 rfl (lv_at hl 3 rfl) ?_
      refine lv_aload_n hx hb dX4_isSuspendedNow_5 rfl (lv_at hl 0 rfl) ?_
      refine va_get (D := (dC, dI)) (ci := 5) (v := .int (nI (C 14))) (C := RX4) (T := TX4) (N := 22) hx hb hts inM hown hK hP 0 rfl rfl 14 (by decide) lk0 (fun _ h9 => h9) rfl dX4_isSuspendedNow_6 ?_
      refine n_ge (tgt := 68) hx hb dX4_isSuspendedNow_9 (by decide) (by omega) (by omega) (fun c_1 => ?_) (fun c_1 => ?_)
      · obtain rfl : j = C 14 := by omega
        refine lv_iload_n hx hb dX4_isSuspendedNow_68 rfl (lv_at hl 2 rfl) ?_
        refine br_eq (tgt := 95) hx hb dX4_isSuspendedNow_69 (by decide) (fun c_2 => ?_) (fun c_2 => ?_)
        · refine lv_iconst (v := nI 0) hx hb dX4_isSuspendedNow_95 (by decide) ?_
          rw [← hQQ]; exact end_z (u := (F, C, R, T)) hx hb hr hlocks dX4_isSuspendedNow_96 hK hP hD hS (by rfl) ⟨(bi_f (P := M_isS (T 15) (R 16) (R 19) (C 14) d) (by simp only [M_isS, c_2, and_true, true_and, and_false, false_and, if_true, if_false, not_true, not_false_iff, not_false_eq_true, or_true, true_or, or_false, false_or, ite_true, ite_false, and_self, Classical.not_not, Bool.false_eq_true])).symm, rfl⟩ (Nat.zero_le _) (Nat.zero_le _)
        · refine lv_aload_n hx hb dX4_isSuspendedNow_72 rfl (lv_at hl 0 rfl) ?_
          refine va_get (D := (dC, dI)) (ci := 5) (v := .ref ((ad 19))) (C := RX4) (T := TX4) (N := 22) hx hb hts inM hown hK hP 0 rfl rfl 19 (by decide) lk1 (fun _ h9 => h9) rfl dX4_isSuspendedNow_73 ?_
          refine lv_iload_n hx hb dX4_isSuspendedNow_76 rfl (lv_at hl 1 rfl) ?_
          refine x_iald (f := R 19) hx hb hK hP 16 0 rfl rfl (t := d) (by omega) (by decide) dX4_isSuspendedNow_77 ?_
          refine lv_if_eq (tgt := 91) hx hb dX4_isSuspendedNow_78 (by decide) (fun c_3 => ?_) (fun c_3 => ?_)
          · refine lv_iconst (v := nI 1) hx hb dX4_isSuspendedNow_91 (by decide) ?_
            refine lv_goto (tgt := 96) hx hb dX4_isSuspendedNow_92 (by decide) ?_
            rw [← hQQ]; exact end_z (u := (F, C, R, T)) hx hb hr hlocks dX4_isSuspendedNow_96 hK hP hD hS (by rfl) ⟨(bi_t (P := M_isS (T 15) (R 16) (R 19) (C 14) d) (by simp only [M_isS, eq_true c_2, eq_true c_3, and_true, true_and, and_false, false_and, if_true, if_false, not_true, not_false_iff, not_false_eq_true, or_true, true_or, or_false, false_or, ite_true, ite_false, and_self, Classical.not_not, Bool.false_eq_true])).symm, rfl⟩ (Nat.zero_le _) (Nat.zero_le _)
          · refine lv_aload_n hx hb dX4_isSuspendedNow_81 rfl (lv_at hl 0 rfl) ?_
            refine va_get (D := (dC, dI)) (ci := 5) (v := .ref ((ad 19))) (C := RX4) (T := TX4) (N := 22) hx hb hts inM hown hK hP 0 rfl rfl 19 (by decide) lk1 (fun _ h9 => h9) rfl dX4_isSuspendedNow_82 ?_
            refine lv_iload_n hx hb dX4_isSuspendedNow_85 rfl (lv_at hl 1 rfl) ?_
            refine x_iald (f := R 19) hx hb hK hP 16 0 rfl rfl (t := d) (by omega) (by decide) dX4_isSuspendedNow_86 ?_
            refine lv_iconst (v := nI 2) hx hb dX4_isSuspendedNow_87 (by decide) ?_
            refine lv_icmp_ne (tgt := 95) hx hb dX4_isSuspendedNow_88 (by decide) (fun c_4 => ?_) (fun c_4 => ?_)
            · refine lv_iconst (v := nI 0) hx hb dX4_isSuspendedNow_95 (by decide) ?_
              rw [← hQQ]; exact end_z (u := (F, C, R, T)) hx hb hr hlocks dX4_isSuspendedNow_96 hK hP hD hS (by rfl) ⟨(bi_f (P := M_isS (T 15) (R 16) (R 19) (C 14) d) (by simp only [M_isS, eq_true c_2, c_3, c_4, and_true, true_and, and_false, false_and, if_true, if_false, not_true, not_false_iff, not_false_eq_true, or_true, true_or, or_false, false_or, ite_true, ite_false, and_self, Classical.not_not, Bool.false_eq_true])).symm, rfl⟩ (Nat.zero_le _) (Nat.zero_le _)
            · refine lv_iconst (v := nI 1) hx hb dX4_isSuspendedNow_91 (by decide) ?_
              refine lv_goto (tgt := 96) hx hb dX4_isSuspendedNow_92 (by decide) ?_
              rw [← hQQ]; exact end_z (u := (F, C, R, T)) hx hb hr hlocks dX4_isSuspendedNow_96 hK hP hD hS (by rfl) ⟨(bi_t (P := M_isS (T 15) (R 16) (R 19) (C 14) d) (by simp only [M_isS, eq_true c_2, c_3, eq_true c_4, and_true, true_and, and_false, false_and, if_true, if_false, not_true, not_false_iff, not_false_eq_true, or_true, true_or, or_false, false_or, ite_true, ite_false, and_self, Classical.not_not, Bool.false_eq_true])).symm, rfl⟩ (Nat.zero_le _) (Nat.zero_le _)
      · refine lv_iload_n hx hb dX4_isSuspendedNow_12 rfl (lv_at hl 2 rfl) ?_
        refine br_ne (tgt := 56) hx hb dX4_isSuspendedNow_13 (by decide) (fun c_5 => ?_) (fun c_5 => ?_)
        · refine lv_iconst (v := nI 1) hx hb dX4_isSuspendedNow_56 (by decide) ?_
          refine lv_goto (tgt := 61) hx hb dX4_isSuspendedNow_57 (by decide) ?_
          refine lv_istore_n (lv' := [(2, .int (nI 1)), (0, .ref ((ad 0))), (1, .int (nI d)), (3, .int (nI j))]) hx hb dX4_isSuspendedNow_61 rfl hl (by decide) rfl (fun ls hl => ?_)
          refine lv_iinc (v := nI (j + 1)) (lv' := [(3, .int (nI (j + 1))), (2, .int (nI 1)), (0, .ref ((ad 0))), (1, .int (nI d))]) hx hb dX4_isSuspendedNow_62 hl (k := 3) rfl (by rw [show Int32.ofInt 1 = 1 from rfl]; exact nI_1 _) (by decide) rfl (fun ls hl => ?_)
          refine lv_goto (tgt := 4) hx hb dX4_isSuspendedNow_65 (by decide) ?_
          have e9 : bi (M_sus (T 15) (R 16) (R 19) d (j + 1) = true) = nI 1 := bi_t (by simp [M_sus, eq_true c_5])
          exact ih (C 14 - (j + 1)) (by omega) (j + 1)  rfl (by omega)  H locs ls hP hD hS (by rw [e9]; exact lv_sub hl [2, 3, 1, 0] rfl)
        · have hKj := hCn j (by omega)
          have hKd := hCn d (by omega)
          refine lv_aload_n hx hb dX4_isSuspendedNow_16 rfl (lv_at hl 0 rfl) ?_
          refine va_get (D := (dC, dI)) (ci := 5) (v := .ref ((ad 15))) (C := RX4) (T := TX4) (N := 22) hx hb hts inM hown hK hP 0 rfl rfl 15 (by decide) lk2 (fun _ h9 => h9) rfl dX4_isSuspendedNow_17 ?_
          refine lv_iload_n hx hb dX4_isSuspendedNow_20 rfl (lv_at hl 3 rfl) ?_
          refine x_iald hx hb hK hP 12 0 rfl rfl (t := j) (by omega) (by decide) dX4_isSuspendedNow_21 ?_
          refine lv_aload_n hx hb dX4_isSuspendedNow_22 rfl (lv_at hl 0 rfl) ?_
          refine va_get (D := (dC, dI)) (ci := 5) (v := .ref ((ad 15))) (C := RX4) (T := TX4) (N := 22) hx hb hts inM hown hK hP 0 rfl rfl 15 (by decide) lk2 (fun _ h9 => h9) rfl dX4_isSuspendedNow_23 ?_
          refine lv_iload_n hx hb dX4_isSuspendedNow_26 rfl (lv_at hl 1 rfl) ?_
          refine x_iald hx hb hK hP 12 0 rfl rfl (t := d) (by omega) (by decide) dX4_isSuspendedNow_27 ?_
          refine n_ne (tgt := 60) hx hb dX4_isSuspendedNow_28 (by decide) (by omega) (by omega) (fun c_6 => ?_) (fun c_6 => ?_)
          · refine lv_iconst (v := nI 0) hx hb dX4_isSuspendedNow_60 (by decide) ?_
            refine lv_istore_n (lv' := [(2, .int (nI 0)), (0, .ref ((ad 0))), (1, .int (nI d)), (3, .int (nI j))]) hx hb dX4_isSuspendedNow_61 rfl hl (by decide) rfl (fun ls hl => ?_)
            refine lv_iinc (v := nI (j + 1)) (lv' := [(3, .int (nI (j + 1))), (2, .int (nI 0)), (0, .ref ((ad 0))), (1, .int (nI d))]) hx hb dX4_isSuspendedNow_62 hl (k := 3) rfl (by rw [show Int32.ofInt 1 = 1 from rfl]; exact nI_1 _) (by decide) rfl (fun ls hl => ?_)
            refine lv_goto (tgt := 4) hx hb dX4_isSuspendedNow_65 (by decide) ?_
            have e9 : bi (M_sus (T 15) (R 16) (R 19) d (j + 1) = true) = nI 0 := bi_f (by simp [M_sus, c_5, c_6])
            exact ih (C 14 - (j + 1)) (by omega) (j + 1)  rfl (by omega)  H locs ls hP hD hS (by rw [e9]; exact lv_sub hl [2, 3, 1, 0] rfl)
          · refine lv_aload_n hx hb dX4_isSuspendedNow_31 rfl (lv_at hl 0 rfl) ?_
            refine va_get (D := (dC, dI)) (ci := 5) (v := .ref ((ad 16))) (C := RX4) (T := TX4) (N := 22) hx hb hts inM hown hK hP 0 rfl rfl 16 (by decide) lk3 (fun _ h9 => h9) rfl dX4_isSuspendedNow_32 ?_
            refine lv_iload_n hx hb dX4_isSuspendedNow_35 rfl (lv_at hl 3 rfl) ?_
            refine x_iald (f := R 16) hx hb hK hP 13 0 rfl rfl (t := j) (by omega) (by decide) dX4_isSuspendedNow_36 ?_
            refine lv_aload_n hx hb dX4_isSuspendedNow_37 rfl (lv_at hl 0 rfl) ?_
            refine va_get (D := (dC, dI)) (ci := 5) (v := .ref ((ad 16))) (C := RX4) (T := TX4) (N := 22) hx hb hts inM hown hK hP 0 rfl rfl 16 (by decide) lk3 (fun _ h9 => h9) rfl dX4_isSuspendedNow_38 ?_
            refine lv_iload_n hx hb dX4_isSuspendedNow_41 rfl (lv_at hl 1 rfl) ?_
            refine x_iald (f := R 16) hx hb hK hP 13 0 rfl rfl (t := d) (by omega) (by decide) dX4_isSuspendedNow_42 ?_
            refine lv_icmp_eq (tgt := 60) hx hb dX4_isSuspendedNow_43 (by decide) (fun c_7 => ?_) (fun c_7 => ?_)
            · refine lv_iconst (v := nI 0) hx hb dX4_isSuspendedNow_60 (by decide) ?_
              refine lv_istore_n (lv' := [(2, .int (nI 0)), (0, .ref ((ad 0))), (1, .int (nI d)), (3, .int (nI j))]) hx hb dX4_isSuspendedNow_61 rfl hl (by decide) rfl (fun ls hl => ?_)
              refine lv_iinc (v := nI (j + 1)) (lv' := [(3, .int (nI (j + 1))), (2, .int (nI 0)), (0, .ref ((ad 0))), (1, .int (nI d))]) hx hb dX4_isSuspendedNow_62 hl (k := 3) rfl (by rw [show Int32.ofInt 1 = 1 from rfl]; exact nI_1 _) (by decide) rfl (fun ls hl => ?_)
              refine lv_goto (tgt := 4) hx hb dX4_isSuspendedNow_65 (by decide) ?_
              have e9 : bi (M_sus (T 15) (R 16) (R 19) d (j + 1) = true) = nI 0 := bi_f (by simp [M_sus, c_5, eq_true c_6, eq_true c_7])
              exact ih (C 14 - (j + 1)) (by omega) (j + 1)  rfl (by omega)  H locs ls hP hD hS (by rw [e9]; exact lv_sub hl [2, 3, 1, 0] rfl)
            · refine lv_aload_n hx hb dX4_isSuspendedNow_46 rfl (lv_at hl 0 rfl) ?_
              refine va_get (D := (dC, dI)) (ci := 5) (v := .ref ((ad 19))) (C := RX4) (T := TX4) (N := 22) hx hb hts inM hown hK hP 0 rfl rfl 19 (by decide) lk1 (fun _ h9 => h9) rfl dX4_isSuspendedNow_47 ?_
              refine lv_iload_n hx hb dX4_isSuspendedNow_50 rfl (lv_at hl 3 rfl) ?_
              refine x_iald (f := R 19) hx hb hK hP 16 0 rfl rfl (t := j) (by omega) (by decide) dX4_isSuspendedNow_51 ?_
              refine lv_iconst (v := nI 3) hx hb dX4_isSuspendedNow_52 (by decide) ?_
              refine lv_icmp_ne (tgt := 60) hx hb dX4_isSuspendedNow_53 (by decide) (fun c_8 => ?_) (fun c_8 => ?_)
              · refine lv_iconst (v := nI 0) hx hb dX4_isSuspendedNow_60 (by decide) ?_
                refine lv_istore_n (lv' := [(2, .int (nI 0)), (0, .ref ((ad 0))), (1, .int (nI d)), (3, .int (nI j))]) hx hb dX4_isSuspendedNow_61 rfl hl (by decide) rfl (fun ls hl => ?_)
                refine lv_iinc (v := nI (j + 1)) (lv' := [(3, .int (nI (j + 1))), (2, .int (nI 0)), (0, .ref ((ad 0))), (1, .int (nI d))]) hx hb dX4_isSuspendedNow_62 hl (k := 3) rfl (by rw [show Int32.ofInt 1 = 1 from rfl]; exact nI_1 _) (by decide) rfl (fun ls hl => ?_)
                refine lv_goto (tgt := 4) hx hb dX4_isSuspendedNow_65 (by decide) ?_
                have e9 : bi (M_sus (T 15) (R 16) (R 19) d (j + 1) = true) = nI 0 := bi_f (by simp [M_sus, c_5, eq_true c_6, c_7, c_8])
                exact ih (C 14 - (j + 1)) (by omega) (j + 1)  rfl (by omega)  H locs ls hP hD hS (by rw [e9]; exact lv_sub hl [2, 3, 1, 0] rfl)
              · refine lv_iconst (v := nI 1) hx hb dX4_isSuspendedNow_56 (by decide) ?_
                refine lv_goto (tgt := 61) hx hb dX4_isSuspendedNow_57 (by decide) ?_
                refine lv_istore_n (lv' := [(2, .int (nI 1)), (0, .ref ((ad 0))), (1, .int (nI d)), (3, .int (nI j))]) hx hb dX4_isSuspendedNow_61 rfl hl (by decide) rfl (fun ls hl => ?_)
                refine lv_iinc (v := nI (j + 1)) (lv' := [(3, .int (nI (j + 1))), (2, .int (nI 1)), (0, .ref ((ad 0))), (1, .int (nI d))]) hx hb dX4_isSuspendedNow_62 hl (k := 3) rfl (by rw [show Int32.ofInt 1 = 1 from rfl]; exact nI_1 _) (by decide) rfl (fun ls hl => ?_)
                refine lv_goto (tgt := 4) hx hb dX4_isSuspendedNow_65 (by decide) ?_
                have e9 : bi (M_sus (T 15) (R 16) (R 19) d (j + 1) = true) = nI 1 := bi_t (by simp [M_sus, c_5, eq_true c_6, c_7, eq_true c_8])
                exact ih (C 14 - (j + 1)) (by omega) (j + 1)  rfl (by omega)  H locs ls hP hD hS (by rw [e9]; exact lv_sub hl [2, 3, 1, 0] rfl)
  exact hl_sus (C 14) 0  rfl (Nat.zero_le _)  H locs ls hP hD hS (lv_sub hl [2, 3, 1, 0] rfl)

def M_isSuspended (F : Nat → Int32) (C : Nat → Nat) (R : Nat → Nat → Int32) (T : Nat → Nat → Nat) (a : Int32) : Int32 × MS :=
  if isC C 14 a then (if M_isS (T 15) (R 16) (R 19) (C 14) (ix a) then nI 1 else nI 0, (va_up F 0 (nI 0), C, R, T)) else (nI 0, (va_up F 0 (nI 1), C, R, T))

set_option maxHeartbeats 4000000 in
set_option maxRecDepth 100000 in
/-- isSuspended -/
theorem qX4_isSuspended (l : Launch) (dC : Nat → ClassId) (dI : Nat → Nat → Nat) (cy : Nat → ClassId) (ad : Nat → Nat) (F : Nat → Int32) (C : Nat → Nat) (R : Nat → Nat → Int32) (T : Nat → Nat → Nat) (sz : Nat) (a : Int32) (hC : C 14 ≤ 100) (hCn : ∀ j, j < 100 → T 15 j ≤ 10) : Met l yX4_isSuspended wsX4_isSuspended ({ frames := 2, cells := 0, slots := 0, locals := 43 }) (va_Pc [.ref ((ad 0)), .int a] (wPre (dC, dI) (tyL cy) (mw ad cy F C R T) sz)) (QI (dC, dI) (tyL cy) (fun (r : Int32) (u : MS) => (r, u) = M_isSuspended F C R T a) (mwU ad cy) (va_A (mw ad cy F C R T) sz)) 0 0 (va_A (mw ad cy F C R T) sz) := by
  refine en (cc := cX4_isSuspended) (maxL := 2) (ret := (some .boolean)) (own := RX4) (lv := [(0, .ref ((ad 0))), (1, .int a)]) (by decide) rfl rfl (Nat.le_of_ble_eq_true rfl) rfl ?_
  intro p e s m below meth c ls A H locs hx hb hr hts hown hlocks hml hin hsz hK hP hD hS hA hl
  generalize hQQ : MQ below _ _ s _ _ A = QQ
  have inM : ∀ w ∈ wsX40, w ∈ wsX4_isSuspended := fun _ h => List.mem_cons_of_mem _ (List.mem_append_right _ h)
  have lk0 : (Cond.fieldLink RX4 65 "ClauseShopModel" "thrown" "I").before (([.ref ((ad 0)), .int a] : List Value).toArray) s = true := hts _ (List.mem_of_getElem? (i := 1) rfl)
  refine lv_aload_n hx hb dX4_isSuspended_0 rfl (lv_at hl 0 rfl) ?_
  refine lv_aload_n hx hb dX4_isSuspended_1 rfl (lv_at hl 0 rfl) ?_
  refine lv_iload_n hx hb dX4_isSuspended_2 rfl (lv_at hl 1 rfl) ?_
  refine call_i (va_runV (As := [.int a]) (rest := [.ref ((ad 0))]) ⟨hx, hb, hml, hown, hts⟩ (qX4_isDuty l dC dI cy ad F C R T H.size a) (cwV 1 hts gX4_isSuspended_X4_isDuty rfl rfl rfl (by decide +kernel) ⟨Nat.le_of_ble_eq_true rfl, Nat.le_of_ble_eq_true rfl⟩) (preV hK hP hD (w_recv (ci := 5) (q0 := 0) hK hP rfl rfl)) rfl rfl hl.1 rfl (lv_room (Nat.le_of_ble_eq_true rfl)) dX4_isSuspended_3 ⟨Nat.zero_le _, Nat.zero_le _⟩) hD hS hA (fun r_1 u H locs w_2 hP hD hS => ?_)
  obtain ⟨rfl, rfl⟩ := w_2
  have hP : va_P (dC, dI) vwCl (mw ad cy F C R T) H := hP
  have hD : va_D A (mw ad cy F C R T) := hD
  refine br_eq (tgt := 13) hx hb dX4_isSuspended_6 (by decide) (fun c_3 => ?_) (fun c_3 => ?_)
  · refine lv_iconst (v := nI 1) hx hb dX4_isSuspended_13 (by decide) ?_
    refine va_put (D := (dC, dI)) (ci := 5) (v := .int (nI 1)) (ty := .int) (C := RX4) (T := TX4) (N := 22) hx hb hts inM tyX4 tyX4_ok nmX4 hown hK hP hD hS 0 rfl rfl 0 (by decide) lk0 (fun _ h9 => h9) rfl (by decide +kernel) rfl rfl (Nat.le_of_ble_eq_true rfl) dX4_isSuspended_14 (fun H locs hP hD hS => ?_)
    have hP : va_P (dC, dI) vwCl (mw ad cy (va_up F 0 (nI 1)) C R T) H := hP
    have hD : va_D A (mw ad cy (va_up F 0 (nI 1)) C R T) := hD
    refine lv_aload_n hx hb dX4_isSuspended_17 rfl (lv_at hl 0 rfl) ?_
    refine va_get (D := (dC, dI)) (ci := 5) (v := .int (nI 1)) (C := RX4) (T := TX4) (N := 22) hx hb hts inM hown hK hP 0 rfl rfl 0 (by decide) lk0 (fun _ h9 => h9) rfl dX4_isSuspended_18 ?_
    refine lv_if_ne (tgt := 36) hx hb dX4_isSuspended_21 (by decide) (fun _ => ?_) (fun h9 => absurd h9 (by decide))
    refine lv_iconst (v := nI 0) hx hb dX4_isSuspended_36 (by decide) ?_
    rw [← hQQ]; exact end_z (u := (va_up F 0 (nI 1), C, R, T)) hx hb hr hlocks dX4_isSuspended_37 hK hP hD hS (by rfl) (by simp only [M_isSuspended, c_3, isC, and_true, true_and, and_false, false_and, if_true, if_false, not_true, not_false_iff, not_false_eq_true, or_true, true_or, or_false, false_or, ite_true, ite_false, and_self, Classical.not_not, Bool.false_eq_true]) (Nat.zero_le _) (Nat.zero_le _)
  · obtain ⟨i, hi, ex, ei⟩ := ct_ix (n := C 14) (by omega) c_3
    subst ex
    refine lv_iconst (v := nI 0) hx hb dX4_isSuspended_9 (by decide) ?_
    refine lv_goto (tgt := 14) hx hb dX4_isSuspended_10 (by decide) ?_
    refine va_put (D := (dC, dI)) (ci := 5) (v := .int (nI 0)) (ty := .int) (C := RX4) (T := TX4) (N := 22) hx hb hts inM tyX4 tyX4_ok nmX4 hown hK hP hD hS 0 rfl rfl 0 (by decide) lk0 (fun _ h9 => h9) rfl (by decide +kernel) rfl rfl (Nat.le_of_ble_eq_true rfl) dX4_isSuspended_14 (fun H locs hP hD hS => ?_)
    have hP : va_P (dC, dI) vwCl (mw ad cy (va_up F 0 (nI 0)) C R T) H := hP
    have hD : va_D A (mw ad cy (va_up F 0 (nI 0)) C R T) := hD
    refine lv_aload_n hx hb dX4_isSuspended_17 rfl (lv_at hl 0 rfl) ?_
    refine va_get (D := (dC, dI)) (ci := 5) (v := .int (nI 0)) (C := RX4) (T := TX4) (N := 22) hx hb hts inM hown hK hP 0 rfl rfl 0 (by decide) lk0 (fun _ h9 => h9) rfl dX4_isSuspended_18 ?_
    refine lv_if_ne (tgt := 36) hx hb dX4_isSuspended_21 (by decide) (fun h9 => absurd h9 (by decide)) (fun _ => ?_)
    refine lv_aload_n hx hb dX4_isSuspended_24 rfl (lv_at hl 0 rfl) ?_
    refine lv_iload_n hx hb dX4_isSuspended_25 rfl (lv_at hl 1 rfl) ?_
    refine call_i (va_runV (As := [.int (nI i)]) (rest := []) ⟨hx, hb, hml, hown, hts⟩ (qX4_isSuspendedNow l dC dI cy ad (va_up F 0 (nI 0)) C R T H.size i (by omega) hC hCn) (cwV 1 hts gX4_isSuspended_X4_isSuspendedNow rfl rfl rfl (by decide +kernel) ⟨Nat.le_of_ble_eq_true rfl, Nat.le_of_ble_eq_true rfl⟩) (preV hK hP hD (w_recv (ci := 5) (q0 := 0) hK hP rfl rfl)) rfl rfl hl.1 rfl (lv_room (Nat.le_of_ble_eq_true rfl)) dX4_isSuspended_26 ⟨Nat.zero_le _, Nat.zero_le _⟩) hD hS hA (fun r_6 u H locs w_7 hP hD hS => ?_)
    obtain ⟨rfl, rfl⟩ := w_7
    have hP : va_P (dC, dI) vwCl (mw ad cy (va_up F 0 (nI 0)) C R T) H := hP
    have hD : va_D A (mw ad cy (va_up F 0 (nI 0)) C R T) := hD
    refine br_eq (tgt := 36) hx hb dX4_isSuspended_29 (by decide) (fun c_8 => ?_) (fun c_8 => ?_)
    · refine lv_iconst (v := nI 0) hx hb dX4_isSuspended_36 (by decide) ?_
      rw [← hQQ]; exact end_z (u := (va_up F 0 (nI 0), C, R, T)) hx hb hr hlocks dX4_isSuspended_37 hK hP hD hS (by rfl) (by simp only [M_isSuspended, eq_true c_3, c_8, ei, isC, and_true, true_and, and_false, false_and, if_true, if_false, not_true, not_false_iff, not_false_eq_true, or_true, true_or, or_false, false_or, ite_true, ite_false, and_self, Classical.not_not, Bool.false_eq_true]) (Nat.zero_le _) (Nat.zero_le _)
    · refine lv_iconst (v := nI 1) hx hb dX4_isSuspended_32 (by decide) ?_
      refine lv_goto (tgt := 37) hx hb dX4_isSuspended_33 (by decide) ?_
      rw [← hQQ]; exact end_z (u := (va_up F 0 (nI 0), C, R, T)) hx hb hr hlocks dX4_isSuspended_37 hK hP hD hS (by rfl) (by simp only [M_isSuspended, eq_true c_3, eq_true c_8, ei, isC, and_true, true_and, and_false, false_and, if_true, if_false, not_true, not_false_iff, not_false_eq_true, or_true, true_or, or_false, false_or, ite_true, ite_false, and_self, Classical.not_not, Bool.false_eq_true]) (Nat.zero_le _) (Nat.zero_le _)

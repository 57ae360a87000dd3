def M_mdPut (i at_ : Nat) (u : MS) : MS :=
  (u.1, va_up u.2.1 14 (u.2.1 14 + 1), va_up (va_up (va_up (va_up (va_up u.2.2.1 16 (upd (u.2.2.1 16) (u.2.1 14) (u.2.2.1 3 at_))) 17 (upd (u.2.2.1 17) (u.2.1 14) (u.2.2.1 5 at_))) 18 (upd (u.2.2.1 18) (u.2.1 14) (u.2.2.1 6 at_))) 19 (upd (u.2.2.1 19) (u.2.1 14) (nI 0))) 20 (upd (u.2.2.1 20) (u.2.1 14) (u.1 1 + u.2.2.1 4 at_)), va_up u.2.2.2 15 (va_up (u.2.2.2 15) (u.2.1 14) i))
def M_md (i : Nat) (u0 : MS) : Nat → MS × Nat
  | 0 => (u0, 0)
  | c + 1 => if (M_md i u0 c).1.2.2.2 12 (10 * i + c) = 0 then M_md i u0 c else
      (M_mdPut i (9 * c + (M_md i u0 c).1.2.2.2 12 (10 * i + c) - 1) (M_md i u0 c).1, (M_md i u0 c).2 + 1)

set_option maxHeartbeats 4000000 in
set_option maxRecDepth 100000 in
/-- makesDuties -/
theorem qX4_makesDuties (l : Launch) (dC : Nat → ClassId) (dI : Nat → Nat → Nat) (cy : Nat → ClassId) (ad : Nat → Nat) (F : Nat → Int32) (C : Nat → Nat) (R : Nat → Nat → Int32) (T : Nat → Nat → Nat) (sz : Nat) (i : Nat) (hi : i < 10) (hV : ∀ j, j < 100 → T 12 j ≤ 9) (hnd : C 14 + 10 ≤ 100) : Met l yX4_makesDuties wsX4_makesDuties ({ frames := 0, cells := 0, slots := 0, locals := 0 }) (va_Pc [.ref ((ad 0)), .int (nI i)] (wPre (dC, dI) (tyL cy) (mw ad cy F C R T) sz)) (QI (dC, dI) (tyL cy) (fun (r : Int32) (u : MS) => ∃ k : Nat, M_md i (F, C, R, T) 10 = (u, k) ∧ r = nI k) (mwU ad cy) (va_A (mw ad cy F C R T) sz)) 0 0 (va_A (mw ad cy F C R T) sz) := by
  refine en (cc := cX4_makesDuties) (maxL := 6) (ret := (some .int)) (own := RX4) (lv := [(0, .ref ((ad 0))), (1, .int (nI i))]) (by decide) rfl rfl (Nat.le_of_ble_eq_true rfl) rfl ?_
  intro p e s m below meth c ls A H locs hx hb hr hts hown hlocks hml hin hsz hK hP hD hS hA hl
  generalize hQQ : MQ below _ _ s _ _ A = QQ
  have inM : ∀ w ∈ wsX40, w ∈ wsX4_makesDuties := fun _ h => List.mem_cons_of_mem _ (List.mem_append_right _ h)
  have lk0 : (Cond.fieldLink RX4 38 "ClauseShopModel" "version" "[I").before (([.ref ((ad 0)), .int (nI i)] : List Value).toArray) s = true := hts _ (List.mem_of_getElem? (i := 1) rfl)
  have lk1 : (Cond.fieldLink RX4 44 "ClauseShopModel" "contract" "[I").before (([.ref ((ad 0)), .int (nI i)] : List Value).toArray) s = true := hts _ (List.mem_of_getElem? (i := 2) rfl)
  have lk2 : (Cond.fieldLink RX4 76 "ClauseShopModel" "duties" "I").before (([.ref ((ad 0)), .int (nI i)] : List Value).toArray) s = true := hts _ (List.mem_of_getElem? (i := 3) rfl)
  have lk3 : (Cond.fieldLink RX4 47 "ClauseShopModel" "side" "[I").before (([.ref ((ad 0)), .int (nI i)] : List Value).toArray) s = true := hts _ (List.mem_of_getElem? (i := 4) rfl)
  have lk4 : (Cond.fieldLink RX4 13 "ClauseShopModel" "obligor" "[I").before (([.ref ((ad 0)), .int (nI i)] : List Value).toArray) s = true := hts _ (List.mem_of_getElem? (i := 5) rfl)
  have lk5 : (Cond.fieldLink RX4 50 "ClauseShopModel" "itsCure" "[I").before (([.ref ((ad 0)), .int (nI i)] : List Value).toArray) s = true := hts _ (List.mem_of_getElem? (i := 6) rfl)
  have lk6 : (Cond.fieldLink RX4 19 "ClauseShopModel" "cure" "[I").before (([.ref ((ad 0)), .int (nI i)] : List Value).toArray) s = true := hts _ (List.mem_of_getElem? (i := 7) rfl)
  have lk7 : (Cond.fieldLink RX4 53 "ClauseShopModel" "itsPenalty" "[I").before (([.ref ((ad 0)), .int (nI i)] : List Value).toArray) s = true := hts _ (List.mem_of_getElem? (i := 8) rfl)
  have lk8 : (Cond.fieldLink RX4 22 "ClauseShopModel" "penalty" "[I").before (([.ref ((ad 0)), .int (nI i)] : List Value).toArray) s = true := hts _ (List.mem_of_getElem? (i := 9) rfl)
  have lk9 : (Cond.fieldLink RX4 56 "ClauseShopModel" "state" "[I").before (([.ref ((ad 0)), .int (nI i)] : List Value).toArray) s = true := hts _ (List.mem_of_getElem? (i := 10) rfl)
  have lk10 : (Cond.fieldLink RX4 59 "ClauseShopModel" "counts" "[I").before (([.ref ((ad 0)), .int (nI i)] : List Value).toArray) s = true := hts _ (List.mem_of_getElem? (i := 11) rfl)
  have lk11 : (Cond.fieldLink RX4 97 "ClauseShopModel" "day" "I").before (([.ref ((ad 0)), .int (nI i)] : List Value).toArray) s = true := hts _ (List.mem_of_getElem? (i := 12) rfl)
  have lk12 : (Cond.fieldLink RX4 16 "ClauseShopModel" "days" "[I").before (([.ref ((ad 0)), .int (nI i)] : List Value).toArray) s = true := hts _ (List.mem_of_getElem? (i := 13) rfl)
  refine lv_iconst (v := nI 0) hx hb dX4_makesDuties_0 (by decide) ?_
  refine lv_istore_n (lv' := [(2, .int (nI 0)), (0, .ref ((ad 0))), (1, .int (nI i))]) hx hb dX4_makesDuties_1 rfl hl (by decide) rfl (fun ls hl => ?_)
  refine lv_iconst (v := nI 0) hx hb dX4_makesDuties_2 (by decide) ?_
  refine lv_istore_n (lv' := [(3, .int (nI 0)), (2, .int (nI 0)), (0, .ref ((ad 0))), (1, .int (nI i))]) hx hb dX4_makesDuties_3 rfl hl (by decide) rfl (fun ls hl => ?_)
  have hl_md : ∀ (k9 j : Nat) (C1 : Nat → Nat) (R1 : Nat → Nat → Int32) (T1 : Nat → Nat → Nat) (kk : Nat), 10 - j = k9 → j ≤ 10 → M_md i (F, C, R, T) j = ((F, C1, R1, T1), kk) → C1 14 ≤ C 14 + j → T1 12 = T 12 → ∀ (H : Heap) (locs : List Loc) (ls : Array Slot), va_P (dC, dI) vwCl (mw ad cy F C1 R1 T1) H → va_D A (mw ad cy F C1 R1 T1) → va_S A s.heap H locs → lv_has ls 6 [(0, .ref ((ad 0))), (1, .int (nI i)), (2, .int (nI kk)), (3, .int (nI j))] → W p l e ({ frames := 0, cells := 0, slots := 0, locals := 0 }) s m (([.ref ((ad 0)), .int (nI i)] : List Value).toArray) below meth c H locs 0 0 QQ (F0 m 4 ls []) := by
    intro k9
    induction k9 using Nat.strongRecOn with
    | _ k9 ih =>
      intro j C1 R1 T1 kk hk9 hle9 hu hn1 hT1 H locs ls hP hD hS hl
      refine lv_iload_n hx hb dX4_makesDuties_4 rfl (lv_at hl 3 rfl) ?_
      refine lv_bipush (v := nI 10) hx hb dX4_makesDuties_5 (by decide) ?_
      refine n_ge (tgt := 147) hx hb dX4_makesDuties_7 (by decide) (by omega) (by omega) (fun c_1 => ?_) (fun c_1 => ?_)
      · obtain rfl : j = 10 := by omega
        refine lv_iload_n hx hb dX4_makesDuties_147 rfl (lv_at hl 2 rfl) ?_
        rw [← hQQ]; exact end_i (u := (F, C1, R1, T1)) hx hb hr hlocks dX4_makesDuties_148 hK hP hD hS ⟨kk, hu, rfl⟩ (Nat.zero_le _) (Nat.zero_le _)
      · have hVj : T1 12 (10 * i + j) ≤ 9 := by rw [hT1]; exact hV _ (by omega)
        refine lv_aload_n hx hb dX4_makesDuties_10 rfl (lv_at hl 0 rfl) ?_
        refine va_get (D := (dC, dI)) (ci := 5) (v := .ref ((ad 12))) (C := RX4) (T := TX4) (N := 22) hx hb hts inM hown hK hP 0 rfl rfl 12 (by decide) lk0 (fun _ h9 => h9) rfl dX4_makesDuties_11 ?_
        refine lv_bipush (v := nI 10) hx hb dX4_makesDuties_14 (by decide) ?_
        refine lv_iload_n hx hb dX4_makesDuties_16 rfl (lv_at hl 1 rfl) ?_
        refine lv_imul hx hb dX4_makesDuties_17 ?_
        refine to_i (y := nI (10 * i)) (pk_mul _ _) ?_
        refine lv_iload_n hx hb dX4_makesDuties_18 rfl (lv_at hl 3 rfl) ?_
        refine lv_iadd hx hb dX4_makesDuties_19 ?_
        refine to_i (y := nI ((10 * i) + j)) (nI_add _ _) ?_
        refine x_iald hx hb hK hP 10 0 rfl rfl (t := (10 * i) + j) (by omega) (by decide) dX4_makesDuties_20 ?_
        refine lv_istore (lv' := [(4, .int (nI (T1 12 ((10 * i) + j)))), (0, .ref ((ad 0))), (1, .int (nI i)), (2, .int (nI kk)), (3, .int (nI j))]) hx hb dX4_makesDuties_21 hl (by decide) rfl (fun ls hl => ?_)
        refine lv_iload hx hb dX4_makesDuties_23 (lv_at hl 0 rfl) ?_
        refine n_if_le (tgt := 141) hx hb dX4_makesDuties_25 (by decide) (by omega) (fun c_2 => ?_) (fun c_2 => ?_)
        · refine lv_iinc (v := nI (j + 1)) (lv' := [(3, .int (nI (j + 1))), (4, .int (nI (T1 12 ((10 * i) + j)))), (0, .ref ((ad 0))), (1, .int (nI i)), (2, .int (nI kk))]) hx hb dX4_makesDuties_141 hl (k := 4) rfl (by rw [show Int32.ofInt 1 = 1 from rfl]; exact nI_1 _) (by decide) rfl (fun ls hl => ?_)
          refine lv_goto (tgt := 4) hx hb dX4_makesDuties_144 (by decide) ?_
          exact ih (10 - (j + 1)) (by omega) (j + 1) C1 R1 T1 kk rfl (by omega) (by simp only [M_md, hu, M_mdPut, eq_true c_2, and_true, true_and, and_false, false_and, if_true, if_false, not_true, not_false_iff, not_false_eq_true, or_true, true_or, or_false, false_or, ite_true, ite_false, and_self, Classical.not_not, Bool.false_eq_true]) (by omega) hT1 H locs ls hP hD hS (by exact lv_sub hl [2, 3, 4, 0] rfl)
        · have c_2n : ¬ T1 12 (10 * i + j) = 0 := by omega
          refine lv_bipush (v := nI 9) hx hb dX4_makesDuties_28 (by decide) ?_
          refine lv_iload_n hx hb dX4_makesDuties_30 rfl (lv_at hl 4 rfl) ?_
          refine lv_imul hx hb dX4_makesDuties_31 ?_
          refine to_i (y := nI (9 * j)) (pk_mul _ _) ?_
          refine lv_iload hx hb dX4_makesDuties_32 (lv_at hl 0 rfl) ?_
          refine lv_iadd hx hb dX4_makesDuties_34 ?_
          refine to_i (y := nI ((9 * j) + (T1 12 ((10 * i) + j)))) (nI_add _ _) ?_
          refine lv_iconst (v := nI 1) hx hb dX4_makesDuties_35 (by decide) ?_
          refine lv_isub hx hb dX4_makesDuties_36 ?_
          refine to_i (y := nI (((9 * j) + (T1 12 ((10 * i) + j))) - 1)) (pk_sub (by omega)) ?_
          refine lv_istore (lv' := [(5, .int (nI (((9 * j) + (T1 12 ((10 * i) + j))) - 1))), (4, .int (nI (T1 12 ((10 * i) + j)))), (0, .ref ((ad 0))), (1, .int (nI i)), (2, .int (nI kk)), (3, .int (nI j))]) hx hb dX4_makesDuties_37 hl (by decide) rfl (fun ls hl => ?_)
          refine lv_aload_n hx hb dX4_makesDuties_39 rfl (lv_at hl 2 rfl) ?_
          refine va_get (D := (dC, dI)) (ci := 5) (v := .ref ((ad 15))) (C := RX4) (T := TX4) (N := 22) hx hb hts inM hown hK hP 0 rfl rfl 15 (by decide) lk1 (fun _ h9 => h9) rfl dX4_makesDuties_40 ?_
          refine lv_aload_n hx hb dX4_makesDuties_43 rfl (lv_at hl 2 rfl) ?_
          refine va_get (D := (dC, dI)) (ci := 5) (v := .int (nI (C1 14))) (C := RX4) (T := TX4) (N := 22) hx hb hts inM hown hK hP 0 rfl rfl 14 (by decide) lk2 (fun _ h9 => h9) rfl dX4_makesDuties_44 ?_
          refine lv_iload_n hx hb dX4_makesDuties_47 rfl (lv_at hl 3 rfl) ?_
          refine x_iast hx hb hK hP hD hS 12 0 rfl rfl (t := C1 14) (x := (nI i)) (by omega) (by decide) dX4_makesDuties_48 (fun H locs hP hD hS => ?_)
          rw [upd_nI] at hP hD
          have hP : va_P (dC, dI) vwCl (mw ad cy F C1 R1 (va_up T1 15 (va_up (T1 15) (C1 14) i))) H := hP
          have hD : va_D A (mw ad cy F C1 R1 (va_up T1 15 (va_up (T1 15) (C1 14) i))) := hD
          refine lv_aload_n hx hb dX4_makesDuties_49 rfl (lv_at hl 2 rfl) ?_
          refine va_get (D := (dC, dI)) (ci := 5) (v := .ref ((ad 16))) (C := RX4) (T := TX4) (N := 22) hx hb hts inM hown hK hP 0 rfl rfl 16 (by decide) lk3 (fun _ h9 => h9) rfl dX4_makesDuties_50 ?_
          refine lv_aload_n hx hb dX4_makesDuties_53 rfl (lv_at hl 2 rfl) ?_
          refine va_get (D := (dC, dI)) (ci := 5) (v := .int (nI (C1 14))) (C := RX4) (T := TX4) (N := 22) hx hb hts inM hown hK hP 0 rfl rfl 14 (by decide) lk2 (fun _ h9 => h9) rfl dX4_makesDuties_54 ?_
          refine lv_aload_n hx hb dX4_makesDuties_57 rfl (lv_at hl 2 rfl) ?_
          refine va_get (D := (dC, dI)) (ci := 5) (v := .ref ((ad 3))) (C := RX4) (T := TX4) (N := 22) hx hb hts inM hown hK hP 0 rfl rfl 3 (by decide) lk4 (fun _ h9 => h9) rfl dX4_makesDuties_58 ?_
          refine lv_iload hx hb dX4_makesDuties_61 (lv_at hl 0 rfl) ?_
          refine x_iald (f := R1 3) hx hb hK hP 2 0 rfl rfl (t := ((9 * j) + (T1 12 ((10 * i) + j))) - 1) (by omega) (by decide) dX4_makesDuties_63 ?_
          refine x_iast hx hb hK hP hD hS 13 0 rfl rfl (t := C1 14) (x := (R1 3 (((9 * j) + (T1 12 ((10 * i) + j))) - 1))) (by omega) (by decide) dX4_makesDuties_64 (fun H locs hP hD hS => ?_)
          have hP : va_P (dC, dI) vwCl (mw ad cy F C1 (va_up R1 16 (upd (R1 16) (C1 14) (R1 3 (((9 * j) + (T1 12 ((10 * i) + j))) - 1)))) (va_up T1 15 (va_up (T1 15) (C1 14) i))) H := hP
          have hD : va_D A (mw ad cy F C1 (va_up R1 16 (upd (R1 16) (C1 14) (R1 3 (((9 * j) + (T1 12 ((10 * i) + j))) - 1)))) (va_up T1 15 (va_up (T1 15) (C1 14) i))) := hD
          refine lv_aload_n hx hb dX4_makesDuties_65 rfl (lv_at hl 2 rfl) ?_
          refine va_get (D := (dC, dI)) (ci := 5) (v := .ref ((ad 17))) (C := RX4) (T := TX4) (N := 22) hx hb hts inM hown hK hP 0 rfl rfl 17 (by decide) lk5 (fun _ h9 => h9) rfl dX4_makesDuties_66 ?_
          refine lv_aload_n hx hb dX4_makesDuties_69 rfl (lv_at hl 2 rfl) ?_
          refine va_get (D := (dC, dI)) (ci := 5) (v := .int (nI (C1 14))) (C := RX4) (T := TX4) (N := 22) hx hb hts inM hown hK hP 0 rfl rfl 14 (by decide) lk2 (fun _ h9 => h9) rfl dX4_makesDuties_70 ?_
          refine lv_aload_n hx hb dX4_makesDuties_73 rfl (lv_at hl 2 rfl) ?_
          refine va_get (D := (dC, dI)) (ci := 5) (v := .ref ((ad 5))) (C := RX4) (T := TX4) (N := 22) hx hb hts inM hown hK hP 0 rfl rfl 5 (by decide) lk6 (fun _ h9 => h9) rfl dX4_makesDuties_74 ?_
          refine lv_iload hx hb dX4_makesDuties_77 (lv_at hl 0 rfl) ?_
          refine x_iald (f := R1 5) hx hb hK hP 4 0 rfl rfl (t := ((9 * j) + (T1 12 ((10 * i) + j))) - 1) (by omega) (by decide) dX4_makesDuties_79 ?_
          refine x_iast hx hb hK hP hD hS 14 0 rfl rfl (t := C1 14) (x := (R1 5 (((9 * j) + (T1 12 ((10 * i) + j))) - 1))) (by omega) (by decide) dX4_makesDuties_80 (fun H locs hP hD hS => ?_)
          have hP : va_P (dC, dI) vwCl (mw ad cy F C1 (va_up (va_up R1 16 (upd (R1 16) (C1 14) (R1 3 (((9 * j) + (T1 12 ((10 * i) + j))) - 1)))) 17 (upd (R1 17) (C1 14) (R1 5 (((9 * j) + (T1 12 ((10 * i) + j))) - 1)))) (va_up T1 15 (va_up (T1 15) (C1 14) i))) H := hP
          have hD : va_D A (mw ad cy F C1 (va_up (va_up R1 16 (upd (R1 16) (C1 14) (R1 3 (((9 * j) + (T1 12 ((10 * i) + j))) - 1)))) 17 (upd (R1 17) (C1 14) (R1 5 (((9 * j) + (T1 12 ((10 * i) + j))) - 1)))) (va_up T1 15 (va_up (T1 15) (C1 14) i))) := hD
          refine lv_aload_n hx hb dX4_makesDuties_81 rfl (lv_at hl 2 rfl) ?_
          refine va_get (D := (dC, dI)) (ci := 5) (v := .ref ((ad 18))) (C := RX4) (T := TX4) (N := 22) hx hb hts inM hown hK hP 0 rfl rfl 18 (by decide) lk7 (fun _ h9 => h9) rfl dX4_makesDuties_82 ?_
          refine lv_aload_n hx hb dX4_makesDuties_85 rfl (lv_at hl 2 rfl) ?_
          refine va_get (D := (dC, dI)) (ci := 5) (v := .int (nI (C1 14))) (C := RX4) (T := TX4) (N := 22) hx hb hts inM hown hK hP 0 rfl rfl 14 (by decide) lk2 (fun _ h9 => h9) rfl dX4_makesDuties_86 ?_
          refine lv_aload_n hx hb dX4_makesDuties_89 rfl (lv_at hl 2 rfl) ?_
          refine va_get (D := (dC, dI)) (ci := 5) (v := .ref ((ad 6))) (C := RX4) (T := TX4) (N := 22) hx hb hts inM hown hK hP 0 rfl rfl 6 (by decide) lk8 (fun _ h9 => h9) rfl dX4_makesDuties_90 ?_
          refine lv_iload hx hb dX4_makesDuties_93 (lv_at hl 0 rfl) ?_
          refine x_iald (f := R1 6) hx hb hK hP 5 0 rfl rfl (t := ((9 * j) + (T1 12 ((10 * i) + j))) - 1) (by omega) (by decide) dX4_makesDuties_95 ?_
          refine x_iast hx hb hK hP hD hS 15 0 rfl rfl (t := C1 14) (x := (R1 6 (((9 * j) + (T1 12 ((10 * i) + j))) - 1))) (by omega) (by decide) dX4_makesDuties_96 (fun H locs hP hD hS => ?_)
          have hP : va_P (dC, dI) vwCl (mw ad cy F C1 (va_up (va_up (va_up R1 16 (upd (R1 16) (C1 14) (R1 3 (((9 * j) + (T1 12 ((10 * i) + j))) - 1)))) 17 (upd (R1 17) (C1 14) (R1 5 (((9 * j) + (T1 12 ((10 * i) + j))) - 1)))) 18 (upd (R1 18) (C1 14) (R1 6 (((9 * j) + (T1 12 ((10 * i) + j))) - 1)))) (va_up T1 15 (va_up (T1 15) (C1 14) i))) H := hP
          have hD : va_D A (mw ad cy F C1 (va_up (va_up (va_up R1 16 (upd (R1 16) (C1 14) (R1 3 (((9 * j) + (T1 12 ((10 * i) + j))) - 1)))) 17 (upd (R1 17) (C1 14) (R1 5 (((9 * j) + (T1 12 ((10 * i) + j))) - 1)))) 18 (upd (R1 18) (C1 14) (R1 6 (((9 * j) + (T1 12 ((10 * i) + j))) - 1)))) (va_up T1 15 (va_up (T1 15) (C1 14) i))) := hD
          refine lv_aload_n hx hb dX4_makesDuties_97 rfl (lv_at hl 2 rfl) ?_
          refine va_get (D := (dC, dI)) (ci := 5) (v := .ref ((ad 19))) (C := RX4) (T := TX4) (N := 22) hx hb hts inM hown hK hP 0 rfl rfl 19 (by decide) lk9 (fun _ h9 => h9) rfl dX4_makesDuties_98 ?_
          refine lv_aload_n hx hb dX4_makesDuties_101 rfl (lv_at hl 2 rfl) ?_
          refine va_get (D := (dC, dI)) (ci := 5) (v := .int (nI (C1 14))) (C := RX4) (T := TX4) (N := 22) hx hb hts inM hown hK hP 0 rfl rfl 14 (by decide) lk2 (fun _ h9 => h9) rfl dX4_makesDuties_102 ?_
          refine lv_iconst (v := nI 0) hx hb dX4_makesDuties_105 (by decide) ?_
          refine x_iast hx hb hK hP hD hS 16 0 rfl rfl (t := C1 14) (x := (nI 0)) (by omega) (by decide) dX4_makesDuties_106 (fun H locs hP hD hS => ?_)
          have hP : va_P (dC, dI) vwCl (mw ad cy F C1 (va_up (va_up (va_up (va_up R1 16 (upd (R1 16) (C1 14) (R1 3 (((9 * j) + (T1 12 ((10 * i) + j))) - 1)))) 17 (upd (R1 17) (C1 14) (R1 5 (((9 * j) + (T1 12 ((10 * i) + j))) - 1)))) 18 (upd (R1 18) (C1 14) (R1 6 (((9 * j) + (T1 12 ((10 * i) + j))) - 1)))) 19 (upd (R1 19) (C1 14) (nI 0))) (va_up T1 15 (va_up (T1 15) (C1 14) i))) H := hP
          have hD : va_D A (mw ad cy F C1 (va_up (va_up (va_up (va_up R1 16 (upd (R1 16) (C1 14) (R1 3 (((9 * j) + (T1 12 ((10 * i) + j))) - 1)))) 17 (upd (R1 17) (C1 14) (R1 5 (((9 * j) + (T1 12 ((10 * i) + j))) - 1)))) 18 (upd (R1 18) (C1 14) (R1 6 (((9 * j) + (T1 12 ((10 * i) + j))) - 1)))) 19 (upd (R1 19) (C1 14) (nI 0))) (va_up T1 15 (va_up (T1 15) (C1 14) i))) := hD
          refine lv_aload_n hx hb dX4_makesDuties_107 rfl (lv_at hl 2 rfl) ?_
          refine va_get (D := (dC, dI)) (ci := 5) (v := .ref ((ad 20))) (C := RX4) (T := TX4) (N := 22) hx hb hts inM hown hK hP 0 rfl rfl 20 (by decide) lk10 (fun _ h9 => h9) rfl dX4_makesDuties_108 ?_
          refine lv_aload_n hx hb dX4_makesDuties_111 rfl (lv_at hl 2 rfl) ?_
          refine va_get (D := (dC, dI)) (ci := 5) (v := .int (nI (C1 14))) (C := RX4) (T := TX4) (N := 22) hx hb hts inM hown hK hP 0 rfl rfl 14 (by decide) lk2 (fun _ h9 => h9) rfl dX4_makesDuties_112 ?_
          refine lv_aload_n hx hb dX4_makesDuties_115 rfl (lv_at hl 2 rfl) ?_
          refine va_get (D := (dC, dI)) (ci := 5) (v := .int (F 1)) (C := RX4) (T := TX4) (N := 22) hx hb hts inM hown hK hP 0 rfl rfl 1 (by decide) lk11 (fun _ h9 => h9) rfl dX4_makesDuties_116 ?_
          refine lv_aload_n hx hb dX4_makesDuties_119 rfl (lv_at hl 2 rfl) ?_
          refine va_get (D := (dC, dI)) (ci := 5) (v := .ref ((ad 4))) (C := RX4) (T := TX4) (N := 22) hx hb hts inM hown hK hP 0 rfl rfl 4 (by decide) lk12 (fun _ h9 => h9) rfl dX4_makesDuties_120 ?_
          refine lv_iload hx hb dX4_makesDuties_123 (lv_at hl 0 rfl) ?_
          refine x_iald (f := R1 4) hx hb hK hP 3 0 rfl rfl (t := ((9 * j) + (T1 12 ((10 * i) + j))) - 1) (by omega) (by decide) dX4_makesDuties_125 ?_
          refine lv_iadd hx hb dX4_makesDuties_126 ?_
          refine x_iast hx hb hK hP hD hS 17 0 rfl rfl (t := C1 14) (x := ((F 1) + (R1 4 (((9 * j) + (T1 12 ((10 * i) + j))) - 1)))) (by omega) (by decide) dX4_makesDuties_127 (fun H locs hP hD hS => ?_)
          have hP : va_P (dC, dI) vwCl (mw ad cy F C1 (va_up (va_up (va_up (va_up (va_up R1 16 (upd (R1 16) (C1 14) (R1 3 (((9 * j) + (T1 12 ((10 * i) + j))) - 1)))) 17 (upd (R1 17) (C1 14) (R1 5 (((9 * j) + (T1 12 ((10 * i) + j))) - 1)))) 18 (upd (R1 18) (C1 14) (R1 6 (((9 * j) + (T1 12 ((10 * i) + j))) - 1)))) 19 (upd (R1 19) (C1 14) (nI 0))) 20 (upd (R1 20) (C1 14) ((F 1) + (R1 4 (((9 * j) + (T1 12 ((10 * i) + j))) - 1))))) (va_up T1 15 (va_up (T1 15) (C1 14) i))) H := hP
          have hD : va_D A (mw ad cy F C1 (va_up (va_up (va_up (va_up (va_up R1 16 (upd (R1 16) (C1 14) (R1 3 (((9 * j) + (T1 12 ((10 * i) + j))) - 1)))) 17 (upd (R1 17) (C1 14) (R1 5 (((9 * j) + (T1 12 ((10 * i) + j))) - 1)))) 18 (upd (R1 18) (C1 14) (R1 6 (((9 * j) + (T1 12 ((10 * i) + j))) - 1)))) 19 (upd (R1 19) (C1 14) (nI 0))) 20 (upd (R1 20) (C1 14) ((F 1) + (R1 4 (((9 * j) + (T1 12 ((10 * i) + j))) - 1))))) (va_up T1 15 (va_up (T1 15) (C1 14) i))) := hD
          refine lv_aload_n hx hb dX4_makesDuties_128 rfl (lv_at hl 2 rfl) ?_
          refine lv_dup hx hb dX4_makesDuties_129 rfl ?_
          refine va_get (D := (dC, dI)) (ci := 5) (v := .int (nI (C1 14))) (C := RX4) (T := TX4) (N := 22) hx hb hts inM hown hK hP 0 rfl rfl 14 (by decide) lk2 (fun _ h9 => h9) rfl dX4_makesDuties_130 ?_
          refine lv_iconst (v := nI 1) hx hb dX4_makesDuties_133 (by decide) ?_
          refine lv_iadd hx hb dX4_makesDuties_134 ?_
          refine to_i (y := nI ((C1 14) + 1)) (nI_add _ _) ?_
          refine va_put (D := (dC, dI)) (ci := 5) (v := .int (nI ((C1 14) + 1))) (ty := .int) (C := RX4) (T := TX4) (N := 22) hx hb hts inM tyX4 tyX4_ok nmX4 hown hK hP hD hS 0 rfl rfl 14 (by decide) lk2 (fun _ h9 => h9) rfl (by decide +kernel) rfl rfl (Nat.le_of_ble_eq_true rfl) dX4_makesDuties_135 (fun H locs hP hD hS => ?_)
          have hP : va_P (dC, dI) vwCl (mw ad cy F (va_up C1 14 ((C1 14) + 1)) (va_up (va_up (va_up (va_up (va_up R1 16 (upd (R1 16) (C1 14) (R1 3 (((9 * j) + (T1 12 ((10 * i) + j))) - 1)))) 17 (upd (R1 17) (C1 14) (R1 5 (((9 * j) + (T1 12 ((10 * i) + j))) - 1)))) 18 (upd (R1 18) (C1 14) (R1 6 (((9 * j) + (T1 12 ((10 * i) + j))) - 1)))) 19 (upd (R1 19) (C1 14) (nI 0))) 20 (upd (R1 20) (C1 14) ((F 1) + (R1 4 (((9 * j) + (T1 12 ((10 * i) + j))) - 1))))) (va_up T1 15 (va_up (T1 15) (C1 14) i))) H := hP
          have hD : va_D A (mw ad cy F (va_up C1 14 ((C1 14) + 1)) (va_up (va_up (va_up (va_up (va_up R1 16 (upd (R1 16) (C1 14) (R1 3 (((9 * j) + (T1 12 ((10 * i) + j))) - 1)))) 17 (upd (R1 17) (C1 14) (R1 5 (((9 * j) + (T1 12 ((10 * i) + j))) - 1)))) 18 (upd (R1 18) (C1 14) (R1 6 (((9 * j) + (T1 12 ((10 * i) + j))) - 1)))) 19 (upd (R1 19) (C1 14) (nI 0))) 20 (upd (R1 20) (C1 14) ((F 1) + (R1 4 (((9 * j) + (T1 12 ((10 * i) + j))) - 1))))) (va_up T1 15 (va_up (T1 15) (C1 14) i))) := hD
          refine lv_iinc (v := nI (kk + 1)) (lv' := [(2, .int (nI (kk + 1))), (5, .int (nI (((9 * j) + (T1 12 ((10 * i) + j))) - 1))), (4, .int (nI (T1 12 ((10 * i) + j)))), (0, .ref ((ad 0))), (1, .int (nI i)), (3, .int (nI j))]) hx hb dX4_makesDuties_138 hl (k := 4) rfl (by rw [show Int32.ofInt 1 = 1 from rfl]; exact nI_1 _) (by decide) rfl (fun ls hl => ?_)
          refine lv_iinc (v := nI (j + 1)) (lv' := [(3, .int (nI (j + 1))), (2, .int (nI (kk + 1))), (5, .int (nI (((9 * j) + (T1 12 ((10 * i) + j))) - 1))), (4, .int (nI (T1 12 ((10 * i) + j)))), (0, .ref ((ad 0))), (1, .int (nI i))]) hx hb dX4_makesDuties_141 hl (k := 5) rfl (by rw [show Int32.ofInt 1 = 1 from rfl]; exact nI_1 _) (by decide) rfl (fun ls hl => ?_)
          refine lv_goto (tgt := 4) hx hb dX4_makesDuties_144 (by decide) ?_
          exact ih (10 - (j + 1)) (by omega) (j + 1) (va_up C1 14 ((C1 14) + 1)) (va_up (va_up (va_up (va_up (va_up R1 16 (upd (R1 16) (C1 14) (R1 3 (((9 * j) + (T1 12 ((10 * i) + j))) - 1)))) 17 (upd (R1 17) (C1 14) (R1 5 (((9 * j) + (T1 12 ((10 * i) + j))) - 1)))) 18 (upd (R1 18) (C1 14) (R1 6 (((9 * j) + (T1 12 ((10 * i) + j))) - 1)))) 19 (upd (R1 19) (C1 14) (nI 0))) 20 (upd (R1 20) (C1 14) ((F 1) + (R1 4 (((9 * j) + (T1 12 ((10 * i) + j))) - 1))))) (va_up T1 15 (va_up (T1 15) (C1 14) i)) (kk + 1) rfl (by omega) (by simp only [M_md, hu, M_mdPut, c_2n, and_true, true_and, and_false, false_and, if_true, if_false, not_true, not_false_iff, not_false_eq_true, or_true, true_or, or_false, false_or, ite_true, ite_false, and_self, Classical.not_not, Bool.false_eq_true]) (by simp only [va_up_self]; omega) hT1 H locs ls hP hD hS (by exact lv_sub hl [4, 5, 1, 0] rfl)
  exact hl_md 10 0 C R T 0 rfl (Nat.zero_le _) rfl (Nat.le_refl _) rfl H locs ls hP hD hS (lv_sub hl [2, 3, 1, 0] rfl)

theorem M_reason_0 {v : Nat → Nat} {r7 r8 r10 mk : Nat → Int32} {i : Nat} (h : M_reason v r7 r8 r10 mk i = 0) : r10 i = 0 := by
  unfold M_reason at h
  split at h
  · assumption
  · omega
def M_sign (F : Nat → Int32) (C : Nat → Nat) (R : Nat → Nat → Int32) (T : Nat → Nat → Nat) (a b : Int32) : Int32 × MS :=
  if isC C 9 a then
    (if isSd b then
      (if M_reason (T 12) (R 7) (R 8) (R 10) (R 13) (ix a) = 0 then
        (if (R 11 (ix a) >>> (b &&& 31)) &&& nI 1 = nI 1 then (nI 0, (va_up F 0 (nI 3), C, R, T))
         else if R 11 (ix a) ||| nI 1 <<< (b &&& 31) = nI 3 then
          (nI (M_md (ix a) (va_up F 0 (nI 0), C, va_up (va_up R 11 (upd (R 11) (ix a) (R 11 (ix a) ||| nI 1 <<< (b &&& 31)))) 10 (upd (R 10) (ix a) (nI 1)), T) 10).2, (M_md (ix a) (va_up F 0 (nI 0), C, va_up (va_up R 11 (upd (R 11) (ix a) (R 11 (ix a) ||| nI 1 <<< (b &&& 31)))) 10 (upd (R 10) (ix a) (nI 1)), T) 10).1)
         else (nI 0, (va_up F 0 (nI 0), C, va_up R 11 (upd (R 11) (ix a) (R 11 (ix a) ||| nI 1 <<< (b &&& 31))), T)))
       else (nI 0, (va_up F 0 (nI 3), C, R, T)))
    else (nI 0, (va_up F 0 (nI 2), C, R, T)))
  else (nI 0, (va_up F 0 (nI 1), C, R, T))

set_option maxHeartbeats 4000000 in
set_option maxRecDepth 100000 in
/-- sign -/
theorem qX4_sign (l : Launch) (dC : Nat → ClassId) (dI : Nat → Nat → Nat) (cy : Nat → ClassId) (ad : Nat → Nat) (F : Nat → Int32) (C : Nat → Nat) (R : Nat → Nat → Int32) (T : Nat → Nat → Nat) (sz : Nat) (a b : Int32) (hC : C 9 ≤ 10) (hV : ∀ j, j < 100 → T 12 j ≤ 9) (hnd : ∀ i, i < C 9 → R 10 i = 0 → C 14 + 10 ≤ 100) : Met l yX4_sign wsX4_sign ({ frames := 2, cells := 0, slots := 0, locals := 43 }) (va_Pc [.ref ((ad 0)), .int a, .int b] (wPre (dC, dI) (tyL cy) (mw ad cy F C R T) sz)) (QI (dC, dI) (tyL cy) (fun (r : Int32) (u : MS) => (r, u) = M_sign F C R T a b) (mwU ad cy) (va_A (mw ad cy F C R T) sz)) 0 0 (va_A (mw ad cy F C R T) sz) := by
  refine en (cc := cX4_sign) (maxL := 3) (ret := (some .int)) (own := RX4) (lv := [(0, .ref ((ad 0))), (1, .int a), (2, .int b)]) (by decide) rfl rfl (Nat.le_of_ble_eq_true rfl) rfl ?_
  intro p e s m below meth c ls A H locs hx hb hr hts hown hlocks hml hin hsz hK hP hD hS hA hl
  generalize hQQ : MQ below _ _ s _ _ A = QQ
  have inM : ∀ w ∈ wsX40, w ∈ wsX4_sign := fun _ h => List.mem_cons_of_mem _ (List.mem_append_right _ h)
  have lk0 : (Cond.fieldLink RX4 65 "ClauseShopModel" "thrown" "I").before (([.ref ((ad 0)), .int a, .int b] : List Value).toArray) s = true := hts _ (List.mem_of_getElem? (i := 2) rfl)
  have lk1 : (Cond.fieldLink RX4 35 "ClauseShopModel" "signed" "[I").before (([.ref ((ad 0)), .int a, .int b] : List Value).toArray) s = true := hts _ (List.mem_of_getElem? (i := 1) rfl)
  have lk2 : (Cond.fieldLink RX4 31 "ClauseShopModel" "isSigned" "[Z").before (([.ref ((ad 0)), .int a, .int b] : List Value).toArray) s = true := hts _ (List.mem_of_getElem? (i := 3) rfl)
  refine lv_aload_n hx hb dX4_sign_0 rfl (lv_at hl 0 rfl) ?_
  refine lv_aload_n hx hb dX4_sign_1 rfl (lv_at hl 0 rfl) ?_
  refine lv_iload_n hx hb dX4_sign_2 rfl (lv_at hl 1 rfl) ?_
  refine call_i (va_runV (As := [.int a]) (rest := [.ref ((ad 0))]) ⟨hx, hb, hml, hown, hts⟩ (qX4_isContract l dC dI cy ad F C R T H.size a) (cwV 1 hts gX4_sign_X4_isContract rfl rfl rfl (by decide +kernel) ⟨Nat.le_of_ble_eq_true rfl, Nat.le_of_ble_eq_true rfl⟩) (preV hK hP hD (w_recv (ci := 5) (q0 := 0) hK hP rfl rfl)) rfl rfl hl.1 rfl (lv_room (Nat.le_of_ble_eq_true rfl)) dX4_sign_3 ⟨Nat.zero_le _, Nat.zero_le _⟩) hD hS hA (fun r_1 u H locs w_2 hP hD hS => ?_)
  obtain ⟨rfl, rfl⟩ := w_2
  have hP : va_P (dC, dI) vwCl (mw ad cy F C R T) H := hP
  have hD : va_D A (mw ad cy F C R T) := hD
  refine br_ne (tgt := 13) hx hb dX4_sign_6 (by decide) (fun c_3 => ?_) (fun c_3 => ?_)
  · obtain ⟨i, hi, ex, ei⟩ := ct_ix (n := C 9) (by omega) c_3
    subst ex
    refine lv_iload_n hx hb dX4_sign_13 rfl (lv_at hl 2 rfl) ?_
    refine call_i (va_runS (As := [.int b]) (rest := [.ref ((ad 0))]) ⟨hx, hb, hml, hown, hts⟩ (qX4_isSide l dC dI cy (mw ad cy F C R T) H.size b) (va_cwS 1 hts gX4_sign_X4_isSide rfl rfl rfl (by decide +kernel) ⟨Nat.le_of_ble_eq_true rfl, Nat.le_of_ble_eq_true rfl⟩) (preS hK hP hD) rfl rfl hl.1 rfl (lv_room (Nat.le_of_ble_eq_true rfl)) dX4_sign_14 ⟨Nat.zero_le _, Nat.zero_le _⟩) hD hS hA (fun r_4 u H locs w_5 hP hD hS => ?_)
    subst w_5
    have hP : va_P (dC, dI) vwCl (mw ad cy F C R T) H := hP
    have hD : va_D A (mw ad cy F C R T) := hD
    refine br_ne (tgt := 24) hx hb dX4_sign_17 (by decide) (fun c_6 => ?_) (fun c_6 => ?_)
    · obtain ⟨sd, hsd, ex, esd⟩ := sd_ix c_6
      subst ex
      refine lv_aload_n hx hb dX4_sign_24 rfl (lv_at hl 0 rfl) ?_
      refine lv_iload_n hx hb dX4_sign_25 rfl (lv_at hl 1 rfl) ?_
      refine call_i (va_runV (As := [.int (nI i)]) (rest := [.ref ((ad 0))]) ⟨hx, hb, hml, hown, hts⟩ (qX4_reason l dC dI cy ad F C R T H.size i (by omega) hV) (cwV 1 hts gX4_sign_X4_reason rfl rfl rfl (by decide +kernel) ⟨Nat.le_of_ble_eq_true rfl, Nat.le_of_ble_eq_true rfl⟩) (preV hK hP hD (w_recv (ci := 5) (q0 := 0) hK hP rfl rfl)) rfl rfl hl.1 rfl (lv_room (Nat.le_of_ble_eq_true rfl)) dX4_sign_26 ⟨Nat.zero_le _, Nat.zero_le _⟩) hD hS hA (fun r_7 u H locs w_8 hP hD hS => ?_)
      obtain ⟨rfl, rfl⟩ := w_8
      have hP : va_P (dC, dI) vwCl (mw ad cy F C R T) H := hP
      have hD : va_D A (mw ad cy F C R T) := hD
      have hrs := M_reason_le (T 12) (R 7) (R 8) (R 10) (R 13) i
      refine n_if_gt (tgt := 46) hx hb dX4_sign_29 (by decide) (by omega) (fun c_9 => ?_) (fun c_9 => ?_)
      · have c_9n : ¬ M_reason (T 12) (R 7) (R 8) (R 10) (R 13) i = 0 := by omega
        refine lv_iconst (v := nI 3) hx hb dX4_sign_46 (by decide) ?_
        refine lv_goto (tgt := 51) hx hb dX4_sign_47 (by decide) ?_
        refine va_put (D := (dC, dI)) (ci := 5) (v := .int (nI 3)) (ty := .int) (C := RX4) (T := TX4) (N := 22) hx hb hts inM tyX4 tyX4_ok nmX4 hown hK hP hD hS 0 rfl rfl 0 (by decide) lk0 (fun _ h9 => h9) rfl (by decide +kernel) rfl rfl (Nat.le_of_ble_eq_true rfl) dX4_sign_51 (fun H locs hP hD hS => ?_)
        have hP : va_P (dC, dI) vwCl (mw ad cy (va_up F 0 (nI 3)) C R T) H := hP
        have hD : va_D A (mw ad cy (va_up F 0 (nI 3)) C R T) := hD
        refine lv_aload_n hx hb dX4_sign_54 rfl (lv_at hl 0 rfl) ?_
        refine va_get (D := (dC, dI)) (ci := 5) (v := .int (nI 3)) (C := RX4) (T := TX4) (N := 22) hx hb hts inM hown hK hP 0 rfl rfl 0 (by decide) lk0 (fun _ h9 => h9) rfl dX4_sign_55 ?_
        refine lv_if_le (tgt := 63) hx hb dX4_sign_58 (by decide) (fun h9 => absurd h9 (by decide)) (fun _ => ?_)
        refine lv_iconst (v := nI 0) hx hb dX4_sign_61 (by decide) ?_
        rw [← hQQ]; exact end_i (u := (va_up F 0 (nI 3), C, R, T)) hx hb hr hlocks dX4_sign_62 hK hP hD hS (by simp only [M_sign, eq_true c_3, eq_true c_6, eq_true c_9, c_9n, ei, esd, isC, and_true, true_and, and_false, false_and, if_true, if_false, not_true, not_false_iff, not_false_eq_true, or_true, true_or, or_false, false_or, ite_true, ite_false, and_self, Classical.not_not, Bool.false_eq_true]) (Nat.zero_le _) (Nat.zero_le _)
      · have hrs0 := M_reason_0 c_9
        refine lv_aload_n hx hb dX4_sign_32 rfl (lv_at hl 0 rfl) ?_
        refine va_get (D := (dC, dI)) (ci := 5) (v := .ref ((ad 11))) (C := RX4) (T := TX4) (N := 22) hx hb hts inM hown hK hP 0 rfl rfl 11 (by decide) lk1 (fun _ h9 => h9) rfl dX4_sign_33 ?_
        refine lv_iload_n hx hb dX4_sign_36 rfl (lv_at hl 1 rfl) ?_
        refine x_iald (f := R 11) hx hb hK hP 9 0 rfl rfl (t := i) (by omega) (by decide) dX4_sign_37 ?_
        refine lv_iload_n hx hb dX4_sign_38 rfl (lv_at hl 2 rfl) ?_
        refine lv_ishr hx hb dX4_sign_39 ?_
        refine lv_iconst (v := nI 1) hx hb dX4_sign_40 (by decide) ?_
        refine lv_iand hx hb dX4_sign_41 ?_
        refine lv_iconst (v := nI 1) hx hb dX4_sign_42 (by decide) ?_
        refine lv_icmp_ne (tgt := 50) hx hb dX4_sign_43 (by decide) (fun c_11 => ?_) (fun c_11 => ?_)
        · refine lv_iconst (v := nI 0) hx hb dX4_sign_50 (by decide) ?_
          refine va_put (D := (dC, dI)) (ci := 5) (v := .int (nI 0)) (ty := .int) (C := RX4) (T := TX4) (N := 22) hx hb hts inM tyX4 tyX4_ok nmX4 hown hK hP hD hS 0 rfl rfl 0 (by decide) lk0 (fun _ h9 => h9) rfl (by decide +kernel) rfl rfl (Nat.le_of_ble_eq_true rfl) dX4_sign_51 (fun H locs hP hD hS => ?_)
          have hP : va_P (dC, dI) vwCl (mw ad cy (va_up F 0 (nI 0)) C R T) H := hP
          have hD : va_D A (mw ad cy (va_up F 0 (nI 0)) C R T) := hD
          refine lv_aload_n hx hb dX4_sign_54 rfl (lv_at hl 0 rfl) ?_
          refine va_get (D := (dC, dI)) (ci := 5) (v := .int (nI 0)) (C := RX4) (T := TX4) (N := 22) hx hb hts inM hown hK hP 0 rfl rfl 0 (by decide) lk0 (fun _ h9 => h9) rfl dX4_sign_55 ?_
          refine lv_if_le (tgt := 63) hx hb dX4_sign_58 (by decide) (fun _ => ?_) (fun h9 => absurd h9 (by decide))
          refine lv_aload_n hx hb dX4_sign_63 rfl (lv_at hl 0 rfl) ?_
          refine va_get (D := (dC, dI)) (ci := 5) (v := .ref ((ad 11))) (C := RX4) (T := TX4) (N := 22) hx hb hts inM hown hK hP 0 rfl rfl 11 (by decide) lk1 (fun _ h9 => h9) rfl dX4_sign_64 ?_
          refine lv_iload_n hx hb dX4_sign_67 rfl (lv_at hl 1 rfl) ?_
          refine lv_dup2_11 hx hb dX4_sign_68 rfl rfl ?_
          refine x_iald (f := R 11) hx hb hK hP 9 0 rfl rfl (t := i) (by omega) (by decide) dX4_sign_69 ?_
          refine lv_iconst (v := nI 1) hx hb dX4_sign_70 (by decide) ?_
          refine lv_iload_n hx hb dX4_sign_71 rfl (lv_at hl 2 rfl) ?_
          refine lv_ishl hx hb dX4_sign_72 ?_
          refine lv_ior hx hb dX4_sign_73 ?_
          refine x_iast hx hb hK hP hD hS 9 0 rfl rfl (t := i) (x := ((R 11 i) ||| ((nI 1) <<< ((nI sd) &&& 31)))) (by omega) (by decide) dX4_sign_74 (fun H locs hP hD hS => ?_)
          have hP : va_P (dC, dI) vwCl (mw ad cy (va_up F 0 (nI 0)) C (va_up R 11 (upd (R 11) i ((R 11 i) ||| ((nI 1) <<< ((nI sd) &&& 31))))) T) H := hP
          have hD : va_D A (mw ad cy (va_up F 0 (nI 0)) C (va_up R 11 (upd (R 11) i ((R 11 i) ||| ((nI 1) <<< ((nI sd) &&& 31))))) T) := hD
          refine lv_aload_n hx hb dX4_sign_75 rfl (lv_at hl 0 rfl) ?_
          refine va_get (D := (dC, dI)) (ci := 5) (v := .ref ((ad 11))) (C := RX4) (T := TX4) (N := 22) hx hb hts inM hown hK hP 0 rfl rfl 11 (by decide) lk1 (fun _ h9 => h9) rfl dX4_sign_76 ?_
          refine lv_iload_n hx hb dX4_sign_79 rfl (lv_at hl 1 rfl) ?_
          refine x_iald (f := upd (R 11) i ((R 11 i) ||| ((nI 1) <<< ((nI sd) &&& 31)))) hx hb hK hP 9 0 rfl rfl (t := i) (by omega) (by decide) dX4_sign_80 ?_
          refine to_i (y := ((R 11 i) ||| ((nI 1) <<< ((nI sd) &&& 31)))) pk_us ?_
          refine lv_iconst (v := nI 3) hx hb dX4_sign_81 (by decide) ?_
          refine lv_icmp_eq (tgt := 87) hx hb dX4_sign_82 (by decide) (fun c_13 => ?_) (fun c_13 => ?_)
          · refine lv_aload_n hx hb dX4_sign_87 rfl (lv_at hl 0 rfl) ?_
            refine va_get (D := (dC, dI)) (ci := 5) (v := .ref ((ad 10))) (C := RX4) (T := TX4) (N := 22) hx hb hts inM hown hK hP 0 rfl rfl 10 (by decide) lk2 (fun _ h9 => h9) rfl dX4_sign_88 ?_
            refine lv_iload_n hx hb dX4_sign_91 rfl (lv_at hl 1 rfl) ?_
            refine lv_iconst (v := nI 1) hx hb dX4_sign_92 (by decide) ?_
            refine x_zast hx hb hK hP hD hS 8 1 rfl rfl (t := i) (x := (nI 1)) (by omega) (by decide) (by rfl) dX4_sign_93 (fun H locs hP hD hS => ?_)
            have hP : va_P (dC, dI) vwCl (mw ad cy (va_up F 0 (nI 0)) C (va_up (va_up R 11 (upd (R 11) i ((R 11 i) ||| ((nI 1) <<< ((nI sd) &&& 31))))) 10 (upd (R 10) i (nI 1))) T) H := hP
            have hD : va_D A (mw ad cy (va_up F 0 (nI 0)) C (va_up (va_up R 11 (upd (R 11) i ((R 11 i) ||| ((nI 1) <<< ((nI sd) &&& 31))))) 10 (upd (R 10) i (nI 1))) T) := hD
            refine lv_aload_n hx hb dX4_sign_94 rfl (lv_at hl 0 rfl) ?_
            refine lv_iload_n hx hb dX4_sign_95 rfl (lv_at hl 1 rfl) ?_
            refine call_i (va_runV (As := [.int (nI i)]) (rest := []) ⟨hx, hb, hml, hown, hts⟩ (qX4_makesDuties l dC dI cy ad (va_up F 0 (nI 0)) C (va_up (va_up R 11 (upd (R 11) i ((R 11 i) ||| ((nI 1) <<< ((nI sd) &&& 31))))) 10 (upd (R 10) i (nI 1))) T H.size i (by omega) hV (hnd i hi hrs0)) (cwV 1 hts gX4_sign_X4_makesDuties rfl rfl rfl (by decide +kernel) ⟨Nat.le_of_ble_eq_true rfl, Nat.le_of_ble_eq_true rfl⟩) (preV hK hP hD (w_recv (ci := 5) (q0 := 0) hK hP rfl rfl)) rfl rfl hl.1 rfl (lv_room (Nat.le_of_ble_eq_true rfl)) dX4_sign_96 ⟨Nat.zero_le _, Nat.zero_le _⟩) hD hS hA (fun r_14 u H locs w_15 hP hD hS => ?_)
            obtain ⟨k1, hk1, rfl⟩ := w_15
            have hP : va_P (dC, dI) vwCl (mwU ad cy u) H := hP
            have hD : va_D A (mwU ad cy u) := hD
            rw [← hQQ]; exact end_i (u := u) hx hb hr hlocks dX4_sign_99 hK hP hD hS (by simp only [M_sign, eq_true c_3, eq_true c_6, eq_true c_9, c_11, eq_true c_13, hk1, ei, esd, isC, and_true, true_and, and_false, false_and, if_true, if_false, not_true, not_false_iff, not_false_eq_true, or_true, true_or, or_false, false_or, ite_true, ite_false, and_self, Classical.not_not, Bool.false_eq_true]) (Nat.zero_le _) (Nat.zero_le _)
          · refine lv_iconst (v := nI 0) hx hb dX4_sign_85 (by decide) ?_
            rw [← hQQ]; exact end_i (u := (va_up F 0 (nI 0), C, va_up R 11 (upd (R 11) i ((R 11 i) ||| ((nI 1) <<< ((nI sd) &&& 31)))), T)) hx hb hr hlocks dX4_sign_86 hK hP hD hS (by simp only [M_sign, eq_true c_3, eq_true c_6, eq_true c_9, c_11, c_13, ei, esd, isC, and_true, true_and, and_false, false_and, if_true, if_false, not_true, not_false_iff, not_false_eq_true, or_true, true_or, or_false, false_or, ite_true, ite_false, and_self, Classical.not_not, Bool.false_eq_true]) (Nat.zero_le _) (Nat.zero_le _)
        · refine lv_iconst (v := nI 3) hx hb dX4_sign_46 (by decide) ?_
          refine lv_goto (tgt := 51) hx hb dX4_sign_47 (by decide) ?_
          refine va_put (D := (dC, dI)) (ci := 5) (v := .int (nI 3)) (ty := .int) (C := RX4) (T := TX4) (N := 22) hx hb hts inM tyX4 tyX4_ok nmX4 hown hK hP hD hS 0 rfl rfl 0 (by decide) lk0 (fun _ h9 => h9) rfl (by decide +kernel) rfl rfl (Nat.le_of_ble_eq_true rfl) dX4_sign_51 (fun H locs hP hD hS => ?_)
          have hP : va_P (dC, dI) vwCl (mw ad cy (va_up F 0 (nI 3)) C R T) H := hP
          have hD : va_D A (mw ad cy (va_up F 0 (nI 3)) C R T) := hD
          refine lv_aload_n hx hb dX4_sign_54 rfl (lv_at hl 0 rfl) ?_
          refine va_get (D := (dC, dI)) (ci := 5) (v := .int (nI 3)) (C := RX4) (T := TX4) (N := 22) hx hb hts inM hown hK hP 0 rfl rfl 0 (by decide) lk0 (fun _ h9 => h9) rfl dX4_sign_55 ?_
          refine lv_if_le (tgt := 63) hx hb dX4_sign_58 (by decide) (fun h9 => absurd h9 (by decide)) (fun _ => ?_)
          refine lv_iconst (v := nI 0) hx hb dX4_sign_61 (by decide) ?_
          rw [← hQQ]; exact end_i (u := (va_up F 0 (nI 3), C, R, T)) hx hb hr hlocks dX4_sign_62 hK hP hD hS (by simp only [M_sign, eq_true c_3, eq_true c_6, eq_true c_9, eq_true c_11, ei, esd, isC, and_true, true_and, and_false, false_and, if_true, if_false, not_true, not_false_iff, not_false_eq_true, or_true, true_or, or_false, false_or, ite_true, ite_false, and_self, Classical.not_not, Bool.false_eq_true]) (Nat.zero_le _) (Nat.zero_le _)
    · refine lv_iconst (v := nI 2) hx hb dX4_sign_20 (by decide) ?_
      refine lv_goto (tgt := 51) hx hb dX4_sign_21 (by decide) ?_
      refine va_put (D := (dC, dI)) (ci := 5) (v := .int (nI 2)) (ty := .int) (C := RX4) (T := TX4) (N := 22) hx hb hts inM tyX4 tyX4_ok nmX4 hown hK hP hD hS 0 rfl rfl 0 (by decide) lk0 (fun _ h9 => h9) rfl (by decide +kernel) rfl rfl (Nat.le_of_ble_eq_true rfl) dX4_sign_51 (fun H locs hP hD hS => ?_)
      have hP : va_P (dC, dI) vwCl (mw ad cy (va_up F 0 (nI 2)) C R T) H := hP
      have hD : va_D A (mw ad cy (va_up F 0 (nI 2)) C R T) := hD
      refine lv_aload_n hx hb dX4_sign_54 rfl (lv_at hl 0 rfl) ?_
      refine va_get (D := (dC, dI)) (ci := 5) (v := .int (nI 2)) (C := RX4) (T := TX4) (N := 22) hx hb hts inM hown hK hP 0 rfl rfl 0 (by decide) lk0 (fun _ h9 => h9) rfl dX4_sign_55 ?_
      refine lv_if_le (tgt := 63) hx hb dX4_sign_58 (by decide) (fun h9 => absurd h9 (by decide)) (fun _ => ?_)
      refine lv_iconst (v := nI 0) hx hb dX4_sign_61 (by decide) ?_
      rw [← hQQ]; exact end_i (u := (va_up F 0 (nI 2), C, R, T)) hx hb hr hlocks dX4_sign_62 hK hP hD hS (by simp only [M_sign, eq_true c_3, c_6, ei, isC, and_true, true_and, and_false, false_and, if_true, if_false, not_true, not_false_iff, not_false_eq_true, or_true, true_or, or_false, false_or, ite_true, ite_false, and_self, Classical.not_not, Bool.false_eq_true]) (Nat.zero_le _) (Nat.zero_le _)
  · refine lv_iconst (v := nI 1) hx hb dX4_sign_9 (by decide) ?_
    refine lv_goto (tgt := 51) hx hb dX4_sign_10 (by decide) ?_
    refine va_put (D := (dC, dI)) (ci := 5) (v := .int (nI 1)) (ty := .int) (C := RX4) (T := TX4) (N := 22) hx hb hts inM tyX4 tyX4_ok nmX4 hown hK hP hD hS 0 rfl rfl 0 (by decide) lk0 (fun _ h9 => h9) rfl (by decide +kernel) rfl rfl (Nat.le_of_ble_eq_true rfl) dX4_sign_51 (fun H locs hP hD hS => ?_)
    have hP : va_P (dC, dI) vwCl (mw ad cy (va_up F 0 (nI 1)) C R T) H := hP
    have hD : va_D A (mw ad cy (va_up F 0 (nI 1)) C R T) := hD
    refine lv_aload_n hx hb dX4_sign_54 rfl (lv_at hl 0 rfl) ?_
    refine va_get (D := (dC, dI)) (ci := 5) (v := .int (nI 1)) (C := RX4) (T := TX4) (N := 22) hx hb hts inM hown hK hP 0 rfl rfl 0 (by decide) lk0 (fun _ h9 => h9) rfl dX4_sign_55 ?_
    refine lv_if_le (tgt := 63) hx hb dX4_sign_58 (by decide) (fun h9 => absurd h9 (by decide)) (fun _ => ?_)
    refine lv_iconst (v := nI 0) hx hb dX4_sign_61 (by decide) ?_
    rw [← hQQ]; exact end_i (u := (va_up F 0 (nI 1), C, R, T)) hx hb hr hlocks dX4_sign_62 hK hP hD hS (by simp only [M_sign, c_3, isC, and_true, true_and, and_false, false_and, if_true, if_false, not_true, not_false_iff, not_false_eq_true, or_true, true_or, or_false, false_or, ite_true, ite_false, and_self, Classical.not_not, Bool.false_eq_true]) (Nat.zero_le _) (Nat.zero_le _)

def M_lat (con : Nat → Nat) (sd stt : Nat → Int32) (n : Nat) (r : Nat → Int32) : Nat → (Nat → Int32)
  | 0 => r
  | d + 1 => upd (M_lat con sd stt n r d) d (bi (M_isS con sd stt n d))
def M_psStep (day : Int32) (r21 : Nat → Int32) (d : Nat) (q : (Nat → Int32) × (Nat → Int32) × Nat) : (Nat → Int32) × (Nat → Int32) × Nat :=
  if q.1 d = nI 2 ∧ ¬ day ≤ q.2.1 d + (if r21 d = 0 then nI 0 else nI 1) then
    (upd q.1 d (nI 3), upd (upd q.2.1 d (q.2.1 d + (if r21 d = 0 then nI 0 else nI 1))) d day, q.2.2 + 1)
  else (q.1, upd q.2.1 d (q.2.1 d + (if r21 d = 0 then nI 0 else nI 1)), q.2.2)
def M_ps (day : Int32) (r21 a b : Nat → Int32) : Nat → (Nat → Int32) × (Nat → Int32) × Nat
  | 0 => (a, b, 0)
  | d + 1 => M_psStep day r21 d (M_ps day r21 a b d)
def M_passes (u : MS) : MS × Nat :=
  ((va_up u.1 1 (u.1 1 + nI 1), u.2.1, va_up (va_up (va_up u.2.2.1 21 (M_lat (u.2.2.2 15) (u.2.2.1 16) (u.2.2.1 19) (u.2.1 14) (u.2.2.1 21) (u.2.1 14))) 20 (M_ps (u.1 1 + nI 1) (M_lat (u.2.2.2 15) (u.2.2.1 16) (u.2.2.1 19) (u.2.1 14) (u.2.2.1 21) (u.2.1 14)) (u.2.2.1 19) (u.2.2.1 20) (u.2.1 14)).2.1) 19 (M_ps (u.1 1 + nI 1) (M_lat (u.2.2.2 15) (u.2.2.1 16) (u.2.2.1 19) (u.2.1 14) (u.2.2.1 21) (u.2.1 14)) (u.2.2.1 19) (u.2.2.1 20) (u.2.1 14)).1, u.2.2.2),
   (M_ps (u.1 1 + nI 1) (M_lat (u.2.2.2 15) (u.2.2.1 16) (u.2.2.1 19) (u.2.1 14) (u.2.2.1 21) (u.2.1 14)) (u.2.2.1 19) (u.2.2.1 20) (u.2.1 14)).2.2)

set_option maxHeartbeats 4000000 in
set_option maxRecDepth 100000 in
/-- passes -/
theorem qX4_passes (l : Launch) (dC : Nat → ClassId) (dI : Nat → Nat → Nat) (cy : Nat → ClassId) (ad : Nat → Nat) (F : Nat → Int32) (C : Nat → Nat) (R : Nat → Nat → Int32) (T : Nat → Nat → Nat) (sz : Nat) (hC : C 14 ≤ 100) (hCn : ∀ j, j < 100 → T 15 j ≤ 10) : Met l yX4_passes wsX4_passes ({ frames := 1, cells := 0, slots := 0, locals := 23 }) (va_Pc [.ref ((ad 0))] (wPre (dC, dI) (tyL cy) (mw ad cy F C R T) sz)) (QI (dC, dI) (tyL cy) (fun (r : Int32) (u : MS) => ∃ k : Nat, M_passes (F, C, R, T) = (u, k) ∧ r = nI k) (mwU ad cy) (va_A (mw ad cy F C R T) sz)) 0 0 (va_A (mw ad cy F C R T) sz) := by
  refine en (cc := cX4_passes) (maxL := 3) (ret := (some .int)) (own := RX4) (lv := [(0, .ref ((ad 0)))]) (by decide) rfl rfl (Nat.le_of_ble_eq_true rfl) rfl ?_
  intro p e s m below meth c ls A H locs hx hb hr hts hown hlocks hml hin hsz hK hP hD hS hA hl
  generalize hQQ : MQ below _ _ s _ _ A = QQ
  have inM : ∀ w ∈ wsX40, w ∈ wsX4_passes := fun _ h => List.mem_cons_of_mem _ (List.mem_append_right _ h)
  have lk0 : (Cond.fieldLink RX4 97 "ClauseShopModel" "day" "I").before (([.ref ((ad 0))] : List Value).toArray) s = true := hts _ (List.mem_of_getElem? (i := 1) rfl)
  have lk1 : (Cond.fieldLink RX4 76 "ClauseShopModel" "duties" "I").before (([.ref ((ad 0))] : List Value).toArray) s = true := hts _ (List.mem_of_getElem? (i := 2) rfl)
  have lk2 : (Cond.fieldLink RX4 59 "ClauseShopModel" "counts" "[I").before (([.ref ((ad 0))] : List Value).toArray) s = true := hts _ (List.mem_of_getElem? (i := 4) rfl)
  have lk3 : (Cond.fieldLink RX4 62 "ClauseShopModel" "isLater" "[Z").before (([.ref ((ad 0))] : List Value).toArray) s = true := hts _ (List.mem_of_getElem? (i := 3) rfl)
  have lk4 : (Cond.fieldLink RX4 56 "ClauseShopModel" "state" "[I").before (([.ref ((ad 0))] : List Value).toArray) s = true := hts _ (List.mem_of_getElem? (i := 5) rfl)
  refine lv_aload_n hx hb dX4_passes_0 rfl (lv_at hl 0 rfl) ?_
  refine lv_dup hx hb dX4_passes_1 rfl ?_
  refine va_get (D := (dC, dI)) (ci := 5) (v := .int (F 1)) (C := RX4) (T := TX4) (N := 22) hx hb hts inM hown hK hP 0 rfl rfl 1 (by decide) lk0 (fun _ h9 => h9) rfl dX4_passes_2 ?_
  refine lv_iconst (v := nI 1) hx hb dX4_passes_5 (by decide) ?_
  refine lv_iadd hx hb dX4_passes_6 ?_
  refine va_put (D := (dC, dI)) (ci := 5) (v := .int ((F 1) + (nI 1))) (ty := .int) (C := RX4) (T := TX4) (N := 22) hx hb hts inM tyX4 tyX4_ok nmX4 hown hK hP hD hS 0 rfl rfl 1 (by decide) lk0 (fun _ h9 => h9) rfl (by decide +kernel) rfl rfl (Nat.le_of_ble_eq_true rfl) dX4_passes_7 (fun H locs hP hD hS => ?_)
  have hP : va_P (dC, dI) vwCl (mw ad cy (va_up F 1 ((F 1) + (nI 1))) C R T) H := hP
  have hD : va_D A (mw ad cy (va_up F 1 ((F 1) + (nI 1))) C R T) := hD
  refine lv_iconst (v := nI 0) hx hb dX4_passes_10 (by decide) ?_
  refine lv_istore_n (lv' := [(1, .int (nI 0)), (0, .ref ((ad 0)))]) hx hb dX4_passes_11 rfl hl (by decide) rfl (fun ls hl => ?_)
  have hl_lat : ∀ (k9 j : Nat), C 14 - j = k9 → j ≤ C 14 → ∀ (H : Heap) (locs : List Loc) (ls : Array Slot), va_P (dC, dI) vwCl (mw ad cy (va_up F 1 ((F 1) + (nI 1))) C (va_up R 21 (M_lat (T 15) (R 16) (R 19) (C 14) (R 21) j)) T) H → va_D A (mw ad cy (va_up F 1 ((F 1) + (nI 1))) C (va_up R 21 (M_lat (T 15) (R 16) (R 19) (C 14) (R 21) j)) T) → va_S A s.heap H locs → lv_has ls 3 [(0, .ref ((ad 0))), (1, .int (nI j))] → W p l e ({ frames := 1, cells := 0, slots := 0, locals := 23 }) s m (([.ref ((ad 0))] : List Value).toArray) below meth c H locs 0 0 QQ (F0 m 12 ls []) := by
    intro k9
    induction k9 using Nat.strongRecOn with
    | _ k9 ih =>
      intro j  hk9 hle9  H locs ls hP hD hS hl
      refine lv_iload_n hx hb dX4_passes_12 rfl (lv_at hl 1 rfl) ?_
      refine lv_aload_n hx hb dX4_passes_13 rfl (lv_at hl 0 rfl) ?_
      refine va_get (D := (dC, dI)) (ci := 5) (v := .int (nI (C 14))) (C := RX4) (T := TX4) (N := 22) hx hb hts inM hown hK hP 0 rfl rfl 14 (by decide) lk1 (fun _ h9 => h9) rfl dX4_passes_14 ?_
      refine n_ge (tgt := 37) hx hb dX4_passes_17 (by decide) (by omega) (by omega) (fun c_1 => ?_) (fun c_1 => ?_)
      · obtain rfl : j = C 14 := by omega
        refine lv_iconst (v := nI 0) hx hb dX4_passes_37 (by decide) ?_
        refine lv_istore_n (lv' := [(1, .int (nI 0)), (0, .ref ((ad 0)))]) hx hb dX4_passes_38 rfl hl (by decide) rfl (fun ls hl => ?_)
        refine lv_iconst (v := nI 0) hx hb dX4_passes_39 (by decide) ?_
        refine lv_istore_n (lv' := [(2, .int (nI 0)), (1, .int (nI 0)), (0, .ref ((ad 0)))]) hx hb dX4_passes_40 rfl hl (by decide) rfl (fun ls hl => ?_)
        have hl_ps : ∀ (k9 j : Nat) (a1 b1 : Nat → Int32) (kk : Nat), C 14 - j = k9 → j ≤ C 14 → M_ps (F 1 + nI 1) (M_lat (T 15) (R 16) (R 19) (C 14) (R 21) (C 14)) (R 19) (R 20) j = (a1, b1, kk) → ∀ (H : Heap) (locs : List Loc) (ls : Array Slot), va_P (dC, dI) vwCl (mw ad cy (va_up F 1 ((F 1) + (nI 1))) C (va_up (va_up (va_up R 21 (M_lat (T 15) (R 16) (R 19) (C 14) (R 21) (C 14))) 20 b1) 19 a1) T) H → va_D A (mw ad cy (va_up F 1 ((F 1) + (nI 1))) C (va_up (va_up (va_up R 21 (M_lat (T 15) (R 16) (R 19) (C 14) (R 21) (C 14))) 20 b1) 19 a1) T) → va_S A s.heap H locs → lv_has ls 3 [(0, .ref ((ad 0))), (1, .int (nI kk)), (2, .int (nI j))] → W p l e ({ frames := 1, cells := 0, slots := 0, locals := 23 }) s m (([.ref ((ad 0))] : List Value).toArray) below meth c H locs 0 0 QQ (F0 m 41 ls []) := by
          intro k9
          induction k9 using Nat.strongRecOn with
          | _ k9 ih =>
            intro j a1 b1 kk hk9 hle9 hu H locs ls hP hD hS hl
            refine lv_iload_n hx hb dX4_passes_41 rfl (lv_at hl 2 rfl) ?_
            refine lv_aload_n hx hb dX4_passes_42 rfl (lv_at hl 0 rfl) ?_
            refine va_get (D := (dC, dI)) (ci := 5) (v := .int (nI (C 14))) (C := RX4) (T := TX4) (N := 22) hx hb hts inM hown hK hP 0 rfl rfl 14 (by decide) lk1 (fun _ h9 => h9) rfl dX4_passes_43 ?_
            refine n_ge (tgt := 121) hx hb dX4_passes_46 (by decide) (by omega) (by omega) (fun c_2 => ?_) (fun c_2 => ?_)
            · obtain rfl : j = C 14 := by omega
              refine lv_iload_n hx hb dX4_passes_121 rfl (lv_at hl 1 rfl) ?_
              rw [← hQQ]; exact end_i (u := (va_up F 1 ((F 1) + (nI 1)), C, va_up (va_up (va_up R 21 (M_lat (T 15) (R 16) (R 19) (C 14) (R 21) (C 14))) 20 b1) 19 a1, T)) hx hb hr hlocks dX4_passes_122 hK hP hD hS ⟨kk, by simp only [M_passes, hu], rfl⟩ (Nat.zero_le _) (Nat.zero_le _)
            · refine lv_aload_n hx hb dX4_passes_49 rfl (lv_at hl 0 rfl) ?_
              refine va_get (D := (dC, dI)) (ci := 5) (v := .ref ((ad 20))) (C := RX4) (T := TX4) (N := 22) hx hb hts inM hown hK hP 0 rfl rfl 20 (by decide) lk2 (fun _ h9 => h9) rfl dX4_passes_50 ?_
              refine lv_iload_n hx hb dX4_passes_53 rfl (lv_at hl 2 rfl) ?_
              refine lv_dup2_11 hx hb dX4_passes_54 rfl rfl ?_
              refine x_iald (f := b1) hx hb hK hP 17 0 rfl rfl (t := j) (by omega) (by decide) dX4_passes_55 ?_
              refine lv_aload_n hx hb dX4_passes_56 rfl (lv_at hl 0 rfl) ?_
              refine va_get (D := (dC, dI)) (ci := 5) (v := .ref ((ad 21))) (C := RX4) (T := TX4) (N := 22) hx hb hts inM hown hK hP 0 rfl rfl 21 (by decide) lk3 (fun _ h9 => h9) rfl dX4_passes_57 ?_
              refine lv_iload_n hx hb dX4_passes_60 rfl (lv_at hl 2 rfl) ?_
              refine x_zald (f := M_lat (T 15) (R 16) (R 19) (C 14) (R 21) (C 14)) hx hb hK hP 18 1 rfl rfl (t := j) (by omega) (by decide) dX4_passes_61 ?_
              refine lv_if_eq (tgt := 69) hx hb dX4_passes_62 (by decide) (fun c_3 => ?_) (fun c_3 => ?_)
              · refine lv_iconst (v := nI 0) hx hb dX4_passes_69 (by decide) ?_
                refine lv_iadd hx hb dX4_passes_70 ?_
                refine x_iast hx hb hK hP hD hS 17 0 rfl rfl (t := j) (x := ((b1 j) + (nI 0))) (by omega) (by decide) dX4_passes_71 (fun H locs hP hD hS => ?_)
                have hP : va_P (dC, dI) vwCl (mw ad cy (va_up F 1 ((F 1) + (nI 1))) C (va_up (va_up (va_up R 21 (M_lat (T 15) (R 16) (R 19) (C 14) (R 21) (C 14))) 20 (upd b1 j ((b1 j) + (nI 0)))) 19 a1) T) H := hP
                have hD : va_D A (mw ad cy (va_up F 1 ((F 1) + (nI 1))) C (va_up (va_up (va_up R 21 (M_lat (T 15) (R 16) (R 19) (C 14) (R 21) (C 14))) 20 (upd b1 j ((b1 j) + (nI 0)))) 19 a1) T) := hD
                refine lv_aload_n hx hb dX4_passes_72 rfl (lv_at hl 0 rfl) ?_
                refine va_get (D := (dC, dI)) (ci := 5) (v := .ref ((ad 19))) (C := RX4) (T := TX4) (N := 22) hx hb hts inM hown hK hP 0 rfl rfl 19 (by decide) lk4 (fun _ h9 => h9) rfl dX4_passes_73 ?_
                refine lv_iload_n hx hb dX4_passes_76 rfl (lv_at hl 2 rfl) ?_
                refine x_iald (f := a1) hx hb hK hP 16 0 rfl rfl (t := j) (by omega) (by decide) dX4_passes_77 ?_
                refine lv_iconst (v := nI 2) hx hb dX4_passes_78 (by decide) ?_
                refine lv_icmp_ne (tgt := 115) hx hb dX4_passes_79 (by decide) (fun c_4 => ?_) (fun c_4 => ?_)
                · refine lv_iinc (v := nI (j + 1)) (lv' := [(2, .int (nI (j + 1))), (0, .ref ((ad 0))), (1, .int (nI kk))]) hx hb dX4_passes_115 hl (k := 2) rfl (by rw [show Int32.ofInt 1 = 1 from rfl]; exact nI_1 _) (by decide) rfl (fun ls hl => ?_)
                  refine lv_goto (tgt := 41) hx hb dX4_passes_118 (by decide) ?_
                  exact ih (C 14 - (j + 1)) (by omega) (j + 1) a1 (upd b1 j ((b1 j) + (nI 0))) kk rfl (by omega) (by simp only [M_ps, hu, M_psStep, eq_true c_3, c_4, and_true, true_and, and_false, false_and, if_true, if_false, not_true, not_false_iff, not_false_eq_true, or_true, true_or, or_false, false_or, ite_true, ite_false, and_self, Classical.not_not, Bool.false_eq_true]) H locs ls hP hD hS (by exact lv_sub hl [1, 2, 0] rfl)
                · refine lv_aload_n hx hb dX4_passes_82 rfl (lv_at hl 0 rfl) ?_
                  refine va_get (D := (dC, dI)) (ci := 5) (v := .int ((F 1) + (nI 1))) (C := RX4) (T := TX4) (N := 22) hx hb hts inM hown hK hP 0 rfl rfl 1 (by decide) lk0 (fun _ h9 => h9) rfl dX4_passes_83 ?_
                  refine lv_aload_n hx hb dX4_passes_86 rfl (lv_at hl 0 rfl) ?_
                  refine va_get (D := (dC, dI)) (ci := 5) (v := .ref ((ad 20))) (C := RX4) (T := TX4) (N := 22) hx hb hts inM hown hK hP 0 rfl rfl 20 (by decide) lk2 (fun _ h9 => h9) rfl dX4_passes_87 ?_
                  refine lv_iload_n hx hb dX4_passes_90 rfl (lv_at hl 2 rfl) ?_
                  refine x_iald (f := upd b1 j ((b1 j) + (nI 0))) hx hb hK hP 17 0 rfl rfl (t := j) (by omega) (by decide) dX4_passes_91 ?_
                  refine to_i (y := ((b1 j) + (nI 0))) pk_us ?_
                  refine lv_icmp_le (tgt := 115) hx hb dX4_passes_92 (by decide) (fun c_5 => ?_) (fun c_5 => ?_)
                  · refine lv_iinc (v := nI (j + 1)) (lv' := [(2, .int (nI (j + 1))), (0, .ref ((ad 0))), (1, .int (nI kk))]) hx hb dX4_passes_115 hl (k := 2) rfl (by rw [show Int32.ofInt 1 = 1 from rfl]; exact nI_1 _) (by decide) rfl (fun ls hl => ?_)
                    refine lv_goto (tgt := 41) hx hb dX4_passes_118 (by decide) ?_
                    exact ih (C 14 - (j + 1)) (by omega) (j + 1) a1 (upd b1 j ((b1 j) + (nI 0))) kk rfl (by omega) (by simp only [M_ps, hu, M_psStep, eq_true c_3, eq_true c_4, eq_true c_5, and_true, true_and, and_false, false_and, if_true, if_false, not_true, not_false_iff, not_false_eq_true, or_true, true_or, or_false, false_or, ite_true, ite_false, and_self, Classical.not_not, Bool.false_eq_true]) H locs ls hP hD hS (by exact lv_sub hl [1, 2, 0] rfl)
                  · refine lv_aload_n hx hb dX4_passes_95 rfl (lv_at hl 0 rfl) ?_
                    refine va_get (D := (dC, dI)) (ci := 5) (v := .ref ((ad 19))) (C := RX4) (T := TX4) (N := 22) hx hb hts inM hown hK hP 0 rfl rfl 19 (by decide) lk4 (fun _ h9 => h9) rfl dX4_passes_96 ?_
                    refine lv_iload_n hx hb dX4_passes_99 rfl (lv_at hl 2 rfl) ?_
                    refine lv_iconst (v := nI 3) hx hb dX4_passes_100 (by decide) ?_
                    refine x_iast hx hb hK hP hD hS 16 0 rfl rfl (t := j) (x := (nI 3)) (by omega) (by decide) dX4_passes_101 (fun H locs hP hD hS => ?_)
                    have hP : va_P (dC, dI) vwCl (mw ad cy (va_up F 1 ((F 1) + (nI 1))) C (va_up (va_up (va_up R 21 (M_lat (T 15) (R 16) (R 19) (C 14) (R 21) (C 14))) 20 (upd b1 j ((b1 j) + (nI 0)))) 19 (upd a1 j (nI 3))) T) H := hP
                    have hD : va_D A (mw ad cy (va_up F 1 ((F 1) + (nI 1))) C (va_up (va_up (va_up R 21 (M_lat (T 15) (R 16) (R 19) (C 14) (R 21) (C 14))) 20 (upd b1 j ((b1 j) + (nI 0)))) 19 (upd a1 j (nI 3))) T) := hD
                    refine lv_aload_n hx hb dX4_passes_102 rfl (lv_at hl 0 rfl) ?_
                    refine va_get (D := (dC, dI)) (ci := 5) (v := .ref ((ad 20))) (C := RX4) (T := TX4) (N := 22) hx hb hts inM hown hK hP 0 rfl rfl 20 (by decide) lk2 (fun _ h9 => h9) rfl dX4_passes_103 ?_
                    refine lv_iload_n hx hb dX4_passes_106 rfl (lv_at hl 2 rfl) ?_
                    refine lv_aload_n hx hb dX4_passes_107 rfl (lv_at hl 0 rfl) ?_
                    refine va_get (D := (dC, dI)) (ci := 5) (v := .int ((F 1) + (nI 1))) (C := RX4) (T := TX4) (N := 22) hx hb hts inM hown hK hP 0 rfl rfl 1 (by decide) lk0 (fun _ h9 => h9) rfl dX4_passes_108 ?_
                    refine x_iast hx hb hK hP hD hS 17 0 rfl rfl (t := j) (x := ((F 1) + (nI 1))) (by omega) (by decide) dX4_passes_111 (fun H locs hP hD hS => ?_)
                    have hP : va_P (dC, dI) vwCl (mw ad cy (va_up F 1 ((F 1) + (nI 1))) C (va_up (va_up (va_up R 21 (M_lat (T 15) (R 16) (R 19) (C 14) (R 21) (C 14))) 20 (upd (upd b1 j ((b1 j) + (nI 0))) j ((F 1) + (nI 1)))) 19 (upd a1 j (nI 3))) T) H := hP
                    have hD : va_D A (mw ad cy (va_up F 1 ((F 1) + (nI 1))) C (va_up (va_up (va_up R 21 (M_lat (T 15) (R 16) (R 19) (C 14) (R 21) (C 14))) 20 (upd (upd b1 j ((b1 j) + (nI 0))) j ((F 1) + (nI 1)))) 19 (upd a1 j (nI 3))) T) := hD
                    refine lv_iinc (v := nI (kk + 1)) (lv' := [(1, .int (nI (kk + 1))), (0, .ref ((ad 0))), (2, .int (nI j))]) hx hb dX4_passes_112 hl (k := 1) rfl (by rw [show Int32.ofInt 1 = 1 from rfl]; exact nI_1 _) (by decide) rfl (fun ls hl => ?_)
                    refine lv_iinc (v := nI (j + 1)) (lv' := [(2, .int (nI (j + 1))), (1, .int (nI (kk + 1))), (0, .ref ((ad 0)))]) hx hb dX4_passes_115 hl (k := 2) rfl (by rw [show Int32.ofInt 1 = 1 from rfl]; exact nI_1 _) (by decide) rfl (fun ls hl => ?_)
                    refine lv_goto (tgt := 41) hx hb dX4_passes_118 (by decide) ?_
                    exact ih (C 14 - (j + 1)) (by omega) (j + 1) (upd a1 j (nI 3)) (upd (upd b1 j ((b1 j) + (nI 0))) j ((F 1) + (nI 1))) (kk + 1) rfl (by omega) (by simp only [M_ps, hu, M_psStep, eq_true c_3, eq_true c_4, c_5, and_true, true_and, and_false, false_and, if_true, if_false, not_true, not_false_iff, not_false_eq_true, or_true, true_or, or_false, false_or, ite_true, ite_false, and_self, Classical.not_not, Bool.false_eq_true]) H locs ls hP hD hS (by exact lv_sub hl [2, 1, 0] rfl)
              · refine lv_iconst (v := nI 1) hx hb dX4_passes_65 (by decide) ?_
                refine lv_goto (tgt := 70) hx hb dX4_passes_66 (by decide) ?_
                refine lv_iadd hx hb dX4_passes_70 ?_
                refine x_iast hx hb hK hP hD hS 17 0 rfl rfl (t := j) (x := ((b1 j) + (nI 1))) (by omega) (by decide) dX4_passes_71 (fun H locs hP hD hS => ?_)
                have hP : va_P (dC, dI) vwCl (mw ad cy (va_up F 1 ((F 1) + (nI 1))) C (va_up (va_up (va_up R 21 (M_lat (T 15) (R 16) (R 19) (C 14) (R 21) (C 14))) 20 (upd b1 j ((b1 j) + (nI 1)))) 19 a1) T) H := hP
                have hD : va_D A (mw ad cy (va_up F 1 ((F 1) + (nI 1))) C (va_up (va_up (va_up R 21 (M_lat (T 15) (R 16) (R 19) (C 14) (R 21) (C 14))) 20 (upd b1 j ((b1 j) + (nI 1)))) 19 a1) T) := hD
                refine lv_aload_n hx hb dX4_passes_72 rfl (lv_at hl 0 rfl) ?_
                refine va_get (D := (dC, dI)) (ci := 5) (v := .ref ((ad 19))) (C := RX4) (T := TX4) (N := 22) hx hb hts inM hown hK hP 0 rfl rfl 19 (by decide) lk4 (fun _ h9 => h9) rfl dX4_passes_73 ?_
                refine lv_iload_n hx hb dX4_passes_76 rfl (lv_at hl 2 rfl) ?_
                refine x_iald (f := a1) hx hb hK hP 16 0 rfl rfl (t := j) (by omega) (by decide) dX4_passes_77 ?_
                refine lv_iconst (v := nI 2) hx hb dX4_passes_78 (by decide) ?_
                refine lv_icmp_ne (tgt := 115) hx hb dX4_passes_79 (by decide) (fun c_6 => ?_) (fun c_6 => ?_)
                · refine lv_iinc (v := nI (j + 1)) (lv' := [(2, .int (nI (j + 1))), (0, .ref ((ad 0))), (1, .int (nI kk))]) hx hb dX4_passes_115 hl (k := 2) rfl (by rw [show Int32.ofInt 1 = 1 from rfl]; exact nI_1 _) (by decide) rfl (fun ls hl => ?_)
                  refine lv_goto (tgt := 41) hx hb dX4_passes_118 (by decide) ?_
                  exact ih (C 14 - (j + 1)) (by omega) (j + 1) a1 (upd b1 j ((b1 j) + (nI 1))) kk rfl (by omega) (by simp only [M_ps, hu, M_psStep, c_3, c_6, and_true, true_and, and_false, false_and, if_true, if_false, not_true, not_false_iff, not_false_eq_true, or_true, true_or, or_false, false_or, ite_true, ite_false, and_self, Classical.not_not, Bool.false_eq_true]) H locs ls hP hD hS (by exact lv_sub hl [1, 2, 0] rfl)
                · refine lv_aload_n hx hb dX4_passes_82 rfl (lv_at hl 0 rfl) ?_
                  refine va_get (D := (dC, dI)) (ci := 5) (v := .int ((F 1) + (nI 1))) (C := RX4) (T := TX4) (N := 22) hx hb hts inM hown hK hP 0 rfl rfl 1 (by decide) lk0 (fun _ h9 => h9) rfl dX4_passes_83 ?_
                  refine lv_aload_n hx hb dX4_passes_86 rfl (lv_at hl 0 rfl) ?_
                  refine va_get (D := (dC, dI)) (ci := 5) (v := .ref ((ad 20))) (C := RX4) (T := TX4) (N := 22) hx hb hts inM hown hK hP 0 rfl rfl 20 (by decide) lk2 (fun _ h9 => h9) rfl dX4_passes_87 ?_
                  refine lv_iload_n hx hb dX4_passes_90 rfl (lv_at hl 2 rfl) ?_
                  refine x_iald (f := upd b1 j ((b1 j) + (nI 1))) hx hb hK hP 17 0 rfl rfl (t := j) (by omega) (by decide) dX4_passes_91 ?_
                  refine to_i (y := ((b1 j) + (nI 1))) pk_us ?_
                  refine lv_icmp_le (tgt := 115) hx hb dX4_passes_92 (by decide) (fun c_7 => ?_) (fun c_7 => ?_)
                  · refine lv_iinc (v := nI (j + 1)) (lv' := [(2, .int (nI (j + 1))), (0, .ref ((ad 0))), (1, .int (nI kk))]) hx hb dX4_passes_115 hl (k := 2) rfl (by rw [show Int32.ofInt 1 = 1 from rfl]; exact nI_1 _) (by decide) rfl (fun ls hl => ?_)
                    refine lv_goto (tgt := 41) hx hb dX4_passes_118 (by decide) ?_
                    exact ih (C 14 - (j + 1)) (by omega) (j + 1) a1 (upd b1 j ((b1 j) + (nI 1))) kk rfl (by omega) (by simp only [M_ps, hu, M_psStep, c_3, eq_true c_6, eq_true c_7, and_true, true_and, and_false, false_and, if_true, if_false, not_true, not_false_iff, not_false_eq_true, or_true, true_or, or_false, false_or, ite_true, ite_false, and_self, Classical.not_not, Bool.false_eq_true]) H locs ls hP hD hS (by exact lv_sub hl [1, 2, 0] rfl)
                  · refine lv_aload_n hx hb dX4_passes_95 rfl (lv_at hl 0 rfl) ?_
                    refine va_get (D := (dC, dI)) (ci := 5) (v := .ref ((ad 19))) (C := RX4) (T := TX4) (N := 22) hx hb hts inM hown hK hP 0 rfl rfl 19 (by decide) lk4 (fun _ h9 => h9) rfl dX4_passes_96 ?_
                    refine lv_iload_n hx hb dX4_passes_99 rfl (lv_at hl 2 rfl) ?_
                    refine lv_iconst (v := nI 3) hx hb dX4_passes_100 (by decide) ?_
                    refine x_iast hx hb hK hP hD hS 16 0 rfl rfl (t := j) (x := (nI 3)) (by omega) (by decide) dX4_passes_101 (fun H locs hP hD hS => ?_)
                    have hP : va_P (dC, dI) vwCl (mw ad cy (va_up F 1 ((F 1) + (nI 1))) C (va_up (va_up (va_up R 21 (M_lat (T 15) (R 16) (R 19) (C 14) (R 21) (C 14))) 20 (upd b1 j ((b1 j) + (nI 1)))) 19 (upd a1 j (nI 3))) T) H := hP
                    have hD : va_D A (mw ad cy (va_up F 1 ((F 1) + (nI 1))) C (va_up (va_up (va_up R 21 (M_lat (T 15) (R 16) (R 19) (C 14) (R 21) (C 14))) 20 (upd b1 j ((b1 j) + (nI 1)))) 19 (upd a1 j (nI 3))) T) := hD
                    refine lv_aload_n hx hb dX4_passes_102 rfl (lv_at hl 0 rfl) ?_
                    refine va_get (D := (dC, dI)) (ci := 5) (v := .ref ((ad 20))) (C := RX4) (T := TX4) (N := 22) hx hb hts inM hown hK hP 0 rfl rfl 20 (by decide) lk2 (fun _ h9 => h9) rfl dX4_passes_103 ?_
                    refine lv_iload_n hx hb dX4_passes_106 rfl (lv_at hl 2 rfl) ?_
                    refine lv_aload_n hx hb dX4_passes_107 rfl (lv_at hl 0 rfl) ?_
                    refine va_get (D := (dC, dI)) (ci := 5) (v := .int ((F 1) + (nI 1))) (C := RX4) (T := TX4) (N := 22) hx hb hts inM hown hK hP 0 rfl rfl 1 (by decide) lk0 (fun _ h9 => h9) rfl dX4_passes_108 ?_
                    refine x_iast hx hb hK hP hD hS 17 0 rfl rfl (t := j) (x := ((F 1) + (nI 1))) (by omega) (by decide) dX4_passes_111 (fun H locs hP hD hS => ?_)
                    have hP : va_P (dC, dI) vwCl (mw ad cy (va_up F 1 ((F 1) + (nI 1))) C (va_up (va_up (va_up R 21 (M_lat (T 15) (R 16) (R 19) (C 14) (R 21) (C 14))) 20 (upd (upd b1 j ((b1 j) + (nI 1))) j ((F 1) + (nI 1)))) 19 (upd a1 j (nI 3))) T) H := hP
                    have hD : va_D A (mw ad cy (va_up F 1 ((F 1) + (nI 1))) C (va_up (va_up (va_up R 21 (M_lat (T 15) (R 16) (R 19) (C 14) (R 21) (C 14))) 20 (upd (upd b1 j ((b1 j) + (nI 1))) j ((F 1) + (nI 1)))) 19 (upd a1 j (nI 3))) T) := hD
                    refine lv_iinc (v := nI (kk + 1)) (lv' := [(1, .int (nI (kk + 1))), (0, .ref ((ad 0))), (2, .int (nI j))]) hx hb dX4_passes_112 hl (k := 1) rfl (by rw [show Int32.ofInt 1 = 1 from rfl]; exact nI_1 _) (by decide) rfl (fun ls hl => ?_)
                    refine lv_iinc (v := nI (j + 1)) (lv' := [(2, .int (nI (j + 1))), (1, .int (nI (kk + 1))), (0, .ref ((ad 0)))]) hx hb dX4_passes_115 hl (k := 2) rfl (by rw [show Int32.ofInt 1 = 1 from rfl]; exact nI_1 _) (by decide) rfl (fun ls hl => ?_)
                    refine lv_goto (tgt := 41) hx hb dX4_passes_118 (by decide) ?_
                    exact ih (C 14 - (j + 1)) (by omega) (j + 1) (upd a1 j (nI 3)) (upd (upd b1 j ((b1 j) + (nI 1))) j ((F 1) + (nI 1))) (kk + 1) rfl (by omega) (by simp only [M_ps, hu, M_psStep, c_3, eq_true c_6, c_7, and_true, true_and, and_false, false_and, if_true, if_false, not_true, not_false_iff, not_false_eq_true, or_true, true_or, or_false, false_or, ite_true, ite_false, and_self, Classical.not_not, Bool.false_eq_true]) H locs ls hP hD hS (by exact lv_sub hl [2, 1, 0] rfl)
        exact hl_ps (C 14) 0 (R 19) (R 20) 0 rfl (Nat.zero_le _) rfl H locs ls hP hD hS (lv_sub hl [2, 1, 0] rfl)
      · refine lv_aload_n hx hb dX4_passes_20 rfl (lv_at hl 0 rfl) ?_
        refine va_get (D := (dC, dI)) (ci := 5) (v := .ref ((ad 21))) (C := RX4) (T := TX4) (N := 22) hx hb hts inM hown hK hP 0 rfl rfl 21 (by decide) lk3 (fun _ h9 => h9) rfl dX4_passes_21 ?_
        refine lv_iload_n hx hb dX4_passes_24 rfl (lv_at hl 1 rfl) ?_
        refine lv_aload_n hx hb dX4_passes_25 rfl (lv_at hl 0 rfl) ?_
        refine lv_iload_n hx hb dX4_passes_26 rfl (lv_at hl 1 rfl) ?_
        refine call_i (va_runV (As := [.int (nI j)]) (rest := [.int (nI j), .ref ((ad 21))]) ⟨hx, hb, hml, hown, hts⟩ (qX4_isSuspendedNow l dC dI cy ad (va_up F 1 ((F 1) + (nI 1))) C (va_up R 21 (M_lat (T 15) (R 16) (R 19) (C 14) (R 21) j)) T H.size j (by omega) hC hCn) (cwV 1 hts gX4_passes_X4_isSuspendedNow rfl rfl rfl (by decide +kernel) ⟨Nat.le_of_ble_eq_true rfl, Nat.le_of_ble_eq_true rfl⟩) (preV hK hP hD (w_recv (ci := 5) (q0 := 0) hK hP rfl rfl)) rfl rfl hl.1 rfl (lv_room (Nat.le_of_ble_eq_true rfl)) dX4_passes_27 ⟨Nat.zero_le _, Nat.zero_le _⟩) hD hS hA (fun r_8 u H locs w_9 hP hD hS => ?_)
        obtain ⟨rfl, rfl⟩ := w_9
        have hP : va_P (dC, dI) vwCl (mw ad cy (va_up F 1 ((F 1) + (nI 1))) C (va_up R 21 (M_lat (T 15) (R 16) (R 19) (C 14) (R 21) j)) T) H := hP
        have hD : va_D A (mw ad cy (va_up F 1 ((F 1) + (nI 1))) C (va_up R 21 (M_lat (T 15) (R 16) (R 19) (C 14) (R 21) j)) T) := hD
        refine to_i (y := bi (M_isS (T 15) (R 16) (R 19) (C 14) j)) rfl ?_
        refine x_zast hx hb hK hP hD hS 18 1 rfl rfl (t := j) (x := (bi (M_isS (T 15) (R 16) (R 19) (C 14) j))) (by omega) (by decide) bi_nar2 dX4_passes_30 (fun H locs hP hD hS => ?_)
        have hP : va_P (dC, dI) vwCl (mw ad cy (va_up F 1 ((F 1) + (nI 1))) C (va_up R 21 (upd (M_lat (T 15) (R 16) (R 19) (C 14) (R 21) j) j (bi (M_isS (T 15) (R 16) (R 19) (C 14) j)))) T) H := hP
        have hD : va_D A (mw ad cy (va_up F 1 ((F 1) + (nI 1))) C (va_up R 21 (upd (M_lat (T 15) (R 16) (R 19) (C 14) (R 21) j) j (bi (M_isS (T 15) (R 16) (R 19) (C 14) j)))) T) := hD
        refine lv_iinc (v := nI (j + 1)) (lv' := [(1, .int (nI (j + 1))), (0, .ref ((ad 0)))]) hx hb dX4_passes_31 hl (k := 1) rfl (by rw [show Int32.ofInt 1 = 1 from rfl]; exact nI_1 _) (by decide) rfl (fun ls hl => ?_)
        refine lv_goto (tgt := 12) hx hb dX4_passes_34 (by decide) ?_
        exact ih (C 14 - (j + 1)) (by omega) (j + 1)  rfl (by omega)  H locs ls hP hD hS (by exact lv_sub hl [1, 0] rfl)
  exact hl_lat (C 14) 0  rfl (Nat.zero_le _)  H locs ls hP hD hS (lv_sub hl [1, 0] rfl)

def M_passN (u0 : MS) : Nat → MS × Nat
  | 0 => (u0, 0)
  | k + 1 => ((M_passes (M_passN u0 k).1).1, (M_passN u0 k).2 + (M_passes (M_passN u0 k).1).2)
def M_pass (F : Nat → Int32) (C : Nat → Nat) (R : Nat → Nat → Int32) (T : Nat → Nat → Nat) (a : Int32) : Int32 × MS :=
  if nI 1 ≤ a ∧ a ≤ nI 100 then
    (if F 1 + a ≤ nI 9999 then (nI (M_passN (va_up F 0 (nI 0), C, R, T) (ix a)).2, (M_passN (va_up F 0 (nI 0), C, R, T) (ix a)).1) else (nI 0, (va_up F 0 (nI 2), C, R, T)))
  else (nI 0, (va_up F 0 (nI 1), C, R, T))
theorem dy_ix {x : Int32} (h : nI 1 ≤ x ∧ x ≤ nI 100) : ∃ j : Nat, (1 ≤ j ∧ j ≤ 100) ∧ x = nI j ∧ ix (nI j) = j := by
  have h0 : ¬ x < 0 := fun q => Int32.not_lt.mpr (Int32.le_trans (by decide) h.1) q
  obtain ⟨j, h1, h2⟩ := nI_of2 (x := x) (M := nI 100) (n := 100) (by decide) h0 h.2
  refine ⟨j, ⟨?_, by omega⟩, h2, nI_clamp (by omega)⟩
  have h3 := h.1
  rw [h2] at h3
  exact (nI_leI (by decide) (by omega)).mp h3

set_option maxHeartbeats 4000000 in
set_option maxRecDepth 100000 in
/-- pass -/
theorem qX4_pass (l : Launch) (dC : Nat → ClassId) (dI : Nat → Nat → Nat) (cy : Nat → ClassId) (ad : Nat → Nat) (F : Nat → Int32) (C : Nat → Nat) (R : Nat → Nat → Int32) (T : Nat → Nat → Nat) (sz : Nat) (a : Int32) (hC : C 14 ≤ 100) (hCn : ∀ j, j < 100 → T 15 j ≤ 10) : Met l yX4_pass wsX4_pass ({ frames := 2, cells := 0, slots := 0, locals := 45 }) (va_Pc [.ref ((ad 0)), .int a] (wPre (dC, dI) (tyL cy) (mw ad cy F C R T) sz)) (QI (dC, dI) (tyL cy) (fun (r : Int32) (u : MS) => (r, u) = M_pass F C R T a) (mwU ad cy) (va_A (mw ad cy F C R T) sz)) 0 0 (va_A (mw ad cy F C R T) sz) := by
  refine en (cc := cX4_pass) (maxL := 4) (ret := (some .int)) (own := RX4) (lv := [(0, .ref ((ad 0))), (1, .int a)]) (by decide) rfl rfl (Nat.le_of_ble_eq_true rfl) rfl ?_
  intro p e s m below meth c ls A H locs hx hb hr hts hown hlocks hml hin hsz hK hP hD hS hA hl
  generalize hQQ : MQ below _ _ s _ _ A = QQ
  have inM : ∀ w ∈ wsX40, w ∈ wsX4_pass := fun _ h => List.mem_cons_of_mem _ (List.mem_append_right _ h)
  have lk0 : (Cond.fieldLink RX4 97 "ClauseShopModel" "day" "I").before (([.ref ((ad 0)), .int a] : List Value).toArray) s = true := hts _ (List.mem_of_getElem? (i := 1) rfl)
  have lk1 : (Cond.fieldLink RX4 65 "ClauseShopModel" "thrown" "I").before (([.ref ((ad 0)), .int a] : List Value).toArray) s = true := hts _ (List.mem_of_getElem? (i := 2) rfl)
  refine lv_aload_n hx hb dX4_pass_0 rfl (lv_at hl 0 rfl) ?_
  refine lv_iload_n hx hb dX4_pass_1 rfl (lv_at hl 1 rfl) ?_
  refine lv_iconst (v := nI 1) hx hb dX4_pass_2 (by decide) ?_
  refine lv_bipush (v := nI 100) hx hb dX4_pass_3 (by decide) ?_
  refine call_i (va_runS (As := [.int a, .int (nI 1), .int (nI 100)]) (rest := [.ref ((ad 0))]) ⟨hx, hb, hml, hown, hts⟩ (qX4_in l dC dI cy (mw ad cy F C R T) H.size a (nI 1) (nI 100)) (va_cwS 3 hts gX4_pass_X4_in rfl rfl rfl (by decide +kernel) ⟨Nat.le_of_ble_eq_true rfl, Nat.le_of_ble_eq_true rfl⟩) (preS hK hP hD) rfl rfl hl.1 rfl (lv_room (Nat.le_of_ble_eq_true rfl)) dX4_pass_5 ⟨Nat.zero_le _, Nat.zero_le _⟩) hD hS hA (fun r_1 u H locs w_2 hP hD hS => ?_)
  subst w_2
  have hP : va_P (dC, dI) vwCl (mw ad cy F C R T) H := hP
  have hD : va_D A (mw ad cy F C R T) := hD
  refine br_ne (tgt := 15) hx hb dX4_pass_8 (by decide) (fun c_3 => ?_) (fun c_3 => ?_)
  · obtain ⟨dn, hdn, ex, edn⟩ := dy_ix c_3
    subst ex
    refine lv_aload_n hx hb dX4_pass_15 rfl (lv_at hl 0 rfl) ?_
    refine va_get (D := (dC, dI)) (ci := 5) (v := .int (F 1)) (C := RX4) (T := TX4) (N := 22) hx hb hts inM hown hK hP 0 rfl rfl 1 (by decide) lk0 (fun _ h9 => h9) rfl dX4_pass_16 ?_
    refine lv_iload_n hx hb dX4_pass_19 rfl (lv_at hl 1 rfl) ?_
    refine lv_iadd hx hb dX4_pass_20 ?_
    refine lv_sipush (v := nI 9999) hx hb dX4_pass_21 (by decide) ?_
    refine lv_icmp_le (tgt := 31) hx hb dX4_pass_24 (by decide) (fun c_4 => ?_) (fun c_4 => ?_)
    · refine lv_iconst (v := nI 0) hx hb dX4_pass_31 (by decide) ?_
      refine va_put (D := (dC, dI)) (ci := 5) (v := .int (nI 0)) (ty := .int) (C := RX4) (T := TX4) (N := 22) hx hb hts inM tyX4 tyX4_ok nmX4 hown hK hP hD hS 0 rfl rfl 0 (by decide) lk1 (fun _ h9 => h9) rfl (by decide +kernel) rfl rfl (Nat.le_of_ble_eq_true rfl) dX4_pass_32 (fun H locs hP hD hS => ?_)
      have hP : va_P (dC, dI) vwCl (mw ad cy (va_up F 0 (nI 0)) C R T) H := hP
      have hD : va_D A (mw ad cy (va_up F 0 (nI 0)) C R T) := hD
      refine lv_iconst (v := nI 0) hx hb dX4_pass_35 (by decide) ?_
      refine lv_istore_n (lv' := [(2, .int (nI 0)), (0, .ref ((ad 0))), (1, .int (nI dn))]) hx hb dX4_pass_36 rfl hl (by decide) rfl (fun ls hl => ?_)
      refine lv_iconst (v := nI 0) hx hb dX4_pass_37 (by decide) ?_
      refine lv_istore_n (lv' := [(3, .int (nI 0)), (2, .int (nI 0)), (0, .ref ((ad 0))), (1, .int (nI dn))]) hx hb dX4_pass_38 rfl hl (by decide) rfl (fun ls hl => ?_)
      have hl_pn : ∀ (k9 j : Nat) (F1 : Nat → Int32) (R1 : Nat → Nat → Int32) (kk : Nat), dn - j = k9 → j ≤ dn → M_passN (va_up F 0 (nI 0), C, R, T) j = ((F1, C, R1, T), kk) → F1 0 = nI 0 → ∀ (H : Heap) (locs : List Loc) (ls : Array Slot), va_P (dC, dI) vwCl (mw ad cy F1 C R1 T) H → va_D A (mw ad cy F1 C R1 T) → va_S A s.heap H locs → lv_has ls 4 [(0, .ref ((ad 0))), (1, .int (nI dn)), (2, .int (nI kk)), (3, .int (nI j))] → W p l e ({ frames := 2, cells := 0, slots := 0, locals := 45 }) s m (([.ref ((ad 0)), .int (nI dn)] : List Value).toArray) below meth c H locs 0 0 QQ (F0 m 39 ls []) := by
        intro k9
        induction k9 using Nat.strongRecOn with
        | _ k9 ih =>
          intro j F1 R1 kk hk9 hle9 hu hF1 H locs ls hP hD hS hl
          refine lv_iload_n hx hb dX4_pass_39 rfl (lv_at hl 3 rfl) ?_
          refine lv_iload_n hx hb dX4_pass_40 rfl (lv_at hl 1 rfl) ?_
          refine n_ge (tgt := 64) hx hb dX4_pass_41 (by decide) (by omega) (by omega) (fun c_5 => ?_) (fun c_5 => ?_)
          · obtain rfl : j = dn := by omega
            refine lv_iload_n hx hb dX4_pass_64 rfl (lv_at hl 2 rfl) ?_
            rw [← hQQ]; exact end_i (u := (F1, C, R1, T)) hx hb hr hlocks dX4_pass_65 hK hP hD hS (by simp only [M_pass, hu, eq_true c_3, eq_true c_4, edn, and_true, true_and, and_false, false_and, if_true, if_false, not_true, not_false_iff, not_false_eq_true, or_true, true_or, or_false, false_or, ite_true, ite_false, and_self, Classical.not_not, Bool.false_eq_true]) (Nat.zero_le _) (Nat.zero_le _)
          · refine lv_aload_n hx hb dX4_pass_44 rfl (lv_at hl 0 rfl) ?_
            refine va_get (D := (dC, dI)) (ci := 5) (v := .int (F1 0)) (C := RX4) (T := TX4) (N := 22) hx hb hts inM hown hK hP 0 rfl rfl 0 (by decide) lk1 (fun _ h9 => h9) rfl dX4_pass_45 ?_
            refine to_i (y := nI 0) hF1 ?_
            refine lv_if_ne (tgt := 64) hx hb dX4_pass_48 (by decide) (fun h9 => absurd h9 (by decide)) (fun _ => ?_)
            refine lv_iload_n hx hb dX4_pass_51 rfl (lv_at hl 2 rfl) ?_
            refine lv_aload_n hx hb dX4_pass_52 rfl (lv_at hl 0 rfl) ?_
            refine call_i (va_runV (As := []) (rest := [.int (nI kk)]) ⟨hx, hb, hml, hown, hts⟩ (qX4_passes l dC dI cy ad F1 C R1 T H.size hC hCn) (cwV 0 hts gX4_pass_X4_passes rfl rfl rfl (by decide +kernel) ⟨Nat.le_of_ble_eq_true rfl, Nat.le_of_ble_eq_true rfl⟩) (preV hK hP hD (w_recv (ci := 5) (q0 := 0) hK hP rfl rfl)) rfl rfl hl.1 rfl (lv_room (Nat.le_of_ble_eq_true rfl)) dX4_pass_53 ⟨Nat.zero_le _, Nat.zero_le _⟩) hD hS hA (fun r_7 u H locs w_8 hP hD hS => ?_)
            obtain ⟨k2, hk2, rfl⟩ := w_8
            obtain ⟨F2, C2, R2, T2⟩ := u
            obtain rfl : C = C2 := congrArg (fun q : MS × Nat => q.1.2.1) hk2
            obtain rfl : T = T2 := congrArg (fun q : MS × Nat => q.1.2.2.2) hk2
            have hF2 : F2 0 = nI 0 := (congrArg (fun q : MS × Nat => q.1.1 0) hk2).symm.trans hF1
            have hP : va_P (dC, dI) vwCl (mw ad cy F2 C R2 T) H := hP
            have hD : va_D A (mw ad cy F2 C R2 T) := hD
            refine lv_iadd hx hb dX4_pass_56 ?_
            refine to_i (y := nI (kk + k2)) (nI_add _ _) ?_
            refine lv_istore_n (lv' := [(2, .int (nI (kk + k2))), (0, .ref ((ad 0))), (1, .int (nI dn)), (3, .int (nI j))]) hx hb dX4_pass_57 rfl hl (by decide) rfl (fun ls hl => ?_)
            refine lv_iinc (v := nI (j + 1)) (lv' := [(3, .int (nI (j + 1))), (2, .int (nI (kk + k2))), (0, .ref ((ad 0))), (1, .int (nI dn))]) hx hb dX4_pass_58 hl (k := 3) rfl (by rw [show Int32.ofInt 1 = 1 from rfl]; exact nI_1 _) (by decide) rfl (fun ls hl => ?_)
            refine lv_goto (tgt := 39) hx hb dX4_pass_61 (by decide) ?_
            exact ih (dn - (j + 1)) (by omega) (j + 1) F2 R2 (kk + k2) rfl (by omega) (by simp only [M_passN, hu, hk2]) hF2 H locs ls hP hD hS (by exact lv_sub hl [2, 3, 1, 0] rfl)
      exact hl_pn dn 0 (va_up F 0 (nI 0)) R 0 rfl (Nat.zero_le _) rfl rfl H locs ls hP hD hS (lv_sub hl [2, 3, 1, 0] rfl)
    · refine lv_iconst (v := nI 2) hx hb dX4_pass_27 (by decide) ?_
      refine lv_goto (tgt := 32) hx hb dX4_pass_28 (by decide) ?_
      refine va_put (D := (dC, dI)) (ci := 5) (v := .int (nI 2)) (ty := .int) (C := RX4) (T := TX4) (N := 22) hx hb hts inM tyX4 tyX4_ok nmX4 hown hK hP hD hS 0 rfl rfl 0 (by decide) lk1 (fun _ h9 => h9) rfl (by decide +kernel) rfl rfl (Nat.le_of_ble_eq_true rfl) dX4_pass_32 (fun H locs hP hD hS => ?_)
      have hP : va_P (dC, dI) vwCl (mw ad cy (va_up F 0 (nI 2)) C R T) H := hP
      have hD : va_D A (mw ad cy (va_up F 0 (nI 2)) C R T) := hD
      refine lv_iconst (v := nI 0) hx hb dX4_pass_35 (by decide) ?_
      refine lv_istore_n (lv' := [(2, .int (nI 0)), (0, .ref ((ad 0))), (1, .int (nI dn))]) hx hb dX4_pass_36 rfl hl (by decide) rfl (fun ls hl => ?_)
      refine lv_iconst (v := nI 0) hx hb dX4_pass_37 (by decide) ?_
      refine lv_istore_n (lv' := [(3, .int (nI 0)), (2, .int (nI 0)), (0, .ref ((ad 0))), (1, .int (nI dn))]) hx hb dX4_pass_38 rfl hl (by decide) rfl (fun ls hl => ?_)
      refine lv_iload_n hx hb dX4_pass_39 rfl (lv_at hl 0 rfl) ?_
      refine lv_iload_n hx hb dX4_pass_40 rfl (lv_at hl 3 rfl) ?_
      refine n_ge (tgt := 64) hx hb dX4_pass_41 (by decide) (by omega) (by omega) (fun c_9 => ?_) (fun c_9 => ?_)
      · refine lv_iload_n hx hb dX4_pass_64 rfl (lv_at hl 1 rfl) ?_
        rw [← hQQ]; exact end_i (u := (va_up F 0 (nI 2), C, R, T)) hx hb hr hlocks dX4_pass_65 hK hP hD hS (by simp only [M_pass, eq_true c_3, c_4, eq_true c_9, edn, and_true, true_and, and_false, false_and, if_true, if_false, not_true, not_false_iff, not_false_eq_true, or_true, true_or, or_false, false_or, ite_true, ite_false, and_self, Classical.not_not, Bool.false_eq_true]) (Nat.zero_le _) (Nat.zero_le _)
      · refine lv_aload_n hx hb dX4_pass_44 rfl (lv_at hl 2 rfl) ?_
        refine va_get (D := (dC, dI)) (ci := 5) (v := .int (nI 2)) (C := RX4) (T := TX4) (N := 22) hx hb hts inM hown hK hP 0 rfl rfl 0 (by decide) lk1 (fun _ h9 => h9) rfl dX4_pass_45 ?_
        refine lv_if_ne (tgt := 64) hx hb dX4_pass_48 (by decide) (fun _ => ?_) (fun h9 => absurd h9 (by decide))
        refine lv_iload_n hx hb dX4_pass_64 rfl (lv_at hl 1 rfl) ?_
        rw [← hQQ]; exact end_i (u := (va_up F 0 (nI 2), C, R, T)) hx hb hr hlocks dX4_pass_65 hK hP hD hS (by simp only [M_pass, eq_true c_3, c_4, eq_true c_9, edn, and_true, true_and, and_false, false_and, if_true, if_false, not_true, not_false_iff, not_false_eq_true, or_true, true_or, or_false, false_or, ite_true, ite_false, and_self, Classical.not_not, Bool.false_eq_true]) (Nat.zero_le _) (Nat.zero_le _)
  · refine lv_iconst (v := nI 1) hx hb dX4_pass_11 (by decide) ?_
    refine lv_goto (tgt := 32) hx hb dX4_pass_12 (by decide) ?_
    refine va_put (D := (dC, dI)) (ci := 5) (v := .int (nI 1)) (ty := .int) (C := RX4) (T := TX4) (N := 22) hx hb hts inM tyX4 tyX4_ok nmX4 hown hK hP hD hS 0 rfl rfl 0 (by decide) lk1 (fun _ h9 => h9) rfl (by decide +kernel) rfl rfl (Nat.le_of_ble_eq_true rfl) dX4_pass_32 (fun H locs hP hD hS => ?_)
    have hP : va_P (dC, dI) vwCl (mw ad cy (va_up F 0 (nI 1)) C R T) H := hP
    have hD : va_D A (mw ad cy (va_up F 0 (nI 1)) C R T) := hD
    refine lv_iconst (v := nI 0) hx hb dX4_pass_35 (by decide) ?_
    refine lv_istore_n (lv' := [(2, .int (nI 0)), (0, .ref ((ad 0))), (1, .int a)]) hx hb dX4_pass_36 rfl hl (by decide) rfl (fun ls hl => ?_)
    refine lv_iconst (v := nI 0) hx hb dX4_pass_37 (by decide) ?_
    refine lv_istore_n (lv' := [(3, .int (nI 0)), (2, .int (nI 0)), (0, .ref ((ad 0))), (1, .int a)]) hx hb dX4_pass_38 rfl hl (by decide) rfl (fun ls hl => ?_)
    refine lv_iload_n hx hb dX4_pass_39 rfl (lv_at hl 0 rfl) ?_
    refine lv_iload_n hx hb dX4_pass_40 rfl (lv_at hl 3 rfl) ?_
    refine lv_icmp_ge (tgt := 64) hx hb dX4_pass_41 (by decide) (fun c_11 => ?_) (fun c_11 => ?_)
    · refine lv_iload_n hx hb dX4_pass_64 rfl (lv_at hl 1 rfl) ?_
      rw [← hQQ]; exact end_i (u := (va_up F 0 (nI 1), C, R, T)) hx hb hr hlocks dX4_pass_65 hK hP hD hS (by simp only [M_pass, c_3, eq_true c_11, and_true, true_and, and_false, false_and, if_true, if_false, not_true, not_false_iff, not_false_eq_true, or_true, true_or, or_false, false_or, ite_true, ite_false, and_self, Classical.not_not, Bool.false_eq_true]) (Nat.zero_le _) (Nat.zero_le _)
    · refine lv_aload_n hx hb dX4_pass_44 rfl (lv_at hl 2 rfl) ?_
      refine va_get (D := (dC, dI)) (ci := 5) (v := .int (nI 1)) (C := RX4) (T := TX4) (N := 22) hx hb hts inM hown hK hP 0 rfl rfl 0 (by decide) lk1 (fun _ h9 => h9) rfl dX4_pass_45 ?_
      refine lv_if_ne (tgt := 64) hx hb dX4_pass_48 (by decide) (fun _ => ?_) (fun h9 => absurd h9 (by decide))
      refine lv_iload_n hx hb dX4_pass_64 rfl (lv_at hl 1 rfl) ?_
      rw [← hQQ]; exact end_i (u := (va_up F 0 (nI 1), C, R, T)) hx hb hr hlocks dX4_pass_65 hK hP hD hS (by simp only [M_pass, c_3, c_11, and_true, true_and, and_false, false_and, if_true, if_false, not_true, not_false_iff, not_false_eq_true, or_true, true_or, or_false, false_or, ite_true, ite_false, and_self, Classical.not_not, Bool.false_eq_true]) (Nat.zero_le _) (Nat.zero_le _)

def M_ow (con : Nat → Nat) (sd pn stt : Nat → Int32) (i : Nat) (b : Int32) : Nat → Int32
  | 0 => nI 0
  | d + 1 => M_ow con sd pn stt i b d + (if con d = i then (if stt d = nI 3 then (if sd d = b then pn d else -pn d) else nI 0) else nI 0)
def M_owes (F : Nat → Int32) (C : Nat → Nat) (R : Nat → Nat → Int32) (T : Nat → Nat → Nat) (a b : Int32) : Int32 × MS :=
  if isC C 9 a then
    (if isSd b then (if (0 : Int32) ≤ M_ow (T 15) (R 16) (R 18) (R 19) (ix a) b (C 14) then M_ow (T 15) (R 16) (R 18) (R 19) (ix a) b (C 14) else nI 0, (va_up F 0 (nI 0), C, R, T)) else (nI 0, (va_up F 0 (nI 2), C, R, T)))
  else (nI 0, (va_up F 0 (nI 1), C, R, T))

set_option maxHeartbeats 4000000 in
set_option maxRecDepth 100000 in
/-- owes -/
theorem qX4_owes (l : Launch) (dC : Nat → ClassId) (dI : Nat → Nat → Nat) (cy : Nat → ClassId) (ad : Nat → Nat) (F : Nat → Int32) (C : Nat → Nat) (R : Nat → Nat → Int32) (T : Nat → Nat → Nat) (sz : Nat) (a b : Int32) (hC : C 9 ≤ 10) (hD4 : C 14 ≤ 100) (hCn : ∀ j, j < 100 → T 15 j ≤ 10) : Met l yX4_owes wsX4_owes ({ frames := 2, cells := 0, slots := 0, locals := 43 }) (va_Pc [.ref ((ad 0)), .int a, .int b] (wPre (dC, dI) (tyL cy) (mw ad cy F C R T) sz)) (QI (dC, dI) (tyL cy) (fun (r : Int32) (u : MS) => (r, u) = M_owes F C R T a b) (mwU ad cy) (va_A (mw ad cy F C R T) sz)) 0 0 (va_A (mw ad cy F C R T) sz) := by
  refine en (cc := cX4_owes) (maxL := 6) (ret := (some .int)) (own := RX4) (lv := [(0, .ref ((ad 0))), (1, .int a), (2, .int b)]) (by decide) rfl rfl (Nat.le_of_ble_eq_true rfl) rfl ?_
  intro p e s m below meth c ls A H locs hx hb hr hts hown hlocks hml hin hsz hK hP hD hS hA hl
  generalize hQQ : MQ below _ _ s _ _ A = QQ
  have inM : ∀ w ∈ wsX40, w ∈ wsX4_owes := fun _ h => List.mem_cons_of_mem _ (List.mem_append_right _ h)
  have lk0 : (Cond.fieldLink RX4 65 "ClauseShopModel" "thrown" "I").before (([.ref ((ad 0)), .int a, .int b] : List Value).toArray) s = true := hts _ (List.mem_of_getElem? (i := 1) rfl)
  have lk1 : (Cond.fieldLink RX4 76 "ClauseShopModel" "duties" "I").before (([.ref ((ad 0)), .int a, .int b] : List Value).toArray) s = true := hts _ (List.mem_of_getElem? (i := 2) rfl)
  have lk2 : (Cond.fieldLink RX4 44 "ClauseShopModel" "contract" "[I").before (([.ref ((ad 0)), .int a, .int b] : List Value).toArray) s = true := hts _ (List.mem_of_getElem? (i := 3) rfl)
  have lk3 : (Cond.fieldLink RX4 56 "ClauseShopModel" "state" "[I").before (([.ref ((ad 0)), .int a, .int b] : List Value).toArray) s = true := hts _ (List.mem_of_getElem? (i := 4) rfl)
  have lk4 : (Cond.fieldLink RX4 47 "ClauseShopModel" "side" "[I").before (([.ref ((ad 0)), .int a, .int b] : List Value).toArray) s = true := hts _ (List.mem_of_getElem? (i := 5) rfl)
  have lk5 : (Cond.fieldLink RX4 53 "ClauseShopModel" "itsPenalty" "[I").before (([.ref ((ad 0)), .int a, .int b] : List Value).toArray) s = true := hts _ (List.mem_of_getElem? (i := 6) rfl)
  refine lv_aload_n hx hb dX4_owes_0 rfl (lv_at hl 0 rfl) ?_
  refine lv_aload_n hx hb dX4_owes_1 rfl (lv_at hl 0 rfl) ?_
  refine lv_iload_n hx hb dX4_owes_2 rfl (lv_at hl 1 rfl) ?_
  refine call_i (va_runV (As := [.int a]) (rest := [.ref ((ad 0))]) ⟨hx, hb, hml, hown, hts⟩ (qX4_isContract l dC dI cy ad F C R T H.size a) (cwV 1 hts gX4_owes_X4_isContract rfl rfl rfl (by decide +kernel) ⟨Nat.le_of_ble_eq_true rfl, Nat.le_of_ble_eq_true rfl⟩) (preV hK hP hD (w_recv (ci := 5) (q0 := 0) hK hP rfl rfl)) rfl rfl hl.1 rfl (lv_room (Nat.le_of_ble_eq_true rfl)) dX4_owes_3 ⟨Nat.zero_le _, Nat.zero_le _⟩) hD hS hA (fun r_1 u H locs w_2 hP hD hS => ?_)
  obtain ⟨rfl, rfl⟩ := w_2
  have hP : va_P (dC, dI) vwCl (mw ad cy F C R T) H := hP
  have hD : va_D A (mw ad cy F C R T) := hD
  refine br_ne (tgt := 13) hx hb dX4_owes_6 (by decide) (fun c_3 => ?_) (fun c_3 => ?_)
  · obtain ⟨i, hi, ex, ei⟩ := ct_ix (n := C 9) (by omega) c_3
    subst ex
    refine lv_iload_n hx hb dX4_owes_13 rfl (lv_at hl 2 rfl) ?_
    refine call_i (va_runS (As := [.int b]) (rest := [.ref ((ad 0))]) ⟨hx, hb, hml, hown, hts⟩ (qX4_isSide l dC dI cy (mw ad cy F C R T) H.size b) (va_cwS 1 hts gX4_owes_X4_isSide rfl rfl rfl (by decide +kernel) ⟨Nat.le_of_ble_eq_true rfl, Nat.le_of_ble_eq_true rfl⟩) (preS hK hP hD) rfl rfl hl.1 rfl (lv_room (Nat.le_of_ble_eq_true rfl)) dX4_owes_14 ⟨Nat.zero_le _, Nat.zero_le _⟩) hD hS hA (fun r_4 u H locs w_5 hP hD hS => ?_)
    subst w_5
    have hP : va_P (dC, dI) vwCl (mw ad cy F C R T) H := hP
    have hD : va_D A (mw ad cy F C R T) := hD
    refine br_eq (tgt := 24) hx hb dX4_owes_17 (by decide) (fun c_6 => ?_) (fun c_6 => ?_)
    · refine lv_iconst (v := nI 2) hx hb dX4_owes_24 (by decide) ?_
      refine va_put (D := (dC, dI)) (ci := 5) (v := .int (nI 2)) (ty := .int) (C := RX4) (T := TX4) (N := 22) hx hb hts inM tyX4 tyX4_ok nmX4 hown hK hP hD hS 0 rfl rfl 0 (by decide) lk0 (fun _ h9 => h9) rfl (by decide +kernel) rfl rfl (Nat.le_of_ble_eq_true rfl) dX4_owes_25 (fun H locs hP hD hS => ?_)
      have hP : va_P (dC, dI) vwCl (mw ad cy (va_up F 0 (nI 2)) C R T) H := hP
      have hD : va_D A (mw ad cy (va_up F 0 (nI 2)) C R T) := hD
      refine lv_iconst (v := nI 0) hx hb dX4_owes_28 (by decide) ?_
      refine lv_istore_n (lv' := [(3, .int (nI 0)), (0, .ref ((ad 0))), (1, .int (nI i)), (2, .int b)]) hx hb dX4_owes_29 rfl hl (by decide) rfl (fun ls hl => ?_)
      refine lv_iconst (v := nI 0) hx hb dX4_owes_30 (by decide) ?_
      refine lv_istore (lv' := [(4, .int (nI 0)), (3, .int (nI 0)), (0, .ref ((ad 0))), (1, .int (nI i)), (2, .int b)]) hx hb dX4_owes_31 hl (by decide) rfl (fun ls hl => ?_)
      refine lv_iload hx hb dX4_owes_33 (lv_at hl 0 rfl) ?_
      refine lv_aload_n hx hb dX4_owes_35 rfl (lv_at hl 2 rfl) ?_
      refine va_get (D := (dC, dI)) (ci := 5) (v := .int (nI (C 14))) (C := RX4) (T := TX4) (N := 22) hx hb hts inM hown hK hP 0 rfl rfl 14 (by decide) lk1 (fun _ h9 => h9) rfl dX4_owes_36 ?_
      refine n_ge (tgt := 125) hx hb dX4_owes_39 (by decide) (by omega) (by omega) (fun c_7 => ?_) (fun c_7 => ?_)
      · refine lv_iload_n hx hb dX4_owes_125 rfl (lv_at hl 1 rfl) ?_
        refine lv_if_ge (tgt := 133) hx hb dX4_owes_126 (by decide) (fun _ => ?_) (fun h9 => absurd h9 (by decide))
        refine lv_iload_n hx hb dX4_owes_133 rfl (lv_at hl 1 rfl) ?_
        rw [← hQQ]; exact end_i (u := (va_up F 0 (nI 2), C, R, T)) hx hb hr hlocks dX4_owes_134 hK hP hD hS (by simp only [M_owes, eq_true c_3, c_6, eq_true c_7, ei, isC, and_true, true_and, and_false, false_and, if_true, if_false, not_true, not_false_iff, not_false_eq_true, or_true, true_or, or_false, false_or, ite_true, ite_false, and_self, Classical.not_not, Bool.false_eq_true]) (Nat.zero_le _) (Nat.zero_le _)
      · refine lv_aload_n hx hb dX4_owes_42 rfl (lv_at hl 2 rfl) ?_
        refine va_get (D := (dC, dI)) (ci := 5) (v := .int (nI 2)) (C := RX4) (T := TX4) (N := 22) hx hb hts inM hown hK hP 0 rfl rfl 0 (by decide) lk0 (fun _ h9 => h9) rfl dX4_owes_43 ?_
        refine lv_if_ne (tgt := 125) hx hb dX4_owes_46 (by decide) (fun _ => ?_) (fun h9 => absurd h9 (by decide))
        refine lv_iload_n hx hb dX4_owes_125 rfl (lv_at hl 1 rfl) ?_
        refine lv_if_ge (tgt := 133) hx hb dX4_owes_126 (by decide) (fun _ => ?_) (fun h9 => absurd h9 (by decide))
        refine lv_iload_n hx hb dX4_owes_133 rfl (lv_at hl 1 rfl) ?_
        rw [← hQQ]; exact end_i (u := (va_up F 0 (nI 2), C, R, T)) hx hb hr hlocks dX4_owes_134 hK hP hD hS (by simp only [M_owes, eq_true c_3, c_6, eq_true c_7, ei, isC, and_true, true_and, and_false, false_and, if_true, if_false, not_true, not_false_iff, not_false_eq_true, or_true, true_or, or_false, false_or, ite_true, ite_false, and_self, Classical.not_not, Bool.false_eq_true]) (Nat.zero_le _) (Nat.zero_le _)
    · obtain ⟨sd, hsd, ex, esd⟩ := sd_ix c_6
      subst ex
      refine lv_iconst (v := nI 0) hx hb dX4_owes_20 (by decide) ?_
      refine lv_goto (tgt := 25) hx hb dX4_owes_21 (by decide) ?_
      refine va_put (D := (dC, dI)) (ci := 5) (v := .int (nI 0)) (ty := .int) (C := RX4) (T := TX4) (N := 22) hx hb hts inM tyX4 tyX4_ok nmX4 hown hK hP hD hS 0 rfl rfl 0 (by decide) lk0 (fun _ h9 => h9) rfl (by decide +kernel) rfl rfl (Nat.le_of_ble_eq_true rfl) dX4_owes_25 (fun H locs hP hD hS => ?_)
      have hP : va_P (dC, dI) vwCl (mw ad cy (va_up F 0 (nI 0)) C R T) H := hP
      have hD : va_D A (mw ad cy (va_up F 0 (nI 0)) C R T) := hD
      refine lv_iconst (v := nI 0) hx hb dX4_owes_28 (by decide) ?_
      refine lv_istore_n (lv' := [(3, .int (nI 0)), (0, .ref ((ad 0))), (1, .int (nI i)), (2, .int (nI sd))]) hx hb dX4_owes_29 rfl hl (by decide) rfl (fun ls hl => ?_)
      refine lv_iconst (v := nI 0) hx hb dX4_owes_30 (by decide) ?_
      refine lv_istore (lv' := [(4, .int (nI 0)), (3, .int (nI 0)), (0, .ref ((ad 0))), (1, .int (nI i)), (2, .int (nI sd))]) hx hb dX4_owes_31 hl (by decide) rfl (fun ls hl => ?_)
      have hl_ow : ∀ (k9 j : Nat), C 14 - j = k9 → j ≤ C 14 → ∀ (H : Heap) (locs : List Loc) (ls : Array Slot), va_P (dC, dI) vwCl (mw ad cy (va_up F 0 (nI 0)) C R T) H → va_D A (mw ad cy (va_up F 0 (nI 0)) C R T) → va_S A s.heap H locs → lv_has ls 6 [(0, .ref ((ad 0))), (1, .int (nI i)), (2, .int (nI sd)), (3, .int (M_ow (T 15) (R 16) (R 18) (R 19) i (nI sd) j)), (4, .int (nI j))] → W p l e ({ frames := 2, cells := 0, slots := 0, locals := 43 }) s m (([.ref ((ad 0)), .int (nI i), .int (nI sd)] : List Value).toArray) below meth c H locs 0 0 QQ (F0 m 33 ls []) := by
        intro k9
        induction k9 using Nat.strongRecOn with
        | _ k9 ih =>
          intro j  hk9 hle9  H locs ls hP hD hS hl
          refine lv_iload hx hb dX4_owes_33 (lv_at hl 4 rfl) ?_
          refine lv_aload_n hx hb dX4_owes_35 rfl (lv_at hl 0 rfl) ?_
          refine va_get (D := (dC, dI)) (ci := 5) (v := .int (nI (C 14))) (C := RX4) (T := TX4) (N := 22) hx hb hts inM hown hK hP 0 rfl rfl 14 (by decide) lk1 (fun _ h9 => h9) rfl dX4_owes_36 ?_
          refine n_ge (tgt := 125) hx hb dX4_owes_39 (by decide) (by omega) (by omega) (fun c_11 => ?_) (fun c_11 => ?_)
          · obtain rfl : j = C 14 := by omega
            refine lv_iload_n hx hb dX4_owes_125 rfl (lv_at hl 3 rfl) ?_
            refine lv_if_ge (tgt := 133) hx hb dX4_owes_126 (by decide) (fun c_12 => ?_) (fun c_12 => ?_)
            · refine lv_iload_n hx hb dX4_owes_133 rfl (lv_at hl 3 rfl) ?_
              rw [← hQQ]; exact end_i (u := (va_up F 0 (nI 0), C, R, T)) hx hb hr hlocks dX4_owes_134 hK hP hD hS (by simp only [M_owes, eq_true c_3, eq_true c_6, eq_true c_12, ei, esd, isC, and_true, true_and, and_false, false_and, if_true, if_false, not_true, not_false_iff, not_false_eq_true, or_true, true_or, or_false, false_or, ite_true, ite_false, and_self, Classical.not_not, Bool.false_eq_true]) (Nat.zero_le _) (Nat.zero_le _)
            · refine lv_iconst (v := nI 0) hx hb dX4_owes_129 (by decide) ?_
              refine lv_goto (tgt := 134) hx hb dX4_owes_130 (by decide) ?_
              rw [← hQQ]; exact end_i (u := (va_up F 0 (nI 0), C, R, T)) hx hb hr hlocks dX4_owes_134 hK hP hD hS (by simp only [M_owes, eq_true c_3, eq_true c_6, c_12, ei, esd, isC, and_true, true_and, and_false, false_and, if_true, if_false, not_true, not_false_iff, not_false_eq_true, or_true, true_or, or_false, false_or, ite_true, ite_false, and_self, Classical.not_not, Bool.false_eq_true]) (Nat.zero_le _) (Nat.zero_le _)
          · refine lv_aload_n hx hb dX4_owes_42 rfl (lv_at hl 0 rfl) ?_
            refine va_get (D := (dC, dI)) (ci := 5) (v := .int (nI 0)) (C := RX4) (T := TX4) (N := 22) hx hb hts inM hown hK hP 0 rfl rfl 0 (by decide) lk0 (fun _ h9 => h9) rfl dX4_owes_43 ?_
            refine lv_if_ne (tgt := 125) hx hb dX4_owes_46 (by decide) (fun h9 => absurd h9 (by decide)) (fun _ => ?_)
            have hKj := hCn j (by omega)
            refine lv_aload_n hx hb dX4_owes_49 rfl (lv_at hl 0 rfl) ?_
            refine va_get (D := (dC, dI)) (ci := 5) (v := .ref ((ad 15))) (C := RX4) (T := TX4) (N := 22) hx hb hts inM hown hK hP 0 rfl rfl 15 (by decide) lk2 (fun _ h9 => h9) rfl dX4_owes_50 ?_
            refine lv_iload hx hb dX4_owes_53 (lv_at hl 4 rfl) ?_
            refine x_iald hx hb hK hP 12 0 rfl rfl (t := j) (by omega) (by decide) dX4_owes_55 ?_
            refine lv_iload_n hx hb dX4_owes_56 rfl (lv_at hl 1 rfl) ?_
            refine n_ne (tgt := 75) hx hb dX4_owes_57 (by decide) (by omega) (by omega) (fun c_14 => ?_) (fun c_14 => ?_)
            · refine lv_iconst (v := nI 0) hx hb dX4_owes_75 (by decide) ?_
              refine lv_istore (lv' := [(5, .int (nI 0)), (0, .ref ((ad 0))), (1, .int (nI i)), (2, .int (nI sd)), (3, .int (M_ow (T 15) (R 16) (R 18) (R 19) i (nI sd) j)), (4, .int (nI j))]) hx hb dX4_owes_76 hl (by decide) rfl (fun ls hl => ?_)
              refine lv_iload_n hx hb dX4_owes_78 rfl (lv_at hl 4 rfl) ?_
              refine lv_iload hx hb dX4_owes_79 (lv_at hl 0 rfl) ?_
              refine lv_if_ne (tgt := 88) hx hb dX4_owes_81 (by decide) (fun h9 => absurd h9 (by decide)) (fun _ => ?_)
              refine lv_iconst (v := nI 0) hx hb dX4_owes_84 (by decide) ?_
              refine lv_goto (tgt := 117) hx hb dX4_owes_85 (by decide) ?_
              refine lv_iadd hx hb dX4_owes_117 ?_
              refine lv_istore_n (lv' := [(3, .int ((M_ow (T 15) (R 16) (R 18) (R 19) i (nI sd) j) + (nI 0))), (5, .int (nI 0)), (0, .ref ((ad 0))), (1, .int (nI i)), (2, .int (nI sd)), (4, .int (nI j))]) hx hb dX4_owes_118 rfl hl (by decide) rfl (fun ls hl => ?_)
              refine lv_iinc (v := nI (j + 1)) (lv' := [(4, .int (nI (j + 1))), (3, .int ((M_ow (T 15) (R 16) (R 18) (R 19) i (nI sd) j) + (nI 0))), (5, .int (nI 0)), (0, .ref ((ad 0))), (1, .int (nI i)), (2, .int (nI sd))]) hx hb dX4_owes_119 hl (k := 5) rfl (by rw [show Int32.ofInt 1 = 1 from rfl]; exact nI_1 _) (by decide) rfl (fun ls hl => ?_)
              refine lv_goto (tgt := 33) hx hb dX4_owes_122 (by decide) ?_
              have e9 : M_ow (T 15) (R 16) (R 18) (R 19) i (nI sd) (j + 1) = (M_ow (T 15) (R 16) (R 18) (R 19) i (nI sd) j) + (nI 0) := by simp only [M_ow, eq_true c_3, eq_true c_6, c_14, ei, esd, and_true, true_and, and_false, false_and, if_true, if_false, not_true, not_false_iff, not_false_eq_true, or_true, true_or, or_false, false_or, ite_true, ite_false, and_self, Classical.not_not, Bool.false_eq_true]
              exact ih (C 14 - (j + 1)) (by omega) (j + 1)  rfl (by omega)  H locs ls hP hD hS (by rw [e9]; exact lv_sub hl [3, 4, 5, 1, 0] rfl)
            · refine lv_aload_n hx hb dX4_owes_60 rfl (lv_at hl 0 rfl) ?_
              refine va_get (D := (dC, dI)) (ci := 5) (v := .ref ((ad 19))) (C := RX4) (T := TX4) (N := 22) hx hb hts inM hown hK hP 0 rfl rfl 19 (by decide) lk3 (fun _ h9 => h9) rfl dX4_owes_61 ?_
              refine lv_iload hx hb dX4_owes_64 (lv_at hl 4 rfl) ?_
              refine x_iald (f := R 19) hx hb hK hP 16 0 rfl rfl (t := j) (by omega) (by decide) dX4_owes_66 ?_
              refine lv_iconst (v := nI 3) hx hb dX4_owes_67 (by decide) ?_
              refine lv_icmp_ne (tgt := 75) hx hb dX4_owes_68 (by decide) (fun c_16 => ?_) (fun c_16 => ?_)
              · refine lv_iconst (v := nI 0) hx hb dX4_owes_75 (by decide) ?_
                refine lv_istore (lv' := [(5, .int (nI 0)), (0, .ref ((ad 0))), (1, .int (nI i)), (2, .int (nI sd)), (3, .int (M_ow (T 15) (R 16) (R 18) (R 19) i (nI sd) j)), (4, .int (nI j))]) hx hb dX4_owes_76 hl (by decide) rfl (fun ls hl => ?_)
                refine lv_iload_n hx hb dX4_owes_78 rfl (lv_at hl 4 rfl) ?_
                refine lv_iload hx hb dX4_owes_79 (lv_at hl 0 rfl) ?_
                refine lv_if_ne (tgt := 88) hx hb dX4_owes_81 (by decide) (fun h9 => absurd h9 (by decide)) (fun _ => ?_)
                refine lv_iconst (v := nI 0) hx hb dX4_owes_84 (by decide) ?_
                refine lv_goto (tgt := 117) hx hb dX4_owes_85 (by decide) ?_
                refine lv_iadd hx hb dX4_owes_117 ?_
                refine lv_istore_n (lv' := [(3, .int ((M_ow (T 15) (R 16) (R 18) (R 19) i (nI sd) j) + (nI 0))), (5, .int (nI 0)), (0, .ref ((ad 0))), (1, .int (nI i)), (2, .int (nI sd)), (4, .int (nI j))]) hx hb dX4_owes_118 rfl hl (by decide) rfl (fun ls hl => ?_)
                refine lv_iinc (v := nI (j + 1)) (lv' := [(4, .int (nI (j + 1))), (3, .int ((M_ow (T 15) (R 16) (R 18) (R 19) i (nI sd) j) + (nI 0))), (5, .int (nI 0)), (0, .ref ((ad 0))), (1, .int (nI i)), (2, .int (nI sd))]) hx hb dX4_owes_119 hl (k := 5) rfl (by rw [show Int32.ofInt 1 = 1 from rfl]; exact nI_1 _) (by decide) rfl (fun ls hl => ?_)
                refine lv_goto (tgt := 33) hx hb dX4_owes_122 (by decide) ?_
                have e9 : M_ow (T 15) (R 16) (R 18) (R 19) i (nI sd) (j + 1) = (M_ow (T 15) (R 16) (R 18) (R 19) i (nI sd) j) + (nI 0) := by simp only [M_ow, eq_true c_3, eq_true c_6, eq_true c_14, c_16, ei, esd, and_true, true_and, and_false, false_and, if_true, if_false, not_true, not_false_iff, not_false_eq_true, or_true, true_or, or_false, false_or, ite_true, ite_false, and_self, Classical.not_not, Bool.false_eq_true]
                exact ih (C 14 - (j + 1)) (by omega) (j + 1)  rfl (by omega)  H locs ls hP hD hS (by rw [e9]; exact lv_sub hl [3, 4, 5, 1, 0] rfl)
              · refine lv_iconst (v := nI 1) hx hb dX4_owes_71 (by decide) ?_
                refine lv_goto (tgt := 76) hx hb dX4_owes_72 (by decide) ?_
                refine lv_istore (lv' := [(5, .int (nI 1)), (0, .ref ((ad 0))), (1, .int (nI i)), (2, .int (nI sd)), (3, .int (M_ow (T 15) (R 16) (R 18) (R 19) i (nI sd) j)), (4, .int (nI j))]) hx hb dX4_owes_76 hl (by decide) rfl (fun ls hl => ?_)
                refine lv_iload_n hx hb dX4_owes_78 rfl (lv_at hl 4 rfl) ?_
                refine lv_iload hx hb dX4_owes_79 (lv_at hl 0 rfl) ?_
                refine lv_if_ne (tgt := 88) hx hb dX4_owes_81 (by decide) (fun _ => ?_) (fun h9 => absurd h9 (by decide))
                refine lv_aload_n hx hb dX4_owes_88 rfl (lv_at hl 1 rfl) ?_
                refine va_get (D := (dC, dI)) (ci := 5) (v := .ref ((ad 16))) (C := RX4) (T := TX4) (N := 22) hx hb hts inM hown hK hP 0 rfl rfl 16 (by decide) lk4 (fun _ h9 => h9) rfl dX4_owes_89 ?_
                refine lv_iload hx hb dX4_owes_92 (lv_at hl 5 rfl) ?_
                refine x_iald (f := R 16) hx hb hK hP 13 0 rfl rfl (t := j) (by omega) (by decide) dX4_owes_94 ?_
                refine lv_iload_n hx hb dX4_owes_95 rfl (lv_at hl 3 rfl) ?_
                refine lv_icmp_ne (tgt := 109) hx hb dX4_owes_96 (by decide) (fun c_19 => ?_) (fun c_19 => ?_)
                · refine lv_aload_n hx hb dX4_owes_109 rfl (lv_at hl 1 rfl) ?_
                  refine va_get (D := (dC, dI)) (ci := 5) (v := .ref ((ad 18))) (C := RX4) (T := TX4) (N := 22) hx hb hts inM hown hK hP 0 rfl rfl 18 (by decide) lk5 (fun _ h9 => h9) rfl dX4_owes_110 ?_
                  refine lv_iload hx hb dX4_owes_113 (lv_at hl 5 rfl) ?_
                  refine x_iald (f := R 18) hx hb hK hP 15 0 rfl rfl (t := j) (by omega) (by decide) dX4_owes_115 ?_
                  refine lv_ineg hx hb dX4_owes_116 ?_
                  refine lv_iadd hx hb dX4_owes_117 ?_
                  refine lv_istore_n (lv' := [(3, .int ((M_ow (T 15) (R 16) (R 18) (R 19) i (nI sd) j) + (-(R 18 j)))), (5, .int (nI 1)), (0, .ref ((ad 0))), (1, .int (nI i)), (2, .int (nI sd)), (4, .int (nI j))]) hx hb dX4_owes_118 rfl hl (by decide) rfl (fun ls hl => ?_)
                  refine lv_iinc (v := nI (j + 1)) (lv' := [(4, .int (nI (j + 1))), (3, .int ((M_ow (T 15) (R 16) (R 18) (R 19) i (nI sd) j) + (-(R 18 j)))), (5, .int (nI 1)), (0, .ref ((ad 0))), (1, .int (nI i)), (2, .int (nI sd))]) hx hb dX4_owes_119 hl (k := 5) rfl (by rw [show Int32.ofInt 1 = 1 from rfl]; exact nI_1 _) (by decide) rfl (fun ls hl => ?_)
                  refine lv_goto (tgt := 33) hx hb dX4_owes_122 (by decide) ?_
                  have e9 : M_ow (T 15) (R 16) (R 18) (R 19) i (nI sd) (j + 1) = (M_ow (T 15) (R 16) (R 18) (R 19) i (nI sd) j) + (-(R 18 j)) := by simp only [M_ow, eq_true c_3, eq_true c_6, eq_true c_14, eq_true c_16, c_19, ei, esd, and_true, true_and, and_false, false_and, if_true, if_false, not_true, not_false_iff, not_false_eq_true, or_true, true_or, or_false, false_or, ite_true, ite_false, and_self, Classical.not_not, Bool.false_eq_true]
                  exact ih (C 14 - (j + 1)) (by omega) (j + 1)  rfl (by omega)  H locs ls hP hD hS (by rw [e9]; exact lv_sub hl [3, 4, 5, 1, 0] rfl)
                · refine lv_aload_n hx hb dX4_owes_99 rfl (lv_at hl 1 rfl) ?_
                  refine va_get (D := (dC, dI)) (ci := 5) (v := .ref ((ad 18))) (C := RX4) (T := TX4) (N := 22) hx hb hts inM hown hK hP 0 rfl rfl 18 (by decide) lk5 (fun _ h9 => h9) rfl dX4_owes_100 ?_
                  refine lv_iload hx hb dX4_owes_103 (lv_at hl 5 rfl) ?_
                  refine x_iald (f := R 18) hx hb hK hP 15 0 rfl rfl (t := j) (by omega) (by decide) dX4_owes_105 ?_
                  refine lv_goto (tgt := 117) hx hb dX4_owes_106 (by decide) ?_
                  refine lv_iadd hx hb dX4_owes_117 ?_
                  refine lv_istore_n (lv' := [(3, .int ((M_ow (T 15) (R 16) (R 18) (R 19) i (nI sd) j) + (R 18 j))), (5, .int (nI 1)), (0, .ref ((ad 0))), (1, .int (nI i)), (2, .int (nI sd)), (4, .int (nI j))]) hx hb dX4_owes_118 rfl hl (by decide) rfl (fun ls hl => ?_)
                  refine lv_iinc (v := nI (j + 1)) (lv' := [(4, .int (nI (j + 1))), (3, .int ((M_ow (T 15) (R 16) (R 18) (R 19) i (nI sd) j) + (R 18 j))), (5, .int (nI 1)), (0, .ref ((ad 0))), (1, .int (nI i)), (2, .int (nI sd))]) hx hb dX4_owes_119 hl (k := 5) rfl (by rw [show Int32.ofInt 1 = 1 from rfl]; exact nI_1 _) (by decide) rfl (fun ls hl => ?_)
                  refine lv_goto (tgt := 33) hx hb dX4_owes_122 (by decide) ?_
                  have e9 : M_ow (T 15) (R 16) (R 18) (R 19) i (nI sd) (j + 1) = (M_ow (T 15) (R 16) (R 18) (R 19) i (nI sd) j) + (R 18 j) := by simp only [M_ow, eq_true c_3, eq_true c_6, eq_true c_14, eq_true c_16, eq_true c_19, ei, esd, and_true, true_and, and_false, false_and, if_true, if_false, not_true, not_false_iff, not_false_eq_true, or_true, true_or, or_false, false_or, ite_true, ite_false, and_self, Classical.not_not, Bool.false_eq_true]
                  exact ih (C 14 - (j + 1)) (by omega) (j + 1)  rfl (by omega)  H locs ls hP hD hS (by rw [e9]; exact lv_sub hl [3, 4, 5, 1, 0] rfl)
      exact hl_ow (C 14) 0  rfl (Nat.zero_le _)  H locs ls hP hD hS (lv_sub hl [2, 3, 4, 1, 0] rfl)
  · refine lv_iconst (v := nI 1) hx hb dX4_owes_9 (by decide) ?_
    refine lv_goto (tgt := 25) hx hb dX4_owes_10 (by decide) ?_
    refine va_put (D := (dC, dI)) (ci := 5) (v := .int (nI 1)) (ty := .int) (C := RX4) (T := TX4) (N := 22) hx hb hts inM tyX4 tyX4_ok nmX4 hown hK hP hD hS 0 rfl rfl 0 (by decide) lk0 (fun _ h9 => h9) rfl (by decide +kernel) rfl rfl (Nat.le_of_ble_eq_true rfl) dX4_owes_25 (fun H locs hP hD hS => ?_)
    have hP : va_P (dC, dI) vwCl (mw ad cy (va_up F 0 (nI 1)) C R T) H := hP
    have hD : va_D A (mw ad cy (va_up F 0 (nI 1)) C R T) := hD
    refine lv_iconst (v := nI 0) hx hb dX4_owes_28 (by decide) ?_
    refine lv_istore_n (lv' := [(3, .int (nI 0)), (0, .ref ((ad 0))), (1, .int a), (2, .int b)]) hx hb dX4_owes_29 rfl hl (by decide) rfl (fun ls hl => ?_)
    refine lv_iconst (v := nI 0) hx hb dX4_owes_30 (by decide) ?_
    refine lv_istore (lv' := [(4, .int (nI 0)), (3, .int (nI 0)), (0, .ref ((ad 0))), (1, .int a), (2, .int b)]) hx hb dX4_owes_31 hl (by decide) rfl (fun ls hl => ?_)
    refine lv_iload hx hb dX4_owes_33 (lv_at hl 0 rfl) ?_
    refine lv_aload_n hx hb dX4_owes_35 rfl (lv_at hl 2 rfl) ?_
    refine va_get (D := (dC, dI)) (ci := 5) (v := .int (nI (C 14))) (C := RX4) (T := TX4) (N := 22) hx hb hts inM hown hK hP 0 rfl rfl 14 (by decide) lk1 (fun _ h9 => h9) rfl dX4_owes_36 ?_
    refine n_ge (tgt := 125) hx hb dX4_owes_39 (by decide) (by omega) (by omega) (fun c_20 => ?_) (fun c_20 => ?_)
    · refine lv_iload_n hx hb dX4_owes_125 rfl (lv_at hl 1 rfl) ?_
      refine lv_if_ge (tgt := 133) hx hb dX4_owes_126 (by decide) (fun _ => ?_) (fun h9 => absurd h9 (by decide))
      refine lv_iload_n hx hb dX4_owes_133 rfl (lv_at hl 1 rfl) ?_
      rw [← hQQ]; exact end_i (u := (va_up F 0 (nI 1), C, R, T)) hx hb hr hlocks dX4_owes_134 hK hP hD hS (by simp only [M_owes, c_3, eq_true c_20, isC, and_true, true_and, and_false, false_and, if_true, if_false, not_true, not_false_iff, not_false_eq_true, or_true, true_or, or_false, false_or, ite_true, ite_false, and_self, Classical.not_not, Bool.false_eq_true]) (Nat.zero_le _) (Nat.zero_le _)
    · refine lv_aload_n hx hb dX4_owes_42 rfl (lv_at hl 2 rfl) ?_
      refine va_get (D := (dC, dI)) (ci := 5) (v := .int (nI 1)) (C := RX4) (T := TX4) (N := 22) hx hb hts inM hown hK hP 0 rfl rfl 0 (by decide) lk0 (fun _ h9 => h9) rfl dX4_owes_43 ?_
      refine lv_if_ne (tgt := 125) hx hb dX4_owes_46 (by decide) (fun _ => ?_) (fun h9 => absurd h9 (by decide))
      refine lv_iload_n hx hb dX4_owes_125 rfl (lv_at hl 1 rfl) ?_
      refine lv_if_ge (tgt := 133) hx hb dX4_owes_126 (by decide) (fun _ => ?_) (fun h9 => absurd h9 (by decide))
      refine lv_iload_n hx hb dX4_owes_133 rfl (lv_at hl 1 rfl) ?_
      rw [← hQQ]; exact end_i (u := (va_up F 0 (nI 1), C, R, T)) hx hb hr hlocks dX4_owes_134 hK hP hD hS (by simp only [M_owes, c_3, eq_true c_20, isC, and_true, true_and, and_false, false_and, if_true, if_false, not_true, not_false_iff, not_false_eq_true, or_true, true_or, or_false, false_or, ite_true, ite_false, and_self, Classical.not_not, Bool.false_eq_true]) (Nat.zero_le _) (Nat.zero_le _)

def K_items (it : Nat → Nat) : Nat → Int32
  | 0 => nI 0
  | c + 1 => if it c = 0 then K_items it c else K_items it c ||| nI 1 <<< (nI c &&& 31)
def K_agr (it : Nat → Nat) (a b : Nat → Int32) : Nat → Bool
  | 0 => true
  | c + 1 => K_agr it a b c && (decide (it c = 0) || (decide (a c = nI 1) && decide (b c = nI 1)))
theorem K_agr_mono {it : Nat → Nat} {a b : Nat → Int32} {j : Nat} (h : K_agr it a b j = false) : ∀ k, j ≤ k → K_agr it a b k = false := by
  intro k
  induction k with
  | zero => intro hk; rw [show j = 0 by omega] at h; exact h
  | succ k ih =>
    intro hk
    by_cases e : j = k + 1
    · rw [e] at h; exact h
    · simp only [K_agr, ih (by omega), Bool.false_and]

set_option maxHeartbeats 4000000 in
set_option maxRecDepth 100000 in
/-- clauseSet -/
theorem qX0_clauseSet (l : Launch) (dC : Nat → ClassId) (dI : Nat → Nat → Nat) (cy : Nat → ClassId) (e0 mi : Nat) (ad : Lc → Nat) (L : List Lc) (S : SS) (N : NN) (sz : Nat) (i : Nat) (hI : okC L N) (hi : i < N 0 0 0) : Met l yX0_clauseSet wsX0_clauseSet ({ frames := 0, cells := 0, slots := 0, locals := 0 }) (va_Pc [.ref (ad (0, i))] (wPre (dC, dI) (tyL cy) (cw cy e0 ad L S N) sz)) (QI (dC, dI) (tyL cy) (fun (r : Int32) (u : CS) => r = K_items (N 2 i) 10 ∧ u = (S, N)) (cwU cy e0 ad L) (va_A (cw cy e0 ad L S N) sz)) 0 0 (va_A (cw cy e0 ad L S N) sz) := by
  refine en (cc := cX0_clauseSet) (maxL := 3) (ret := (some .int)) (own := RX0) (lv := [(0, .ref (ad (0, i)))]) (by decide) rfl rfl (Nat.le_of_ble_eq_true rfl) rfl ?_
  intro p e s m below meth c ls A H locs hx hb hr hts hown hlocks hml hin hsz hK hP hD hS hA hl
  generalize hQQ : MQ below _ _ s _ _ A = QQ
  have hI0 := hI
  obtain ⟨⟨hM0, hM8, hM9, hMF, hM15, hM17⟩, hV, hLt, hO, hDu, hnc, hnd, hcC, hcD, hcC2, hcD2⟩ := hI
  have inX0_ : ∀ w ∈ wsX00, w ∈ wsX0_clauseSet := fun _ h => List.mem_cons_of_mem _ (List.mem_append_right _ h)
  have lk0 : (Cond.fieldLink RX0 11 "ClauseShop$Contract" "items" "[LClauseShop$Version;").before (([.ref (ad (0, i))] : List Value).toArray) s = true := hts _ (List.mem_of_getElem? (i := 1) rfl)
  refine lv_iconst (v := nI 0) hx hb dX0_clauseSet_0 (by decide) ?_
  refine lv_istore_n (lv' := [(1, .int (nI 0)), (0, .ref (ad (0, i)))]) hx hb dX0_clauseSet_1 rfl hl (by decide) rfl (fun ls hl => ?_)
  refine lv_iconst (v := nI 0) hx hb dX0_clauseSet_2 (by decide) ?_
  refine lv_istore_n (lv' := [(2, .int (nI 0)), (1, .int (nI 0)), (0, .ref (ad (0, i)))]) hx hb dX0_clauseSet_3 rfl hl (by decide) rfl (fun ls hl => ?_)
  have hl_cs : ∀ (k9 j : Nat), 10 - j = k9 → j ≤ 10 → ∀ (H : Heap) (locs : List Loc) (ls : Array Slot), va_P (dC, dI) vwCl (cw cy e0 ad L S N) H → va_D A (cw cy e0 ad L S N) → va_S A s.heap H locs → lv_has ls 3 [(0, .ref (ad (0, i))), (1, .int (K_items (N 2 i) j)), (2, .int (nI j))] → W p l e ({ frames := 0, cells := 0, slots := 0, locals := 0 }) s m (([.ref (ad (0, i))] : List Value).toArray) below meth c H locs 0 0 QQ (F0 m 4 ls []) := by
    intro k9
    induction k9 using Nat.strongRecOn with
    | _ k9 ih =>
      intro j  hk9 hle9  H locs ls hP hD hS hl
      refine lv_iload_n hx hb dX0_clauseSet_4 rfl (lv_at hl 2 rfl) ?_
      refine lv_bipush (v := nI 10) hx hb dX0_clauseSet_5 (by decide) ?_
      refine n_ge (tgt := 31) hx hb dX0_clauseSet_7 (by decide) (by omega) (by omega) (fun c_1 => ?_) (fun c_1 => ?_)
      · obtain rfl : j = 10 := by omega
        refine lv_iload_n hx hb dX0_clauseSet_31 rfl (lv_at hl 1 rfl) ?_
        rw [← hQQ]; exact end_i (u := (S, N)) hx hb hr hlocks dX0_clauseSet_32 hK hP hD hS ⟨rfl, rfl⟩ (Nat.le_of_ble_eq_true rfl) (Nat.le_of_ble_eq_true rfl)
      · refine lv_aload_n hx hb dX0_clauseSet_10 rfl (lv_at hl 0 rfl) ?_
        obtain ⟨z_2, hz_2⟩ := pl_get (ad := ad) (f := cc cy e0 ad S N) (hM0 0 i (by decide) (by omega))
        rw [show cc cy e0 ad S N (0, i) = .inr (1, [.ref (ad (1, i)), .ref (ad (2, i)), .ref (ad (5, i)), .ref (ad (6, i)), .ref (ad (7, i))]) from rfl] at hz_2
        refine va_get (D := (dC, dI)) (ci := 1) (v := .ref (ad (1, i))) (C := RX0) (T := TX0) (N := 5) hx hb hts inX0_ hown hK hP z_2 hz_2 rfl 0 (by decide) lk0 (fun _ h9 => h9) rfl dX0_clauseSet_11 ?_
        refine lv_iload_n hx hb dX0_clauseSet_14 rfl (lv_at hl 2 rfl) ?_
        obtain ⟨z_3, hz_3⟩ := pl_get (ad := ad) (f := cc cy e0 ad S N) (hM0 1 i (by decide) (by omega))
        rw [show cc cy e0 ad S N (1, i) = .inl (cy 2, 10, .inr (.inr (.inr (.inr (fun d => vpt ad ((N 2 i) d) d))))) from rfl] at hz_3
        refine x_aald hx hb hK hP z_3 2 hz_3 rfl (t := j) (by omega) (by decide) dX0_clauseSet_15 ?_
        by_cases c_4 : N 2 i j = 0
        · refine to_v (y := .null) (vpt_z c_4) ?_
          refine lv_ifnullN (tgt := 25) hx hb dX0_clauseSet_16 (by decide) ?_
          refine lv_iinc (v := nI (j + 1)) (lv' := [(2, .int (nI (j + 1))), (0, .ref (ad (0, i))), (1, .int (K_items (N 2 i) j))]) hx hb dX0_clauseSet_25 hl (k := 2) rfl (by rw [show Int32.ofInt 1 = 1 from rfl]; exact nI_1 _) (by decide) rfl (fun ls hl => ?_)
          refine lv_goto (tgt := 4) hx hb dX0_clauseSet_28 (by decide) ?_
          have e9 : K_items (N 2 i) (j + 1) = K_items (N 2 i) j := by simp only [K_items, eq_true c_4, and_true, true_and, and_false, false_and, if_true, if_false, not_true, not_false_iff, not_false_eq_true, or_true, true_or, or_false, false_or, ite_true, ite_false, and_self, Classical.not_not, Bool.false_eq_true]
          exact ih (10 - (j + 1)) (by omega) (j + 1)  rfl (by omega)  H locs ls hP hD hS (by rw [e9]; exact lv_sub hl [1, 2, 0] rfl)
        · refine to_v (y := .ref (ad (9, 9 * j + N 2 i j - 1))) (vpt_s c_4) ?_
          refine lv_ifnull hx hb dX0_clauseSet_16 ?_
          refine lv_iload_n hx hb dX0_clauseSet_19 rfl (lv_at hl 1 rfl) ?_
          refine lv_iconst (v := nI 1) hx hb dX0_clauseSet_20 (by decide) ?_
          refine lv_iload_n hx hb dX0_clauseSet_21 rfl (lv_at hl 2 rfl) ?_
          refine lv_ishl hx hb dX0_clauseSet_22 ?_
          refine lv_ior hx hb dX0_clauseSet_23 ?_
          refine lv_istore_n (lv' := [(1, .int ((K_items (N 2 i) j) ||| ((nI 1) <<< ((nI j) &&& 31)))), (0, .ref (ad (0, i))), (2, .int (nI j))]) hx hb dX0_clauseSet_24 rfl hl (by decide) rfl (fun ls hl => ?_)
          refine lv_iinc (v := nI (j + 1)) (lv' := [(2, .int (nI (j + 1))), (1, .int ((K_items (N 2 i) j) ||| ((nI 1) <<< ((nI j) &&& 31)))), (0, .ref (ad (0, i)))]) hx hb dX0_clauseSet_25 hl (k := 2) rfl (by rw [show Int32.ofInt 1 = 1 from rfl]; exact nI_1 _) (by decide) rfl (fun ls hl => ?_)
          refine lv_goto (tgt := 4) hx hb dX0_clauseSet_28 (by decide) ?_
          have e9 : K_items (N 2 i) (j + 1) = (K_items (N 2 i) j) ||| ((nI 1) <<< ((nI j) &&& 31)) := by simp only [K_items, c_4, and_true, true_and, and_false, false_and, if_true, if_false, not_true, not_false_iff, not_false_eq_true, or_true, true_or, or_false, false_or, ite_true, ite_false, and_self, Classical.not_not, Bool.false_eq_true]
          exact ih (10 - (j + 1)) (by omega) (j + 1)  rfl (by omega)  H locs ls hP hD hS (by rw [e9]; exact lv_sub hl [2, 1, 0] rfl)
  exact hl_cs 10 0  rfl (Nat.zero_le _)  H locs ls hP hD hS (lv_sub hl [2, 1, 0] rfl)

set_option maxHeartbeats 4000000 in
set_option maxRecDepth 100000 in
/-- isAgreed -/
theorem qX0_isAgreed (l : Launch) (dC : Nat → ClassId) (dI : Nat → Nat → Nat) (cy : Nat → ClassId) (e0 mi : Nat) (ad : Lc → Nat) (L : List Lc) (S : SS) (N : NN) (sz : Nat) (i : Nat) (hI : okC L N) (hi : i < N 0 0 0) : Met l yX0_isAgreed wsX0_isAgreed ({ frames := 0, cells := 0, slots := 0, locals := 0 }) (va_Pc [.ref (ad (0, i))] (wPre (dC, dI) (tyL cy) (cw cy e0 ad L S N) sz)) (QI (dC, dI) (tyL cy) (fun (r : Int32) (u : CS) => r = bi (K_agr (N 2 i) (S 4 i) (S 5 i) 10 = true) ∧ u = (S, N)) (cwU cy e0 ad L) (va_A (cw cy e0 ad L S N) sz)) 0 0 (va_A (cw cy e0 ad L S N) sz) := by
  refine en (cc := cX0_isAgreed) (maxL := 2) (ret := (some .boolean)) (own := RX0) (lv := [(0, .ref (ad (0, i)))]) (by decide) rfl rfl (Nat.le_of_ble_eq_true rfl) rfl ?_
  intro p e s m below meth c ls A H locs hx hb hr hts hown hlocks hml hin hsz hK hP hD hS hA hl
  generalize hQQ : MQ below _ _ s _ _ A = QQ
  have hI0 := hI
  obtain ⟨⟨hM0, hM8, hM9, hMF, hM15, hM17⟩, hV, hLt, hO, hDu, hnc, hnd, hcC, hcD, hcC2, hcD2⟩ := hI
  have inX0_ : ∀ w ∈ wsX00, w ∈ wsX0_isAgreed := fun _ h => List.mem_cons_of_mem _ (List.mem_append_right _ h)
  have lk0 : (Cond.fieldLink RX0 11 "ClauseShop$Contract" "items" "[LClauseShop$Version;").before (([.ref (ad (0, i))] : List Value).toArray) s = true := hts _ (List.mem_of_getElem? (i := 1) rfl)
  have lk1 : (Cond.fieldLink RX0 19 "ClauseShop$Contract" "marks" "[[I").before (([.ref (ad (0, i))] : List Value).toArray) s = true := hts _ (List.mem_of_getElem? (i := 2) rfl)
  refine lv_iconst (v := nI 0) hx hb dX0_isAgreed_0 (by decide) ?_
  refine lv_istore_n (lv' := [(1, .int (nI 0)), (0, .ref (ad (0, i)))]) hx hb dX0_isAgreed_1 rfl hl (by decide) rfl (fun ls hl => ?_)
  have hl_ag : ∀ (k9 j : Nat), 10 - j = k9 → j ≤ 10 → K_agr (N 2 i) (S 4 i) (S 5 i) j = true → ∀ (H : Heap) (locs : List Loc) (ls : Array Slot), va_P (dC, dI) vwCl (cw cy e0 ad L S N) H → va_D A (cw cy e0 ad L S N) → va_S A s.heap H locs → lv_has ls 2 [(0, .ref (ad (0, i))), (1, .int (nI j))] → W p l e ({ frames := 0, cells := 0, slots := 0, locals := 0 }) s m (([.ref (ad (0, i))] : List Value).toArray) below meth c H locs 0 0 QQ (F0 m 2 ls []) := by
    intro k9
    induction k9 using Nat.strongRecOn with
    | _ k9 ih =>
      intro j  hk9 hle9 hag H locs ls hP hD hS hl
      refine lv_iload_n hx hb dX0_isAgreed_2 rfl (lv_at hl 1 rfl) ?_
      refine lv_bipush (v := nI 10) hx hb dX0_isAgreed_3 (by decide) ?_
      refine n_ge (tgt := 49) hx hb dX0_isAgreed_5 (by decide) (by omega) (by omega) (fun c_1 => ?_) (fun c_1 => ?_)
      · obtain rfl : j = 10 := by omega
        refine lv_iconst (v := nI 1) hx hb dX0_isAgreed_49 (by decide) ?_
        rw [← hQQ]; exact end_z (u := (S, N)) hx hb hr hlocks dX0_isAgreed_50 hK hP hD hS (by rfl) ⟨(bi_t hag).symm, rfl⟩ (Nat.le_of_ble_eq_true rfl) (Nat.le_of_ble_eq_true rfl)
      · refine lv_aload_n hx hb dX0_isAgreed_8 rfl (lv_at hl 0 rfl) ?_
        obtain ⟨z_2, hz_2⟩ := pl_get (ad := ad) (f := cc cy e0 ad S N) (hM0 0 i (by decide) (by omega))
        rw [show cc cy e0 ad S N (0, i) = .inr (1, [.ref (ad (1, i)), .ref (ad (2, i)), .ref (ad (5, i)), .ref (ad (6, i)), .ref (ad (7, i))]) from rfl] at hz_2
        refine va_get (D := (dC, dI)) (ci := 1) (v := .ref (ad (1, i))) (C := RX0) (T := TX0) (N := 5) hx hb hts inX0_ hown hK hP z_2 hz_2 rfl 0 (by decide) lk0 (fun _ h9 => h9) rfl dX0_isAgreed_9 ?_
        refine lv_iload_n hx hb dX0_isAgreed_12 rfl (lv_at hl 1 rfl) ?_
        obtain ⟨z_3, hz_3⟩ := pl_get (ad := ad) (f := cc cy e0 ad S N) (hM0 1 i (by decide) (by omega))
        rw [show cc cy e0 ad S N (1, i) = .inl (cy 2, 10, .inr (.inr (.inr (.inr (fun d => vpt ad ((N 2 i) d) d))))) from rfl] at hz_3
        refine x_aald hx hb hK hP z_3 2 hz_3 rfl (t := j) (by omega) (by decide) dX0_isAgreed_13 ?_
        by_cases c_4 : N 2 i j = 0
        · refine to_v (y := .null) (vpt_z c_4) ?_
          refine lv_ifnullN (tgt := 43) hx hb dX0_isAgreed_14 (by decide) ?_
          refine lv_iinc (v := nI (j + 1)) (lv' := [(1, .int (nI (j + 1))), (0, .ref (ad (0, i)))]) hx hb dX0_isAgreed_43 hl (k := 1) rfl (by rw [show Int32.ofInt 1 = 1 from rfl]; exact nI_1 _) (by decide) rfl (fun ls hl => ?_)
          refine lv_goto (tgt := 2) hx hb dX0_isAgreed_46 (by decide) ?_
          exact ih (10 - (j + 1)) (by omega) (j + 1)  rfl (by omega) (by simp [K_agr, hag, eq_true c_4]) H locs ls hP hD hS (by exact lv_sub hl [1, 0] rfl)
        · refine to_v (y := .ref (ad (9, 9 * j + N 2 i j - 1))) (vpt_s c_4) ?_
          refine lv_ifnull hx hb dX0_isAgreed_14 ?_
          refine lv_aload_n hx hb dX0_isAgreed_17 rfl (lv_at hl 0 rfl) ?_
          obtain ⟨z_5, hz_5⟩ := pl_get (ad := ad) (f := cc cy e0 ad S N) (hM0 0 i (by decide) (by omega))
          rw [show cc cy e0 ad S N (0, i) = .inr (1, [.ref (ad (1, i)), .ref (ad (2, i)), .ref (ad (5, i)), .ref (ad (6, i)), .ref (ad (7, i))]) from rfl] at hz_5
          refine va_get (D := (dC, dI)) (ci := 1) (v := .ref (ad (2, i))) (C := RX0) (T := TX0) (N := 5) hx hb hts inX0_ hown hK hP z_5 hz_5 rfl 1 (by decide) lk1 (fun _ h9 => h9) rfl dX0_isAgreed_18 ?_
          refine lv_iconst (v := nI 0) hx hb dX0_isAgreed_21 (by decide) ?_
          obtain ⟨z_6, hz_6⟩ := pl_get (ad := ad) (f := cc cy e0 ad S N) (hM0 2 i (by decide) (by omega))
          rw [show cc cy e0 ad S N (2, i) = .inl (cy 4, 2, .inr (.inr (.inr (.inr (fun s => if s = 0 then some (ad (3, i)) else some (ad (4, i))))))) from rfl] at hz_6
          refine x_aaldA hx hb hK hP z_6 4 hz_6 rfl (t := 0) (by omega) (by decide) dX0_isAgreed_22 ?_
          refine to_v (y := .ref (ad (3, i))) rfl ?_
          refine lv_iload_n hx hb dX0_isAgreed_23 rfl (lv_at hl 1 rfl) ?_
          obtain ⟨z_7, hz_7⟩ := pl_get (ad := ad) (f := cc cy e0 ad S N) (hM0 3 i (by decide) (by omega))
          rw [show cc cy e0 ad S N (3, i) = .inl (cy 0, 10, .inl (S 4 i)) from rfl] at hz_7
          refine x_iald (f := S 4 i) hx hb hK hP z_7 0 hz_7 rfl (t := j) (by omega) (by decide) dX0_isAgreed_24 ?_
          refine lv_iconst (v := nI 1) hx hb dX0_isAgreed_25 (by decide) ?_
          refine lv_icmp_ne (tgt := 41) hx hb dX0_isAgreed_26 (by decide) (fun c_8 => ?_) (fun c_8 => ?_)
          · refine lv_iconst (v := nI 0) hx hb dX0_isAgreed_41 (by decide) ?_
            rw [← hQQ]; exact end_z (u := (S, N)) hx hb hr hlocks dX0_isAgreed_42 hK hP hD hS (by rfl) ⟨(bi_f (P := K_agr (N 2 i) (S 4 i) (S 5 i) 10 = true) (by rw [K_agr_mono (j := j + 1) (by simp [K_agr, hag, c_4, c_8]) 10 (by omega)]; decide)).symm, rfl⟩ (Nat.le_of_ble_eq_true rfl) (Nat.le_of_ble_eq_true rfl)
          · refine lv_aload_n hx hb dX0_isAgreed_29 rfl (lv_at hl 0 rfl) ?_
            obtain ⟨z_9, hz_9⟩ := pl_get (ad := ad) (f := cc cy e0 ad S N) (hM0 0 i (by decide) (by omega))
            rw [show cc cy e0 ad S N (0, i) = .inr (1, [.ref (ad (1, i)), .ref (ad (2, i)), .ref (ad (5, i)), .ref (ad (6, i)), .ref (ad (7, i))]) from rfl] at hz_9
            refine va_get (D := (dC, dI)) (ci := 1) (v := .ref (ad (2, i))) (C := RX0) (T := TX0) (N := 5) hx hb hts inX0_ hown hK hP z_9 hz_9 rfl 1 (by decide) lk1 (fun _ h9 => h9) rfl dX0_isAgreed_30 ?_
            refine lv_iconst (v := nI 1) hx hb dX0_isAgreed_33 (by decide) ?_
            obtain ⟨z_10, hz_10⟩ := pl_get (ad := ad) (f := cc cy e0 ad S N) (hM0 2 i (by decide) (by omega))
            rw [show cc cy e0 ad S N (2, i) = .inl (cy 4, 2, .inr (.inr (.inr (.inr (fun s => if s = 0 then some (ad (3, i)) else some (ad (4, i))))))) from rfl] at hz_10
            refine x_aaldA hx hb hK hP z_10 4 hz_10 rfl (t := 1) (by omega) (by decide) dX0_isAgreed_34 ?_
            refine to_v (y := .ref (ad (4, i))) rfl ?_
            refine lv_iload_n hx hb dX0_isAgreed_35 rfl (lv_at hl 1 rfl) ?_
            obtain ⟨z_11, hz_11⟩ := pl_get (ad := ad) (f := cc cy e0 ad S N) (hM0 4 i (by decide) (by omega))
            rw [show cc cy e0 ad S N (4, i) = .inl (cy 0, 10, .inl (S 5 i)) from rfl] at hz_11
            refine x_iald (f := S 5 i) hx hb hK hP z_11 0 hz_11 rfl (t := j) (by omega) (by decide) dX0_isAgreed_36 ?_
            refine lv_iconst (v := nI 1) hx hb dX0_isAgreed_37 (by decide) ?_
            refine lv_icmp_eq (tgt := 43) hx hb dX0_isAgreed_38 (by decide) (fun c_12 => ?_) (fun c_12 => ?_)
            · refine lv_iinc (v := nI (j + 1)) (lv' := [(1, .int (nI (j + 1))), (0, .ref (ad (0, i)))]) hx hb dX0_isAgreed_43 hl (k := 1) rfl (by rw [show Int32.ofInt 1 = 1 from rfl]; exact nI_1 _) (by decide) rfl (fun ls hl => ?_)
              refine lv_goto (tgt := 2) hx hb dX0_isAgreed_46 (by decide) ?_
              exact ih (10 - (j + 1)) (by omega) (j + 1)  rfl (by omega) (by simp [K_agr, hag, c_4, eq_true c_8, eq_true c_12]) H locs ls hP hD hS (by exact lv_sub hl [1, 0] rfl)
            · refine lv_iconst (v := nI 0) hx hb dX0_isAgreed_41 (by decide) ?_
              rw [← hQQ]; exact end_z (u := (S, N)) hx hb hr hlocks dX0_isAgreed_42 hK hP hD hS (by rfl) ⟨(bi_f (P := K_agr (N 2 i) (S 4 i) (S 5 i) 10 = true) (by rw [K_agr_mono (j := j + 1) (by simp [K_agr, hag, c_4, eq_true c_8, c_12]) 10 (by omega)]; decide)).symm, rfl⟩ (Nat.le_of_ble_eq_true rfl) (Nat.le_of_ble_eq_true rfl)
  exact hl_ag 10 0  rfl (Nat.zero_le _) rfl H locs ls hP hD hS (lv_sub hl [1, 0] rfl)

abbrev isLive (S : SS) (j : Nat) : Prop := S 9 j 0 = 0 ∨ S 9 j 0 = nI 2
abbrev isHeld (S : SS) (N : NN) (j : Nat) : Prop := isLive S j ∧ ¬ S 7 (N 3 j 0) (1 - N 4 (N 3 j 1) 0) ≤ 0
abbrev K_move (S : SS) (j : Nat) (a b : Int32) : SS := su S 9 j (upd (upd (S 9 j) 0 a) 1 b)
def K_count (S : SS) (N : NN) (j : Nat) (sg : Int32) : SS :=
  su (su S 7 (N 3 j 0) (upd (S 7 (N 3 j 0)) (N 4 (N 3 j 1) 0) (S 7 (N 3 j 0) (N 4 (N 3 j 1) 0) + sg))) 8 (N 3 j 0) (upd (S 8 (N 3 j 0)) (N 4 (N 3 j 1) 0) (S 8 (N 3 j 0) (N 4 (N 3 j 1) 0) + sg * S 3 (N 3 j 1) 3))

set_option maxHeartbeats 4000000 in
set_option maxRecDepth 100000 in
/-- canBeDone -/
theorem qX1_canBeDone (l : Launch) (dC : Nat → ClassId) (dI : Nat → Nat → Nat) (cy : Nat → ClassId) (e0 mi : Nat) (ad : Lc → Nat) (L : List Lc) (S : SS) (N : NN) (sz : Nat) (j : Nat) (hI : okC L N) (hj : j < N 5 0 0) : Met l yX1_canBeDone wsX1_canBeDone ({ frames := 0, cells := 0, slots := 0, locals := 0 }) (va_Pc [.ref (ad (8, j))] (wPre (dC, dI) (tyL cy) (cw cy e0 ad L S N) sz)) (QI (dC, dI) (tyL cy) (fun (r : Int32) (u : CS) => r = bi (isLive S j) ∧ u = (S, N)) (cwU cy e0 ad L) (va_A (cw cy e0 ad L S N) sz)) 0 0 (va_A (cw cy e0 ad L S N) sz) := by
  refine en (cc := cX1_canBeDone) (maxL := 1) (ret := (some .boolean)) (own := RX1) (lv := [(0, .ref (ad (8, j)))]) (by decide) rfl rfl (Nat.le_of_ble_eq_true rfl) rfl ?_
  intro p e s m below meth c ls A H locs hx hb hr hts hown hlocks hml hin hsz hK hP hD hS hA hl
  generalize hQQ : MQ below _ _ s _ _ A = QQ
  have hI0 := hI
  obtain ⟨⟨hM0, hM8, hM9, hMF, hM15, hM17⟩, hV, hLt, hO, hDu, hnc, hnd, hcC, hcD, hcC2, hcD2⟩ := hI
  have inX1_ : ∀ w ∈ wsX10, w ∈ wsX1_canBeDone := fun _ h => List.mem_cons_of_mem _ (List.mem_append_right _ h)
  have lk0 : (Cond.fieldLink RX1 9 "ClauseShop$Duty" "state" "I").before (([.ref (ad (8, j))] : List Value).toArray) s = true := hts _ (List.mem_of_getElem? (i := 1) rfl)
  refine lv_aload_n hx hb dX1_canBeDone_0 rfl (lv_at hl 0 rfl) ?_
  obtain ⟨z_1, hz_1⟩ := pl_get (ad := ad) (f := cc cy e0 ad S N) (hM8 j (by omega))
  rw [show cc cy e0 ad S N (8, j) = .inr (2, [.ref (ad (0, N 3 j 0)), .ref (ad (9, N 3 j 1)), .int (S 9 j 0), .int (S 9 j 1)]) from rfl] at hz_1
  refine va_get (D := (dC, dI)) (ci := 2) (v := .int (S 9 j 0)) (C := RX1) (T := TX1) (N := 4) hx hb hts inX1_ hown hK hP z_1 hz_1 rfl 2 (by decide) lk0 (fun _ h9 => h9) rfl dX1_canBeDone_1 ?_
  refine lv_if_eq (tgt := 15) hx hb dX1_canBeDone_4 (by decide) (fun c_2 => ?_) (fun c_2 => ?_)
  · refine lv_iconst (v := nI 1) hx hb dX1_canBeDone_15 (by decide) ?_
    refine lv_goto (tgt := 20) hx hb dX1_canBeDone_16 (by decide) ?_
    rw [← hQQ]; exact end_z (u := (S, N)) hx hb hr hlocks dX1_canBeDone_20 hK hP hD hS (by rfl) ⟨(bi_t (P := isLive S j) (by simp only [isLive, eq_true c_2, and_true, true_and, and_false, false_and, if_true, if_false, not_true, not_false_iff, not_false_eq_true, or_true, true_or, or_false, false_or, ite_true, ite_false, and_self, Classical.not_not, Bool.false_eq_true])).symm, rfl⟩ (Nat.le_of_ble_eq_true rfl) (Nat.le_of_ble_eq_true rfl)
  · refine lv_aload_n hx hb dX1_canBeDone_7 rfl (lv_at hl 0 rfl) ?_
    obtain ⟨z_3, hz_3⟩ := pl_get (ad := ad) (f := cc cy e0 ad S N) (hM8 j (by omega))
    rw [show cc cy e0 ad S N (8, j) = .inr (2, [.ref (ad (0, N 3 j 0)), .ref (ad (9, N 3 j 1)), .int (S 9 j 0), .int (S 9 j 1)]) from rfl] at hz_3
    refine va_get (D := (dC, dI)) (ci := 2) (v := .int (S 9 j 0)) (C := RX1) (T := TX1) (N := 4) hx hb hts inX1_ hown hK hP z_3 hz_3 rfl 2 (by decide) lk0 (fun _ h9 => h9) rfl dX1_canBeDone_8 ?_
    refine lv_iconst (v := nI 2) hx hb dX1_canBeDone_11 (by decide) ?_
    refine lv_icmp_ne (tgt := 19) hx hb dX1_canBeDone_12 (by decide) (fun c_4 => ?_) (fun c_4 => ?_)
    · refine lv_iconst (v := nI 0) hx hb dX1_canBeDone_19 (by decide) ?_
      rw [← hQQ]; exact end_z (u := (S, N)) hx hb hr hlocks dX1_canBeDone_20 hK hP hD hS (by rfl) ⟨(bi_f (P := isLive S j) (by simp only [isLive, c_2, c_4, and_true, true_and, and_false, false_and, if_true, if_false, not_true, not_false_iff, not_false_eq_true, or_true, true_or, or_false, false_or, ite_true, ite_false, and_self, Classical.not_not, Bool.false_eq_true])).symm, rfl⟩ (Nat.le_of_ble_eq_true rfl) (Nat.le_of_ble_eq_true rfl)
    · refine lv_iconst (v := nI 1) hx hb dX1_canBeDone_15 (by decide) ?_
      refine lv_goto (tgt := 20) hx hb dX1_canBeDone_16 (by decide) ?_
      rw [← hQQ]; exact end_z (u := (S, N)) hx hb hr hlocks dX1_canBeDone_20 hK hP hD hS (by rfl) ⟨(bi_t (P := isLive S j) (by simp only [isLive, c_2, eq_true c_4, and_true, true_and, and_false, false_and, if_true, if_false, not_true, not_false_iff, not_false_eq_true, or_true, true_or, or_false, false_or, ite_true, ite_false, and_self, Classical.not_not, Bool.false_eq_true])).symm, rfl⟩ (Nat.le_of_ble_eq_true rfl) (Nat.le_of_ble_eq_true rfl)

set_option maxHeartbeats 4000000 in
set_option maxRecDepth 100000 in
/-- isHeldUp -/
theorem qX1_isHeldUp (l : Launch) (dC : Nat → ClassId) (dI : Nat → Nat → Nat) (cy : Nat → ClassId) (e0 mi : Nat) (ad : Lc → Nat) (L : List Lc) (S : SS) (N : NN) (sz : Nat) (j : Nat) (hI : okC L N) (hj : j < N 5 0 0) : Met l yX1_isHeldUp wsX1_isHeldUp ({ frames := 1, cells := 0, slots := 0, locals := 20 }) (va_Pc [.ref (ad (8, j))] (wPre (dC, dI) (tyL cy) (cw cy e0 ad L S N) sz)) (QI (dC, dI) (tyL cy) (fun (r : Int32) (u : CS) => r = bi (isHeld S N j) ∧ u = (S, N)) (cwU cy e0 ad L) (va_A (cw cy e0 ad L S N) sz)) 0 0 (va_A (cw cy e0 ad L S N) sz) := by
  refine en (cc := cX1_isHeldUp) (maxL := 1) (ret := (some .boolean)) (own := RX1) (lv := [(0, .ref (ad (8, j)))]) (by decide) rfl rfl (Nat.le_of_ble_eq_true rfl) rfl ?_
  intro p e s m below meth c ls A H locs hx hb hr hts hown hlocks hml hin hsz hK hP hD hS hA hl
  generalize hQQ : MQ below _ _ s _ _ A = QQ
  have hI0 := hI
  obtain ⟨⟨hM0, hM8, hM9, hMF, hM15, hM17⟩, hV, hLt, hO, hDu, hnc, hnd, hcC, hcD, hcC2, hcD2⟩ := hI
  have inX1_ : ∀ w ∈ wsX10, w ∈ wsX1_isHeldUp := fun _ h => List.mem_cons_of_mem _ (List.mem_append_left _ (List.mem_append_left _ (List.mem_append_right _ h)))
  have inX0_ : ∀ w ∈ wsX00, w ∈ wsX1_isHeldUp := fun _ h => List.mem_cons_of_mem _ (List.mem_append_left _ (List.mem_append_right _ h))
  have inX2_ : ∀ w ∈ wsX20, w ∈ wsX1_isHeldUp := fun _ h => List.mem_cons_of_mem _ (List.mem_append_right _ h)
  have lk0 : (Cond.fieldLink RX1 15 "ClauseShop$Duty" "contract" "LClauseShop$Contract;").before (([.ref (ad (8, j))] : List Value).toArray) s = true := hts _ (List.mem_of_getElem? (i := 1) rfl)
  have lk1 : (Cond.fieldLink RX1 30 "ClauseShop$Contract" "breaches" "[I").before (([.ref (ad (8, j))] : List Value).toArray) s = true := hts _ (List.mem_of_getElem? (i := 2) rfl)
  have lk2 : (Cond.fieldLink RX1 19 "ClauseShop$Duty" "version" "LClauseShop$Version;").before (([.ref (ad (8, j))] : List Value).toArray) s = true := hts _ (List.mem_of_getElem? (i := 3) rfl)
  have lk3 : (Cond.fieldLink RX1 36 "ClauseShop$Version" "obligor" "I").before (([.ref (ad (8, j))] : List Value).toArray) s = true := hts _ (List.mem_of_getElem? (i := 4) rfl)
  obtain ⟨hdc, hdv⟩ := hDu j hj
  have hob := hO (N 3 j 1)
  refine lv_aload_n hx hb dX1_isHeldUp_0 rfl (lv_at hl 0 rfl) ?_
  obtain ⟨z_1, hz_1⟩ := pl_get (ad := ad) (f := cc cy e0 ad S N) (hM8 j (by omega))
  rw [show cc cy e0 ad S N (8, j) = .inr (2, [.ref (ad (0, N 3 j 0)), .ref (ad (9, N 3 j 1)), .int (S 9 j 0), .int (S 9 j 1)]) from rfl] at hz_1
  refine call_i (va_runV (As := []) (rest := []) ⟨hx, hb, hml, hown, hts⟩ (qX1_canBeDone l dC dI cy e0 mi ad L S N H.size j hI0 hj) (cwV 0 hts gX1_isHeldUp_X1_canBeDone rfl rfl rfl (by decide +kernel) ⟨Nat.le_of_ble_eq_true rfl, Nat.le_of_ble_eq_true rfl⟩) (preV hK hP hD (w_recv (ci := 2) (q0 := z_1) hK hP hz_1 rfl)) rfl rfl hl.1 rfl (lv_room (Nat.le_of_ble_eq_true rfl)) dX1_isHeldUp_1 ⟨Nat.le_of_ble_eq_true rfl, Nat.le_of_ble_eq_true rfl⟩) hD hS hA (fun r_2 u H locs w_3 hP hD hS => ?_)
  obtain ⟨rfl, rfl⟩ := w_3
  have hP : va_P (dC, dI) vwCl (cw cy e0 ad L S N) H := hP
  have hD : va_D A (cw cy e0 ad L S N) := hD
  refine br_eq (tgt := 31) hx hb dX1_isHeldUp_4 (by decide) (fun c_4 => ?_) (fun c_4 => ?_)
  · refine lv_iconst (v := nI 0) hx hb dX1_isHeldUp_31 (by decide) ?_
    rw [← hQQ]; exact end_z (u := (S, N)) hx hb hr hlocks dX1_isHeldUp_32 hK hP hD hS (by rfl) ⟨(bi_f (P := isHeld S N j) (by simp only [isHeld, c_4, and_true, true_and, and_false, false_and, if_true, if_false, not_true, not_false_iff, not_false_eq_true, or_true, true_or, or_false, false_or, ite_true, ite_false, and_self, Classical.not_not, Bool.false_eq_true])).symm, rfl⟩ (Nat.le_of_ble_eq_true rfl) (Nat.le_of_ble_eq_true rfl)
  · refine lv_aload_n hx hb dX1_isHeldUp_7 rfl (lv_at hl 0 rfl) ?_
    obtain ⟨z_5, hz_5⟩ := pl_get (ad := ad) (f := cc cy e0 ad S N) (hM8 j (by omega))
    rw [show cc cy e0 ad S N (8, j) = .inr (2, [.ref (ad (0, N 3 j 0)), .ref (ad (9, N 3 j 1)), .int (S 9 j 0), .int (S 9 j 1)]) from rfl] at hz_5
    refine va_get (D := (dC, dI)) (ci := 2) (v := .ref (ad (0, N 3 j 0))) (C := RX1) (T := TX1) (N := 4) hx hb hts inX1_ hown hK hP z_5 hz_5 rfl 0 (by decide) lk0 (fun _ h9 => h9) rfl dX1_isHeldUp_8 ?_
    obtain ⟨z_6, hz_6⟩ := pl_get (ad := ad) (f := cc cy e0 ad S N) (hM0 0 (N 3 j 0) (by decide) (by omega))
    rw [show cc cy e0 ad S N (0, N 3 j 0) = .inr (1, [.ref (ad (1, N 3 j 0)), .ref (ad (2, N 3 j 0)), .ref (ad (5, N 3 j 0)), .ref (ad (6, N 3 j 0)), .ref (ad (7, N 3 j 0))]) from rfl] at hz_6
    refine va_get (D := (dC, dI)) (ci := 1) (v := .ref (ad (6, N 3 j 0))) (C := RX0) (T := TX0) (N := 5) hx hb hts inX0_ hown hK hP z_6 hz_6 rfl 3 (by decide) lk1 (fun _ h9 => h9) rfl dX1_isHeldUp_11 ?_
    refine lv_iconst (v := nI 1) hx hb dX1_isHeldUp_14 (by decide) ?_
    refine lv_aload_n hx hb dX1_isHeldUp_15 rfl (lv_at hl 0 rfl) ?_
    obtain ⟨z_7, hz_7⟩ := pl_get (ad := ad) (f := cc cy e0 ad S N) (hM8 j (by omega))
    rw [show cc cy e0 ad S N (8, j) = .inr (2, [.ref (ad (0, N 3 j 0)), .ref (ad (9, N 3 j 1)), .int (S 9 j 0), .int (S 9 j 1)]) from rfl] at hz_7
    refine va_get (D := (dC, dI)) (ci := 2) (v := .ref (ad (9, N 3 j 1))) (C := RX1) (T := TX1) (N := 4) hx hb hts inX1_ hown hK hP z_7 hz_7 rfl 1 (by decide) lk2 (fun _ h9 => h9) rfl dX1_isHeldUp_16 ?_
    obtain ⟨z_8, hz_8⟩ := pl_get (ad := ad) (f := cc cy e0 ad S N) (hdv)
    rw [show cc cy e0 ad S N (9, N 3 j 1) = .inr (3, [.int (nI ((N 3 j 1) % 9 + 1)), .int (nI (N 4 (N 3 j 1) 0)), .int (S 3 (N 3 j 1) 1), .int (S 3 (N 3 j 1) 2), .int (S 3 (N 3 j 1) 3)]) from rfl] at hz_8
    refine va_get (D := (dC, dI)) (ci := 3) (v := .int (nI (N 4 (N 3 j 1) 0))) (C := RX2) (T := TX2) (N := 5) hx hb hts inX2_ hown hK hP z_8 hz_8 rfl 1 (by decide) lk3 (fun _ h9 => h9) rfl dX1_isHeldUp_19 ?_
    refine lv_isub hx hb dX1_isHeldUp_22 ?_
    refine to_i (y := nI (1 - (N 4 (N 3 j 1) 0))) (pk_sub (by omega)) ?_
    obtain ⟨z_9, hz_9⟩ := pl_get (ad := ad) (f := cc cy e0 ad S N) (hM0 6 (N 3 j 0) (by decide) (by omega))
    rw [show cc cy e0 ad S N (6, N 3 j 0) = .inl (cy 0, 2, .inl (S 7 (N 3 j 0))) from rfl] at hz_9
    refine x_iald (f := S 7 (N 3 j 0)) hx hb hK hP z_9 0 hz_9 rfl (t := 1 - (N 4 (N 3 j 1) 0)) (by omega) (by decide) dX1_isHeldUp_23 ?_
    refine lv_if_le (tgt := 31) hx hb dX1_isHeldUp_24 (by decide) (fun c_10 => ?_) (fun c_10 => ?_)
    · refine lv_iconst (v := nI 0) hx hb dX1_isHeldUp_31 (by decide) ?_
      rw [← hQQ]; exact end_z (u := (S, N)) hx hb hr hlocks dX1_isHeldUp_32 hK hP hD hS (by rfl) ⟨(bi_f (P := isHeld S N j) (by simp only [isHeld, eq_true c_4, eq_true c_10, and_true, true_and, and_false, false_and, if_true, if_false, not_true, not_false_iff, not_false_eq_true, or_true, true_or, or_false, false_or, ite_true, ite_false, and_self, Classical.not_not, Bool.false_eq_true])).symm, rfl⟩ (Nat.le_of_ble_eq_true rfl) (Nat.le_of_ble_eq_true rfl)
    · refine lv_iconst (v := nI 1) hx hb dX1_isHeldUp_27 (by decide) ?_
      refine lv_goto (tgt := 32) hx hb dX1_isHeldUp_28 (by decide) ?_
      rw [← hQQ]; exact end_z (u := (S, N)) hx hb hr hlocks dX1_isHeldUp_32 hK hP hD hS (by rfl) ⟨(bi_t (P := isHeld S N j) (by simp only [isHeld, eq_true c_4, c_10, and_true, true_and, and_false, false_and, if_true, if_false, not_true, not_false_iff, not_false_eq_true, or_true, true_or, or_false, false_or, ite_true, ite_false, and_self, Classical.not_not, Bool.false_eq_true])).symm, rfl⟩ (Nat.le_of_ble_eq_true rfl) (Nat.le_of_ble_eq_true rfl)

set_option maxHeartbeats 4000000 in
set_option maxRecDepth 100000 in
/-- move -/
theorem qX1_move (l : Launch) (dC : Nat → ClassId) (dI : Nat → Nat → Nat) (cy : Nat → ClassId) (e0 mi : Nat) (ad : Lc → Nat) (L : List Lc) (S : SS) (N : NN) (sz : Nat) (j : Nat) (a b : Int32) (hI : okC L N) (hj : j < N 5 0 0) : Met l yX1_move wsX1_move ({ frames := 0, cells := 0, slots := 0, locals := 0 }) (va_Pc [.ref (ad (8, j)), .int a, .int b] (wPre (dC, dI) (tyL cy) (cw cy e0 ad L S N) sz)) (QV (dC, dI) (tyL cy) (fun (u : CS) => u = (K_move S j a b, N)) (cwU cy e0 ad L) (va_A (cw cy e0 ad L S N) sz)) 0 0 (va_A (cw cy e0 ad L S N) sz) := by
  refine en (cc := cX1_move) (maxL := 3) (ret := none) (own := RX1) (lv := [(0, .ref (ad (8, j))), (1, .int a), (2, .int b)]) (by decide) rfl rfl (Nat.le_of_ble_eq_true rfl) rfl ?_
  intro p e s m below meth c ls A H locs hx hb hr hts hown hlocks hml hin hsz hK hP hD hS hA hl
  generalize hQQ : MQ below _ _ s _ _ A = QQ
  have hI0 := hI
  obtain ⟨⟨hM0, hM8, hM9, hMF, hM15, hM17⟩, hV, hLt, hO, hDu, hnc, hnd, hcC, hcD, hcC2, hcD2⟩ := hI
  have inX1_ : ∀ w ∈ wsX10, w ∈ wsX1_move := fun _ h => List.mem_cons_of_mem _ (List.mem_append_right _ h)
  have lk0 : (Cond.fieldLink RX1 9 "ClauseShop$Duty" "state" "I").before (([.ref (ad (8, j)), .int a, .int b] : List Value).toArray) s = true := hts _ (List.mem_of_getElem? (i := 1) rfl)
  have lk1 : (Cond.fieldLink RX1 23 "ClauseShop$Duty" "day" "I").before (([.ref (ad (8, j)), .int a, .int b] : List Value).toArray) s = true := hts _ (List.mem_of_getElem? (i := 2) rfl)
  refine lv_aload_n hx hb dX1_move_0 rfl (lv_at hl 0 rfl) ?_
  refine lv_iload_n hx hb dX1_move_1 rfl (lv_at hl 1 rfl) ?_
  obtain ⟨z_1, hz_1⟩ := pl_get (ad := ad) (f := cc cy e0 ad S N) (hM8 j (by omega))
  rw [show cc cy e0 ad S N (8, j) = .inr (2, [.ref (ad (0, N 3 j 0)), .ref (ad (9, N 3 j 1)), .int (S 9 j 0), .int (S 9 j 1)]) from rfl] at hz_1
  have eW : (cw cy e0 ad L S N).set z_1 (ad (8, j), .inr (2, [.ref (ad (0, N 3 j 0)), .ref (ad (9, N 3 j 1)), .int a, .int (S 9 j 1)])) = cw cy e0 ad L (su S 9 j (upd (S 9 j) 0 a)) N := st_8a a hD hz_1 (hM8 j (by omega))
  refine va_put (D := (dC, dI)) (ci := 2) (v := .int a) (ty := .int) (C := RX1) (T := TX1) (N := 4) hx hb hts inX1_ tyX1 tyX1_ok nmX1 hown hK hP hD hS z_1 hz_1 rfl 2 (by decide) lk0 (fun _ h9 => h9) rfl (by decide +kernel) rfl rfl (Nat.le_of_ble_eq_true rfl) dX1_move_2 (fun H locs hP hD hS => ?_)
  have hP : va_P (dC, dI) vwCl (cw cy e0 ad L (su S 9 j (upd (S 9 j) 0 a)) N) H := by rw [← eW]; exact hP
  have hD : va_D A (cw cy e0 ad L (su S 9 j (upd (S 9 j) 0 a)) N) := by rw [← eW]; exact hD
  refine lv_aload_n hx hb dX1_move_5 rfl (lv_at hl 0 rfl) ?_
  refine lv_iload_n hx hb dX1_move_6 rfl (lv_at hl 2 rfl) ?_
  obtain ⟨z_2, hz_2⟩ := pl_get (ad := ad) (f := cc cy e0 ad (su S 9 j (upd (S 9 j) 0 a)) N) (hM8 j (by omega))
  rw [show cc cy e0 ad (su S 9 j (upd (S 9 j) 0 a)) N (8, j) = .inr (2, [.ref (ad (0, N 3 j 0)), .ref (ad (9, N 3 j 1)), .int a, .int ((upd (S 9 j) 0 a) 1)]) from by first | rfl | simp [cc, su, nu, upd]] at hz_2
  have eW : (cw cy e0 ad L (su S 9 j (upd (S 9 j) 0 a)) N).set z_2 (ad (8, j), .inr (2, [.ref (ad (0, N 3 j 0)), .ref (ad (9, N 3 j 1)), .int a, .int b])) = cw cy e0 ad L (su S 9 j (upd (upd (S 9 j) 0 a) 1 b)) N := by have h9 := st_8b (ad := ad) (cy := cy) (e0 := e0) b hD hz_2 (hM8 j (by omega)); simp only [su_self, su_su, nu_self, nu_nu, pk_us] at h9; exact h9
  refine va_put (D := (dC, dI)) (ci := 2) (v := .int b) (ty := .int) (C := RX1) (T := TX1) (N := 4) hx hb hts inX1_ tyX1 tyX1_ok nmX1 hown hK hP hD hS z_2 hz_2 rfl 3 (by decide) lk1 (fun _ h9 => h9) rfl (by decide +kernel) rfl rfl (Nat.le_of_ble_eq_true rfl) dX1_move_7 (fun H locs hP hD hS => ?_)
  have hP : va_P (dC, dI) vwCl (cw cy e0 ad L (su S 9 j (upd (upd (S 9 j) 0 a) 1 b)) N) H := by rw [← eW]; exact hP
  have hD : va_D A (cw cy e0 ad L (su S 9 j (upd (upd (S 9 j) 0 a) 1 b)) N) := by rw [← eW]; exact hD
  rw [← hQQ]; exact end_v (u := (su S 9 j (upd (upd (S 9 j) 0 a) 1 b), N)) hx hb hr hlocks dX1_move_10 hK hP hD hS rfl (Nat.le_of_ble_eq_true rfl) (Nat.le_of_ble_eq_true rfl)

set_option maxHeartbeats 4000000 in
set_option maxRecDepth 100000 in
/-- countBreach -/
theorem qX1_countBreach (l : Launch) (dC : Nat → ClassId) (dI : Nat → Nat → Nat) (cy : Nat → ClassId) (e0 mi : Nat) (ad : Lc → Nat) (L : List Lc) (S : SS) (N : NN) (sz : Nat) (j : Nat) (sg : Int32) (hI : okC L N) (hj : j < N 5 0 0) : Met l yX1_countBreach wsX1_countBreach ({ frames := 0, cells := 0, slots := 0, locals := 0 }) (va_Pc [.ref (ad (8, j)), .int sg] (wPre (dC, dI) (tyL cy) (cw cy e0 ad L S N) sz)) (QV (dC, dI) (tyL cy) (fun (u : CS) => u = (K_count S N j sg, N)) (cwU cy e0 ad L) (va_A (cw cy e0 ad L S N) sz)) 0 0 (va_A (cw cy e0 ad L S N) sz) := by
  refine en (cc := cX1_countBreach) (maxL := 2) (ret := none) (own := RX1) (lv := [(0, .ref (ad (8, j))), (1, .int sg)]) (by decide) rfl rfl (Nat.le_of_ble_eq_true rfl) rfl ?_
  intro p e s m below meth c ls A H locs hx hb hr hts hown hlocks hml hin hsz hK hP hD hS hA hl
  generalize hQQ : MQ below _ _ s _ _ A = QQ
  have hI0 := hI
  obtain ⟨⟨hM0, hM8, hM9, hMF, hM15, hM17⟩, hV, hLt, hO, hDu, hnc, hnd, hcC, hcD, hcC2, hcD2⟩ := hI
  have inX1_ : ∀ w ∈ wsX10, w ∈ wsX1_countBreach := fun _ h => List.mem_cons_of_mem _ (List.mem_append_left _ (List.mem_append_left _ (List.mem_append_right _ h)))
  have inX0_ : ∀ w ∈ wsX00, w ∈ wsX1_countBreach := fun _ h => List.mem_cons_of_mem _ (List.mem_append_left _ (List.mem_append_right _ h))
  have inX2_ : ∀ w ∈ wsX20, w ∈ wsX1_countBreach := fun _ h => List.mem_cons_of_mem _ (List.mem_append_right _ h)
  have lk0 : (Cond.fieldLink RX1 15 "ClauseShop$Duty" "contract" "LClauseShop$Contract;").before (([.ref (ad (8, j)), .int sg] : List Value).toArray) s = true := hts _ (List.mem_of_getElem? (i := 1) rfl)
  have lk1 : (Cond.fieldLink RX1 30 "ClauseShop$Contract" "breaches" "[I").before (([.ref (ad (8, j)), .int sg] : List Value).toArray) s = true := hts _ (List.mem_of_getElem? (i := 2) rfl)
  have lk2 : (Cond.fieldLink RX1 19 "ClauseShop$Duty" "version" "LClauseShop$Version;").before (([.ref (ad (8, j)), .int sg] : List Value).toArray) s = true := hts _ (List.mem_of_getElem? (i := 3) rfl)
  have lk3 : (Cond.fieldLink RX1 36 "ClauseShop$Version" "obligor" "I").before (([.ref (ad (8, j)), .int sg] : List Value).toArray) s = true := hts _ (List.mem_of_getElem? (i := 4) rfl)
  have lk4 : (Cond.fieldLink RX1 41 "ClauseShop$Contract" "penalties" "[I").before (([.ref (ad (8, j)), .int sg] : List Value).toArray) s = true := hts _ (List.mem_of_getElem? (i := 5) rfl)
  have lk5 : (Cond.fieldLink RX1 44 "ClauseShop$Version" "penalty" "I").before (([.ref (ad (8, j)), .int sg] : List Value).toArray) s = true := hts _ (List.mem_of_getElem? (i := 6) rfl)
  obtain ⟨hdc, hdv⟩ := hDu j hj
  have hob := hO (N 3 j 1)
  refine lv_aload_n hx hb dX1_countBreach_0 rfl (lv_at hl 0 rfl) ?_
  obtain ⟨z_1, hz_1⟩ := pl_get (ad := ad) (f := cc cy e0 ad S N) (hM8 j (by omega))
  rw [show cc cy e0 ad S N (8, j) = .inr (2, [.ref (ad (0, N 3 j 0)), .ref (ad (9, N 3 j 1)), .int (S 9 j 0), .int (S 9 j 1)]) from rfl] at hz_1
  refine va_get (D := (dC, dI)) (ci := 2) (v := .ref (ad (0, N 3 j 0))) (C := RX1) (T := TX1) (N := 4) hx hb hts inX1_ hown hK hP z_1 hz_1 rfl 0 (by decide) lk0 (fun _ h9 => h9) rfl dX1_countBreach_1 ?_
  obtain ⟨z_2, hz_2⟩ := pl_get (ad := ad) (f := cc cy e0 ad S N) (hM0 0 (N 3 j 0) (by decide) (by omega))
  rw [show cc cy e0 ad S N (0, N 3 j 0) = .inr (1, [.ref (ad (1, N 3 j 0)), .ref (ad (2, N 3 j 0)), .ref (ad (5, N 3 j 0)), .ref (ad (6, N 3 j 0)), .ref (ad (7, N 3 j 0))]) from rfl] at hz_2
  refine va_get (D := (dC, dI)) (ci := 1) (v := .ref (ad (6, N 3 j 0))) (C := RX0) (T := TX0) (N := 5) hx hb hts inX0_ hown hK hP z_2 hz_2 rfl 3 (by decide) lk1 (fun _ h9 => h9) rfl dX1_countBreach_4 ?_
  refine lv_aload_n hx hb dX1_countBreach_7 rfl (lv_at hl 0 rfl) ?_
  obtain ⟨z_3, hz_3⟩ := pl_get (ad := ad) (f := cc cy e0 ad S N) (hM8 j (by omega))
  rw [show cc cy e0 ad S N (8, j) = .inr (2, [.ref (ad (0, N 3 j 0)), .ref (ad (9, N 3 j 1)), .int (S 9 j 0), .int (S 9 j 1)]) from rfl] at hz_3
  refine va_get (D := (dC, dI)) (ci := 2) (v := .ref (ad (9, N 3 j 1))) (C := RX1) (T := TX1) (N := 4) hx hb hts inX1_ hown hK hP z_3 hz_3 rfl 1 (by decide) lk2 (fun _ h9 => h9) rfl dX1_countBreach_8 ?_
  obtain ⟨z_4, hz_4⟩ := pl_get (ad := ad) (f := cc cy e0 ad S N) (hdv)
  rw [show cc cy e0 ad S N (9, N 3 j 1) = .inr (3, [.int (nI ((N 3 j 1) % 9 + 1)), .int (nI (N 4 (N 3 j 1) 0)), .int (S 3 (N 3 j 1) 1), .int (S 3 (N 3 j 1) 2), .int (S 3 (N 3 j 1) 3)]) from rfl] at hz_4
  refine va_get (D := (dC, dI)) (ci := 3) (v := .int (nI (N 4 (N 3 j 1) 0))) (C := RX2) (T := TX2) (N := 5) hx hb hts inX2_ hown hK hP z_4 hz_4 rfl 1 (by decide) lk3 (fun _ h9 => h9) rfl dX1_countBreach_11 ?_
  refine lv_dup2_11 hx hb dX1_countBreach_14 rfl rfl ?_
  obtain ⟨z_5, hz_5⟩ := pl_get (ad := ad) (f := cc cy e0 ad S N) (hM0 6 (N 3 j 0) (by decide) (by omega))
  rw [show cc cy e0 ad S N (6, N 3 j 0) = .inl (cy 0, 2, .inl (S 7 (N 3 j 0))) from rfl] at hz_5
  refine x_iald (f := S 7 (N 3 j 0)) hx hb hK hP z_5 0 hz_5 rfl (t := N 4 (N 3 j 1) 0) (by omega) (by decide) dX1_countBreach_15 ?_
  refine lv_iload_n hx hb dX1_countBreach_16 rfl (lv_at hl 1 rfl) ?_
  refine lv_iadd hx hb dX1_countBreach_17 ?_
  obtain ⟨z_6, hz_6⟩ := pl_get (ad := ad) (f := cc cy e0 ad S N) (hM0 6 (N 3 j 0) (by decide) (by omega))
  rw [show cc cy e0 ad S N (6, N 3 j 0) = .inl (cy 0, 2, .inl (S 7 (N 3 j 0))) from rfl] at hz_6
  have eW : (cw cy e0 ad L S N).set z_6 (ad (6, N 3 j 0), .inl (cy 0, 2, .inl (upd (S 7 (N 3 j 0)) (N 4 (N 3 j 1) 0) ((S 7 (N 3 j 0) (N 4 (N 3 j 1) 0)) + sg)))) = cw cy e0 ad L (su S 7 (N 3 j 0) (upd (S 7 (N 3 j 0)) (N 4 (N 3 j 1) 0) ((S 7 (N 3 j 0) (N 4 (N 3 j 1) 0)) + sg))) N := st_6 (upd (S 7 (N 3 j 0)) (N 4 (N 3 j 1) 0) ((S 7 (N 3 j 0) (N 4 (N 3 j 1) 0)) + sg)) hD hz_6 (hM0 6 (N 3 j 0) (by decide) (by omega))
  refine x_iast (f := S 7 (N 3 j 0)) hx hb hK hP hD hS z_6 0 hz_6 rfl (t := N 4 (N 3 j 1) 0) (x := ((S 7 (N 3 j 0) (N 4 (N 3 j 1) 0)) + sg)) (by omega) (by decide) dX1_countBreach_18 (fun H locs hP hD hS => ?_)
  have hP : va_P (dC, dI) vwCl (cw cy e0 ad L (su S 7 (N 3 j 0) (upd (S 7 (N 3 j 0)) (N 4 (N 3 j 1) 0) ((S 7 (N 3 j 0) (N 4 (N 3 j 1) 0)) + sg))) N) H := by rw [← eW]; exact hP
  have hD : va_D A (cw cy e0 ad L (su S 7 (N 3 j 0) (upd (S 7 (N 3 j 0)) (N 4 (N 3 j 1) 0) ((S 7 (N 3 j 0) (N 4 (N 3 j 1) 0)) + sg))) N) := by rw [← eW]; exact hD
  refine lv_aload_n hx hb dX1_countBreach_19 rfl (lv_at hl 0 rfl) ?_
  obtain ⟨z_7, hz_7⟩ := pl_get (ad := ad) (f := cc cy e0 ad (su S 7 (N 3 j 0) (upd (S 7 (N 3 j 0)) (N 4 (N 3 j 1) 0) ((S 7 (N 3 j 0) (N 4 (N 3 j 1) 0)) + sg))) N) (hM8 j (by omega))
  rw [show cc cy e0 ad (su S 7 (N 3 j 0) (upd (S 7 (N 3 j 0)) (N 4 (N 3 j 1) 0) ((S 7 (N 3 j 0) (N 4 (N 3 j 1) 0)) + sg))) N (8, j) = .inr (2, [.ref (ad (0, N 3 j 0)), .ref (ad (9, N 3 j 1)), .int (S 9 j 0), .int (S 9 j 1)]) from by first | rfl | simp [cc, su, nu, upd]] at hz_7
  refine va_get (D := (dC, dI)) (ci := 2) (v := .ref (ad (0, N 3 j 0))) (C := RX1) (T := TX1) (N := 4) hx hb hts inX1_ hown hK hP z_7 hz_7 rfl 0 (by decide) lk0 (fun _ h9 => h9) rfl dX1_countBreach_20 ?_
  obtain ⟨z_8, hz_8⟩ := pl_get (ad := ad) (f := cc cy e0 ad (su S 7 (N 3 j 0) (upd (S 7 (N 3 j 0)) (N 4 (N 3 j 1) 0) ((S 7 (N 3 j 0) (N 4 (N 3 j 1) 0)) + sg))) N) (hM0 0 (N 3 j 0) (by decide) (by omega))
  rw [show cc cy e0 ad (su S 7 (N 3 j 0) (upd (S 7 (N 3 j 0)) (N 4 (N 3 j 1) 0) ((S 7 (N 3 j 0) (N 4 (N 3 j 1) 0)) + sg))) N (0, N 3 j 0) = .inr (1, [.ref (ad (1, N 3 j 0)), .ref (ad (2, N 3 j 0)), .ref (ad (5, N 3 j 0)), .ref (ad (6, N 3 j 0)), .ref (ad (7, N 3 j 0))]) from by first | rfl | simp [cc, su, nu, upd]] at hz_8
  refine va_get (D := (dC, dI)) (ci := 1) (v := .ref (ad (7, N 3 j 0))) (C := RX0) (T := TX0) (N := 5) hx hb hts inX0_ hown hK hP z_8 hz_8 rfl 4 (by decide) lk4 (fun _ h9 => h9) rfl dX1_countBreach_23 ?_
  refine lv_aload_n hx hb dX1_countBreach_26 rfl (lv_at hl 0 rfl) ?_
  obtain ⟨z_9, hz_9⟩ := pl_get (ad := ad) (f := cc cy e0 ad (su S 7 (N 3 j 0) (upd (S 7 (N 3 j 0)) (N 4 (N 3 j 1) 0) ((S 7 (N 3 j 0) (N 4 (N 3 j 1) 0)) + sg))) N) (hM8 j (by omega))
  rw [show cc cy e0 ad (su S 7 (N 3 j 0) (upd (S 7 (N 3 j 0)) (N 4 (N 3 j 1) 0) ((S 7 (N 3 j 0) (N 4 (N 3 j 1) 0)) + sg))) N (8, j) = .inr (2, [.ref (ad (0, N 3 j 0)), .ref (ad (9, N 3 j 1)), .int (S 9 j 0), .int (S 9 j 1)]) from by first | rfl | simp [cc, su, nu, upd]] at hz_9
  refine va_get (D := (dC, dI)) (ci := 2) (v := .ref (ad (9, N 3 j 1))) (C := RX1) (T := TX1) (N := 4) hx hb hts inX1_ hown hK hP z_9 hz_9 rfl 1 (by decide) lk2 (fun _ h9 => h9) rfl dX1_countBreach_27 ?_
  obtain ⟨z_10, hz_10⟩ := pl_get (ad := ad) (f := cc cy e0 ad (su S 7 (N 3 j 0) (upd (S 7 (N 3 j 0)) (N 4 (N 3 j 1) 0) ((S 7 (N 3 j 0) (N 4 (N 3 j 1) 0)) + sg))) N) (hdv)
  rw [show cc cy e0 ad (su S 7 (N 3 j 0) (upd (S 7 (N 3 j 0)) (N 4 (N 3 j 1) 0) ((S 7 (N 3 j 0) (N 4 (N 3 j 1) 0)) + sg))) N (9, N 3 j 1) = .inr (3, [.int (nI ((N 3 j 1) % 9 + 1)), .int (nI (N 4 (N 3 j 1) 0)), .int (S 3 (N 3 j 1) 1), .int (S 3 (N 3 j 1) 2), .int (S 3 (N 3 j 1) 3)]) from by first | rfl | simp [cc, su, nu, upd]] at hz_10
  refine va_get (D := (dC, dI)) (ci := 3) (v := .int (nI (N 4 (N 3 j 1) 0))) (C := RX2) (T := TX2) (N := 5) hx hb hts inX2_ hown hK hP z_10 hz_10 rfl 1 (by decide) lk3 (fun _ h9 => h9) rfl dX1_countBreach_30 ?_
  refine lv_dup2_11 hx hb dX1_countBreach_33 rfl rfl ?_
  obtain ⟨z_11, hz_11⟩ := pl_get (ad := ad) (f := cc cy e0 ad (su S 7 (N 3 j 0) (upd (S 7 (N 3 j 0)) (N 4 (N 3 j 1) 0) ((S 7 (N 3 j 0) (N 4 (N 3 j 1) 0)) + sg))) N) (hM0 7 (N 3 j 0) (by decide) (by omega))
  rw [show cc cy e0 ad (su S 7 (N 3 j 0) (upd (S 7 (N 3 j 0)) (N 4 (N 3 j 1) 0) ((S 7 (N 3 j 0) (N 4 (N 3 j 1) 0)) + sg))) N (7, N 3 j 0) = .inl (cy 0, 2, .inl (S 8 (N 3 j 0))) from by first | rfl | simp [cc, su, nu, upd]] at hz_11
  refine x_iald (f := S 8 (N 3 j 0)) hx hb hK hP z_11 0 hz_11 rfl (t := N 4 (N 3 j 1) 0) (by omega) (by decide) dX1_countBreach_34 ?_
  refine lv_iload_n hx hb dX1_countBreach_35 rfl (lv_at hl 1 rfl) ?_
  refine lv_aload_n hx hb dX1_countBreach_36 rfl (lv_at hl 0 rfl) ?_
  obtain ⟨z_12, hz_12⟩ := pl_get (ad := ad) (f := cc cy e0 ad (su S 7 (N 3 j 0) (upd (S 7 (N 3 j 0)) (N 4 (N 3 j 1) 0) ((S 7 (N 3 j 0) (N 4 (N 3 j 1) 0)) + sg))) N) (hM8 j (by omega))
  rw [show cc cy e0 ad (su S 7 (N 3 j 0) (upd (S 7 (N 3 j 0)) (N 4 (N 3 j 1) 0) ((S 7 (N 3 j 0) (N 4 (N 3 j 1) 0)) + sg))) N (8, j) = .inr (2, [.ref (ad (0, N 3 j 0)), .ref (ad (9, N 3 j 1)), .int (S 9 j 0), .int (S 9 j 1)]) from by first | rfl | simp [cc, su, nu, upd]] at hz_12
  refine va_get (D := (dC, dI)) (ci := 2) (v := .ref (ad (9, N 3 j 1))) (C := RX1) (T := TX1) (N := 4) hx hb hts inX1_ hown hK hP z_12 hz_12 rfl 1 (by decide) lk2 (fun _ h9 => h9) rfl dX1_countBreach_37 ?_
  obtain ⟨z_13, hz_13⟩ := pl_get (ad := ad) (f := cc cy e0 ad (su S 7 (N 3 j 0) (upd (S 7 (N 3 j 0)) (N 4 (N 3 j 1) 0) ((S 7 (N 3 j 0) (N 4 (N 3 j 1) 0)) + sg))) N) (hdv)
  rw [show cc cy e0 ad (su S 7 (N 3 j 0) (upd (S 7 (N 3 j 0)) (N 4 (N 3 j 1) 0) ((S 7 (N 3 j 0) (N 4 (N 3 j 1) 0)) + sg))) N (9, N 3 j 1) = .inr (3, [.int (nI ((N 3 j 1) % 9 + 1)), .int (nI (N 4 (N 3 j 1) 0)), .int (S 3 (N 3 j 1) 1), .int (S 3 (N 3 j 1) 2), .int (S 3 (N 3 j 1) 3)]) from by first | rfl | simp [cc, su, nu, upd]] at hz_13
  refine va_get (D := (dC, dI)) (ci := 3) (v := .int (S 3 (N 3 j 1) 3)) (C := RX2) (T := TX2) (N := 5) hx hb hts inX2_ hown hK hP z_13 hz_13 rfl 4 (by decide) lk5 (fun _ h9 => h9) rfl dX1_countBreach_40 ?_
  refine lv_imul hx hb dX1_countBreach_43 ?_
  refine lv_iadd hx hb dX1_countBreach_44 ?_
  obtain ⟨z_14, hz_14⟩ := pl_get (ad := ad) (f := cc cy e0 ad (su S 7 (N 3 j 0) (upd (S 7 (N 3 j 0)) (N 4 (N 3 j 1) 0) ((S 7 (N 3 j 0) (N 4 (N 3 j 1) 0)) + sg))) N) (hM0 7 (N 3 j 0) (by decide) (by omega))
  rw [show cc cy e0 ad (su S 7 (N 3 j 0) (upd (S 7 (N 3 j 0)) (N 4 (N 3 j 1) 0) ((S 7 (N 3 j 0) (N 4 (N 3 j 1) 0)) + sg))) N (7, N 3 j 0) = .inl (cy 0, 2, .inl (S 8 (N 3 j 0))) from by first | rfl | simp [cc, su, nu, upd]] at hz_14
  have eW : (cw cy e0 ad L (su S 7 (N 3 j 0) (upd (S 7 (N 3 j 0)) (N 4 (N 3 j 1) 0) ((S 7 (N 3 j 0) (N 4 (N 3 j 1) 0)) + sg))) N).set z_14 (ad (7, N 3 j 0), .inl (cy 0, 2, .inl (upd (S 8 (N 3 j 0)) (N 4 (N 3 j 1) 0) ((S 8 (N 3 j 0) (N 4 (N 3 j 1) 0)) + (sg * (S 3 (N 3 j 1) 3)))))) = cw cy e0 ad L (su (su S 7 (N 3 j 0) (upd (S 7 (N 3 j 0)) (N 4 (N 3 j 1) 0) ((S 7 (N 3 j 0) (N 4 (N 3 j 1) 0)) + sg))) 8 (N 3 j 0) (upd (S 8 (N 3 j 0)) (N 4 (N 3 j 1) 0) ((S 8 (N 3 j 0) (N 4 (N 3 j 1) 0)) + (sg * (S 3 (N 3 j 1) 3))))) N := st_7 (upd (S 8 (N 3 j 0)) (N 4 (N 3 j 1) 0) ((S 8 (N 3 j 0) (N 4 (N 3 j 1) 0)) + (sg * (S 3 (N 3 j 1) 3)))) hD hz_14 (hM0 7 (N 3 j 0) (by decide) (by omega))
  refine x_iast (f := S 8 (N 3 j 0)) hx hb hK hP hD hS z_14 0 hz_14 rfl (t := N 4 (N 3 j 1) 0) (x := ((S 8 (N 3 j 0) (N 4 (N 3 j 1) 0)) + (sg * (S 3 (N 3 j 1) 3)))) (by omega) (by decide) dX1_countBreach_45 (fun H locs hP hD hS => ?_)
  have hP : va_P (dC, dI) vwCl (cw cy e0 ad L (su (su S 7 (N 3 j 0) (upd (S 7 (N 3 j 0)) (N 4 (N 3 j 1) 0) ((S 7 (N 3 j 0) (N 4 (N 3 j 1) 0)) + sg))) 8 (N 3 j 0) (upd (S 8 (N 3 j 0)) (N 4 (N 3 j 1) 0) ((S 8 (N 3 j 0) (N 4 (N 3 j 1) 0)) + (sg * (S 3 (N 3 j 1) 3))))) N) H := by rw [← eW]; exact hP
  have hD : va_D A (cw cy e0 ad L (su (su S 7 (N 3 j 0) (upd (S 7 (N 3 j 0)) (N 4 (N 3 j 1) 0) ((S 7 (N 3 j 0) (N 4 (N 3 j 1) 0)) + sg))) 8 (N 3 j 0) (upd (S 8 (N 3 j 0)) (N 4 (N 3 j 1) 0) ((S 8 (N 3 j 0) (N 4 (N 3 j 1) 0)) + (sg * (S 3 (N 3 j 1) 3))))) N) := by rw [← eW]; exact hD
  rw [← hQQ]; exact end_v (u := (su (su S 7 (N 3 j 0) (upd (S 7 (N 3 j 0)) (N 4 (N 3 j 1) 0) ((S 7 (N 3 j 0) (N 4 (N 3 j 1) 0)) + sg))) 8 (N 3 j 0) (upd (S 8 (N 3 j 0)) (N 4 (N 3 j 1) 0) ((S 8 (N 3 j 0) (N 4 (N 3 j 1) 0)) + (sg * (S 3 (N 3 j 1) 3)))), N)) hx hb hr hlocks dX1_countBreach_46 hK hP hD hS rfl (Nat.le_of_ble_eq_true rfl) (Nat.le_of_ble_eq_true rfl)

theorem set_at {ws : va_W} {k : Nat} {x y : Nat × va_E} (h : ws[k]? = some y) : (ws.set k x)[k]? = some x := List.getElem?_set_self (List.getElem?_eq_some_iff.mp h).1

set_option maxHeartbeats 4000000 in
set_option maxRecDepth 100000 in
/-- Version() -/
theorem qX2_init (l : Launch) (dC : Nat → ClassId) (dI : Nat → Nat → Nat) (cy : Nat → ClassId) (e0 mi : Nat) (ws : va_W) (sz : Nat) (a0 k0 : Nat) (n o d cu z : Int32) (hk0 : ws[k0]? = some (a0, .inr (3, [.int 0, .int 0, .int 0, .int 0, .int 0]))) : Met l yX2_init wsX2_init ({ frames := 1, cells := 0, slots := 0, locals := 40 }) (va_Pc [.ref a0, .int n, .int o, .int d, .int cu, .int z] (wPre (dC, dI) (tyL cy) (ws) sz)) (QV (dC, dI) (tyL cy) (fun (_ : Unit) => True) (fun _ => ws.set k0 (a0, .inr (3, [.int n, .int o, .int d, .int cu, .int z]))) (va_A (ws) sz)) 0 0 (va_A (ws) sz) := by
  refine en (cc := cX2_init) (maxL := 6) (ret := none) (own := RX2) (lv := [(0, .ref a0), (1, .int n), (2, .int o), (3, .int d), (4, .int cu), (5, .int z)]) (by decide) rfl rfl (Nat.le_of_ble_eq_true rfl) rfl ?_
  intro p e s m below meth c ls A H locs hx hb hr hts hown hlocks hml hin hsz hK hP hD hS hA hl
  generalize hQQ : MQ below _ _ s _ _ A = QQ
  have inX2_ : ∀ w ∈ wsX20, w ∈ wsX2_init := fun _ h => List.mem_cons_of_mem _ (List.mem_append_right _ h)
  have lk0 : (Cond.methodLink RX2 1 objectInit).before (([.ref a0, .int n, .int o, .int d, .int cu, .int z] : List Value).toArray) s = true := hts _ (List.mem_of_getElem? (i := 1) rfl)
  have lk1 : (Cond.instanceMethod objectInit).before (([.ref a0, .int n, .int o, .int d, .int cu, .int z] : List Value).toArray) s = true := hts _ (List.mem_of_getElem? (i := 2) rfl)
  have lk2 : (Cond.fieldLink RX2 7 "ClauseShop$Version" "number" "I").before (([.ref a0, .int n, .int o, .int d, .int cu, .int z] : List Value).toArray) s = true := hts _ (List.mem_of_getElem? (i := 4) rfl)
  have lk3 : (Cond.fieldLink RX2 13 "ClauseShop$Version" "obligor" "I").before (([.ref a0, .int n, .int o, .int d, .int cu, .int z] : List Value).toArray) s = true := hts _ (List.mem_of_getElem? (i := 5) rfl)
  have lk4 : (Cond.fieldLink RX2 16 "ClauseShop$Version" "days" "I").before (([.ref a0, .int n, .int o, .int d, .int cu, .int z] : List Value).toArray) s = true := hts _ (List.mem_of_getElem? (i := 6) rfl)
  have lk5 : (Cond.fieldLink RX2 19 "ClauseShop$Version" "cure" "I").before (([.ref a0, .int n, .int o, .int d, .int cu, .int z] : List Value).toArray) s = true := hts _ (List.mem_of_getElem? (i := 7) rfl)
  have lk6 : (Cond.fieldLink RX2 22 "ClauseShop$Version" "penalty" "I").before (([.ref a0, .int n, .int o, .int d, .int cu, .int z] : List Value).toArray) s = true := hts _ (List.mem_of_getElem? (i := 8) rfl)
  refine lv_aload_n hx hb dX2_init_0 rfl (lv_at hl 0 rfl) ?_
  refine W.objInit hx hb hown lk0 lk1 (hts _ (List.mem_of_getElem? (i := 3) rfl)) rfl (by rw [hml]; exact hl.1) rfl dX2_init_1 (Nat.le_of_ble_eq_true rfl) (Nat.le_of_ble_eq_true rfl) ?_
  refine W.eq (g2 := F0 m 4 ls []) rfl ?_
  refine lv_aload_n hx hb dX2_init_4 rfl (lv_at hl 0 rfl) ?_
  refine lv_iload_n hx hb dX2_init_5 rfl (lv_at hl 1 rfl) ?_
  refine va_putF (D := (dC, dI)) (ci := 3) (v := .int n) (ty := .int) (C := RX2) (T := TX2) (N := 5) hx hb hts inX2_ tyX2 tyX2_ok nmX2 hown hK hP hD hS k0 hk0 rfl 0 (by decide) lk2 (fun _ h9 => h9) rfl hin rfl (by decide +kernel) rfl rfl (Nat.le_of_ble_eq_true rfl) dX2_init_6 (fun H locs hP hD hS => ?_)
  have hP : va_P (dC, dI) vwCl (ws.set k0 (a0, .inr (3, [.int n, .int 0, .int 0, .int 0, .int 0]))) H := hP
  have hD : va_D A (ws.set k0 (a0, .inr (3, [.int n, .int 0, .int 0, .int 0, .int 0]))) := hD
  refine lv_aload_n hx hb dX2_init_9 rfl (lv_at hl 0 rfl) ?_
  refine lv_iload_n hx hb dX2_init_10 rfl (lv_at hl 2 rfl) ?_
  refine va_putF (D := (dC, dI)) (ci := 3) (v := .int o) (ty := .int) (C := RX2) (T := TX2) (N := 5) hx hb hts inX2_ tyX2 tyX2_ok nmX2 hown hK hP hD hS k0 (set_at hk0) rfl 1 (by decide) lk3 (fun _ h9 => h9) rfl hin rfl (by decide +kernel) rfl rfl (Nat.le_of_ble_eq_true rfl) dX2_init_11 (fun H locs hP hD hS => ?_)
  rw [List.set_set] at hP hD
  have hP : va_P (dC, dI) vwCl (ws.set k0 (a0, .inr (3, [.int n, .int o, .int 0, .int 0, .int 0]))) H := hP
  have hD : va_D A (ws.set k0 (a0, .inr (3, [.int n, .int o, .int 0, .int 0, .int 0]))) := hD
  refine lv_aload_n hx hb dX2_init_14 rfl (lv_at hl 0 rfl) ?_
  refine lv_iload_n hx hb dX2_init_15 rfl (lv_at hl 3 rfl) ?_
  refine va_putF (D := (dC, dI)) (ci := 3) (v := .int d) (ty := .int) (C := RX2) (T := TX2) (N := 5) hx hb hts inX2_ tyX2 tyX2_ok nmX2 hown hK hP hD hS k0 (set_at hk0) rfl 2 (by decide) lk4 (fun _ h9 => h9) rfl hin rfl (by decide +kernel) rfl rfl (Nat.le_of_ble_eq_true rfl) dX2_init_16 (fun H locs hP hD hS => ?_)
  rw [List.set_set] at hP hD
  have hP : va_P (dC, dI) vwCl (ws.set k0 (a0, .inr (3, [.int n, .int o, .int d, .int 0, .int 0]))) H := hP
  have hD : va_D A (ws.set k0 (a0, .inr (3, [.int n, .int o, .int d, .int 0, .int 0]))) := hD
  refine lv_aload_n hx hb dX2_init_19 rfl (lv_at hl 0 rfl) ?_
  refine lv_iload hx hb dX2_init_20 (lv_at hl 4 rfl) ?_
  refine va_putF (D := (dC, dI)) (ci := 3) (v := .int cu) (ty := .int) (C := RX2) (T := TX2) (N := 5) hx hb hts inX2_ tyX2 tyX2_ok nmX2 hown hK hP hD hS k0 (set_at hk0) rfl 3 (by decide) lk5 (fun _ h9 => h9) rfl hin rfl (by decide +kernel) rfl rfl (Nat.le_of_ble_eq_true rfl) dX2_init_22 (fun H locs hP hD hS => ?_)
  rw [List.set_set] at hP hD
  have hP : va_P (dC, dI) vwCl (ws.set k0 (a0, .inr (3, [.int n, .int o, .int d, .int cu, .int 0]))) H := hP
  have hD : va_D A (ws.set k0 (a0, .inr (3, [.int n, .int o, .int d, .int cu, .int 0]))) := hD
  refine lv_aload_n hx hb dX2_init_25 rfl (lv_at hl 0 rfl) ?_
  refine lv_iload hx hb dX2_init_26 (lv_at hl 5 rfl) ?_
  refine va_putF (D := (dC, dI)) (ci := 3) (v := .int z) (ty := .int) (C := RX2) (T := TX2) (N := 5) hx hb hts inX2_ tyX2 tyX2_ok nmX2 hown hK hP hD hS k0 (set_at hk0) rfl 4 (by decide) lk6 (fun _ h9 => h9) rfl hin rfl (by decide +kernel) rfl rfl (Nat.le_of_ble_eq_true rfl) dX2_init_28 (fun H locs hP hD hS => ?_)
  rw [List.set_set] at hP hD
  have hP : va_P (dC, dI) vwCl (ws.set k0 (a0, .inr (3, [.int n, .int o, .int d, .int cu, .int z]))) H := hP
  have hD : va_D A (ws.set k0 (a0, .inr (3, [.int n, .int o, .int d, .int cu, .int z]))) := hD
  rw [← hQQ]; exact end_v (u := ()) hx hb hr hlocks dX2_init_31 hK hP hD hS trivial (Nat.le_of_ble_eq_true rfl) (Nat.le_of_ble_eq_true rfl)

set_option maxHeartbeats 4000000 in
set_option maxRecDepth 100000 in
/-- Duty() -/
theorem qX1_init (l : Launch) (dC : Nat → ClassId) (dI : Nat → Nat → Nat) (cy : Nat → ClassId) (e0 mi : Nat) (ws : va_W) (sz : Nat) (a0 k0 ac av : Nat) (d : Int32) (hk0 : ws[k0]? = some (a0, .inr (2, [.null, .null, .int 0, .int 0]))) : Met l yX1_init wsX1_init ({ frames := 1, cells := 0, slots := 0, locals := 40 }) (va_Pc [.ref a0, .ref ac, .ref av, .int d] (wPre (dC, dI) (tyL cy) (ws) sz)) (QV (dC, dI) (tyL cy) (fun (_ : Unit) => True) (fun _ => ws.set k0 (a0, .inr (2, [.ref ac, .ref av, .int (nI 0), .int d]))) (va_A (ws) sz)) 0 0 (va_A (ws) sz) := by
  refine en (cc := cX1_init) (maxL := 4) (ret := none) (own := RX1) (lv := [(0, .ref a0), (1, .ref ac), (2, .ref av), (3, .int d)]) (by decide) rfl rfl (Nat.le_of_ble_eq_true rfl) rfl ?_
  intro p e s m below meth c ls A H locs hx hb hr hts hown hlocks hml hin hsz hK hP hD hS hA hl
  generalize hQQ : MQ below _ _ s _ _ A = QQ
  have inX1_ : ∀ w ∈ wsX10, w ∈ wsX1_init := fun _ h => List.mem_cons_of_mem _ (List.mem_append_right _ h)
  have lk0 : (Cond.methodLink RX1 3 objectInit).before (([.ref a0, .ref ac, .ref av, .int d] : List Value).toArray) s = true := hts _ (List.mem_of_getElem? (i := 1) rfl)
  have lk1 : (Cond.instanceMethod objectInit).before (([.ref a0, .ref ac, .ref av, .int d] : List Value).toArray) s = true := hts _ (List.mem_of_getElem? (i := 2) rfl)
  have lk2 : (Cond.fieldLink RX1 9 "ClauseShop$Duty" "state" "I").before (([.ref a0, .ref ac, .ref av, .int d] : List Value).toArray) s = true := hts _ (List.mem_of_getElem? (i := 4) rfl)
  have lk3 : (Cond.fieldLink RX1 15 "ClauseShop$Duty" "contract" "LClauseShop$Contract;").before (([.ref a0, .ref ac, .ref av, .int d] : List Value).toArray) s = true := hts _ (List.mem_of_getElem? (i := 5) rfl)
  have lk4 : (Cond.fieldLink RX1 19 "ClauseShop$Duty" "version" "LClauseShop$Version;").before (([.ref a0, .ref ac, .ref av, .int d] : List Value).toArray) s = true := hts _ (List.mem_of_getElem? (i := 6) rfl)
  have lk5 : (Cond.fieldLink RX1 23 "ClauseShop$Duty" "day" "I").before (([.ref a0, .ref ac, .ref av, .int d] : List Value).toArray) s = true := hts _ (List.mem_of_getElem? (i := 7) rfl)
  refine lv_aload_n hx hb dX1_init_0 rfl (lv_at hl 0 rfl) ?_
  refine W.objInit hx hb hown lk0 lk1 (hts _ (List.mem_of_getElem? (i := 3) rfl)) rfl (by rw [hml]; exact hl.1) rfl dX1_init_1 (Nat.le_of_ble_eq_true rfl) (Nat.le_of_ble_eq_true rfl) ?_
  refine W.eq (g2 := F0 m 4 ls []) rfl ?_
  refine lv_aload_n hx hb dX1_init_4 rfl (lv_at hl 0 rfl) ?_
  refine lv_iconst (v := nI 0) hx hb dX1_init_5 (by decide) ?_
  refine va_put (D := (dC, dI)) (ci := 2) (v := .int (nI 0)) (ty := .int) (C := RX1) (T := TX1) (N := 4) hx hb hts inX1_ tyX1 tyX1_ok nmX1 hown hK hP hD hS k0 hk0 rfl 2 (by decide) lk2 (fun _ h9 => h9) rfl (by decide +kernel) rfl rfl (Nat.le_of_ble_eq_true rfl) dX1_init_6 (fun H locs hP hD hS => ?_)
  have hP : va_P (dC, dI) vwCl (ws.set k0 (a0, .inr (2, [.null, .null, .int (nI 0), .int 0]))) H := hP
  have hD : va_D A (ws.set k0 (a0, .inr (2, [.null, .null, .int (nI 0), .int 0]))) := hD
  refine lv_aload_n hx hb dX1_init_9 rfl (lv_at hl 0 rfl) ?_
  refine lv_aload_n hx hb dX1_init_10 rfl (lv_at hl 1 rfl) ?_
  refine va_putF (D := (dC, dI)) (ci := 2) (v := .ref ac) (ty := .object "ClauseShop$Contract") (C := RX1) (T := TX1) (N := 4) hx hb hts inX1_ tyX1 tyX1_ok nmX1 hown hK hP hD hS k0 (set_at hk0) rfl 0 (by decide) lk3 (fun _ h9 => h9) rfl hin rfl (by decide +kernel) rfl rfl (Nat.le_of_ble_eq_true rfl) dX1_init_11 (fun H locs hP hD hS => ?_)
  rw [List.set_set] at hP hD
  have hP : va_P (dC, dI) vwCl (ws.set k0 (a0, .inr (2, [.ref ac, .null, .int (nI 0), .int 0]))) H := hP
  have hD : va_D A (ws.set k0 (a0, .inr (2, [.ref ac, .null, .int (nI 0), .int 0]))) := hD
  refine lv_aload_n hx hb dX1_init_14 rfl (lv_at hl 0 rfl) ?_
  refine lv_aload_n hx hb dX1_init_15 rfl (lv_at hl 2 rfl) ?_
  refine va_putF (D := (dC, dI)) (ci := 2) (v := .ref av) (ty := .object "ClauseShop$Version") (C := RX1) (T := TX1) (N := 4) hx hb hts inX1_ tyX1 tyX1_ok nmX1 hown hK hP hD hS k0 (set_at hk0) rfl 1 (by decide) lk4 (fun _ h9 => h9) rfl hin rfl (by decide +kernel) rfl rfl (Nat.le_of_ble_eq_true rfl) dX1_init_16 (fun H locs hP hD hS => ?_)
  rw [List.set_set] at hP hD
  have hP : va_P (dC, dI) vwCl (ws.set k0 (a0, .inr (2, [.ref ac, .ref av, .int (nI 0), .int 0]))) H := hP
  have hD : va_D A (ws.set k0 (a0, .inr (2, [.ref ac, .ref av, .int (nI 0), .int 0]))) := hD
  refine lv_aload_n hx hb dX1_init_19 rfl (lv_at hl 0 rfl) ?_
  refine lv_iload_n hx hb dX1_init_20 rfl (lv_at hl 3 rfl) ?_
  refine va_put (D := (dC, dI)) (ci := 2) (v := .int d) (ty := .int) (C := RX1) (T := TX1) (N := 4) hx hb hts inX1_ tyX1 tyX1_ok nmX1 hown hK hP hD hS k0 (set_at hk0) rfl 3 (by decide) lk5 (fun _ h9 => h9) rfl (by decide +kernel) rfl rfl (Nat.le_of_ble_eq_true rfl) dX1_init_21 (fun H locs hP hD hS => ?_)
  rw [List.set_set] at hP hD
  have hP : va_P (dC, dI) vwCl (ws.set k0 (a0, .inr (2, [.ref ac, .ref av, .int (nI 0), .int d]))) H := hP
  have hD : va_D A (ws.set k0 (a0, .inr (2, [.ref ac, .ref av, .int (nI 0), .int d]))) := hD
  rw [← hQQ]; exact end_v (u := ()) hx hb hr hlocks dX1_init_24 hK hP hD hS trivial (Nat.le_of_ble_eq_true rfl) (Nat.le_of_ble_eq_true rfl)

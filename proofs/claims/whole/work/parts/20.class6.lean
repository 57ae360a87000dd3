def K_put (S : SS) (N : NN) : Nat → SS
  | 0 => S
  | n + 1 => if isHeld (K_put S N n) N n then su (K_put S N n) 9 n (upd (K_put S N n 9 n) 1 (K_put S N n 9 n 1 + nI 1)) else K_put S N n
abbrev isLateN (S : SS) (n : Nat) : Prop := S 9 n 0 = nI 2 ∧ S 9 n 1 < S 0 0 0
def K_bS (S : SS) (N : NN) : Nat → SS
  | 0 => S
  | n + 1 => if isLateN (K_bS S N n) n then K_count (K_move (K_bS S N n) n (nI 3) (K_bS S N n 0 0 0)) N n (nI 1) else K_bS S N n
def K_bn (S : SS) (N : NN) : Nat → Nat
  | 0 => 0
  | n + 1 => if isLateN (K_bS S N n) n then K_bn S N n + 1 else K_bn S N n
def K_tick (S : SS) : SS := su S 0 0 (upd (S 0 0) 0 (S 0 0 0 + nI 1))
def K_dayP (S : SS) (N : NN) : SS := K_put (K_tick S) N (N 5 0 0)
def K_passS (S : SS) (N : NN) : Nat → SS
  | 0 => S
  | n + 1 => K_bS (K_dayP (K_passS S N n) N) N (N 5 0 0)
def K_passN (S : SS) (N : NN) : Nat → Nat
  | 0 => 0
  | n + 1 => K_passN S N n + K_bn (K_dayP (K_passS S N n) N) N (N 5 0 0)

set_option maxHeartbeats 4000000 in
set_option maxRecDepth 100000 in
/-- putOff -/
theorem qX3_putOffHeldUpDuties (l : Launch) (dC : Nat → ClassId) (dI : Nat → Nat → Nat) (cy : Nat → ClassId) (e0 mi : Nat) (ad : Lc → Nat) (L : List Lc) (S : SS) (N : NN) (sz : Nat) (hI : okC L N) : Met l yX3_putOffHeldUpDuties wsX3_putOffHeldUpDuties ({ frames := 3, cells := 0, slots := 0, locals := 64 }) (va_Pc [.ref (ad (10, 0))] (wPre (dC, dI) (tyL cy) (cw cy e0 ad L S N) sz)) (QV (dC, dI) (tyL cy) (fun (u : CS) => u = (K_put S N (N 5 0 0), N)) (cwU cy e0 ad L) (va_A (cw cy e0 ad L S N) sz)) 0 0 (va_A (cw cy e0 ad L S N) sz) := by
  refine en (cc := cX3_putOffHeldUpDuties) (maxL := 3) (ret := none) (own := RX3) (lv := [(0, .ref (ad (10, 0)))]) (by decide) rfl rfl (Nat.le_of_ble_eq_true rfl) rfl ?_
  intro p e s m below meth c ls A H locs hx hb hr hts hown hlocks hml hin hsz hK hP hD hS hA hl
  generalize hQQ : MQ below _ _ s _ _ A = QQ
  have hI0 := hI
  obtain ⟨⟨hM0, hM8, hM9, hMF, hM15, hM17⟩, hV, hLt, hO, hDu, hnc, hnd, hcC, hcD, hcC2, hcD2⟩ := hI
  have inX3_ : ∀ w ∈ wsX30, w ∈ wsX3_putOffHeldUpDuties := fun _ h => List.mem_cons_of_mem _ (List.mem_append_left _ (List.mem_append_left _ (List.mem_append_left _ (List.mem_append_left _ (List.mem_append_right _ h)))))
  have inX1_ : ∀ w ∈ wsX10, w ∈ wsX3_putOffHeldUpDuties := fun _ h => List.mem_cons_of_mem _ (List.mem_append_left _ (List.mem_append_left _ (List.mem_append_left _ (List.mem_append_right _ h))))
  have lk0 : (Cond.fieldLink RX3 29 "ClauseShop" "dutyList" "Ljava/util/ArrayList;").before (([.ref (ad (10, 0))] : List Value).toArray) s = true := hts _ (List.mem_of_getElem? (i := 1) rfl)
  have lk1 : (Cond.classLink RX3 152 "ClauseShop$Duty").before (([.ref (ad (10, 0))] : List Value).toArray) s = true := hts _ (List.mem_of_getElem? (i := 2) rfl)
  have lk2 : (Cond.fieldLink RX3 156 "ClauseShop$Duty" "day" "I").before (([.ref (ad (10, 0))] : List Value).toArray) s = true := hts _ (List.mem_of_getElem? (i := 3) rfl)
  refine lv_iconst (v := nI 0) hx hb dX3_putOffHeldUpDuties_0 (by decide) ?_
  refine lv_istore_n (lv' := [(1, .int (nI 0)), (0, .ref (ad (10, 0)))]) hx hb dX3_putOffHeldUpDuties_1 rfl hl (by decide) rfl (fun ls hl => ?_)
  have hl_po : ∀ (k9 j : Nat), (N 5 0 0) - j = k9 → j ≤ (N 5 0 0) → ∀ (H : Heap) (locs : List Loc) (ls : Array Slot), va_P (dC, dI) vwCl (cw cy e0 ad L ((K_put S N j)) N) H → va_D A (cw cy e0 ad L ((K_put S N j)) N) → va_S A s.heap H locs → lv_has ls 3 [(0, .ref (ad (10, 0))), (1, .int (nI j))] → W p l e ({ frames := 3, cells := 0, slots := 0, locals := 64 }) s m (([.ref (ad (10, 0))] : List Value).toArray) below meth c H locs 0 0 QQ (F0 m 2 ls []) := by
    intro k9
    induction k9 using Nat.strongRecOn with
    | _ k9 ih =>
      intro j  hk9 hle9  H locs ls hP hD hS hl
      refine lv_iload_n hx hb dX3_putOffHeldUpDuties_2 rfl (lv_at hl 1 rfl) ?_
      refine lv_aload_n hx hb dX3_putOffHeldUpDuties_3 rfl (lv_at hl 0 rfl) ?_
      obtain ⟨z_1, hz_1⟩ := pl_get (ad := ad) (f := cc cy e0 ad ((K_put S N j)) N) (hMF 10 (by decide))
      rw [show cc cy e0 ad ((K_put S N j)) N (10, 0) = .inr (4, [.ref (ad (11, 0)), .ref (ad (12, 0)), .ref (ad (13, 0)), .ref (ad (14, 0)), .ref (ad (16, 0)), .int (((K_put S N j)) 0 0 0)]) from rfl] at hz_1
      refine va_get (D := (dC, dI)) (ci := 4) (v := .ref (ad (16, 0))) (C := RX3) (T := TX3) (N := 6) hx hb hts inX3_ hown hK hP z_1 hz_1 rfl 4 (by decide) lk0 (fun _ h9 => h9) rfl dX3_putOffHeldUpDuties_4 ?_
      obtain ⟨z_2, hz_2⟩ := pl_get (ad := ad) (f := cc cy e0 ad ((K_put S N j)) N) (hMF 16 (by decide))
      rw [show cc cy e0 ad ((K_put S N j)) N (16, 0) = .inr (0, [.int (((K_put S N j)) 11 0 0), .ref (if N 7 0 0 = 0 then e0 else ad (17, 0)), .int (nI (N 5 0 0))]) from rfl] at hz_2
      refine call_i (va_runV (As := []) (rest := [.int (nI j)]) ⟨hx, hb, hml, hown, hts⟩ (qJx4a65c_size_8abf5 l dC dI cy e0 mi (cw cy e0 ad L ((K_put S N j)) N) H.size _ z_2 (N 5 0 0) (((K_put S N j)) 11 0 0) _ hz_2) (cwV 0 hts gX3_putOffHeldUpDuties_Jx4a65c_size_8abf5 rfl rfl rfl (by decide +kernel) ⟨Nat.le_of_ble_eq_true rfl, Nat.le_of_ble_eq_true rfl⟩) (preV hK hP hD (w_recv (ci := 0) (q0 := z_2) hK hP hz_2 rfl)) rfl rfl hl.1 rfl (lv_room (Nat.le_of_ble_eq_true rfl)) dX3_putOffHeldUpDuties_7 ⟨Nat.le_of_ble_eq_true rfl, Nat.le_of_ble_eq_true rfl⟩) hD hS hA (fun r_3 _ H locs w_4 hP hD hS => ?_)
      subst w_4
      have hP : va_P (dC, dI) vwCl (cw cy e0 ad L ((K_put S N j)) N) H := hP
      have hD : va_D A (cw cy e0 ad L ((K_put S N j)) N) := hD
      refine n_ge (tgt := 48) hx hb dX3_putOffHeldUpDuties_10 (by decide) (by omega) (by omega) (fun c_5 => ?_) (fun c_5 => ?_)
      · have ej9 : j = N 5 0 0 := by omega
        subst ej9
        rw [← hQQ]; exact end_v (u := ((K_put S N (N 5 0 0)), N)) hx hb hr hlocks dX3_putOffHeldUpDuties_48 hK hP hD hS rfl (Nat.le_of_ble_eq_true rfl) (Nat.le_of_ble_eq_true rfl)
      · have hj : j < N 5 0 0 := by omega
        obtain ⟨hdc, hdv⟩ := hDu j hj
        have hob := hO (N 3 j 1)
        refine lv_aload_n hx hb dX3_putOffHeldUpDuties_13 rfl (lv_at hl 0 rfl) ?_
        obtain ⟨z_6, hz_6⟩ := pl_get (ad := ad) (f := cc cy e0 ad ((K_put S N j)) N) (hMF 10 (by decide))
        rw [show cc cy e0 ad ((K_put S N j)) N (10, 0) = .inr (4, [.ref (ad (11, 0)), .ref (ad (12, 0)), .ref (ad (13, 0)), .ref (ad (14, 0)), .ref (ad (16, 0)), .int (((K_put S N j)) 0 0 0)]) from rfl] at hz_6
        refine va_get (D := (dC, dI)) (ci := 4) (v := .ref (ad (16, 0))) (C := RX3) (T := TX3) (N := 6) hx hb hts inX3_ hown hK hP z_6 hz_6 rfl 4 (by decide) lk0 (fun _ h9 => h9) rfl dX3_putOffHeldUpDuties_14 ?_
        refine lv_iload_n hx hb dX3_putOffHeldUpDuties_17 rfl (lv_at hl 1 rfl) ?_
        obtain ⟨z_7, hz_7⟩ := pl_get (ad := ad) (f := cc cy e0 ad ((K_put S N j)) N) (hMF 16 (by decide))
        rw [show cc cy e0 ad ((K_put S N j)) N (16, 0) = .inr (0, [.int (((K_put S N j)) 11 0 0), .ref (if N 7 0 0 = 0 then e0 else ad (17, 0)), .int (nI (N 5 0 0))]) from rfl] at hz_7
        obtain ⟨z_8, hz_8⟩ := pl_get (ad := ad) (f := cc cy e0 ad ((K_put S N j)) N) (hM17 (by omega))
        rw [show cc cy e0 ad ((K_put S N j)) N (17, 0) = .inl (cy 3, N 7 0 0, .inr (.inr (.inr (.inr (fun j => if j < N 5 0 0 then some (ad (8, j)) else none))))) from rfl] at hz_8
        rw [if_neg (show ¬ N 7 0 0 = 0 by omega)] at hz_7
        refine call_r (va_runV (As := [.int (nI j)]) (rest := []) ⟨hx, hb, hml, hown, hts⟩ (qJx4a65c_get_915e3 l dC dI cy e0 mi (cw cy e0 ad L ((K_put S N j)) N) H.size _ _ z_7 z_8 (N 5 0 0) (N 7 0 0) j (ad (8, j)) _ _ hz_7 hz_8 (by omega) (by omega) (if_pos (by omega)) (by omega) (by omega)) (cwV 1 hts gX3_putOffHeldUpDuties_Jx4a65c_get_915e3 rfl rfl rfl (by decide +kernel) ⟨Nat.le_of_ble_eq_true rfl, Nat.le_of_ble_eq_true rfl⟩) (preV hK hP hD (w_recv (ci := 0) (q0 := z_7) hK hP hz_7 rfl)) rfl rfl hl.1 rfl (lv_room (Nat.le_of_ble_eq_true rfl)) dX3_putOffHeldUpDuties_18 ⟨Nat.le_of_ble_eq_true rfl, Nat.le_of_ble_eq_true rfl⟩) hD hS hA (fun r_9 _ H locs w_10 hP hD hS => ?_)
        subst w_10
        have hP : va_P (dC, dI) vwCl (cw cy e0 ad L ((K_put S N j)) N) H := hP
        have hD : va_D A (cw cy e0 ad L ((K_put S N j)) N) := hD
        obtain ⟨z_11, hz_11⟩ := pl_get (ad := ad) (f := cc cy e0 ad ((K_put S N j)) N) (hM8 j (by omega))
        rw [show cc cy e0 ad ((K_put S N j)) N (8, j) = .inr (2, [.ref (ad (0, N 3 j 0)), .ref (ad (9, N 3 j 1)), .int (((K_put S N j)) 9 j 0), .int (((K_put S N j)) 9 j 1)]) from rfl] at hz_11
        refine va_castS (nm := RX1) hx hb hown lk1 (hK.1 2 _ rfl).2 (w_recv (ci := 2) (q0 := z_11) hK hP hz_11 rfl) dX3_putOffHeldUpDuties_21 ?_
        refine lv_astore_n (lv' := [(2, .ref (ad (8, j))), (0, .ref (ad (10, 0))), (1, .int (nI j))]) hx hb dX3_putOffHeldUpDuties_24 rfl hl (by decide) rfl (fun ls hl => ?_)
        refine lv_aload_n hx hb dX3_putOffHeldUpDuties_25 rfl (lv_at hl 0 rfl) ?_
        obtain ⟨z_12, hz_12⟩ := pl_get (ad := ad) (f := cc cy e0 ad ((K_put S N j)) N) (hM8 j (by omega))
        rw [show cc cy e0 ad ((K_put S N j)) N (8, j) = .inr (2, [.ref (ad (0, N 3 j 0)), .ref (ad (9, N 3 j 1)), .int (((K_put S N j)) 9 j 0), .int (((K_put S N j)) 9 j 1)]) from rfl] at hz_12
        refine call_i (va_runV (As := []) (rest := []) ⟨hx, hb, hml, hown, hts⟩ (qX1_isHeldUp l dC dI cy e0 mi ad L ((K_put S N j)) N H.size j hI0 hj) (cwV 0 hts gX3_putOffHeldUpDuties_X1_isHeldUp rfl rfl rfl (by decide +kernel) ⟨Nat.le_of_ble_eq_true rfl, Nat.le_of_ble_eq_true rfl⟩) (preV hK hP hD (w_recv (ci := 2) (q0 := z_12) hK hP hz_12 rfl)) rfl rfl hl.1 rfl (lv_room (Nat.le_of_ble_eq_true rfl)) dX3_putOffHeldUpDuties_26 ⟨Nat.le_of_ble_eq_true rfl, Nat.le_of_ble_eq_true rfl⟩) hD hS hA (fun r_13 u H locs w_14 hP hD hS => ?_)
        obtain ⟨rfl, rfl⟩ := w_14
        have hP : va_P (dC, dI) vwCl (cw cy e0 ad L ((K_put S N j)) N) H := hP
        have hD : va_D A (cw cy e0 ad L ((K_put S N j)) N) := hD
        refine br_eq (tgt := 42) hx hb dX3_putOffHeldUpDuties_29 (by decide) (fun c_15 => ?_) (fun c_15 => ?_)
        · refine lv_iinc (v := nI (j + 1)) (lv' := [(1, .int (nI (j + 1))), (2, .ref (ad (8, j))), (0, .ref (ad (10, 0)))]) hx hb dX3_putOffHeldUpDuties_42 hl (k := 2) rfl (by rw [show Int32.ofInt 1 = 1 from rfl]; exact nI_1 _) (by decide) rfl (fun ls hl => ?_)
          refine lv_goto (tgt := 2) hx hb dX3_putOffHeldUpDuties_45 (by decide) ?_
          have e9 : K_put S N (j + 1) = (K_put S N j) := by simp only [K_put, c_15, and_true, true_and, and_false, false_and, if_true, if_false, not_true, not_false_iff, not_false_eq_true, or_true, true_or, or_false, false_or, ite_true, ite_false, and_self, Classical.not_not, Bool.false_eq_true]
          exact ih ((N 5 0 0) - (j + 1)) (by omega) (j + 1)  rfl (by omega)  H locs ls (by rw [e9]; exact hP) (by rw [e9]; exact hD) hS (by exact lv_sub hl [2, 0] rfl)
        · refine lv_aload_n hx hb dX3_putOffHeldUpDuties_32 rfl (lv_at hl 0 rfl) ?_
          refine lv_dup hx hb dX3_putOffHeldUpDuties_33 rfl ?_
          obtain ⟨z_16, hz_16⟩ := pl_get (ad := ad) (f := cc cy e0 ad ((K_put S N j)) N) (hM8 j (by omega))
          rw [show cc cy e0 ad ((K_put S N j)) N (8, j) = .inr (2, [.ref (ad (0, N 3 j 0)), .ref (ad (9, N 3 j 1)), .int (((K_put S N j)) 9 j 0), .int (((K_put S N j)) 9 j 1)]) from rfl] at hz_16
          refine va_get (D := (dC, dI)) (ci := 2) (v := .int (((K_put S N j)) 9 j 1)) (C := RX1) (T := TX1) (N := 4) hx hb hts inX1_ hown hK hP z_16 hz_16 rfl 3 (by decide) lk2 (fun _ h9 => h9) rfl dX3_putOffHeldUpDuties_34 ?_
          refine lv_iconst (v := nI 1) hx hb dX3_putOffHeldUpDuties_37 (by decide) ?_
          refine lv_iadd hx hb dX3_putOffHeldUpDuties_38 ?_
          obtain ⟨z_17, hz_17⟩ := pl_get (ad := ad) (f := cc cy e0 ad ((K_put S N j)) N) (hM8 j (by omega))
          rw [show cc cy e0 ad ((K_put S N j)) N (8, j) = .inr (2, [.ref (ad (0, N 3 j 0)), .ref (ad (9, N 3 j 1)), .int (((K_put S N j)) 9 j 0), .int (((K_put S N j)) 9 j 1)]) from rfl] at hz_17
          have eW : (cw cy e0 ad L ((K_put S N j)) N).set z_17 (ad (8, j), .inr (2, [.ref (ad (0, N 3 j 0)), .ref (ad (9, N 3 j 1)), .int (((K_put S N j)) 9 j 0), .int ((((K_put S N j)) 9 j 1) + (nI 1))])) = cw cy e0 ad L (su ((K_put S N j)) 9 j (upd (((K_put S N j)) 9 j) 1 ((((K_put S N j)) 9 j 1) + (nI 1)))) N := st_8b ((((K_put S N j)) 9 j 1) + (nI 1)) hD hz_17 (hM8 j (by omega))
          refine va_put (D := (dC, dI)) (ci := 2) (v := .int ((((K_put S N j)) 9 j 1) + (nI 1))) (ty := .int) (C := RX1) (T := TX1) (N := 4) hx hb hts inX1_ tyX1 tyX1_ok nmX1 hown hK hP hD hS z_17 hz_17 rfl 3 (by decide) lk2 (fun _ h9 => h9) rfl (by decide +kernel) rfl rfl (Nat.le_of_ble_eq_true rfl) dX3_putOffHeldUpDuties_39 (fun H locs hP hD hS => ?_)
          have hP : va_P (dC, dI) vwCl (cw cy e0 ad L (su ((K_put S N j)) 9 j (upd (((K_put S N j)) 9 j) 1 ((((K_put S N j)) 9 j 1) + (nI 1)))) N) H := by rw [← eW]; exact hP
          have hD : va_D A (cw cy e0 ad L (su ((K_put S N j)) 9 j (upd (((K_put S N j)) 9 j) 1 ((((K_put S N j)) 9 j 1) + (nI 1)))) N) := by rw [← eW]; exact hD
          refine lv_iinc (v := nI (j + 1)) (lv' := [(1, .int (nI (j + 1))), (2, .ref (ad (8, j))), (0, .ref (ad (10, 0)))]) hx hb dX3_putOffHeldUpDuties_42 hl (k := 2) rfl (by rw [show Int32.ofInt 1 = 1 from rfl]; exact nI_1 _) (by decide) rfl (fun ls hl => ?_)
          refine lv_goto (tgt := 2) hx hb dX3_putOffHeldUpDuties_45 (by decide) ?_
          have e9 : K_put S N (j + 1) = su ((K_put S N j)) 9 j (upd (((K_put S N j)) 9 j) 1 ((((K_put S N j)) 9 j 1) + (nI 1))) := by simp only [K_put, eq_true c_15, and_true, true_and, and_false, false_and, if_true, if_false, not_true, not_false_iff, not_false_eq_true, or_true, true_or, or_false, false_or, ite_true, ite_false, and_self, Classical.not_not, Bool.false_eq_true]
          exact ih ((N 5 0 0) - (j + 1)) (by omega) (j + 1)  rfl (by omega)  H locs ls (by rw [e9]; exact hP) (by rw [e9]; exact hD) hS (by exact lv_sub hl [2, 0] rfl)
  exact hl_po ((N 5 0 0)) 0  rfl (Nat.zero_le _)  H locs ls hP hD hS (lv_sub hl [1, 0] rfl)

set_option maxHeartbeats 4000000 in
set_option maxRecDepth 100000 in
/-- breachUncured -/
theorem qX3_breachUncuredDuties (l : Launch) (dC : Nat → ClassId) (dI : Nat → Nat → Nat) (cy : Nat → ClassId) (e0 mi : Nat) (ad : Lc → Nat) (L : List Lc) (S : SS) (N : NN) (sz : Nat) (hI : okC L N) : Met l yX3_breachUncuredDuties wsX3_breachUncuredDuties ({ frames := 3, cells := 0, slots := 0, locals := 64 }) (va_Pc [.ref (ad (10, 0))] (wPre (dC, dI) (tyL cy) (cw cy e0 ad L S N) sz)) (QI (dC, dI) (tyL cy) (fun (r : Int32) (u : CS) => r = nI (K_bn S N (N 5 0 0)) ∧ u = (K_bS S N (N 5 0 0), N)) (cwU cy e0 ad L) (va_A (cw cy e0 ad L S N) sz)) 0 0 (va_A (cw cy e0 ad L S N) sz) := by
  refine en (cc := cX3_breachUncuredDuties) (maxL := 4) (ret := (some .int)) (own := RX3) (lv := [(0, .ref (ad (10, 0)))]) (by decide) rfl rfl (Nat.le_of_ble_eq_true rfl) rfl ?_
  intro p e s m below meth c ls A H locs hx hb hr hts hown hlocks hml hin hsz hK hP hD hS hA hl
  generalize hQQ : MQ below _ _ s _ _ A = QQ
  have hI0 := hI
  obtain ⟨⟨hM0, hM8, hM9, hMF, hM15, hM17⟩, hV, hLt, hO, hDu, hnc, hnd, hcC, hcD, hcC2, hcD2⟩ := hI
  have inX3_ : ∀ w ∈ wsX30, w ∈ wsX3_breachUncuredDuties := fun _ h => List.mem_cons_of_mem _ (List.mem_append_left _ (List.mem_append_left _ (List.mem_append_left _ (List.mem_append_left _ (List.mem_append_right _ h)))))
  have inX1_ : ∀ w ∈ wsX10, w ∈ wsX3_breachUncuredDuties := fun _ h => List.mem_cons_of_mem _ (List.mem_append_left _ (List.mem_append_left _ (List.mem_append_left _ (List.mem_append_right _ h))))
  have lk0 : (Cond.fieldLink RX3 29 "ClauseShop" "dutyList" "Ljava/util/ArrayList;").before (([.ref (ad (10, 0))] : List Value).toArray) s = true := hts _ (List.mem_of_getElem? (i := 1) rfl)
  have lk1 : (Cond.classLink RX3 152 "ClauseShop$Duty").before (([.ref (ad (10, 0))] : List Value).toArray) s = true := hts _ (List.mem_of_getElem? (i := 2) rfl)
  have lk2 : (Cond.fieldLink RX3 151 "ClauseShop$Duty" "state" "I").before (([.ref (ad (10, 0))] : List Value).toArray) s = true := hts _ (List.mem_of_getElem? (i := 3) rfl)
  have lk3 : (Cond.fieldLink RX3 32 "ClauseShop" "today" "I").before (([.ref (ad (10, 0))] : List Value).toArray) s = true := hts _ (List.mem_of_getElem? (i := 4) rfl)
  have lk4 : (Cond.fieldLink RX3 156 "ClauseShop$Duty" "day" "I").before (([.ref (ad (10, 0))] : List Value).toArray) s = true := hts _ (List.mem_of_getElem? (i := 5) rfl)
  refine lv_iconst (v := nI 0) hx hb dX3_breachUncuredDuties_0 (by decide) ?_
  refine lv_istore_n (lv' := [(1, .int (nI 0)), (0, .ref (ad (10, 0)))]) hx hb dX3_breachUncuredDuties_1 rfl hl (by decide) rfl (fun ls hl => ?_)
  refine lv_iconst (v := nI 0) hx hb dX3_breachUncuredDuties_2 (by decide) ?_
  refine lv_istore_n (lv' := [(2, .int (nI 0)), (1, .int (nI 0)), (0, .ref (ad (10, 0)))]) hx hb dX3_breachUncuredDuties_3 rfl hl (by decide) rfl (fun ls hl => ?_)
  have hl_br : ∀ (k9 j : Nat), (N 5 0 0) - j = k9 → j ≤ (N 5 0 0) → ∀ (H : Heap) (locs : List Loc) (ls : Array Slot), va_P (dC, dI) vwCl (cw cy e0 ad L ((K_bS S N j)) N) H → va_D A (cw cy e0 ad L ((K_bS S N j)) N) → va_S A s.heap H locs → lv_has ls 4 [(0, .ref (ad (10, 0))), (1, .int (nI (K_bn S N j))), (2, .int (nI j))] → W p l e ({ frames := 3, cells := 0, slots := 0, locals := 64 }) s m (([.ref (ad (10, 0))] : List Value).toArray) below meth c H locs 0 0 QQ (F0 m 4 ls []) := by
    intro k9
    induction k9 using Nat.strongRecOn with
    | _ k9 ih =>
      intro j  hk9 hle9  H locs ls hP hD hS hl
      refine lv_iload_n hx hb dX3_breachUncuredDuties_4 rfl (lv_at hl 2 rfl) ?_
      refine lv_aload_n hx hb dX3_breachUncuredDuties_5 rfl (lv_at hl 0 rfl) ?_
      obtain ⟨z_1, hz_1⟩ := pl_get (ad := ad) (f := cc cy e0 ad ((K_bS S N j)) N) (hMF 10 (by decide))
      rw [show cc cy e0 ad ((K_bS S N j)) N (10, 0) = .inr (4, [.ref (ad (11, 0)), .ref (ad (12, 0)), .ref (ad (13, 0)), .ref (ad (14, 0)), .ref (ad (16, 0)), .int (((K_bS S N j)) 0 0 0)]) from rfl] at hz_1
      refine va_get (D := (dC, dI)) (ci := 4) (v := .ref (ad (16, 0))) (C := RX3) (T := TX3) (N := 6) hx hb hts inX3_ hown hK hP z_1 hz_1 rfl 4 (by decide) lk0 (fun _ h9 => h9) rfl dX3_breachUncuredDuties_6 ?_
      obtain ⟨z_2, hz_2⟩ := pl_get (ad := ad) (f := cc cy e0 ad ((K_bS S N j)) N) (hMF 16 (by decide))
      rw [show cc cy e0 ad ((K_bS S N j)) N (16, 0) = .inr (0, [.int (((K_bS S N j)) 11 0 0), .ref (if N 7 0 0 = 0 then e0 else ad (17, 0)), .int (nI (N 5 0 0))]) from rfl] at hz_2
      refine call_i (va_runV (As := []) (rest := [.int (nI j)]) ⟨hx, hb, hml, hown, hts⟩ (qJx4a65c_size_8abf5 l dC dI cy e0 mi (cw cy e0 ad L ((K_bS S N j)) N) H.size _ z_2 (N 5 0 0) (((K_bS S N j)) 11 0 0) _ hz_2) (cwV 0 hts gX3_breachUncuredDuties_Jx4a65c_size_8abf5 rfl rfl rfl (by decide +kernel) ⟨Nat.le_of_ble_eq_true rfl, Nat.le_of_ble_eq_true rfl⟩) (preV hK hP hD (w_recv (ci := 0) (q0 := z_2) hK hP hz_2 rfl)) rfl rfl hl.1 rfl (lv_room (Nat.le_of_ble_eq_true rfl)) dX3_breachUncuredDuties_9 ⟨Nat.le_of_ble_eq_true rfl, Nat.le_of_ble_eq_true rfl⟩) hD hS hA (fun r_3 _ H locs w_4 hP hD hS => ?_)
      subst w_4
      have hP : va_P (dC, dI) vwCl (cw cy e0 ad L ((K_bS S N j)) N) H := hP
      have hD : va_D A (cw cy e0 ad L ((K_bS S N j)) N) := hD
      refine n_ge (tgt := 69) hx hb dX3_breachUncuredDuties_12 (by decide) (by omega) (by omega) (fun c_5 => ?_) (fun c_5 => ?_)
      · have ej9 : j = N 5 0 0 := by omega
        subst ej9
        refine lv_iload_n hx hb dX3_breachUncuredDuties_69 rfl (lv_at hl 1 rfl) ?_
        rw [← hQQ]; exact end_i (u := ((K_bS S N (N 5 0 0)), N)) hx hb hr hlocks dX3_breachUncuredDuties_70 hK hP hD hS ⟨rfl, rfl⟩ (Nat.le_of_ble_eq_true rfl) (Nat.le_of_ble_eq_true rfl)
      · have hj : j < N 5 0 0 := by omega
        obtain ⟨hdc, hdv⟩ := hDu j hj
        have hob := hO (N 3 j 1)
        refine lv_aload_n hx hb dX3_breachUncuredDuties_15 rfl (lv_at hl 0 rfl) ?_
        obtain ⟨z_6, hz_6⟩ := pl_get (ad := ad) (f := cc cy e0 ad ((K_bS S N j)) N) (hMF 10 (by decide))
        rw [show cc cy e0 ad ((K_bS S N j)) N (10, 0) = .inr (4, [.ref (ad (11, 0)), .ref (ad (12, 0)), .ref (ad (13, 0)), .ref (ad (14, 0)), .ref (ad (16, 0)), .int (((K_bS S N j)) 0 0 0)]) from rfl] at hz_6
        refine va_get (D := (dC, dI)) (ci := 4) (v := .ref (ad (16, 0))) (C := RX3) (T := TX3) (N := 6) hx hb hts inX3_ hown hK hP z_6 hz_6 rfl 4 (by decide) lk0 (fun _ h9 => h9) rfl dX3_breachUncuredDuties_16 ?_
        refine lv_iload_n hx hb dX3_breachUncuredDuties_19 rfl (lv_at hl 2 rfl) ?_
        obtain ⟨z_7, hz_7⟩ := pl_get (ad := ad) (f := cc cy e0 ad ((K_bS S N j)) N) (hMF 16 (by decide))
        rw [show cc cy e0 ad ((K_bS S N j)) N (16, 0) = .inr (0, [.int (((K_bS S N j)) 11 0 0), .ref (if N 7 0 0 = 0 then e0 else ad (17, 0)), .int (nI (N 5 0 0))]) from rfl] at hz_7
        obtain ⟨z_8, hz_8⟩ := pl_get (ad := ad) (f := cc cy e0 ad ((K_bS S N j)) N) (hM17 (by omega))
        rw [show cc cy e0 ad ((K_bS S N j)) N (17, 0) = .inl (cy 3, N 7 0 0, .inr (.inr (.inr (.inr (fun j => if j < N 5 0 0 then some (ad (8, j)) else none))))) from rfl] at hz_8
        rw [if_neg (show ¬ N 7 0 0 = 0 by omega)] at hz_7
        refine call_r (va_runV (As := [.int (nI j)]) (rest := []) ⟨hx, hb, hml, hown, hts⟩ (qJx4a65c_get_915e3 l dC dI cy e0 mi (cw cy e0 ad L ((K_bS S N j)) N) H.size _ _ z_7 z_8 (N 5 0 0) (N 7 0 0) j (ad (8, j)) _ _ hz_7 hz_8 (by omega) (by omega) (if_pos (by omega)) (by omega) (by omega)) (cwV 1 hts gX3_breachUncuredDuties_Jx4a65c_get_915e3 rfl rfl rfl (by decide +kernel) ⟨Nat.le_of_ble_eq_true rfl, Nat.le_of_ble_eq_true rfl⟩) (preV hK hP hD (w_recv (ci := 0) (q0 := z_7) hK hP hz_7 rfl)) rfl rfl hl.1 rfl (lv_room (Nat.le_of_ble_eq_true rfl)) dX3_breachUncuredDuties_20 ⟨Nat.le_of_ble_eq_true rfl, Nat.le_of_ble_eq_true rfl⟩) hD hS hA (fun r_9 _ H locs w_10 hP hD hS => ?_)
        subst w_10
        have hP : va_P (dC, dI) vwCl (cw cy e0 ad L ((K_bS S N j)) N) H := hP
        have hD : va_D A (cw cy e0 ad L ((K_bS S N j)) N) := hD
        obtain ⟨z_11, hz_11⟩ := pl_get (ad := ad) (f := cc cy e0 ad ((K_bS S N j)) N) (hM8 j (by omega))
        rw [show cc cy e0 ad ((K_bS S N j)) N (8, j) = .inr (2, [.ref (ad (0, N 3 j 0)), .ref (ad (9, N 3 j 1)), .int (((K_bS S N j)) 9 j 0), .int (((K_bS S N j)) 9 j 1)]) from rfl] at hz_11
        refine va_castS (nm := RX1) hx hb hown lk1 (hK.1 2 _ rfl).2 (w_recv (ci := 2) (q0 := z_11) hK hP hz_11 rfl) dX3_breachUncuredDuties_23 ?_
        refine lv_astore_n (lv' := [(3, .ref (ad (8, j))), (0, .ref (ad (10, 0))), (1, .int (nI (K_bn S N j))), (2, .int (nI j))]) hx hb dX3_breachUncuredDuties_26 rfl hl (by decide) rfl (fun ls hl => ?_)
        refine lv_aload_n hx hb dX3_breachUncuredDuties_27 rfl (lv_at hl 0 rfl) ?_
        obtain ⟨z_12, hz_12⟩ := pl_get (ad := ad) (f := cc cy e0 ad ((K_bS S N j)) N) (hM8 j (by omega))
        rw [show cc cy e0 ad ((K_bS S N j)) N (8, j) = .inr (2, [.ref (ad (0, N 3 j 0)), .ref (ad (9, N 3 j 1)), .int (((K_bS S N j)) 9 j 0), .int (((K_bS S N j)) 9 j 1)]) from rfl] at hz_12
        refine va_get (D := (dC, dI)) (ci := 2) (v := .int (((K_bS S N j)) 9 j 0)) (C := RX1) (T := TX1) (N := 4) hx hb hts inX1_ hown hK hP z_12 hz_12 rfl 2 (by decide) lk2 (fun _ h9 => h9) rfl dX3_breachUncuredDuties_28 ?_
        refine lv_iconst (v := nI 2) hx hb dX3_breachUncuredDuties_31 (by decide) ?_
        refine lv_icmp_ne (tgt := 63) hx hb dX3_breachUncuredDuties_32 (by decide) (fun c_13 => ?_) (fun c_13 => ?_)
        · refine lv_iinc (v := nI (j + 1)) (lv' := [(2, .int (nI (j + 1))), (3, .ref (ad (8, j))), (0, .ref (ad (10, 0))), (1, .int (nI (K_bn S N j)))]) hx hb dX3_breachUncuredDuties_63 hl (k := 3) rfl (by rw [show Int32.ofInt 1 = 1 from rfl]; exact nI_1 _) (by decide) rfl (fun ls hl => ?_)
          refine lv_goto (tgt := 4) hx hb dX3_breachUncuredDuties_66 (by decide) ?_
          have e9 : K_bS S N (j + 1) = (K_bS S N j) := by simp only [K_bS, isLateN, c_13, and_true, true_and, and_false, false_and, if_true, if_false, not_true, not_false_iff, not_false_eq_true, or_true, true_or, or_false, false_or, ite_true, ite_false, and_self, Classical.not_not, Bool.false_eq_true]
          have e8 : K_bn S N (j + 1) = K_bn S N j := by simp only [K_bn, isLateN, c_13, and_true, true_and, and_false, false_and, if_true, if_false, not_true, not_false_iff, not_false_eq_true, or_true, true_or, or_false, false_or, ite_true, ite_false, and_self, Classical.not_not, Bool.false_eq_true]
          exact ih ((N 5 0 0) - (j + 1)) (by omega) (j + 1)  rfl (by omega)  H locs ls (by rw [e9]; exact hP) (by rw [e9]; exact hD) hS (by rw [e8]; exact lv_sub hl [2, 3, 0] rfl)
        · refine lv_aload_n hx hb dX3_breachUncuredDuties_35 rfl (lv_at hl 1 rfl) ?_
          obtain ⟨z_14, hz_14⟩ := pl_get (ad := ad) (f := cc cy e0 ad ((K_bS S N j)) N) (hMF 10 (by decide))
          rw [show cc cy e0 ad ((K_bS S N j)) N (10, 0) = .inr (4, [.ref (ad (11, 0)), .ref (ad (12, 0)), .ref (ad (13, 0)), .ref (ad (14, 0)), .ref (ad (16, 0)), .int (((K_bS S N j)) 0 0 0)]) from rfl] at hz_14
          refine va_get (D := (dC, dI)) (ci := 4) (v := .int (((K_bS S N j)) 0 0 0)) (C := RX3) (T := TX3) (N := 6) hx hb hts inX3_ hown hK hP z_14 hz_14 rfl 5 (by decide) lk3 (fun _ h9 => h9) rfl dX3_breachUncuredDuties_36 ?_
          refine lv_aload_n hx hb dX3_breachUncuredDuties_39 rfl (lv_at hl 0 rfl) ?_
          obtain ⟨z_15, hz_15⟩ := pl_get (ad := ad) (f := cc cy e0 ad ((K_bS S N j)) N) (hM8 j (by omega))
          rw [show cc cy e0 ad ((K_bS S N j)) N (8, j) = .inr (2, [.ref (ad (0, N 3 j 0)), .ref (ad (9, N 3 j 1)), .int (((K_bS S N j)) 9 j 0), .int (((K_bS S N j)) 9 j 1)]) from rfl] at hz_15
          refine va_get (D := (dC, dI)) (ci := 2) (v := .int (((K_bS S N j)) 9 j 1)) (C := RX1) (T := TX1) (N := 4) hx hb hts inX1_ hown hK hP z_15 hz_15 rfl 3 (by decide) lk4 (fun _ h9 => h9) rfl dX3_breachUncuredDuties_40 ?_
          refine lv_icmp_le (tgt := 63) hx hb dX3_breachUncuredDuties_43 (by decide) (fun c_16 => ?_) (fun c_16 => ?_)
          · have c_16l : ¬ (K_bS S N j) 9 j 1 < (K_bS S N j) 0 0 0 := Int32.not_lt.mpr c_16
            refine lv_iinc (v := nI (j + 1)) (lv' := [(2, .int (nI (j + 1))), (3, .ref (ad (8, j))), (0, .ref (ad (10, 0))), (1, .int (nI (K_bn S N j)))]) hx hb dX3_breachUncuredDuties_63 hl (k := 3) rfl (by rw [show Int32.ofInt 1 = 1 from rfl]; exact nI_1 _) (by decide) rfl (fun ls hl => ?_)
            refine lv_goto (tgt := 4) hx hb dX3_breachUncuredDuties_66 (by decide) ?_
            have e9 : K_bS S N (j + 1) = (K_bS S N j) := by simp only [K_bS, isLateN, eq_true c_13, c_16l, and_true, true_and, and_false, false_and, if_true, if_false, not_true, not_false_iff, not_false_eq_true, or_true, true_or, or_false, false_or, ite_true, ite_false, and_self, Classical.not_not, Bool.false_eq_true]
            have e8 : K_bn S N (j + 1) = K_bn S N j := by simp only [K_bn, isLateN, eq_true c_13, c_16l, and_true, true_and, and_false, false_and, if_true, if_false, not_true, not_false_iff, not_false_eq_true, or_true, true_or, or_false, false_or, ite_true, ite_false, and_self, Classical.not_not, Bool.false_eq_true]
            exact ih ((N 5 0 0) - (j + 1)) (by omega) (j + 1)  rfl (by omega)  H locs ls (by rw [e9]; exact hP) (by rw [e9]; exact hD) hS (by rw [e8]; exact lv_sub hl [2, 3, 0] rfl)
          · have c_16l : (K_bS S N j) 9 j 1 < (K_bS S N j) 0 0 0 := Int32.not_le.mp c_16
            refine lv_aload_n hx hb dX3_breachUncuredDuties_46 rfl (lv_at hl 0 rfl) ?_
            refine lv_iconst (v := nI 3) hx hb dX3_breachUncuredDuties_47 (by decide) ?_
            refine lv_aload_n hx hb dX3_breachUncuredDuties_48 rfl (lv_at hl 1 rfl) ?_
            obtain ⟨z_17, hz_17⟩ := pl_get (ad := ad) (f := cc cy e0 ad ((K_bS S N j)) N) (hMF 10 (by decide))
            rw [show cc cy e0 ad ((K_bS S N j)) N (10, 0) = .inr (4, [.ref (ad (11, 0)), .ref (ad (12, 0)), .ref (ad (13, 0)), .ref (ad (14, 0)), .ref (ad (16, 0)), .int (((K_bS S N j)) 0 0 0)]) from rfl] at hz_17
            refine va_get (D := (dC, dI)) (ci := 4) (v := .int (((K_bS S N j)) 0 0 0)) (C := RX3) (T := TX3) (N := 6) hx hb hts inX3_ hown hK hP z_17 hz_17 rfl 5 (by decide) lk3 (fun _ h9 => h9) rfl dX3_breachUncuredDuties_49 ?_
            obtain ⟨z_18, hz_18⟩ := pl_get (ad := ad) (f := cc cy e0 ad ((K_bS S N j)) N) (hM8 j (by omega))
            rw [show cc cy e0 ad ((K_bS S N j)) N (8, j) = .inr (2, [.ref (ad (0, N 3 j 0)), .ref (ad (9, N 3 j 1)), .int (((K_bS S N j)) 9 j 0), .int (((K_bS S N j)) 9 j 1)]) from rfl] at hz_18
            refine call_v (va_runV (As := [.int (nI 3), .int (((K_bS S N j)) 0 0 0)]) (rest := []) ⟨hx, hb, hml, hown, hts⟩ (qX1_move l dC dI cy e0 mi ad L ((K_bS S N j)) N H.size j (nI 3) (((K_bS S N j)) 0 0 0) hI0 hj) (cwV 2 hts gX3_breachUncuredDuties_X1_move rfl rfl rfl (by decide +kernel) ⟨Nat.le_of_ble_eq_true rfl, Nat.le_of_ble_eq_true rfl⟩) (preV hK hP hD (w_recv (ci := 2) (q0 := z_18) hK hP hz_18 rfl)) rfl rfl hl.1 rfl (lv_room (Nat.le_of_ble_eq_true rfl)) dX3_breachUncuredDuties_52 ⟨Nat.le_of_ble_eq_true rfl, Nat.le_of_ble_eq_true rfl⟩) hD hS hA (fun u H locs w_20 hP hD hS => ?_)
            subst w_20
            have hP : va_P (dC, dI) vwCl (cw cy e0 ad L (su ((K_bS S N j)) 9 j (upd (upd (((K_bS S N j)) 9 j) 0 (nI 3)) 1 (((K_bS S N j)) 0 0 0))) N) H := hP
            have hD : va_D A (cw cy e0 ad L (su ((K_bS S N j)) 9 j (upd (upd (((K_bS S N j)) 9 j) 0 (nI 3)) 1 (((K_bS S N j)) 0 0 0))) N) := hD
            refine lv_aload_n hx hb dX3_breachUncuredDuties_55 rfl (lv_at hl 0 rfl) ?_
            refine lv_iconst (v := nI 1) hx hb dX3_breachUncuredDuties_56 (by decide) ?_
            obtain ⟨z_21, hz_21⟩ := pl_get (ad := ad) (f := cc cy e0 ad (su ((K_bS S N j)) 9 j (upd (upd (((K_bS S N j)) 9 j) 0 (nI 3)) 1 (((K_bS S N j)) 0 0 0))) N) (hM8 j (by omega))
            rw [show cc cy e0 ad (su ((K_bS S N j)) 9 j (upd (upd (((K_bS S N j)) 9 j) 0 (nI 3)) 1 (((K_bS S N j)) 0 0 0))) N (8, j) = .inr (2, [.ref (ad (0, N 3 j 0)), .ref (ad (9, N 3 j 1)), .int (nI 3), .int (((K_bS S N j)) 0 0 0)]) from by first | rfl | simp [cc, su, nu, upd]] at hz_21
            refine call_v (va_runV (As := [.int (nI 1)]) (rest := []) ⟨hx, hb, hml, hown, hts⟩ (qX1_countBreach l dC dI cy e0 mi ad L (su ((K_bS S N j)) 9 j (upd (upd (((K_bS S N j)) 9 j) 0 (nI 3)) 1 (((K_bS S N j)) 0 0 0))) N H.size j (nI 1) hI0 hj) (cwV 1 hts gX3_breachUncuredDuties_X1_countBreach rfl rfl rfl (by decide +kernel) ⟨Nat.le_of_ble_eq_true rfl, Nat.le_of_ble_eq_true rfl⟩) (preV hK hP hD (w_recv (ci := 2) (q0 := z_21) hK hP hz_21 rfl)) rfl rfl hl.1 rfl (lv_room (Nat.le_of_ble_eq_true rfl)) dX3_breachUncuredDuties_57 ⟨Nat.le_of_ble_eq_true rfl, Nat.le_of_ble_eq_true rfl⟩) hD hS hA (fun u H locs w_23 hP hD hS => ?_)
            subst w_23
            have hP : va_P (dC, dI) vwCl (cw cy e0 ad L ((K_count (su ((K_bS S N j)) 9 j (upd (upd (((K_bS S N j)) 9 j) 0 (nI 3)) 1 (((K_bS S N j)) 0 0 0))) N j (nI 1))) N) H := hP
            have hD : va_D A (cw cy e0 ad L ((K_count (su ((K_bS S N j)) 9 j (upd (upd (((K_bS S N j)) 9 j) 0 (nI 3)) 1 (((K_bS S N j)) 0 0 0))) N j (nI 1))) N) := hD
            refine lv_iinc (v := nI (K_bn S N j + 1)) (lv' := [(1, .int (nI (K_bn S N j + 1))), (3, .ref (ad (8, j))), (0, .ref (ad (10, 0))), (2, .int (nI j))]) hx hb dX3_breachUncuredDuties_60 hl (k := 2) rfl (by rw [show Int32.ofInt 1 = 1 from rfl]; exact nI_1 _) (by decide) rfl (fun ls hl => ?_)
            refine lv_iinc (v := nI (j + 1)) (lv' := [(2, .int (nI (j + 1))), (1, .int (nI (K_bn S N j + 1))), (3, .ref (ad (8, j))), (0, .ref (ad (10, 0)))]) hx hb dX3_breachUncuredDuties_63 hl (k := 3) rfl (by rw [show Int32.ofInt 1 = 1 from rfl]; exact nI_1 _) (by decide) rfl (fun ls hl => ?_)
            refine lv_goto (tgt := 4) hx hb dX3_breachUncuredDuties_66 (by decide) ?_
            have e9 : K_bS S N (j + 1) = (K_count (su ((K_bS S N j)) 9 j (upd (upd (((K_bS S N j)) 9 j) 0 (nI 3)) 1 (((K_bS S N j)) 0 0 0))) N j (nI 1)) := by simp only [K_bS, isLateN, eq_true c_13, eq_true c_16l, and_true, true_and, and_false, false_and, if_true, if_false, not_true, not_false_iff, not_false_eq_true, or_true, true_or, or_false, false_or, ite_true, ite_false, and_self, Classical.not_not, Bool.false_eq_true]
            have e8 : K_bn S N (j + 1) = K_bn S N j + 1 := by simp only [K_bn, isLateN, eq_true c_13, eq_true c_16l, and_true, true_and, and_false, false_and, if_true, if_false, not_true, not_false_iff, not_false_eq_true, or_true, true_or, or_false, false_or, ite_true, ite_false, and_self, Classical.not_not, Bool.false_eq_true]
            exact ih ((N 5 0 0) - (j + 1)) (by omega) (j + 1)  rfl (by omega)  H locs ls (by rw [e9]; exact hP) (by rw [e9]; exact hD) hS (by rw [e8]; exact lv_sub hl [3, 1, 0] rfl)
  exact hl_br ((N 5 0 0)) 0  rfl (Nat.zero_le _)  H locs ls hP hD hS (lv_sub hl [2, 1, 0] rfl)

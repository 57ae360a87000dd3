/-- the duties of a contract, clause by clause -/
def stepD (i c : Nat) (u : CS) : CS := if u.2 2 i c = 0 then u else (S_dut u.1 (u.2 5 0 0) (u.1 0 0 0 + u.1 3 (9 * c + u.2 2 i c - 1) 1), N_dut u.2 i (9 * c + u.2 2 i c - 1))
def K_mkD (S : SS) (N : NN) (i : Nat) : Nat → CS
  | 0 => (S, N)
  | c + 1 => stepD i c (K_mkD S N i c)
def K_made (S : SS) (N : NN) (i : Nat) : Nat → Nat
  | 0 => 0
  | c + 1 => if (K_mkD S N i c).2 2 i c = 0 then K_made S N i c else K_made S N i c + 1
theorem stepD_0 (i c : Nat) (u : CS) : (stepD i c u).2 0 0 0 = u.2 0 0 0 := by
  unfold stepD
  split <;> rfl
theorem stepD_5 (i c : Nat) (u : CS) : (stepD i c u).2 5 0 0 ≤ u.2 5 0 0 + 1 := by
  unfold stepD
  split
  · exact Nat.le_succ _
  · exact Nat.le_refl _
theorem mkD_0 (S : SS) (N : NN) (i : Nat) : ∀ c, (K_mkD S N i c).2 0 0 0 = N 0 0 0
  | 0 => rfl
  | c + 1 => (stepD_0 i c _).trans (mkD_0 S N i c)
theorem mkD_5 (S : SS) (N : NN) (i : Nat) : ∀ c, (K_mkD S N i c).2 5 0 0 ≤ N 5 0 0 + c
  | 0 => Nat.le_refl _
  | c + 1 => Nat.le_trans (stepD_5 i c _) (Nat.succ_le_succ (mkD_5 S N i c))

set_option maxHeartbeats 4000000 in
set_option maxRecDepth 100000 in
/-- makeDuties -/
theorem qX3_makeDuties (l : Launch) (dC : Nat → ClassId) (dI : Nat → Nat → Nat) (cy : Nat → ClassId) (e0 mi : Nat) (ad : Lc → Nat) (L : List Lc) (S : SS) (N : NN) (sz : Nat) (i : Nat) (hI : okC L N) (hX : okX L N) (hi : i < N 0 0 0) (hn9 : N 5 0 0 + 10 ≤ 100) : Met l yX3_makeDuties wsX3_makeDuties ({ frames := 8, cells := 20, slots := 4040, locals := 211 }) (va_Pc [.ref (ad (10, 0)), .ref (ad (0, i))] (wPreX (dC, dI) (tyL cy) e0 mi (cw cy e0 ad L S N) sz)) (QI (dC, dI) (tyL cy) (fun (r : Int32) (u : CT) => r = nI (K_made S N i 10) ∧ u.2.2 = K_mkD S N i 10 ∧ okU u ∧ u.1 (10, 0) = ad (10, 0)) (cwT cy e0) (va_A (cw cy e0 ad L S N) sz)) 20 4040 (va_A (cw cy e0 ad L S N) sz) := by
  refine enA (cc := cX3_makeDuties) (maxL := 5) (ret := (some .int)) (own := RX3) (lv := [(0, .ref (ad (10, 0))), (1, .ref (ad (0, i)))]) (by decide) rfl rfl (Nat.le_of_ble_eq_true rfl) rfl ?_
  intro p e s m below meth c ls A H locs hx hb hr hts hown hlocks hml hin hsz hK hP hD hS hA hl ham
  generalize hQQ : MQ below _ _ s _ _ A = QQ
  have hI0 := hI
  obtain ⟨⟨hM0, hM8, hM9, hMF, hM15, hM17⟩, hV, hLt, hO, hDu, hnc, hnd, hcC, hcD, hcC2, hcD2⟩ := hI
  have inX0_ : ∀ w ∈ wsX00, w ∈ wsX3_makeDuties := fun _ h => List.mem_cons_of_mem _ (List.mem_append_left _ (List.mem_append_left _ (List.mem_append_left _ (List.mem_append_left _ (List.mem_append_right _ h)))))
  have inX3_ : ∀ w ∈ wsX30, w ∈ wsX3_makeDuties := fun _ h => List.mem_cons_of_mem _ (List.mem_append_left _ (List.mem_append_left _ (List.mem_append_left _ (List.mem_append_right _ h))))
  have inX1_ : ∀ w ∈ wsX10, w ∈ wsX3_makeDuties := fun _ h => List.mem_cons_of_mem _ (List.mem_append_left _ (List.mem_append_left _ (List.mem_append_right _ h)))
  have inX2_ : ∀ w ∈ wsX20, w ∈ wsX3_makeDuties := fun _ h => List.mem_cons_of_mem _ (List.mem_append_left _ (List.mem_append_right _ h))
  have lk0 : (Cond.fieldLink RX3 93 "ClauseShop$Contract" "items" "[LClauseShop$Version;").before (([.ref (ad (10, 0)), .ref (ad (0, i))] : List Value).toArray) s = true := hts _ (List.mem_of_getElem? (i := 1) rfl)
  have lk1 : (Cond.fieldLink RX3 29 "ClauseShop" "dutyList" "Ljava/util/ArrayList;").before (([.ref (ad (10, 0)), .ref (ad (0, i))] : List Value).toArray) s = true := hts _ (List.mem_of_getElem? (i := 2) rfl)
  have lk2 : (Cond.classLink RX3 152 RX1).before (([.ref (ad (10, 0)), .ref (ad (0, i))] : List Value).toArray) s = true := hts _ (List.mem_of_getElem? (i := 3) rfl)
  have lk3 : (Cond.instantiable RX1 4).before (([.ref (ad (10, 0)), .ref (ad (0, i))] : List Value).toArray) s = true := hts _ (List.mem_of_getElem? (i := 4) rfl)
  have lk4 : (Cond.initialized RX1).before (([.ref (ad (10, 0)), .ref (ad (0, i))] : List Value).toArray) s = true := hts _ (List.mem_of_getElem? (i := 5) rfl)
  have lk5 : (Cond.fieldLink RX3 32 "ClauseShop" "today" "I").before (([.ref (ad (10, 0)), .ref (ad (0, i))] : List Value).toArray) s = true := hts _ (List.mem_of_getElem? (i := 6) rfl)
  have lk6 : (Cond.fieldLink RX3 232 "ClauseShop$Version" "days" "I").before (([.ref (ad (10, 0)), .ref (ad (0, i))] : List Value).toArray) s = true := hts _ (List.mem_of_getElem? (i := 7) rfl)
  have lk7 : (Cond.instanceMethod yX1_init).before (([.ref (ad (10, 0)), .ref (ad (0, i))] : List Value).toArray) s = true := hts _ (List.mem_of_getElem? (i := 9) rfl)
  have lk8 : (Cond.methodLink RX3 235 yX1_init).before (([.ref (ad (10, 0)), .ref (ad (0, i))] : List Value).toArray) s = true := hts _ (List.mem_of_getElem? (i := 8) rfl)
  refine lv_iconst (v := nI 0) hx hb dX3_makeDuties_0 (by decide) ?_
  refine lv_istore_n (lv' := [(2, .int (nI 0)), (0, .ref (ad (10, 0))), (1, .ref (ad (0, i)))]) hx hb dX3_makeDuties_1 rfl hl (by decide) rfl (fun ls hl => ?_)
  refine lv_iconst (v := nI 0) hx hb dX3_makeDuties_2 (by decide) ?_
  refine lv_istore_n (lv' := [(3, .int (nI 0)), (2, .int (nI 0)), (0, .ref (ad (10, 0))), (1, .ref (ad (0, i)))]) hx hb dX3_makeDuties_3 rfl hl (by decide) rfl (fun ls hl => ?_)
  have hi' : ∀ c, i < (K_mkD S N i c).2 0 0 0 := fun c => by rw [mkD_0]; exact hi
  have hn5' : ∀ c, c ≤ 10 → (K_mkD S N i c).2 5 0 0 + (10 - c) ≤ 100 := fun c h => by have := mkD_5 S N i c; omega
  have hl_mk : ∀ (k9 j : Nat) (ad9 : Lc → Nat) (L9 : List Lc) (S9 : SS) (N9 : NN) (md : Nat), 10 - j = k9 → j ≤ 10 → (S9, N9) = K_mkD S N i j → md = K_made S N i j → okC L9 N9 → okX L9 N9 → ad9 (10, 0) = ad (10, 0) → ∀ (H : Heap) (locs : List Loc) (ls : Array Slot), va_P (dC, dI) vwCl (cw cy e0 ad9 L9 S9 N9) H → va_D A (cw cy e0 ad9 L9 S9 N9) → va_S A s.heap H locs → lv_has ls 5 [(3, .int (nI j)), (2, .int (nI md)), (0, .ref (ad9 (10, 0))), (1, .ref (ad9 (0, i)))] → W p l e ({ frames := 8, cells := 20, slots := 4040, locals := 211 }) s m (([.ref (ad (10, 0)), .ref (ad (0, i))] : List Value).toArray) below meth c H locs (2 * j) (404 * j) QQ (F0 m 4 ls []) := by
    intro k9
    induction k9 using Nat.strongRecOn with
    | _ k9 ih =>
      intro j ad L S N md hk9 hle9 hU hmd hI hX hAd H locs ls hP hD hS hl
      have hi : i < N 0 0 0 := by have h := hi' j; rw [← hU] at h; exact h
      have hn5 : N 5 0 0 + (10 - j) ≤ 100 := by have h := hn5' j hle9; rw [← hU] at h; exact h
      have hI0 := hI
      obtain ⟨⟨hM0, hM8, hM9, hMF, hM15, hM17⟩, hV, hLt, hO, hDu, hnc, hnd, hcC, hcD, hcC2, hcD2⟩ := hI
      refine lv_iload_n hx hb dX3_makeDuties_4 rfl (lv_at hl 0 rfl) ?_
      refine lv_bipush (v := nI 10) hx hb dX3_makeDuties_5 (by decide) ?_
      refine n_ge (tgt := 60) hx hb dX3_makeDuties_7 (by decide) (by omega) (by omega) (fun c_1 => ?_) (fun c_1 => ?_)
      · have ej : j = 10 := by omega
        subst ej
        refine lv_iload_n hx hb dX3_makeDuties_60 rfl (lv_at hl 1 rfl) ?_
        rw [← hQQ]; exact end_i (u := (ad, L, S, N)) hx hb hr hlocks dX3_makeDuties_61 hK hP hD hS ⟨by rw [hmd], hU, ⟨hI0, hX⟩, hAd⟩ (by omega) (by omega)
      · have hj10 : j < 10 := by omega
        have hVc := hV i j hi hj10
        have hLc := hLt j hj10
        refine lv_aload_n hx hb dX3_makeDuties_10 rfl (lv_at hl 3 rfl) ?_
        obtain ⟨z_2, hz_2⟩ := pl_get (ad := ad) (f := cc cy e0 ad S N) (hM0 0 i (by decide) (by omega))
        rw [show cc cy e0 ad S N (0, i) = .inr (1, [.ref (ad (1, i)), .ref (ad (2, i)), .ref (ad (5, i)), .ref (ad (6, i)), .ref (ad (7, i))]) from rfl] at hz_2
        refine va_get (D := (dC, dI)) (ci := 1) (v := .ref (ad (1, i))) (C := RX0) (T := TX0) (N := 5) hx hb hts inX0_ hown hK hP z_2 hz_2 rfl 0 (by decide) lk0 (fun _ h9 => h9) rfl dX3_makeDuties_11 ?_
        refine lv_iload_n hx hb dX3_makeDuties_14 rfl (lv_at hl 0 rfl) ?_
        obtain ⟨z_3, hz_3⟩ := pl_get (ad := ad) (f := cc cy e0 ad S N) (hM0 1 i (by decide) (by omega))
        rw [show cc cy e0 ad S N (1, i) = .inl (cy 2, 10, .inr (.inr (.inr (.inr (fun d => vpt ad ((N 2 i) d) d))))) from rfl] at hz_3
        refine x_aald hx hb hK hP z_3 2 hz_3 rfl (t := j) (by omega) (by decide) dX3_makeDuties_15 ?_
        by_cases c_4 : N 2 i j = 0
        · refine to_v (y := .null) (vpt_z c_4) ?_
          refine lv_astoreN (lv' := [(4, .null), (3, .int (nI j)), (2, .int (nI md)), (0, .ref (ad (10, 0))), (1, .ref (ad (0, i)))]) hx hb dX3_makeDuties_16 hl (by decide) rfl (fun ls hl => ?_)
          refine lv_aloadN hx hb dX3_makeDuties_18 (lv_at hl 0 rfl) ?_
          refine lv_ifnullN (tgt := 54) hx hb dX3_makeDuties_20 (by decide) ?_
          refine lv_iinc (v := nI (j + 1)) (lv' := [(3, .int (nI (j + 1))), (4, .null), (2, .int (nI md)), (0, .ref (ad (10, 0))), (1, .ref (ad (0, i)))]) hx hb dX3_makeDuties_54 hl (k := 1) rfl (by rw [show Int32.ofInt 1 = 1 from rfl]; exact nI_1 _) (by decide) rfl (fun ls hl => ?_)
          refine lv_goto (tgt := 4) hx hb dX3_makeDuties_57 (by decide) ?_
          refine W.widen (k := 2 * (j + 1)) (n := 404 * (j + 1)) (by omega) (by omega) ?_
          exact ih (10 - (j + 1)) (by omega) (j + 1) ad L S N md rfl (by omega) (by show _ = stepD i j _; rw [← hU]; exact (if_pos c_4).symm) (by show _ = if _ then _ else _; rw [← hU, if_pos c_4]; exact hmd) hI0 hX hAd H locs ls hP hD hS (lv_sub hl [0, 2, 3, 4] rfl)
        · refine to_v (y := .ref (ad (9, 9 * j + N 2 i j - 1))) (vpt_s c_4) ?_
          refine lv_astore (lv' := [(4, .ref (ad (9, 9 * j + N 2 i j - 1))), (3, .int (nI j)), (2, .int (nI md)), (0, .ref (ad (10, 0))), (1, .ref (ad (0, i)))]) hx hb dX3_makeDuties_16 hl (by decide) rfl (fun ls hl => ?_)
          refine lv_aload hx hb dX3_makeDuties_18 (lv_at hl 0 rfl) ?_
          refine lv_ifnull hx hb dX3_makeDuties_20 ?_
          have hmv : (9, 9 * j + N 2 i j - 1) ∈ L := mem9 hM9 hj10 c_4 hVc
          refine lv_aload_n hx hb dX3_makeDuties_23 rfl (lv_at hl 3 rfl) ?_
          obtain ⟨z_5, hz_5⟩ := pl_get (ad := ad) (f := cc cy e0 ad S N) (hMF 10 (by decide))
          rw [show cc cy e0 ad S N (10, 0) = .inr (4, [.ref (ad (11, 0)), .ref (ad (12, 0)), .ref (ad (13, 0)), .ref (ad (14, 0)), .ref (ad (16, 0)), .int (S 0 0 0)]) from rfl] at hz_5
          refine va_get (D := (dC, dI)) (ci := 4) (v := .ref (ad (16, 0))) (C := RX3) (T := TX3) (N := 6) hx hb hts inX3_ hown hK hP z_5 hz_5 rfl 4 (by decide) lk1 (fun _ h9 => h9) rfl dX3_makeDuties_24 ?_
          have hD0 := hD
          refine va_new (D := (dC, dI)) (ci := 2) (C := RX1) (T := TX1) (N := 4) (fs := [.null, .null, .int 0, .int 0]) hx hb hts inX1_ tyX1 tyX1_ok hown lk2 lk3 lk4 hK hP hD hS hA rfl (by decide +kernel) (by show _ ≤ 20; omega) (by show _ ≤ 4040; omega) dX3_makeDuties_27 (fun q9 H hP hD hS => ?_)
          have hP : va_P (dC, dI) vwCl ((cw cy e0 ad L S N) ++ [(q9, .inr (2, [.null, .null, .int 0, .int 0]))]) H := hP
          have hD : va_D A ((cw cy e0 ad L S N) ++ [(q9, .inr (2, [.null, .null, .int 0, .int 0]))]) := hD
          refine lv_dup hx hb dX3_makeDuties_30 rfl ?_
          refine lv_aload_n hx hb dX3_makeDuties_31 rfl (lv_at hl 4 rfl) ?_
          refine lv_aload hx hb dX3_makeDuties_32 (lv_at hl 0 rfl) ?_
          refine lv_aload_n hx hb dX3_makeDuties_34 rfl (lv_at hl 3 rfl) ?_
          obtain ⟨z_6, hz_6⟩ := pl_get (ad := ad) (f := cc cy e0 ad S N) (hMF 10 (by decide))
          rw [show cc cy e0 ad S N (10, 0) = .inr (4, [.ref (ad (11, 0)), .ref (ad (12, 0)), .ref (ad (13, 0)), .ref (ad (14, 0)), .ref (ad (16, 0)), .int (S 0 0 0)]) from rfl] at hz_6
          refine va_get (D := (dC, dI)) (ci := 4) (v := .int (S 0 0 0)) (C := RX3) (T := TX3) (N := 6) hx hb hts inX3_ hown hK hP z_6 (app_at hz_6) rfl 5 (by decide) lk5 (fun _ h9 => h9) rfl dX3_makeDuties_35 ?_
          refine lv_aload hx hb dX3_makeDuties_38 (lv_at hl 0 rfl) ?_
          obtain ⟨z_7, hz_7⟩ := pl_get (ad := ad) (f := cc cy e0 ad S N) (hmv)
          rw [show cc cy e0 ad S N (9, 9 * j + N 2 i j - 1) = .inr (3, [.int (nI ((9 * j + N 2 i j - 1) % 9 + 1)), .int (nI (N 4 (9 * j + N 2 i j - 1) 0)), .int (S 3 (9 * j + N 2 i j - 1) 1), .int (S 3 (9 * j + N 2 i j - 1) 2), .int (S 3 (9 * j + N 2 i j - 1) 3)]) from rfl] at hz_7
          refine va_get (D := (dC, dI)) (ci := 3) (v := .int (S 3 (9 * j + N 2 i j - 1) 1)) (C := RX2) (T := TX2) (N := 5) hx hb hts inX2_ hown hK hP z_7 (app_at hz_7) rfl 2 (by decide) lk6 (fun _ h9 => h9) rfl dX3_makeDuties_40 ?_
          refine lv_iadd hx hb dX3_makeDuties_43 ?_
          refine call_v (va_runI (As := [.ref (ad (0, i)), .ref (ad (9, 9 * j + N 2 i j - 1)), .int ((S 0 0 0) + (S 3 (9 * j + N 2 i j - 1) 1))]) (rest := [.ref q9, .ref (ad (16, 0))]) ⟨hx, hb, hml, hown, hts⟩ (qX1_init l dC dI cy e0 mi ((cw cy e0 ad L S N) ++ [(q9, .inr (2, [.null, .null, .int 0, .int 0]))]) H.size q9 ((cw cy e0 ad L S N).length + 0) (ad (0, i)) (ad (9, 9 * j + N 2 i j - 1)) ((S 0 0 0) + (S 3 (9 * j + N 2 i j - 1) 1)) (app_r (w := (cw cy e0 ad L S N)) (y := [(q9, .inr (2, [.null, .null, .int 0, .int 0]))]) (k := 0) rfl)) (cwI 3 hts gX3_makeDuties_X1_init rfl rfl rfl lk4 lk8 lk7 rfl (by decide +kernel) ⟨Nat.le_of_ble_eq_true rfl, Nat.le_of_ble_eq_true rfl⟩) (preS (As := [.ref q9, .ref (ad (0, i)), .ref (ad (9, 9 * j + N 2 i j - 1)), .int ((S 0 0 0) + (S 3 (9 * j + N 2 i j - 1) 1))]) hK hP hD) rfl rfl hl.1 rfl (lv_room (Nat.le_of_ble_eq_true rfl)) dX3_makeDuties_44 ⟨by show _ ≤ 20; omega, by show _ ≤ 4040; omega⟩) hD hS hA (fun _ H locs w_8 hP hD hS => ?_)
          rw [app_setr] at hP hD
          have hP : va_P (dC, dI) vwCl ((cw cy e0 ad L S N) ++ [(q9, .inr (2, [.ref (ad (0, i)), .ref (ad (9, 9 * j + N 2 i j - 1)), .int (nI 0), .int ((S 0 0 0) + (S 3 (9 * j + N 2 i j - 1) 1))]))]) H := hP
          have hD : va_D A ((cw cy e0 ad L S N) ++ [(q9, .inr (2, [.ref (ad (0, i)), .ref (ad (9, 9 * j + N 2 i j - 1)), .int (nI 0), .int ((S 0 0 0) + (S 3 (9 * j + N 2 i j - 1) 1))]))]) := hD
          obtain ⟨z_9, hz_9⟩ := pl_get (ad := ad) (f := cc cy e0 ad S N) (hMF 16 (by decide))
          rw [show cc cy e0 ad S N (16, 0) = .inr (0, [.int (S 11 0 0), .ref (if N 7 0 0 = 0 then e0 else ad (17, 0)), .int (nI (N 5 0 0))]) from rfl] at hz_9
          by_cases h7 : N 7 0 0 = 0
          · have hd0 : N 5 0 0 = 0 := by omega
            have hz16 := hz_9
            rw [if_pos h7, hd0] at hz16
            refine call_i (va_runV (As := [.ref q9]) (rest := []) ⟨hx, hb, hml, hown, hts⟩ (qadd_A l dC dI cy e0 mi ((cw cy e0 ad L S N) ++ [(q9, .inr (2, [.ref (ad (0, i)), .ref (ad (9, 9 * j + N 2 i j - 1)), .int (nI 0), .int ((S 0 0 0) + (S 3 (9 * j + N 2 i j - 1) 1))]))]) H.size _ z_9 (S 11 0 0) q9 ((cw cy e0 ad L S N).length + 0) 2 _ _ (app_at hz16) (app_r (w := (cw cy e0 ad L S N)) (y := [(q9, .inr (2, [.ref (ad (0, i)), .ref (ad (9, 9 * j + N 2 i j - 1)), .int (nI 0), .int ((S 0 0 0) + (S 3 (9 * j + N 2 i j - 1) 1))]))]) (k := 0) rfl) rfl ca1 (lt_ne hz_9)) (cwV 1 hts gX3_makeDuties_Jx4a65c_add_9ea2d rfl rfl rfl (by decide +kernel) ⟨Nat.le_of_ble_eq_true rfl, Nat.le_of_ble_eq_true rfl⟩) (preXV hK hP hD hS hA ham (w_recv (ci := 0) (q0 := z_9) hK hP (app_at hz_9) rfl)) rfl rfl hl.1 rfl (lv_room (Nat.le_of_ble_eq_true rfl)) dX3_makeDuties_47 ⟨by show _ ≤ 20; omega, by show _ ≤ 4040; omega⟩) hD hS hA (fun r_10 ub H locs w_11 hP hD hS => ?_)
            subst w_11
            rw [app_set hz_9, List.append_assoc] at hP hD
            obtain ⟨hP, hD, hI9, hX9⟩ := w_dutyA hI0 hX (by omega) hi hmv h7 hz_9 hD0 hP hD
            refine lv_pop hx hb dX3_makeDuties_50 rfl ?_
            refine lv_iinc (v := nI (md + 1)) (lv' := [(2, .int (nI (md + 1))), (4, .ref (ad (9, 9 * j + N 2 i j - 1))), (3, .int (nI j)), (0, .ref (ad (10, 0))), (1, .ref (ad (0, i)))]) hx hb dX3_makeDuties_51 hl (k := 2) rfl (by rw [show Int32.ofInt 1 = 1 from rfl]; exact nI_1 _) (by decide) rfl (fun ls hl => ?_)
            refine lv_iinc (v := nI (j + 1)) (lv' := [(3, .int (nI (j + 1))), (2, .int (nI (md + 1))), (4, .ref (ad (9, 9 * j + N 2 i j - 1))), (0, .ref (ad (10, 0))), (1, .ref (ad (0, i)))]) hx hb dX3_makeDuties_54 hl (k := 2) rfl (by rw [show Int32.ofInt 1 = 1 from rfl]; exact nI_1 _) (by decide) rfl (fun ls hl => ?_)
            refine lv_goto (tgt := 4) hx hb dX3_makeDuties_57 (by decide) ?_
            refine W.widen (k := 2 * (j + 1)) (n := 404 * (j + 1)) (by omega) (by omega) ?_
            exact ih (10 - (j + 1)) (by omega) (j + 1) ((au (au ad 8 (N 5 0 0) q9) 17 0 ub)) ((L ++ [(8, N 5 0 0), (17, 0)])) ((S_dut S (N 5 0 0) ((S 0 0 0) + (S 3 (9 * j + N 2 i j - 1) 1)))) ((N_dut N i (9 * j + N 2 i j - 1))) (md + 1) rfl (by omega) (by show _ = stepD i j _; rw [← hU]; exact (if_neg c_4).symm) (by show _ = if _ then _ else _; rw [← hU, if_neg c_4, hmd]) hI9 hX9 hAd H locs ls hP hD hS (lv_sub hl [0, 1, 3, 4] rfl)
          · obtain ⟨z17, hz17⟩ := pl_get (ad := ad) (f := cc cy e0 ad S N) (hM17 h7)
            rw [show cc cy e0 ad S N (17, 0) = .inl (cy 3, N 7 0 0, .inr (.inr (.inr (.inr (fun j => if j < N 5 0 0 then some (ad (8, j)) else none))))) from rfl] at hz17
            have hz16 := hz_9
            rw [if_neg h7] at hz16
            have hne : z17 ≠ z_9 := pl_ne hD0 hz17 hz16 (hM17 h7) (hMF 16 (by decide)) (fun q => absurd (congrArg Prod.fst q) (by decide : ¬ (17 : Nat) = 16))
            by_cases h57 : N 5 0 0 < N 7 0 0
            · refine call_i (va_runV (As := [.ref q9]) (rest := []) ⟨hx, hb, hml, hown, hts⟩ (qadd_B l dC dI cy e0 mi ((cw cy e0 ad L S N) ++ [(q9, .inr (2, [.ref (ad (0, i)), .ref (ad (9, 9 * j + N 2 i j - 1)), .int (nI 0), .int ((S 0 0 0) + (S 3 (9 * j + N 2 i j - 1) 1))]))]) H.size _ _ z_9 z17 (N 5 0 0) (N 7 0 0) (S 11 0 0) _ q9 ((cw cy e0 ad L S N).length + 0) 2 _ _ (app_at hz16) (app_at hz17) h57 (by omega) hne (app_r (w := (cw cy e0 ad L S N)) (y := [(q9, .inr (2, [.ref (ad (0, i)), .ref (ad (9, 9 * j + N 2 i j - 1)), .int (nI 0), .int ((S 0 0 0) + (S 3 (9 * j + N 2 i j - 1) 1))]))]) (k := 0) rfl) rfl ca1 (lt_ne hz_9)) (cwV 1 hts gX3_makeDuties_Jx4a65c_add_9ea2d rfl rfl rfl (by decide +kernel) ⟨Nat.le_of_ble_eq_true rfl, Nat.le_of_ble_eq_true rfl⟩) (preXV hK hP hD hS hA ham (w_recv (ci := 0) (q0 := z_9) hK hP (app_at hz_9) rfl)) rfl rfl hl.1 rfl (lv_room (Nat.le_of_ble_eq_true rfl)) dX3_makeDuties_47 ⟨by show _ ≤ 20; omega, by show _ ≤ 4040; omega⟩) hD hS hA (fun r_12 ub H locs w_13 hP hD hS => ?_)
              subst w_13
              rw [app_set hz17, app_set (set_no hz16 hne)] at hP hD
              obtain ⟨hP, hD, hI9, hX9⟩ := w_dutyB hI0 hX (by omega) hi hmv h7 h57 hz_9 hz17 hD0 hP hD
              refine lv_pop hx hb dX3_makeDuties_50 rfl ?_
              refine lv_iinc (v := nI (md + 1)) (lv' := [(2, .int (nI (md + 1))), (4, .ref (ad (9, 9 * j + N 2 i j - 1))), (3, .int (nI j)), (0, .ref (ad (10, 0))), (1, .ref (ad (0, i)))]) hx hb dX3_makeDuties_51 hl (k := 2) rfl (by rw [show Int32.ofInt 1 = 1 from rfl]; exact nI_1 _) (by decide) rfl (fun ls hl => ?_)
              refine lv_iinc (v := nI (j + 1)) (lv' := [(3, .int (nI (j + 1))), (2, .int (nI (md + 1))), (4, .ref (ad (9, 9 * j + N 2 i j - 1))), (0, .ref (ad (10, 0))), (1, .ref (ad (0, i)))]) hx hb dX3_makeDuties_54 hl (k := 2) rfl (by rw [show Int32.ofInt 1 = 1 from rfl]; exact nI_1 _) (by decide) rfl (fun ls hl => ?_)
              refine lv_goto (tgt := 4) hx hb dX3_makeDuties_57 (by decide) ?_
              refine W.widen (k := 2 * (j + 1)) (n := 404 * (j + 1)) (by omega) (by omega) ?_
              exact ih (10 - (j + 1)) (by omega) (j + 1) ((au ad 8 (N 5 0 0) q9)) ((L ++ [(8, N 5 0 0)])) ((S_dut S (N 5 0 0) ((S 0 0 0) + (S 3 (9 * j + N 2 i j - 1) 1)))) ((N_dut N i (9 * j + N 2 i j - 1))) (md + 1) rfl (by omega) (by show _ = stepD i j _; rw [← hU]; exact (if_neg c_4).symm) (by show _ = if _ then _ else _; rw [← hU, if_neg c_4, hmd]) hI9 hX9 hAd H locs ls hP hD hS (lv_sub hl [0, 1, 3, 4] rfl)
            · have h75 : N 7 0 0 = N 5 0 0 := by omega
              have hz17b := hz17
              rw [h75] at hz17b
              have hel : ∀ i9 : Nat, i9 < N 5 0 0 → ∀ y : Nat, (fun j => if j < N 5 0 0 then some (ad (8, j)) else none) i9 = some y → ∃ (k9 ci : Nat) (fs : List Value) (r8 : vw_C), z_9 ≠ k9 ∧ ((cw cy e0 ad L S N) ++ [(q9, .inr (2, [.ref (ad (0, i)), .ref (ad (9, 9 * j + N 2 i j - 1)), .int (nI 0), .int ((S 0 0 0) + (S 3 (9 * j + N 2 i j - 1) 1))]))])[k9]? = some (y, .inr (ci, fs)) ∧ vwCl[ci]? = some r8 ∧ (r8.1, "java/lang/Object") ∈ casts := fun i9 hi9 y hy => by
                obtain ⟨k9, hk9⟩ := pl_get (ad := ad) (f := cc cy e0 ad S N) (hM8 i9 hi9)
                have ey : y = ad (8, i9) := by have hy2 := hy; simp only [if_pos hi9] at hy2; exact (Option.some.inj hy2).symm
                subst ey
                exact ⟨k9, 2, _, _, pl_ne hD0 hz_9 hk9 (hMF 16 (by decide)) (hM8 i9 hi9) (fun q => absurd (congrArg Prod.fst q) (by decide : ¬ (16 : Nat) = 8)), app_at hk9, rfl, ca1⟩
              refine call_i (va_runV (As := [.ref q9]) (rest := []) ⟨hx, hb, hml, hown, hts⟩ (qadd_C l dC dI cy e0 mi ((cw cy e0 ad L S N) ++ [(q9, .inr (2, [.ref (ad (0, i)), .ref (ad (9, 9 * j + N 2 i j - 1)), .int (nI 0), .int ((S 0 0 0) + (S 3 (9 * j + N 2 i j - 1) 1))]))]) H.size _ _ z_9 z17 (N 5 0 0) (S 11 0 0) _ q9 ((cw cy e0 ad L S N).length + 0) 2 _ _ (app_at hz16) (app_at hz17b) hel (by omega) (by omega) hne (app_r (w := (cw cy e0 ad L S N)) (y := [(q9, .inr (2, [.ref (ad (0, i)), .ref (ad (9, 9 * j + N 2 i j - 1)), .int (nI 0), .int ((S 0 0 0) + (S 3 (9 * j + N 2 i j - 1) 1))]))]) (k := 0) rfl) rfl ca1 (lt_ne hz_9)) (cwV 1 hts gX3_makeDuties_Jx4a65c_add_9ea2d rfl rfl rfl (by decide +kernel) ⟨Nat.le_of_ble_eq_true rfl, Nat.le_of_ble_eq_true rfl⟩) (preXV hK hP hD hS hA ham (w_recv (ci := 0) (q0 := z_9) hK hP (app_at hz_9) rfl)) rfl rfl hl.1 rfl (lv_room (Nat.le_of_ble_eq_true rfl)) dX3_makeDuties_47 ⟨by show _ ≤ 20; omega, by show _ ≤ 4040; omega⟩) hD hS hA (fun r_14 ub H locs w_15 hP hD hS => ?_)
              subst w_15
              rw [app_set hz_9, List.append_assoc] at hP hD
              obtain ⟨hP, hD, hI9, hX9⟩ := w_dutyC hI0 hX (by omega) hi hmv h7 h75 hz_9 hD0 hP hD
              refine lv_pop hx hb dX3_makeDuties_50 rfl ?_
              refine lv_iinc (v := nI (md + 1)) (lv' := [(2, .int (nI (md + 1))), (4, .ref (ad (9, 9 * j + N 2 i j - 1))), (3, .int (nI j)), (0, .ref (ad (10, 0))), (1, .ref (ad (0, i)))]) hx hb dX3_makeDuties_51 hl (k := 2) rfl (by rw [show Int32.ofInt 1 = 1 from rfl]; exact nI_1 _) (by decide) rfl (fun ls hl => ?_)
              refine lv_iinc (v := nI (j + 1)) (lv' := [(3, .int (nI (j + 1))), (2, .int (nI (md + 1))), (4, .ref (ad (9, 9 * j + N 2 i j - 1))), (0, .ref (ad (10, 0))), (1, .ref (ad (0, i)))]) hx hb dX3_makeDuties_54 hl (k := 2) rfl (by rw [show Int32.ofInt 1 = 1 from rfl]; exact nI_1 _) (by decide) rfl (fun ls hl => ?_)
              refine lv_goto (tgt := 4) hx hb dX3_makeDuties_57 (by decide) ?_
              refine W.widen (k := 2 * (j + 1)) (n := 404 * (j + 1)) (by omega) (by omega) ?_
              exact ih (10 - (j + 1)) (by omega) (j + 1) ((au (au ad 8 (N 5 0 0) q9) 17 0 ub)) ((L ++ [(8, N 5 0 0)])) ((S_dut S (N 5 0 0) ((S 0 0 0) + (S 3 (9 * j + N 2 i j - 1) 1)))) ((N_dut N i (9 * j + N 2 i j - 1))) (md + 1) rfl (by omega) (by show _ = stepD i j _; rw [← hU]; exact (if_neg c_4).symm) (by show _ = if _ then _ else _; rw [← hU, if_neg c_4, hmd]) hI9 hX9 hAd H locs ls hP hD hS (lv_sub hl [0, 1, 3, 4] rfl)
  exact hl_mk 10 0 ad L S N 0 rfl (Nat.zero_le _) rfl rfl hI0 hX rfl H locs ls hP hD hS (lv_sub hl [0, 1, 2, 3] rfl)

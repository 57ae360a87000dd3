/-! writes: issue and relate -/
theorem cl_in {c : Nat} (h : c < 10) : isCl (nI c) := ⟨nI_pos' (by omega), nI_le (b := 9) (by omega) (by decide)⟩
theorem sd_in {o : Nat} (h : o < 2) : isSd (nI o) := ⟨nI_pos' (by omega), nI_le (b := 1) (by omega) (by decide)⟩
theorem iss_in {c o d k z : Nat} (hc : c < 10) (ho : o < 2) (hd : d ≤ 100) (hk : k ≤ 50) (hz : z ≤ 1000) : isCl (nI c) ∧ isSd (nI o) ∧ (nI 0 ≤ nI d ∧ nI d ≤ nI 100) ∧ (nI 0 ≤ nI k ∧ nI k ≤ nI 50) ∧ (nI 0 ≤ nI z ∧ nI z ≤ nI 1000) :=
  ⟨cl_in hc, sd_in ho, ⟨nI_le (by omega) (by omega), nI_le hd (by decide)⟩, ⟨nI_le (by omega) (by omega), nI_le hk (by decide)⟩, ⟨nI_le (by omega) (by omega), nI_le hz (by decide)⟩⟩
theorem self_bit : ∀ c : Fin 6, ¬ (nI 1 <<< (nI c.val &&& 31)) &&& (nI 1 <<< (nI c.val &&& 31)) = 0 := by decide +kernel
theorem rel_a0 : ∀ k : Fin 64, ∀ c : Fin 6, (nI k.val &&& ((nI 1 <<< (nI c.val &&& 31)) ^^^ (-1)) = nI (k.val &&& (63 - 2 ^ c.val))) ∧ k.val &&& (63 - 2 ^ c.val) < 64 ∧ nI (k.val &&& (63 - 2 ^ c.val)) &&& (nI 1 <<< (nI c.val &&& 31)) = 0 := by decide +kernel
theorem rel_a {k c : Nat} (hk : k < 64) (hc : c < 6) : ∃ p, nI k &&& ((nI 1 <<< (nI c &&& 31)) ^^^ (-1)) = nI p ∧ p < 64 ∧ nI p &&& (nI 1 <<< (nI c &&& 31)) = 0 := ⟨_, rel_a0 ⟨k, hk⟩ ⟨c, hc⟩⟩
theorem rel_b0 : ∀ c : Fin 6, (nI 1 <<< (nI ((c.val + 1) % 6) &&& 31) = nI (2 ^ ((c.val + 1) % 6))) ∧ 2 ^ ((c.val + 1) % 6) < 64 ∧ nI (2 ^ ((c.val + 1) % 6)) &&& (nI 1 <<< (nI c.val &&& 31)) = 0 := by decide +kernel
theorem rel_b {c : Nat} (hc : c < 6) : ∃ p, nI 1 <<< (nI ((c + 1) % 6) &&& 31) = nI p ∧ p < 64 ∧ nI p &&& (nI 1 <<< (nI c &&& 31)) = 0 := ⟨_, rel_b0 ⟨c, hc⟩⟩
theorem rel_0 (c : Nat) : nI 0 &&& (nI 1 <<< (nI c &&& 31)) = 0 := by rw [nI_00, Int32.zero_and]
theorem oc_in {c p : Nat} (h : p < 64 ∧ nI p &&& (nI 1 <<< (nI c &&& 31)) = 0) : isOC c (nI p) := ⟨⟨nI_le (by omega) (by omega), nI_le (by omega) (by decide)⟩, h.2⟩

set_option maxHeartbeats 8000000 in
set_option maxRecDepth 100000 in
/-- issue or relate -/
theorem qL_writes (l : Launch) (dC : Nat → ClassId) (dI : Nat → Nat → Nat) (cy : Nat → ClassId) (e0 mi oc : Nat) (ab : Nat → Nat) (ad : Lc → Nat) (L : List Lc) (S : SS) (N : NN) (Y : Nat → Nat → Nat) (t : Nat → Int32) (D : Int32) (a b : Nat) (sz : Nat)  (act : Nat) (y x : Int32) (hI : okC L N) (hX : okX L N) (hst : l.stackTraces = false) (hoc : ad (10, 0) = oc) (hR : RZ S N Y t D a b) (hact : act < 6) : Met l yL_writes wsL_writes ({ frames := 9, cells := 100, slots := 1000, locals := 163 }) (va_Pc [.ref oc, .int (nI act), .int y, .int x, .ref ((ab 0)), .ref ((ab 1)), .ref ((ab 2))] (wPreL (dC, dI) (tyL cy) e0 mi (cw cy e0 ad L S N ++ yw ab cy Y t D a b) sz)) (QI (dC, dI) (tyL cy) (fun (r : Int32) (u : LU2) => r = nI 1 ∧ INV oc u) (lw2 cy e0 ab) (va_A (cw cy e0 ad L S N ++ yw ab cy Y t D a b) sz)) 100 1000 (va_A (cw cy e0 ad L S N ++ yw ab cy Y t D a b) sz) := by
  refine enLA (cc := cL_writes) (maxL := 12) (ret := (some .boolean)) (own := RL) (lv := [(0, .ref oc), (1, .int (nI act)), (2, .int y), (3, .int x), (4, .ref ((ab 0))), (5, .ref ((ab 1))), (6, .ref ((ab 2)))]) (by decide) rfl rfl (Nat.le_of_ble_eq_true rfl) rfl ?_
  intro p e s m below meth c ls A H locs hx hb hr hts hown hlocks hml hin hsz hK hP hD hS hA hl ham
  generalize hQQ : MQ below _ _ s _ _ A = QQ
  have lk0 : (Cond.constant RL 80 (196608)).before (([.ref oc, .int (nI act), .int y, .int x, .ref ((ab 0)), .ref ((ab 1)), .ref ((ab 2))] : List Value).toArray) s = true := hts _ (List.mem_of_getElem? (i := 1) rfl)
  have lk1 : (Cond.constant RL 84 (-2147483648)).before (([.ref oc, .int (nI act), .int y, .int x, .ref ((ab 0)), .ref ((ab 1)), .ref ((ab 2))] : List Value).toArray) s = true := hts _ (List.mem_of_getElem? (i := 2) rfl)
  have hN := okS_of hI
  have hYb : zY Y := hR.2.2.2.2.2.2.2
  obtain ⟨hD0, hb1, hb5, -⟩ := hR.2.2.2.2.2.2.1
  have hb60 := rz_60 hR hN
  have h10 := hN.2.2.2.1
  refine lv_iload_n hx hb dL_writes_0 rfl (lv_at hl 2 rfl) ?_
  refine lv_bipush (v := nI 6) hx hb dL_writes_1 (by decide) ?_
  refine call_i (va_runS (As := [.int y, .int (nI 6)]) (rest := []) ⟨hx, hb, hml, hown, hts⟩ (qL_low l dC dI cy (cw cy e0 ad L S N ++ yw ab cy Y t D a b) H.size y 6 (by omega) (by omega)) (va_cwS 2 hts gL_writes_L_low rfl rfl rfl (by decide +kernel) ⟨Nat.le_of_ble_eq_true rfl, Nat.le_of_ble_eq_true rfl⟩) (preS hK hP hD) rfl rfl hl.1 rfl (lv_room (Nat.le_of_ble_eq_true rfl)) dL_writes_3 ⟨Nat.le_of_ble_eq_true rfl, Nat.le_of_ble_eq_true rfl⟩) hD hS hA (fun rr uu H locs hw hP hD hS => ?_)
  obtain ⟨cl, hcl, rfl⟩ := hw
  have hP : va_P (dC, dI) vwCl (cw cy e0 ad L S N ++ yw ab cy Y t D a b) H := hP
  have hD : va_D A (cw cy e0 ad L S N ++ yw ab cy Y t D a b) := hD
  have ecl : ix (nI cl) = cl := ix_nI (by omega)
  have ey0 : Y 0 cl = N 1 0 cl := (hR.1 cl hcl).1
  have h9 := hN.2.1 cl (by omega)
  refine lv_istore (lv' := [(7, .int (nI cl)), (0, .ref oc), (1, .int (nI act)), (2, .int y), (3, .int x), (4, .ref ((ab 0))), (5, .ref ((ab 1))), (6, .ref ((ab 2)))]) hx hb dL_writes_6 hl (by decide) rfl (fun ls hl => ?_)
  refine lv_iload_n hx hb dL_writes_8 rfl (lv_at hl 2 rfl) ?_
  refine lv_iconst (v := nI 4) hx hb dL_writes_9 (by decide) ?_
  refine n_ge (tgt := 314) hx hb dL_writes_10 (by decide) (by omega) (by omega) (fun c_1 => ?_) (fun c_1 => ?_)
  · refine lv_iload_n hx hb dL_writes_314 rfl (lv_at hl 4 rfl) ?_
    refine lv_bipush (v := nI 24) hx hb dL_writes_315 (by decide) ?_
    refine lv_iand hx hb dL_writes_317 ?_
    have J361 : ∀ (pm : Nat), (pm < 64 ∧ nI pm &&& (nI 1 <<< (nI cl &&& 31)) = 0) → ∀ (H : Heap) (locs : List Loc), va_P (dC, dI) vwCl (cw cy e0 ad L S N ++ yw ab cy Y t D a b) H → va_D A (cw cy e0 ad L S N ++ yw ab cy Y t D a b) → va_S A s.heap H locs → W p l e ({ frames := 9, cells := 100, slots := 1000, locals := 163 }) s m (([.ref oc, .int (nI act), .int y, .int x, .ref ((ab 0)), .ref ((ab 1)), .ref ((ab 2))] : List Value).toArray) below meth c H locs 0 0 QQ (F0 m 361 ls [.int (nI pm)]) := by
      intro pm hpm H locs hP hD hS
      refine lv_istore (lv' := [(8, .int (nI pm)), (7, .int (nI cl)), (0, .ref oc), (1, .int (nI act)), (2, .int y), (3, .int x), (4, .ref ((ab 0))), (5, .ref ((ab 1))), (6, .ref ((ab 2)))]) hx hb dL_writes_361 hl (by decide) rfl (fun ls hl => ?_)
      refine lv_iload_n hx hb dL_writes_363 rfl (lv_at hl 5 rfl) ?_
      refine lv_bipush (v := nI 96) hx hb dL_writes_364 (by decide) ?_
      refine lv_iand hx hb dL_writes_366 ?_
      have J390 : ∀ (fm : Nat), (fm < 64 ∧ nI fm &&& (nI 1 <<< (nI cl &&& 31)) = 0) → ∀ (H : Heap) (locs : List Loc), va_P (dC, dI) vwCl (cw cy e0 ad L S N ++ yw ab cy Y t D a b) H → va_D A (cw cy e0 ad L S N ++ yw ab cy Y t D a b) → va_S A s.heap H locs → W p l e ({ frames := 9, cells := 100, slots := 1000, locals := 163 }) s m (([.ref oc, .int (nI act), .int y, .int x, .ref ((ab 0)), .ref ((ab 1)), .ref ((ab 2))] : List Value).toArray) below meth c H locs 0 0 QQ (F0 m 390 ls [.int (nI fm)]) := by
        intro fm hfm H locs hP hD hS
        refine lv_istore (lv' := [(9, .int (nI fm)), (8, .int (nI pm)), (7, .int (nI cl)), (0, .ref oc), (1, .int (nI act)), (2, .int y), (3, .int x), (4, .ref ((ab 0))), (5, .ref ((ab 1))), (6, .ref ((ab 2)))]) hx hb dL_writes_390 hl (by decide) rfl (fun ls hl => ?_)
        refine lv_aload hx hb dL_writes_392 (lv_at hl 8 rfl) ?_
        refine lv_iload hx hb dL_writes_394 (lv_at hl 2 rfl) ?_
        refine lv_iload hx hb dL_writes_396 (lv_at hl 1 rfl) ?_
        refine lv_sipush (v := nI 1024) hx hb dL_writes_398 (by decide) ?_
        refine lv_iload hx hb dL_writes_401 (lv_at hl 0 rfl) ?_
        refine lv_imul hx hb dL_writes_403 ?_
        refine to_i (y := nI (1024 * fm)) (pk_mul _ _) ?_
        refine lv_iadd hx hb dL_writes_404 ?_
        refine to_i (y := nI (pm + (1024 * fm))) (nI_add _ _) ?_
        refine x_iast (f := fun j => nI (Y 1 j)) hx hb hK hP hD hS (_ + 1) 0 (app_r rfl) rfl (t := cl) (x := nI (pm + (1024 * fm))) (by omega) (by decide) dL_writes_405 (fun H locs hP hD hS => ?_)
        rw [app_setr, upd_nI] at hP hD
        have hP : va_P (dC, dI) vwCl (cw cy e0 ad L S N ++ yw ab cy (va_up Y 1 (va_up (Y 1) cl (pm + (1024 * fm)))) t D a b) H := hP
        have hD : va_D A (cw cy e0 ad L S N ++ yw ab cy (va_up Y 1 (va_up (Y 1) cl (pm + (1024 * fm)))) t D a b) := hD
        refine lv_aload_n hx hb dL_writes_406 rfl (lv_at hl 3 rfl) ?_
        refine lv_bipush (v := nI 10) hx hb dL_writes_407 (by decide) ?_
        refine lv_iconst (v := nI 0) hx hb dL_writes_409 (by decide) ?_
        refine lv_iconst (v := nI 0) hx hb dL_writes_410 (by decide) ?_
        refine callY_i hP (vx_runSW (As := [.ref oc, .int (nI 10), .int (nI 0), .int (nI 0)]) (rest := []) ⟨hx, hb, hml, hown, hts⟩ (qL_relate l dC dI cy e0 mi oc ad L S N H.size (nI 10) (nI 0) (nI 0) hI hX hst hoc) (vx_cwSW 4 hts gL_writes_L_relate rfl rfl rfl (by decide +kernel) ⟨Nat.le_of_ble_eq_true rfl, Nat.le_of_ble_eq_true rfl⟩) (preLS hK (w_leftP hP) (w_leftD hD) hS hA ham) rfl rfl hl.1 rfl (lv_room (Nat.le_of_ble_eq_true rfl)) dL_writes_411 ⟨Nat.le_of_ble_eq_true rfl, Nat.le_of_ble_eq_true rfl⟩) hD hS hA (fun rr uc H locs hw hP hD hS => ?_)
        obtain ⟨rfl, ad, L, rfl, hI, hX, hoc⟩ := lres_n1 hw (if_neg (fun q => absurd q.1 (by decide)))
        have hP : va_P (dC, dI) vwCl (cw cy e0 ad L S N ++ yw ab cy (va_up Y 1 (va_up (Y 1) cl (pm + (1024 * fm)))) t D a b) H := hP
        have hD : va_D A (cw cy e0 ad L S N ++ yw ab cy (va_up Y 1 (va_up (Y 1) cl (pm + (1024 * fm)))) t D a b) := hD
        refine lv_bipush (v := -72) hx hb dL_writes_414 (by decide) ?_
        refine lv_icmp_ne (tgt := 496) hx hb dL_writes_416 (by decide) (fun h9 => absurd rfl h9) (fun _ => ?_)
        refine lv_aload_n hx hb dL_writes_419 rfl (lv_at hl 3 rfl) ?_
        refine lv_iload hx hb dL_writes_420 (lv_at hl 2 rfl) ?_
        refine lv_sipush (v := nI 1024) hx hb dL_writes_422 (by decide) ?_
        refine lv_iconst (v := nI 0) hx hb dL_writes_425 (by decide) ?_
        refine callY_i hP (vx_runSW (As := [.ref oc, .int (nI cl), .int (nI 1024), .int (nI 0)]) (rest := []) ⟨hx, hb, hml, hown, hts⟩ (qL_relate l dC dI cy e0 mi oc ad L S N H.size (nI cl) (nI 1024) (nI 0) hI hX hst hoc) (vx_cwSW 4 hts gL_writes_L_relate rfl rfl rfl (by decide +kernel) ⟨Nat.le_of_ble_eq_true rfl, Nat.le_of_ble_eq_true rfl⟩) (preLS hK (w_leftP hP) (w_leftD hD) hS hA ham) rfl rfl hl.1 rfl (lv_room (Nat.le_of_ble_eq_true rfl)) dL_writes_426 ⟨Nat.le_of_ble_eq_true rfl, Nat.le_of_ble_eq_true rfl⟩) hD hS hA (fun rr uc H locs hw hP hD hS => ?_)
        obtain ⟨rfl, ad, L, rfl, hI, hX, hoc⟩ := lres_n1 hw (if_neg (fun q => absurd q.2.1.1 (by decide)))
        have hP : va_P (dC, dI) vwCl (cw cy e0 ad L S N ++ yw ab cy (va_up Y 1 (va_up (Y 1) cl (pm + (1024 * fm)))) t D a b) H := hP
        have hD : va_D A (cw cy e0 ad L S N ++ yw ab cy (va_up Y 1 (va_up (Y 1) cl (pm + (1024 * fm)))) t D a b) := hD
        refine lv_bipush (v := -72) hx hb dL_writes_429 (by decide) ?_
        refine lv_icmp_ne (tgt := 496) hx hb dL_writes_431 (by decide) (fun h9 => absurd rfl h9) (fun _ => ?_)
        refine lv_aload_n hx hb dL_writes_434 rfl (lv_at hl 3 rfl) ?_
        refine lv_iload hx hb dL_writes_435 (lv_at hl 2 rfl) ?_
        refine lv_iconst (v := nI 0) hx hb dL_writes_437 (by decide) ?_
        refine lv_iconst (v := -1) hx hb dL_writes_438 (by decide) ?_
        refine callY_i hP (vx_runSW (As := [.ref oc, .int (nI cl), .int (nI 0), .int ((-1))]) (rest := []) ⟨hx, hb, hml, hown, hts⟩ (qL_relate l dC dI cy e0 mi oc ad L S N H.size (nI cl) (nI 0) ((-1)) hI hX hst hoc) (vx_cwSW 4 hts gL_writes_L_relate rfl rfl rfl (by decide +kernel) ⟨Nat.le_of_ble_eq_true rfl, Nat.le_of_ble_eq_true rfl⟩) (preLS hK (w_leftP hP) (w_leftD hD) hS hA ham) rfl rfl hl.1 rfl (lv_room (Nat.le_of_ble_eq_true rfl)) dL_writes_439 ⟨Nat.le_of_ble_eq_true rfl, Nat.le_of_ble_eq_true rfl⟩) hD hS hA (fun rr uc H locs hw hP hD hS => ?_)
        obtain ⟨rfl, ad, L, rfl, hI, hX, hoc⟩ := lres_n1 hw (if_neg (fun q => absurd q.2.2.1 (by decide)))
        have hP : va_P (dC, dI) vwCl (cw cy e0 ad L S N ++ yw ab cy (va_up Y 1 (va_up (Y 1) cl (pm + (1024 * fm)))) t D a b) H := hP
        have hD : va_D A (cw cy e0 ad L S N ++ yw ab cy (va_up Y 1 (va_up (Y 1) cl (pm + (1024 * fm)))) t D a b) := hD
        refine lv_bipush (v := -72) hx hb dL_writes_442 (by decide) ?_
        refine lv_icmp_ne (tgt := 496) hx hb dL_writes_444 (by decide) (fun h9 => absurd rfl h9) (fun _ => ?_)
        refine lv_aload_n hx hb dL_writes_447 rfl (lv_at hl 3 rfl) ?_
        refine lv_iload hx hb dL_writes_448 (lv_at hl 2 rfl) ?_
        refine lv_iconst (v := nI 1) hx hb dL_writes_450 (by decide) ?_
        refine lv_iload hx hb dL_writes_451 (lv_at hl 2 rfl) ?_
        refine lv_ishl hx hb dL_writes_453 ?_
        refine lv_iconst (v := nI 0) hx hb dL_writes_454 (by decide) ?_
        refine callY_i hP (vx_runSW (As := [.ref oc, .int (nI cl), .int ((nI 1) <<< ((nI cl) &&& 31)), .int (nI 0)]) (rest := []) ⟨hx, hb, hml, hown, hts⟩ (qL_relate l dC dI cy e0 mi oc ad L S N H.size (nI cl) ((nI 1) <<< ((nI cl) &&& 31)) (nI 0) hI hX hst hoc) (vx_cwSW 4 hts gL_writes_L_relate rfl rfl rfl (by decide +kernel) ⟨Nat.le_of_ble_eq_true rfl, Nat.le_of_ble_eq_true rfl⟩) (preLS hK (w_leftP hP) (w_leftD hD) hS hA ham) rfl rfl hl.1 rfl (lv_room (Nat.le_of_ble_eq_true rfl)) dL_writes_455 ⟨Nat.le_of_ble_eq_true rfl, Nat.le_of_ble_eq_true rfl⟩) hD hS hA (fun rr uc H locs hw hP hD hS => ?_)
        obtain ⟨rfl, ad, L, rfl, hI, hX, hoc⟩ := lres_n1 hw (if_neg (fun q => self_bit ⟨cl, hcl⟩ (by have q2 := q.2.1.2; rw [ecl] at q2; exact q2)))
        have hP : va_P (dC, dI) vwCl (cw cy e0 ad L S N ++ yw ab cy (va_up Y 1 (va_up (Y 1) cl (pm + (1024 * fm)))) t D a b) H := hP
        have hD : va_D A (cw cy e0 ad L S N ++ yw ab cy (va_up Y 1 (va_up (Y 1) cl (pm + (1024 * fm)))) t D a b) := hD
        refine lv_bipush (v := -72) hx hb dL_writes_458 (by decide) ?_
        refine lv_icmp_ne (tgt := 496) hx hb dL_writes_460 (by decide) (fun h9 => absurd rfl h9) (fun _ => ?_)
        refine lv_aload_n hx hb dL_writes_463 rfl (lv_at hl 3 rfl) ?_
        refine lv_iload hx hb dL_writes_464 (lv_at hl 2 rfl) ?_
        refine lv_iconst (v := nI 0) hx hb dL_writes_466 (by decide) ?_
        refine lv_iconst (v := nI 1) hx hb dL_writes_467 (by decide) ?_
        refine lv_iload hx hb dL_writes_468 (lv_at hl 2 rfl) ?_
        refine lv_ishl hx hb dL_writes_470 ?_
        refine callY_i hP (vx_runSW (As := [.ref oc, .int (nI cl), .int (nI 0), .int ((nI 1) <<< ((nI cl) &&& 31))]) (rest := []) ⟨hx, hb, hml, hown, hts⟩ (qL_relate l dC dI cy e0 mi oc ad L S N H.size (nI cl) (nI 0) ((nI 1) <<< ((nI cl) &&& 31)) hI hX hst hoc) (vx_cwSW 4 hts gL_writes_L_relate rfl rfl rfl (by decide +kernel) ⟨Nat.le_of_ble_eq_true rfl, Nat.le_of_ble_eq_true rfl⟩) (preLS hK (w_leftP hP) (w_leftD hD) hS hA ham) rfl rfl hl.1 rfl (lv_room (Nat.le_of_ble_eq_true rfl)) dL_writes_471 ⟨Nat.le_of_ble_eq_true rfl, Nat.le_of_ble_eq_true rfl⟩) hD hS hA (fun rr uc H locs hw hP hD hS => ?_)
        obtain ⟨rfl, ad, L, rfl, hI, hX, hoc⟩ := lres_n1 hw (if_neg (fun q => self_bit ⟨cl, hcl⟩ (by have q2 := q.2.2.2; rw [ecl] at q2; exact q2)))
        have hP : va_P (dC, dI) vwCl (cw cy e0 ad L S N ++ yw ab cy (va_up Y 1 (va_up (Y 1) cl (pm + (1024 * fm)))) t D a b) H := hP
        have hD : va_D A (cw cy e0 ad L S N ++ yw ab cy (va_up Y 1 (va_up (Y 1) cl (pm + (1024 * fm)))) t D a b) := hD
        refine lv_bipush (v := -72) hx hb dL_writes_474 (by decide) ?_
        refine lv_icmp_ne (tgt := 496) hx hb dL_writes_476 (by decide) (fun h9 => absurd rfl h9) (fun _ => ?_)
        refine lv_aload_n hx hb dL_writes_479 rfl (lv_at hl 3 rfl) ?_
        refine lv_iload hx hb dL_writes_480 (lv_at hl 2 rfl) ?_
        refine lv_iload hx hb dL_writes_482 (lv_at hl 1 rfl) ?_
        refine lv_iload hx hb dL_writes_484 (lv_at hl 0 rfl) ?_
        refine callY_i hP (vx_runSW (As := [.ref oc, .int (nI cl), .int (nI pm), .int (nI fm)]) (rest := []) ⟨hx, hb, hml, hown, hts⟩ (qL_relate l dC dI cy e0 mi oc ad L S N H.size (nI cl) (nI pm) (nI fm) hI hX hst hoc) (vx_cwSW 4 hts gL_writes_L_relate rfl rfl rfl (by decide +kernel) ⟨Nat.le_of_ble_eq_true rfl, Nat.le_of_ble_eq_true rfl⟩) (preLS hK (w_leftP hP) (w_leftD hD) hS hA ham) rfl rfl hl.1 rfl (lv_room (Nat.le_of_ble_eq_true rfl)) dL_writes_486 ⟨Nat.le_of_ble_eq_true rfl, Nat.le_of_ble_eq_true rfl⟩) hD hS hA (fun rr uc H locs hw hP hD hS => ?_)
        rw [ecl] at hw
        obtain ⟨er, ad, L, rfl, hI, hX, hoc⟩ := lres_n0 hw (if_pos ⟨cl_in (by omega), by rw [ecl]; exact oc_in hpm, by rw [ecl]; exact oc_in hfm⟩)
        have hP : va_P (dC, dI) vwCl (cwT cy e0 (ad, L, su (su S 1 0 (upd (S 1 0) cl (nI pm))) 2 0 (upd (S 2 0) cl (nI fm)), N) ++ yw ab cy (va_up Y 1 (va_up (Y 1) cl (pm + (1024 * fm)))) t D a b) H := hP
        have hD : va_D A (cwT cy e0 (ad, L, su (su S 1 0 (upd (S 1 0) cl (nI pm))) 2 0 (upd (S 2 0) cl (nI fm)), N) ++ yw ab cy (va_up Y 1 (va_up (Y 1) cl (pm + (1024 * fm)))) t D a b) := hD
        refine to_i (y := nI 0) (er.trans (rfl)) ?_
        refine lv_if_ne (tgt := 496) hx hb dL_writes_489 (by decide) (fun h9 => absurd h9 (by decide)) (fun _ => ?_)
        refine lv_iconst (v := nI 1) hx hb dL_writes_492 (by decide) ?_
        refine lv_goto (tgt := 497) hx hb dL_writes_493 (by decide) ?_
        rw [← hQQ]; exact end_z (u := ((ad, L, su (su S 1 0 (upd (S 1 0) cl (nI pm))) 2 0 (upd (S 2 0) cl (nI fm)), N), (va_up Y 1 (va_up (Y 1) cl (pm + (1024 * fm))), t, D, a, b))) hx hb hr hlocks dL_writes_497 hK hP hD hS (by rfl) ⟨rfl, ⟨hI, hX⟩, hoc, rz_relate hR hcl hpm.1 hfm.1⟩ (Nat.le_of_ble_eq_true rfl) (Nat.le_of_ble_eq_true rfl)
      refine lv_if_ne (tgt := 389) hx hb dL_writes_367 (by decide) (fun c_3 => ?_) (fun c_3 => ?_)
      · refine lv_iconst (v := nI 0) hx hb dL_writes_389 (by decide) ?_
        exact J390 0 (⟨by decide, rel_0 _⟩) H locs hP hD hS
      · refine lv_iload_n hx hb dL_writes_370 rfl (lv_at hl 5 rfl) ?_
        refine lv_bipush (v := nI 12) hx hb dL_writes_371 (by decide) ?_
        refine lv_ishr hx hb dL_writes_373 ?_
        refine lv_bipush (v := nI 64) hx hb dL_writes_374 (by decide) ?_
        refine call_i (va_runS (As := [.int (x >>> ((nI 12) &&& 31)), .int (nI 64)]) (rest := []) ⟨hx, hb, hml, hown, hts⟩ (qL_low l dC dI cy (cw cy e0 ad L S N ++ yw ab cy Y t D a b) H.size (x >>> ((nI 12) &&& 31)) 64 (by omega) (by omega)) (va_cwS 2 hts gL_writes_L_low rfl rfl rfl (by decide +kernel) ⟨Nat.le_of_ble_eq_true rfl, Nat.le_of_ble_eq_true rfl⟩) (preS hK hP hD) rfl rfl hl.1 rfl (lv_room (Nat.le_of_ble_eq_true rfl)) dL_writes_376 ⟨Nat.le_of_ble_eq_true rfl, Nat.le_of_ble_eq_true rfl⟩) hD hS hA (fun rr uu H locs hw hP hD hS => ?_)
        obtain ⟨kf, hkf, rfl⟩ := hw
        have hP : va_P (dC, dI) vwCl (cw cy e0 ad L S N ++ yw ab cy Y t D a b) H := hP
        have hD : va_D A (cw cy e0 ad L S N ++ yw ab cy Y t D a b) := hD
        refine lv_iconst (v := nI 1) hx hb dL_writes_379 (by decide) ?_
        refine lv_iload hx hb dL_writes_380 (lv_at hl 1 rfl) ?_
        refine lv_ishl hx hb dL_writes_382 ?_
        refine lv_iconst (v := -1) hx hb dL_writes_383 (by decide) ?_
        refine lv_ixor hx hb dL_writes_384 ?_
        refine lv_iand hx hb dL_writes_385 ?_
        refine lv_goto (tgt := 390) hx hb dL_writes_386 (by decide) ?_
        obtain ⟨p_4, e_p_4, h_p_4⟩ := rel_a (by assumption) hcl
        refine to_i (y := nI p_4) e_p_4 ?_
        exact J390 p_4 h_p_4 H locs hP hD hS
    refine lv_if_ne (tgt := 339) hx hb dL_writes_318 (by decide) (fun c_5 => ?_) (fun c_5 => ?_)
    · refine lv_iload_n hx hb dL_writes_339 rfl (lv_at hl 4 rfl) ?_
      refine lv_bipush (v := nI 24) hx hb dL_writes_340 (by decide) ?_
      refine lv_iand hx hb dL_writes_342 ?_
      refine lv_bipush (v := nI 8) hx hb dL_writes_343 (by decide) ?_
      refine lv_icmp_ne (tgt := 360) hx hb dL_writes_345 (by decide) (fun c_6 => ?_) (fun c_6 => ?_)
      · refine lv_iconst (v := nI 0) hx hb dL_writes_360 (by decide) ?_
        exact J361 0 (⟨by decide, rel_0 _⟩) H locs hP hD hS
      · refine lv_iconst (v := nI 1) hx hb dL_writes_348 (by decide) ?_
        refine lv_iload hx hb dL_writes_349 (lv_at hl 0 rfl) ?_
        refine lv_iconst (v := nI 1) hx hb dL_writes_351 (by decide) ?_
        refine lv_iadd hx hb dL_writes_352 ?_
        refine to_i (y := nI (cl + 1)) (nI_add _ _) ?_
        refine lv_bipush (v := nI 6) hx hb dL_writes_353 (by decide) ?_
        refine lv_irem hx hb dL_writes_355 (nI_ne0 (by omega) (by omega)) ?_
        refine to_i (y := nI ((cl + 1) % 6)) (pk_rem (by omega) (by omega) (by omega)) ?_
        refine lv_ishl hx hb dL_writes_356 ?_
        refine lv_goto (tgt := 361) hx hb dL_writes_357 (by decide) ?_
        obtain ⟨p_7, e_p_7, h_p_7⟩ := rel_b hcl
        refine to_i (y := nI p_7) e_p_7 ?_
        exact J361 p_7 h_p_7 H locs hP hD hS
    · refine lv_iload_n hx hb dL_writes_321 rfl (lv_at hl 4 rfl) ?_
      refine lv_iconst (v := nI 5) hx hb dL_writes_322 (by decide) ?_
      refine lv_ishr hx hb dL_writes_323 ?_
      refine lv_bipush (v := nI 64) hx hb dL_writes_324 (by decide) ?_
      refine call_i (va_runS (As := [.int (x >>> ((nI 5) &&& 31)), .int (nI 64)]) (rest := []) ⟨hx, hb, hml, hown, hts⟩ (qL_low l dC dI cy (cw cy e0 ad L S N ++ yw ab cy Y t D a b) H.size (x >>> ((nI 5) &&& 31)) 64 (by omega) (by omega)) (va_cwS 2 hts gL_writes_L_low rfl rfl rfl (by decide +kernel) ⟨Nat.le_of_ble_eq_true rfl, Nat.le_of_ble_eq_true rfl⟩) (preS hK hP hD) rfl rfl hl.1 rfl (lv_room (Nat.le_of_ble_eq_true rfl)) dL_writes_326 ⟨Nat.le_of_ble_eq_true rfl, Nat.le_of_ble_eq_true rfl⟩) hD hS hA (fun rr uu H locs hw hP hD hS => ?_)
      obtain ⟨kp, hkp, rfl⟩ := hw
      have hP : va_P (dC, dI) vwCl (cw cy e0 ad L S N ++ yw ab cy Y t D a b) H := hP
      have hD : va_D A (cw cy e0 ad L S N ++ yw ab cy Y t D a b) := hD
      refine lv_iconst (v := nI 1) hx hb dL_writes_329 (by decide) ?_
      refine lv_iload hx hb dL_writes_330 (lv_at hl 0 rfl) ?_
      refine lv_ishl hx hb dL_writes_332 ?_
      refine lv_iconst (v := -1) hx hb dL_writes_333 (by decide) ?_
      refine lv_ixor hx hb dL_writes_334 ?_
      refine lv_iand hx hb dL_writes_335 ?_
      refine lv_goto (tgt := 361) hx hb dL_writes_336 (by decide) ?_
      obtain ⟨p_8, e_p_8, h_p_8⟩ := rel_a (by assumption) hcl
      refine to_i (y := nI p_8) e_p_8 ?_
      exact J361 p_8 h_p_8 H locs hP hD hS
  · refine lv_iload_n hx hb dL_writes_13 rfl (lv_at hl 4 rfl) ?_
    refine lv_iconst (v := nI 1) hx hb dL_writes_14 (by decide) ?_
    refine lv_iand hx hb dL_writes_15 ?_
    obtain ⟨o, ho, eo⟩ := pk_andE x (m := nI 1) 1 (by decide)
    have ho : o < 2 := ho
    refine to_i (y := nI o) (eo) ?_
    refine lv_istore (lv' := [(8, .int (nI o)), (7, .int (nI cl)), (0, .ref oc), (1, .int (nI act)), (2, .int y), (3, .int x), (4, .ref ((ab 0))), (5, .ref ((ab 1))), (6, .ref ((ab 2)))]) hx hb dL_writes_16 hl (by decide) rfl (fun ls hl => ?_)
    refine lv_iload_n hx hb dL_writes_18 rfl (lv_at hl 5 rfl) ?_
    refine lv_iconst (v := nI 1) hx hb dL_writes_19 (by decide) ?_
    refine lv_ishr hx hb dL_writes_20 ?_
    refine lv_iload_n hx hb dL_writes_21 rfl (lv_at hl 5 rfl) ?_
    refine lv_ldc (v := nI 196608) hx hb hown lk0 dL_writes_22 ?_
    refine lv_iand hx hb dL_writes_24 ?_
    have J35 : ∀ (dn : Nat), (dn = 101 ∨ dn = 6) → ∀ (H : Heap) (locs : List Loc), va_P (dC, dI) vwCl (cw cy e0 ad L S N ++ yw ab cy Y t D a b) H → va_D A (cw cy e0 ad L S N ++ yw ab cy Y t D a b) → va_S A s.heap H locs → W p l e ({ frames := 9, cells := 100, slots := 1000, locals := 163 }) s m (([.ref oc, .int (nI act), .int y, .int x, .ref ((ab 0)), .ref ((ab 1)), .ref ((ab 2))] : List Value).toArray) below meth c H locs 0 0 QQ (F0 m 35 ls [.int (nI dn), .int (x >>> ((nI 1) &&& 31))]) := by
      intro dn hdn H locs hP hD hS
      refine call_i (va_runS (As := [.int (x >>> ((nI 1) &&& 31)), .int (nI dn)]) (rest := []) ⟨hx, hb, hml, hown, hts⟩ (qL_low l dC dI cy (cw cy e0 ad L S N ++ yw ab cy Y t D a b) H.size (x >>> ((nI 1) &&& 31)) dn (by omega) (by omega)) (va_cwS 2 hts gL_writes_L_low rfl rfl rfl (by decide +kernel) ⟨Nat.le_of_ble_eq_true rfl, Nat.le_of_ble_eq_true rfl⟩) (preS hK hP hD) rfl rfl hl.1 rfl (lv_room (Nat.le_of_ble_eq_true rfl)) dL_writes_35 ⟨Nat.le_of_ble_eq_true rfl, Nat.le_of_ble_eq_true rfl⟩) hD hS hA (fun rr uu H locs hw hP hD hS => ?_)
      obtain ⟨d, hd, rfl⟩ := hw
      have hP : va_P (dC, dI) vwCl (cw cy e0 ad L S N ++ yw ab cy Y t D a b) H := hP
      have hD : va_D A (cw cy e0 ad L S N ++ yw ab cy Y t D a b) := hD
      refine lv_istore (lv' := [(9, .int (nI d)), (8, .int (nI o)), (7, .int (nI cl)), (0, .ref oc), (1, .int (nI act)), (2, .int y), (3, .int x), (4, .ref ((ab 0))), (5, .ref ((ab 1))), (6, .ref ((ab 2)))]) hx hb dL_writes_38 hl (by decide) rfl (fun ls hl => ?_)
      refine lv_iload_n hx hb dL_writes_40 rfl (lv_at hl 6 rfl) ?_
      refine lv_bipush (v := nI 8) hx hb dL_writes_41 (by decide) ?_
      refine lv_ishr hx hb dL_writes_43 ?_
      refine lv_iload_n hx hb dL_writes_44 rfl (lv_at hl 6 rfl) ?_
      refine lv_ldc (v := nI 196608) hx hb hown lk0 dL_writes_45 ?_
      refine lv_iand hx hb dL_writes_47 ?_
      have J57 : ∀ (kn : Nat), (kn = 51 ∨ kn = 4) → ∀ (H : Heap) (locs : List Loc), va_P (dC, dI) vwCl (cw cy e0 ad L S N ++ yw ab cy Y t D a b) H → va_D A (cw cy e0 ad L S N ++ yw ab cy Y t D a b) → va_S A s.heap H locs → W p l e ({ frames := 9, cells := 100, slots := 1000, locals := 163 }) s m (([.ref oc, .int (nI act), .int y, .int x, .ref ((ab 0)), .ref ((ab 1)), .ref ((ab 2))] : List Value).toArray) below meth c H locs 0 0 QQ (F0 m 57 ls [.int (nI kn), .int (x >>> ((nI 8) &&& 31))]) := by
        intro kn hkn H locs hP hD hS
        refine call_i (va_runS (As := [.int (x >>> ((nI 8) &&& 31)), .int (nI kn)]) (rest := []) ⟨hx, hb, hml, hown, hts⟩ (qL_low l dC dI cy (cw cy e0 ad L S N ++ yw ab cy Y t D a b) H.size (x >>> ((nI 8) &&& 31)) kn (by omega) (by omega)) (va_cwS 2 hts gL_writes_L_low rfl rfl rfl (by decide +kernel) ⟨Nat.le_of_ble_eq_true rfl, Nat.le_of_ble_eq_true rfl⟩) (preS hK hP hD) rfl rfl hl.1 rfl (lv_room (Nat.le_of_ble_eq_true rfl)) dL_writes_57 ⟨Nat.le_of_ble_eq_true rfl, Nat.le_of_ble_eq_true rfl⟩) hD hS hA (fun rr uu H locs hw hP hD hS => ?_)
        obtain ⟨k, hk, rfl⟩ := hw
        have hP : va_P (dC, dI) vwCl (cw cy e0 ad L S N ++ yw ab cy Y t D a b) H := hP
        have hD : va_D A (cw cy e0 ad L S N ++ yw ab cy Y t D a b) := hD
        refine lv_istore (lv' := [(10, .int (nI k)), (9, .int (nI d)), (8, .int (nI o)), (7, .int (nI cl)), (0, .ref oc), (1, .int (nI act)), (2, .int y), (3, .int x), (4, .ref ((ab 0))), (5, .ref ((ab 1))), (6, .ref ((ab 2)))]) hx hb dL_writes_60 hl (by decide) rfl (fun ls hl => ?_)
        refine lv_iload_n hx hb dL_writes_62 rfl (lv_at hl 6 rfl) ?_
        refine lv_iconst (v := nI 4) hx hb dL_writes_63 (by decide) ?_
        refine lv_ishr hx hb dL_writes_64 ?_
        refine lv_sipush (v := nI 1001) hx hb dL_writes_65 (by decide) ?_
        refine call_i (va_runS (As := [.int (y >>> ((nI 4) &&& 31)), .int (nI 1001)]) (rest := []) ⟨hx, hb, hml, hown, hts⟩ (qL_low l dC dI cy (cw cy e0 ad L S N ++ yw ab cy Y t D a b) H.size (y >>> ((nI 4) &&& 31)) 1001 (by omega) (by omega)) (va_cwS 2 hts gL_writes_L_low rfl rfl rfl (by decide +kernel) ⟨Nat.le_of_ble_eq_true rfl, Nat.le_of_ble_eq_true rfl⟩) (preS hK hP hD) rfl rfl hl.1 rfl (lv_room (Nat.le_of_ble_eq_true rfl)) dL_writes_68 ⟨Nat.le_of_ble_eq_true rfl, Nat.le_of_ble_eq_true rfl⟩) hD hS hA (fun rr uu H locs hw hP hD hS => ?_)
        obtain ⟨z, hz, rfl⟩ := hw
        have hP : va_P (dC, dI) vwCl (cw cy e0 ad L S N ++ yw ab cy Y t D a b) H := hP
        have hD : va_D A (cw cy e0 ad L S N ++ yw ab cy Y t D a b) := hD
        refine lv_istore (lv' := [(11, .int (nI z)), (10, .int (nI k)), (9, .int (nI d)), (8, .int (nI o)), (7, .int (nI cl)), (0, .ref oc), (1, .int (nI act)), (2, .int y), (3, .int x), (4, .ref ((ab 0))), (5, .ref ((ab 1))), (6, .ref ((ab 2)))]) hx hb dL_writes_71 hl (by decide) rfl (fun ls hl => ?_)
        refine lv_aload_n hx hb dL_writes_73 rfl (lv_at hl 5 rfl) ?_
        refine lv_bipush (v := nI 10) hx hb dL_writes_74 (by decide) ?_
        refine lv_iload hx hb dL_writes_76 (lv_at hl 3 rfl) ?_
        refine lv_iload hx hb dL_writes_78 (lv_at hl 2 rfl) ?_
        refine lv_iload hx hb dL_writes_80 (lv_at hl 1 rfl) ?_
        refine lv_iload hx hb dL_writes_82 (lv_at hl 0 rfl) ?_
        refine callY_i hP (vx_runSW (As := [.ref oc, .int (nI 10), .int (nI o), .int (nI d), .int (nI k), .int (nI z)]) (rest := []) ⟨hx, hb, hml, hown, hts⟩ (qL_issue l dC dI cy e0 mi oc ad L S N H.size (nI 10) (nI o) (nI d) (nI k) (nI z) hI hX hst hoc) (vx_cwSW 6 hts gL_writes_L_issue rfl rfl rfl (by decide +kernel) ⟨Nat.le_of_ble_eq_true rfl, Nat.le_of_ble_eq_true rfl⟩) (preLS hK (w_leftP hP) (w_leftD hD) hS hA ham) rfl rfl hl.1 rfl (lv_room (Nat.le_of_ble_eq_true rfl)) dL_writes_84 ⟨Nat.le_of_ble_eq_true rfl, Nat.le_of_ble_eq_true rfl⟩) hD hS hA (fun rr uc H locs hw hP hD hS => ?_)
        obtain ⟨rfl, ad, L, rfl, hI, hX, hoc⟩ := lres_n1 hw (if_neg (fun q => absurd q.1 (by decide)))
        have hP : va_P (dC, dI) vwCl (cw cy e0 ad L S N ++ yw ab cy Y t D a b) H := hP
        have hD : va_D A (cw cy e0 ad L S N ++ yw ab cy Y t D a b) := hD
        refine lv_bipush (v := -72) hx hb dL_writes_87 (by decide) ?_
        refine lv_icmp_ne (tgt := 205) hx hb dL_writes_89 (by decide) (fun h9 => absurd rfl h9) (fun _ => ?_)
        refine lv_aload_n hx hb dL_writes_92 rfl (lv_at hl 5 rfl) ?_
        refine lv_iload hx hb dL_writes_93 (lv_at hl 4 rfl) ?_
        refine lv_iconst (v := nI 2) hx hb dL_writes_95 (by decide) ?_
        refine lv_iload hx hb dL_writes_96 (lv_at hl 2 rfl) ?_
        refine lv_iload hx hb dL_writes_98 (lv_at hl 1 rfl) ?_
        refine lv_iload hx hb dL_writes_100 (lv_at hl 0 rfl) ?_
        refine callY_i hP (vx_runSW (As := [.ref oc, .int (nI cl), .int (nI 2), .int (nI d), .int (nI k), .int (nI z)]) (rest := []) ⟨hx, hb, hml, hown, hts⟩ (qL_issue l dC dI cy e0 mi oc ad L S N H.size (nI cl) (nI 2) (nI d) (nI k) (nI z) hI hX hst hoc) (vx_cwSW 6 hts gL_writes_L_issue rfl rfl rfl (by decide +kernel) ⟨Nat.le_of_ble_eq_true rfl, Nat.le_of_ble_eq_true rfl⟩) (preLS hK (w_leftP hP) (w_leftD hD) hS hA ham) rfl rfl hl.1 rfl (lv_room (Nat.le_of_ble_eq_true rfl)) dL_writes_102 ⟨Nat.le_of_ble_eq_true rfl, Nat.le_of_ble_eq_true rfl⟩) hD hS hA (fun rr uc H locs hw hP hD hS => ?_)
        obtain ⟨rfl, ad, L, rfl, hI, hX, hoc⟩ := lres_n1 hw (if_neg (fun q => absurd q.2.1 (by decide)))
        have hP : va_P (dC, dI) vwCl (cw cy e0 ad L S N ++ yw ab cy Y t D a b) H := hP
        have hD : va_D A (cw cy e0 ad L S N ++ yw ab cy Y t D a b) := hD
        refine lv_bipush (v := -72) hx hb dL_writes_105 (by decide) ?_
        refine lv_icmp_ne (tgt := 205) hx hb dL_writes_107 (by decide) (fun h9 => absurd rfl h9) (fun _ => ?_)
        refine lv_aload_n hx hb dL_writes_110 rfl (lv_at hl 5 rfl) ?_
        refine lv_iload hx hb dL_writes_111 (lv_at hl 4 rfl) ?_
        refine lv_iload hx hb dL_writes_113 (lv_at hl 3 rfl) ?_
        refine lv_bipush (v := nI 101) hx hb dL_writes_115 (by decide) ?_
        refine lv_iload hx hb dL_writes_117 (lv_at hl 1 rfl) ?_
        refine lv_iload hx hb dL_writes_119 (lv_at hl 0 rfl) ?_
        refine callY_i hP (vx_runSW (As := [.ref oc, .int (nI cl), .int (nI o), .int (nI 101), .int (nI k), .int (nI z)]) (rest := []) ⟨hx, hb, hml, hown, hts⟩ (qL_issue l dC dI cy e0 mi oc ad L S N H.size (nI cl) (nI o) (nI 101) (nI k) (nI z) hI hX hst hoc) (vx_cwSW 6 hts gL_writes_L_issue rfl rfl rfl (by decide +kernel) ⟨Nat.le_of_ble_eq_true rfl, Nat.le_of_ble_eq_true rfl⟩) (preLS hK (w_leftP hP) (w_leftD hD) hS hA ham) rfl rfl hl.1 rfl (lv_room (Nat.le_of_ble_eq_true rfl)) dL_writes_121 ⟨Nat.le_of_ble_eq_true rfl, Nat.le_of_ble_eq_true rfl⟩) hD hS hA (fun rr uc H locs hw hP hD hS => ?_)
        obtain ⟨rfl, ad, L, rfl, hI, hX, hoc⟩ := lres_n1 hw (if_neg (fun q => absurd q.2.2.1 (by decide)))
        have hP : va_P (dC, dI) vwCl (cw cy e0 ad L S N ++ yw ab cy Y t D a b) H := hP
        have hD : va_D A (cw cy e0 ad L S N ++ yw ab cy Y t D a b) := hD
        refine lv_bipush (v := -72) hx hb dL_writes_124 (by decide) ?_
        refine lv_icmp_ne (tgt := 205) hx hb dL_writes_126 (by decide) (fun h9 => absurd rfl h9) (fun _ => ?_)
        refine lv_aload_n hx hb dL_writes_129 rfl (lv_at hl 5 rfl) ?_
        refine lv_iload hx hb dL_writes_130 (lv_at hl 4 rfl) ?_
        refine lv_iload hx hb dL_writes_132 (lv_at hl 3 rfl) ?_
        refine lv_iload hx hb dL_writes_134 (lv_at hl 2 rfl) ?_
        refine lv_bipush (v := nI 51) hx hb dL_writes_136 (by decide) ?_
        refine lv_iload hx hb dL_writes_138 (lv_at hl 0 rfl) ?_
        refine callY_i hP (vx_runSW (As := [.ref oc, .int (nI cl), .int (nI o), .int (nI d), .int (nI 51), .int (nI z)]) (rest := []) ⟨hx, hb, hml, hown, hts⟩ (qL_issue l dC dI cy e0 mi oc ad L S N H.size (nI cl) (nI o) (nI d) (nI 51) (nI z) hI hX hst hoc) (vx_cwSW 6 hts gL_writes_L_issue rfl rfl rfl (by decide +kernel) ⟨Nat.le_of_ble_eq_true rfl, Nat.le_of_ble_eq_true rfl⟩) (preLS hK (w_leftP hP) (w_leftD hD) hS hA ham) rfl rfl hl.1 rfl (lv_room (Nat.le_of_ble_eq_true rfl)) dL_writes_140 ⟨Nat.le_of_ble_eq_true rfl, Nat.le_of_ble_eq_true rfl⟩) hD hS hA (fun rr uc H locs hw hP hD hS => ?_)
        obtain ⟨rfl, ad, L, rfl, hI, hX, hoc⟩ := lres_n1 hw (if_neg (fun q => absurd q.2.2.2.1 (by decide)))
        have hP : va_P (dC, dI) vwCl (cw cy e0 ad L S N ++ yw ab cy Y t D a b) H := hP
        have hD : va_D A (cw cy e0 ad L S N ++ yw ab cy Y t D a b) := hD
        refine lv_bipush (v := -72) hx hb dL_writes_143 (by decide) ?_
        refine lv_icmp_ne (tgt := 205) hx hb dL_writes_145 (by decide) (fun h9 => absurd rfl h9) (fun _ => ?_)
        refine lv_aload_n hx hb dL_writes_148 rfl (lv_at hl 5 rfl) ?_
        refine lv_iload hx hb dL_writes_149 (lv_at hl 4 rfl) ?_
        refine lv_iload hx hb dL_writes_151 (lv_at hl 3 rfl) ?_
        refine lv_iload hx hb dL_writes_153 (lv_at hl 2 rfl) ?_
        refine lv_iload hx hb dL_writes_155 (lv_at hl 1 rfl) ?_
        refine lv_sipush (v := nI 1001) hx hb dL_writes_157 (by decide) ?_
        refine callY_i hP (vx_runSW (As := [.ref oc, .int (nI cl), .int (nI o), .int (nI d), .int (nI k), .int (nI 1001)]) (rest := []) ⟨hx, hb, hml, hown, hts⟩ (qL_issue l dC dI cy e0 mi oc ad L S N H.size (nI cl) (nI o) (nI d) (nI k) (nI 1001) hI hX hst hoc) (vx_cwSW 6 hts gL_writes_L_issue rfl rfl rfl (by decide +kernel) ⟨Nat.le_of_ble_eq_true rfl, Nat.le_of_ble_eq_true rfl⟩) (preLS hK (w_leftP hP) (w_leftD hD) hS hA ham) rfl rfl hl.1 rfl (lv_room (Nat.le_of_ble_eq_true rfl)) dL_writes_160 ⟨Nat.le_of_ble_eq_true rfl, Nat.le_of_ble_eq_true rfl⟩) hD hS hA (fun rr uc H locs hw hP hD hS => ?_)
        obtain ⟨rfl, ad, L, rfl, hI, hX, hoc⟩ := lres_n1 hw (if_neg (fun q => absurd q.2.2.2.2 (by decide)))
        have hP : va_P (dC, dI) vwCl (cw cy e0 ad L S N ++ yw ab cy Y t D a b) H := hP
        have hD : va_D A (cw cy e0 ad L S N ++ yw ab cy Y t D a b) := hD
        refine lv_bipush (v := -72) hx hb dL_writes_163 (by decide) ?_
        refine lv_icmp_ne (tgt := 205) hx hb dL_writes_165 (by decide) (fun h9 => absurd rfl h9) (fun _ => ?_)
        refine lv_aload_n hx hb dL_writes_168 rfl (lv_at hl 5 rfl) ?_
        refine lv_iload hx hb dL_writes_169 (lv_at hl 4 rfl) ?_
        refine lv_iload hx hb dL_writes_171 (lv_at hl 3 rfl) ?_
        refine lv_iconst (v := -1) hx hb dL_writes_173 (by decide) ?_
        refine lv_iload hx hb dL_writes_174 (lv_at hl 1 rfl) ?_
        refine lv_iload hx hb dL_writes_176 (lv_at hl 0 rfl) ?_
        refine callY_i hP (vx_runSW (As := [.ref oc, .int (nI cl), .int (nI o), .int ((-1)), .int (nI k), .int (nI z)]) (rest := []) ⟨hx, hb, hml, hown, hts⟩ (qL_issue l dC dI cy e0 mi oc ad L S N H.size (nI cl) (nI o) ((-1)) (nI k) (nI z) hI hX hst hoc) (vx_cwSW 6 hts gL_writes_L_issue rfl rfl rfl (by decide +kernel) ⟨Nat.le_of_ble_eq_true rfl, Nat.le_of_ble_eq_true rfl⟩) (preLS hK (w_leftP hP) (w_leftD hD) hS hA ham) rfl rfl hl.1 rfl (lv_room (Nat.le_of_ble_eq_true rfl)) dL_writes_178 ⟨Nat.le_of_ble_eq_true rfl, Nat.le_of_ble_eq_true rfl⟩) hD hS hA (fun rr uc H locs hw hP hD hS => ?_)
        obtain ⟨rfl, ad, L, rfl, hI, hX, hoc⟩ := lres_n1 hw (if_neg (fun q => absurd q.2.2.1 (by decide)))
        have hP : va_P (dC, dI) vwCl (cw cy e0 ad L S N ++ yw ab cy Y t D a b) H := hP
        have hD : va_D A (cw cy e0 ad L S N ++ yw ab cy Y t D a b) := hD
        refine lv_bipush (v := -72) hx hb dL_writes_181 (by decide) ?_
        refine lv_icmp_ne (tgt := 205) hx hb dL_writes_183 (by decide) (fun h9 => absurd rfl h9) (fun _ => ?_)
        refine lv_aload_n hx hb dL_writes_186 rfl (lv_at hl 5 rfl) ?_
        refine lv_ldc (v := -2147483648) hx hb hown lk1 dL_writes_187 ?_
        refine lv_iload hx hb dL_writes_189 (lv_at hl 3 rfl) ?_
        refine lv_iload hx hb dL_writes_191 (lv_at hl 2 rfl) ?_
        refine lv_iload hx hb dL_writes_193 (lv_at hl 1 rfl) ?_
        refine lv_iload hx hb dL_writes_195 (lv_at hl 0 rfl) ?_
        refine callY_i hP (vx_runSW (As := [.ref oc, .int ((-2147483648)), .int (nI o), .int (nI d), .int (nI k), .int (nI z)]) (rest := []) ⟨hx, hb, hml, hown, hts⟩ (qL_issue l dC dI cy e0 mi oc ad L S N H.size ((-2147483648)) (nI o) (nI d) (nI k) (nI z) hI hX hst hoc) (vx_cwSW 6 hts gL_writes_L_issue rfl rfl rfl (by decide +kernel) ⟨Nat.le_of_ble_eq_true rfl, Nat.le_of_ble_eq_true rfl⟩) (preLS hK (w_leftP hP) (w_leftD hD) hS hA ham) rfl rfl hl.1 rfl (lv_room (Nat.le_of_ble_eq_true rfl)) dL_writes_197 ⟨Nat.le_of_ble_eq_true rfl, Nat.le_of_ble_eq_true rfl⟩) hD hS hA (fun rr uc H locs hw hP hD hS => ?_)
        obtain ⟨rfl, ad, L, rfl, hI, hX, hoc⟩ := lres_n1 hw (if_neg (fun q => absurd q.1 (by decide)))
        have hP : va_P (dC, dI) vwCl (cw cy e0 ad L S N ++ yw ab cy Y t D a b) H := hP
        have hD : va_D A (cw cy e0 ad L S N ++ yw ab cy Y t D a b) := hD
        refine lv_bipush (v := -72) hx hb dL_writes_200 (by decide) ?_
        refine lv_icmp_eq (tgt := 207) hx hb dL_writes_202 (by decide) (fun _ => ?_) (fun h9 => absurd rfl h9)
        refine lv_aload hx hb dL_writes_207 (lv_at hl 9 rfl) ?_
        refine lv_iload hx hb dL_writes_209 (lv_at hl 4 rfl) ?_
        refine x_iald (f := fun j => nI (Y 0 j)) hx hb hK hP (_ + 0) 0 (app_r rfl) rfl (t := cl) (by omega) (by decide) dL_writes_211 ?_
        refine to_i (y := nI (Y 0 cl)) rfl ?_
        refine lv_bipush (v := nI 9) hx hb dL_writes_212 (by decide) ?_
        refine n_ne (tgt := 242) hx hb dL_writes_214 (by decide) (by have := hYb 0 cl; omega) (by omega) (fun c_9 => ?_) (fun c_9 => ?_)
        · refine lv_aload hx hb dL_writes_242 (lv_at hl 11 rfl) ?_
          refine lv_bipush (v := nI 9) hx hb dL_writes_244 (by decide) ?_
          refine lv_iload hx hb dL_writes_246 (lv_at hl 4 rfl) ?_
          refine lv_imul hx hb dL_writes_248 ?_
          refine to_i (y := nI (9 * cl)) (pk_mul _ _) ?_
          refine lv_aload hx hb dL_writes_249 (lv_at hl 9 rfl) ?_
          refine lv_iload hx hb dL_writes_251 (lv_at hl 4 rfl) ?_
          refine x_iald (f := fun j => nI (Y 0 j)) hx hb hK hP (_ + 0) 0 (app_r rfl) rfl (t := cl) (by omega) (by decide) dL_writes_253 ?_
          refine to_i (y := nI (Y 0 cl)) rfl ?_
          refine lv_iadd hx hb dL_writes_254 ?_
          refine to_i (y := nI ((9 * cl) + (Y 0 cl))) (nI_add _ _) ?_
          refine lv_iload hx hb dL_writes_255 (lv_at hl 3 rfl) ?_
          refine lv_iconst (v := nI 2) hx hb dL_writes_257 (by decide) ?_
          refine lv_iload hx hb dL_writes_258 (lv_at hl 2 rfl) ?_
          refine lv_imul hx hb dL_writes_260 ?_
          refine to_i (y := nI (2 * d)) (pk_mul _ _) ?_
          refine lv_iadd hx hb dL_writes_261 ?_
          refine to_i (y := nI (o + (2 * d))) (nI_add _ _) ?_
          refine lv_sipush (v := nI 256) hx hb dL_writes_262 (by decide) ?_
          refine lv_iload hx hb dL_writes_265 (lv_at hl 1 rfl) ?_
          refine lv_imul hx hb dL_writes_267 ?_
          refine to_i (y := nI (256 * k)) (pk_mul _ _) ?_
          refine lv_iadd hx hb dL_writes_268 ?_
          refine to_i (y := nI ((o + (2 * d)) + (256 * k))) (nI_add _ _) ?_
          refine lv_sipush (v := nI 16384) hx hb dL_writes_269 (by decide) ?_
          refine lv_iload hx hb dL_writes_272 (lv_at hl 0 rfl) ?_
          refine lv_imul hx hb dL_writes_274 ?_
          refine to_i (y := nI (16384 * z)) (pk_mul _ _) ?_
          refine lv_iadd hx hb dL_writes_275 ?_
          refine to_i (y := nI (((o + (2 * d)) + (256 * k)) + (16384 * z))) (nI_add _ _) ?_
          refine x_iast (f := fun j => nI (Y 2 j)) hx hb hK hP hD hS (_ + 2) 0 (app_r rfl) rfl (t := (9 * cl) + (Y 0 cl)) (x := nI (((o + (2 * d)) + (256 * k)) + (16384 * z))) (by omega) (by decide) dL_writes_276 (fun H locs hP hD hS => ?_)
          rw [app_setr, upd_nI] at hP hD
          have hP : va_P (dC, dI) vwCl (cw cy e0 ad L S N ++ yw ab cy (va_up Y 2 (va_up (Y 2) ((9 * cl) + (Y 0 cl)) (((o + (2 * d)) + (256 * k)) + (16384 * z)))) t D a b) H := hP
          have hD : va_D A (cw cy e0 ad L S N ++ yw ab cy (va_up Y 2 (va_up (Y 2) ((9 * cl) + (Y 0 cl)) (((o + (2 * d)) + (256 * k)) + (16384 * z)))) t D a b) := hD
          refine lv_aload hx hb dL_writes_277 (lv_at hl 9 rfl) ?_
          refine lv_iload hx hb dL_writes_279 (lv_at hl 4 rfl) ?_
          refine lv_dup2_11 hx hb dL_writes_281 rfl rfl ?_
          refine x_iald (f := fun j => nI ((va_up Y 2 (va_up (Y 2) ((9 * cl) + (Y 0 cl)) (((o + (2 * d)) + (256 * k)) + (16384 * z)))) 0 j)) hx hb hK hP (_ + 0) 0 (app_r rfl) rfl (t := cl) (by omega) (by decide) dL_writes_282 ?_
          refine to_i (y := nI (Y 0 cl)) rfl ?_
          refine lv_iconst (v := nI 1) hx hb dL_writes_283 (by decide) ?_
          refine lv_iadd hx hb dL_writes_284 ?_
          refine to_i (y := nI ((Y 0 cl) + 1)) (nI_add _ _) ?_
          refine x_iast (f := fun j => nI ((va_up Y 2 (va_up (Y 2) ((9 * cl) + (Y 0 cl)) (((o + (2 * d)) + (256 * k)) + (16384 * z)))) 0 j)) hx hb hK hP hD hS (_ + 0) 0 (app_r rfl) rfl (t := cl) (x := nI ((Y 0 cl) + 1)) (by omega) (by decide) dL_writes_285 (fun H locs hP hD hS => ?_)
          rw [app_setr, upd_nI] at hP hD
          have hP : va_P (dC, dI) vwCl (cw cy e0 ad L S N ++ yw ab cy (va_up (va_up Y 2 (va_up (Y 2) ((9 * cl) + (Y 0 cl)) (((o + (2 * d)) + (256 * k)) + (16384 * z)))) 0 (va_up ((va_up Y 2 (va_up (Y 2) ((9 * cl) + (Y 0 cl)) (((o + (2 * d)) + (256 * k)) + (16384 * z)))) 0) cl ((Y 0 cl) + 1))) t D a b) H := hP
          have hD : va_D A (cw cy e0 ad L S N ++ yw ab cy (va_up (va_up Y 2 (va_up (Y 2) ((9 * cl) + (Y 0 cl)) (((o + (2 * d)) + (256 * k)) + (16384 * z)))) 0 (va_up ((va_up Y 2 (va_up (Y 2) ((9 * cl) + (Y 0 cl)) (((o + (2 * d)) + (256 * k)) + (16384 * z)))) 0) cl ((Y 0 cl) + 1))) t D a b) := hD
          refine lv_aload_n hx hb dL_writes_286 rfl (lv_at hl 5 rfl) ?_
          refine lv_iload hx hb dL_writes_287 (lv_at hl 4 rfl) ?_
          refine lv_iload hx hb dL_writes_289 (lv_at hl 3 rfl) ?_
          refine lv_iload hx hb dL_writes_291 (lv_at hl 2 rfl) ?_
          refine lv_iload hx hb dL_writes_293 (lv_at hl 1 rfl) ?_
          refine lv_iload hx hb dL_writes_295 (lv_at hl 0 rfl) ?_
          refine callY_i hP (vx_runSW (As := [.ref oc, .int (nI cl), .int (nI o), .int (nI d), .int (nI k), .int (nI z)]) (rest := []) ⟨hx, hb, hml, hown, hts⟩ (qL_issue l dC dI cy e0 mi oc ad L S N H.size (nI cl) (nI o) (nI d) (nI k) (nI z) hI hX hst hoc) (vx_cwSW 6 hts gL_writes_L_issue rfl rfl rfl (by decide +kernel) ⟨Nat.le_of_ble_eq_true rfl, Nat.le_of_ble_eq_true rfl⟩) (preLS hK (w_leftP hP) (w_leftD hD) hS hA ham) rfl rfl hl.1 rfl (lv_room (Nat.le_of_ble_eq_true rfl)) dL_writes_297 ⟨Nat.le_of_ble_eq_true rfl, Nat.le_of_ble_eq_true rfl⟩) hD hS hA (fun rr uc H locs hw hP hD hS => ?_)
          rw [ecl] at hw
          rw [ix_nI (show o < 2 ^ 31 by omega)] at hw
          obtain ⟨er, ad, L, rfl, hI, hX, hoc⟩ := lres_n0 hw ((if_pos (iss_in (by omega) ho (by omega) (by omega) (by omega))).trans (if_pos (by rw [ecl]; omega)))
          have hP : va_P (dC, dI) vwCl (cwT cy e0 (ad, L, S_iss S (9 * cl + N 1 0 cl) (nI d) (nI k) (nI z), N_iss N cl o) ++ yw ab cy (va_up (va_up Y 2 (va_up (Y 2) ((9 * cl) + (Y 0 cl)) (((o + (2 * d)) + (256 * k)) + (16384 * z)))) 0 (va_up ((va_up Y 2 (va_up (Y 2) ((9 * cl) + (Y 0 cl)) (((o + (2 * d)) + (256 * k)) + (16384 * z)))) 0) cl ((Y 0 cl) + 1))) t D a b) H := hP
          have hD : va_D A (cwT cy e0 (ad, L, S_iss S (9 * cl + N 1 0 cl) (nI d) (nI k) (nI z), N_iss N cl o) ++ yw ab cy (va_up (va_up Y 2 (va_up (Y 2) ((9 * cl) + (Y 0 cl)) (((o + (2 * d)) + (256 * k)) + (16384 * z)))) 0 (va_up ((va_up Y 2 (va_up (Y 2) ((9 * cl) + (Y 0 cl)) (((o + (2 * d)) + (256 * k)) + (16384 * z)))) 0) cl ((Y 0 cl) + 1))) t D a b) := hD
          refine to_i (y := nI ((Y 0 cl) + 1)) (er.trans (congrArg nI (by omega))) ?_
          refine lv_aload hx hb dL_writes_300 (lv_at hl 9 rfl) ?_
          refine lv_iload hx hb dL_writes_302 (lv_at hl 4 rfl) ?_
          refine x_iald (f := fun j => nI ((va_up (va_up Y 2 (va_up (Y 2) ((9 * cl) + (Y 0 cl)) (((o + (2 * d)) + (256 * k)) + (16384 * z)))) 0 (va_up ((va_up Y 2 (va_up (Y 2) ((9 * cl) + (Y 0 cl)) (((o + (2 * d)) + (256 * k)) + (16384 * z)))) 0) cl ((Y 0 cl) + 1))) 0 j)) hx hb hK hP (_ + 0) 0 (app_r rfl) rfl (t := cl) (by omega) (by decide) dL_writes_304 ?_
          refine to_i (y := nI ((Y 0 cl) + 1)) (congrArg nI (by simp [va_up])) ?_
          refine lv_icmp_ne (tgt := 312) hx hb dL_writes_305 (by decide) (fun h9 => absurd rfl h9) (fun _ => ?_)
          refine lv_iconst (v := nI 1) hx hb dL_writes_308 (by decide) ?_
          refine lv_goto (tgt := 313) hx hb dL_writes_309 (by decide) ?_
          rw [← hQQ]; exact end_z (u := ((ad, L, S_iss S (9 * cl + N 1 0 cl) (nI d) (nI k) (nI z), N_iss N cl o), (va_up (va_up Y 2 (va_up (Y 2) ((9 * cl) + (Y 0 cl)) (((o + (2 * d)) + (256 * k)) + (16384 * z)))) 0 (va_up ((va_up Y 2 (va_up (Y 2) ((9 * cl) + (Y 0 cl)) (((o + (2 * d)) + (256 * k)) + (16384 * z)))) 0) cl ((Y 0 cl) + 1)), t, D, a, b))) hx hb hr hlocks dL_writes_313 hK hP hD hS (by rfl) ⟨rfl, ⟨hI, hX⟩, hoc, rz_issue hR hN hcl ho (by omega) (by omega) (by omega) (by omega)⟩ (Nat.le_of_ble_eq_true rfl) (Nat.le_of_ble_eq_true rfl)
        · refine lv_aload_n hx hb dL_writes_217 rfl (lv_at hl 5 rfl) ?_
          refine lv_iload hx hb dL_writes_218 (lv_at hl 4 rfl) ?_
          refine lv_iload hx hb dL_writes_220 (lv_at hl 3 rfl) ?_
          refine lv_iload hx hb dL_writes_222 (lv_at hl 2 rfl) ?_
          refine lv_iload hx hb dL_writes_224 (lv_at hl 1 rfl) ?_
          refine lv_iload hx hb dL_writes_226 (lv_at hl 0 rfl) ?_
          refine callY_i hP (vx_runSW (As := [.ref oc, .int (nI cl), .int (nI o), .int (nI d), .int (nI k), .int (nI z)]) (rest := []) ⟨hx, hb, hml, hown, hts⟩ (qL_issue l dC dI cy e0 mi oc ad L S N H.size (nI cl) (nI o) (nI d) (nI k) (nI z) hI hX hst hoc) (vx_cwSW 6 hts gL_writes_L_issue rfl rfl rfl (by decide +kernel) ⟨Nat.le_of_ble_eq_true rfl, Nat.le_of_ble_eq_true rfl⟩) (preLS hK (w_leftP hP) (w_leftD hD) hS hA ham) rfl rfl hl.1 rfl (lv_room (Nat.le_of_ble_eq_true rfl)) dL_writes_228 ⟨Nat.le_of_ble_eq_true rfl, Nat.le_of_ble_eq_true rfl⟩) hD hS hA (fun rr uc H locs hw hP hD hS => ?_)
          obtain ⟨rfl, ad, L, rfl, hI, hX, hoc⟩ := lres_n2 hw ((if_pos (iss_in (by omega) ho (by omega) (by omega) (by omega))).trans (if_neg (by rw [ecl]; omega)))
          have hP : va_P (dC, dI) vwCl (cw cy e0 ad L S N ++ yw ab cy Y t D a b) H := hP
          have hD : va_D A (cw cy e0 ad L S N ++ yw ab cy Y t D a b) := hD
          refine lv_bipush (v := -73) hx hb dL_writes_231 (by decide) ?_
          refine lv_icmp_ne (tgt := 240) hx hb dL_writes_233 (by decide) (fun h9 => absurd rfl h9) (fun _ => ?_)
          refine lv_iconst (v := nI 1) hx hb dL_writes_236 (by decide) ?_
          refine lv_goto (tgt := 241) hx hb dL_writes_237 (by decide) ?_
          rw [← hQQ]; exact end_z (u := ((ad, L, S, N), (Y, t, D, a, b))) hx hb hr hlocks dL_writes_241 hK hP hD hS (by rfl) ⟨rfl, ⟨hI, hX⟩, hoc, hR⟩ (Nat.le_of_ble_eq_true rfl) (Nat.le_of_ble_eq_true rfl)
      refine lv_if_ne (tgt := 56) hx hb dL_writes_48 (by decide) (fun c_10 => ?_) (fun c_10 => ?_)
      · refine lv_iconst (v := nI 4) hx hb dL_writes_56 (by decide) ?_
        exact J57 4 (Or.inr rfl) H locs hP hD hS
      · refine lv_bipush (v := nI 51) hx hb dL_writes_51 (by decide) ?_
        refine lv_goto (tgt := 57) hx hb dL_writes_53 (by decide) ?_
        exact J57 51 (Or.inl rfl) H locs hP hD hS
    refine lv_if_ne (tgt := 33) hx hb dL_writes_25 (by decide) (fun c_11 => ?_) (fun c_11 => ?_)
    · refine lv_bipush (v := nI 6) hx hb dL_writes_33 (by decide) ?_
      exact J35 6 (Or.inr rfl) H locs hP hD hS
    · refine lv_bipush (v := nI 101) hx hb dL_writes_28 (by decide) ?_
      refine lv_goto (tgt := 35) hx hb dL_writes_30 (by decide) ?_
      exact J35 101 (Or.inl rfl) H locs hP hD hS

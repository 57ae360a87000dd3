/-! works: pass, perform, notice, settle -/
theorem ct_in {N : NN} {k j : Nat} (h : j < N k 0 0) (hn : N k 0 0 ≤ 100) : isCt N k (nI j) := by
  refine ⟨nI_pos' (by omega), ?_⟩
  obtain ⟨q, e⟩ : ∃ q, N k 0 0 = q + 1 := ⟨N k 0 0 - 1, by omega⟩
  rw [e, show (nI (q + 1) - 1 : Int32) = nI q from nI_pred q]
  exact nI_le (by omega) (by omega)
theorem ct_no {N : NN} {k j : Nat} (h : j = N k 0 0) (hn : N k 0 0 ≤ 100) : ¬ isCt N k (nI j) := by
  subst h
  rintro ⟨h1, h2⟩
  rcases Nat.eq_zero_or_pos (N k 0 0) with e | e
  · rw [e] at h2
    exact absurd h2 (by decide)
  · obtain ⟨q, e⟩ : ∃ q, N k 0 0 = q + 1 := ⟨N k 0 0 - 1, by omega⟩
    rw [e, show (nI (q + 1) - 1 : Int32) = nI q from nI_pred q, nI_leI (by omega) (by omega)] at h2
    omega
theorem ct_m1 {N : NN} {k : Nat} : ¬ isCt N k (-1) := fun h => absurd h.1 (by decide)
theorem add_m32 {n : Nat} (h : 32 ≤ n) : nI n + (-32) = nI (n - 32) := by
  rw [show (-32 : Int32) = -nI 32 by decide, ← Int32.sub_eq_add_neg]
  exact pk_sub h

set_option maxHeartbeats 8000000 in
set_option maxRecDepth 100000 in
/-- days pass, duties are done, noticed, settled -/
theorem qL_works (l : Launch) (dC : Nat → ClassId) (dI : Nat → Nat → Nat) (cy : Nat → ClassId) (e0 mi oc : Nat) (ab : Nat → Nat) (ad : Lc → Nat) (L : List Lc) (S : SS) (N : NN) (Y : Nat → Nat → Nat) (t : Nat → Int32) (D : Int32) (a b : Nat) (sz : Nat)  (act : Nat) (y x : Int32) (hI : okC L N) (hX : okX L N) (hst : l.stackTraces = false) (hoc : ad (10, 0) = oc) (hR : RZ S N Y t D a b) (hact : act < 10) : Met l yL_works wsL_works ({ frames := 9, cells := 100, slots := 1000, locals := 157 }) (va_Pc [.ref oc, .int (nI act), .int y, .int x, .ref ((ab 5)), .ref ((ab 6)), .ref ((ab 7))] (wPreL (dC, dI) (tyL cy) e0 mi (cw cy e0 ad L S N ++ yw ab cy Y t D a b) sz)) (QI (dC, dI) (tyL cy) (fun (r : Int32) (u : LU2) => r = nI 1 ∧ INV oc u) (lw2 cy e0 ab) (va_A (cw cy e0 ad L S N ++ yw ab cy Y t D a b) sz)) 100 1000 (va_A (cw cy e0 ad L S N ++ yw ab cy Y t D a b) sz) := by
  refine enLA (cc := cL_works) (maxL := 10) (ret := (some .boolean)) (own := RL) (lv := [(0, .ref oc), (1, .int (nI act)), (2, .int y), (3, .int x), (4, .ref ((ab 5))), (5, .ref ((ab 6))), (6, .ref ((ab 7)))]) (by decide) rfl rfl (Nat.le_of_ble_eq_true rfl) rfl ?_
  intro p e s m below meth c ls A H locs hx hb hr hts hown hlocks hml hin hsz hK hP hD hS hA hl ham
  generalize hQQ : MQ below _ _ s _ _ A = QQ
  have lk0 : (Cond.constant RL 84 (-2147483648)).before (([.ref oc, .int (nI act), .int y, .int x, .ref ((ab 5)), .ref ((ab 6)), .ref ((ab 7))] : List Value).toArray) s = true := hts _ (List.mem_of_getElem? (i := 1) rfl)
  have lk1 : (Cond.constant RL 118 (2147483647)).before (([.ref oc, .int (nI act), .int y, .int x, .ref ((ab 5)), .ref ((ab 6)), .ref ((ab 7))] : List Value).toArray) s = true := hts _ (List.mem_of_getElem? (i := 2) rfl)
  have hN := okS_of hI
  have hYb : zY Y := hR.2.2.2.2.2.2.2
  obtain ⟨hD0, hb1, hb5, -⟩ := hR.2.2.2.2.2.2.1
  have hb60 := rz_60 hR hN
  have h10 := hN.2.2.2.1
  refine lv_iload_n hx hb dL_works_0 rfl (lv_at hl 1 rfl) ?_
  refine lv_iconst (v := nI 4) hx hb dL_works_1 (by decide) ?_
  refine n_ge (tgt := 132) hx hb dL_works_2 (by decide) (by omega) (by omega) (fun c_1 => ?_) (fun c_1 => ?_)
  · refine lv_iload_n hx hb dL_works_132 rfl (lv_at hl 2 rfl) ?_
    refine lv_aload hx hb dL_works_133 (lv_at hl 6 rfl) ?_
    refine lv_iconst (v := nI 2) hx hb dL_works_135 (by decide) ?_
    refine x_iald (f := gf D a b) hx hb hK hP (_ + 7) 0 (app_r rfl) rfl (t := 2) (by decide) (by decide) dL_works_136 ?_
    refine to_i (y := nI b) rfl ?_
    refine lv_iconst (v := nI 1) hx hb dL_works_137 (by decide) ?_
    refine lv_iadd hx hb dL_works_138 ?_
    refine to_i (y := nI (b + 1)) (nI_add _ _) ?_
    refine call_i (va_runS (As := [.int y, .int (nI (b + 1))]) (rest := []) ⟨hx, hb, hml, hown, hts⟩ (qL_low l dC dI cy (cw cy e0 ad L S N ++ yw ab cy Y t D a b) H.size y (b + 1) (by omega) (by omega)) (va_cwS 2 hts gL_works_L_low rfl rfl rfl (by decide +kernel) ⟨Nat.le_of_ble_eq_true rfl, Nat.le_of_ble_eq_true rfl⟩) (preS hK hP hD) rfl rfl hl.1 rfl (lv_room (Nat.le_of_ble_eq_true rfl)) dL_works_139 ⟨Nat.le_of_ble_eq_true rfl, Nat.le_of_ble_eq_true rfl⟩) hD hS hA (fun rr uu H locs hw hP hD hS => ?_)
    obtain ⟨du, hdu, rfl⟩ := hw
    have hP : va_P (dC, dI) vwCl (cw cy e0 ad L S N ++ yw ab cy Y t D a b) H := hP
    have hD : va_D A (cw cy e0 ad L S N ++ yw ab cy Y t D a b) := hD
    refine lv_istore (lv' := [(7, .int (nI du)), (0, .ref oc), (1, .int (nI act)), (2, .int y), (3, .int x), (4, .ref ((ab 5))), (5, .ref ((ab 6))), (6, .ref ((ab 7)))]) hx hb dL_works_142 hl (by decide) rfl (fun ls hl => ?_)
    refine lv_iload hx hb dL_works_144 (lv_at hl 0 rfl) ?_
    refine lv_aload hx hb dL_works_146 (lv_at hl 7 rfl) ?_
    refine lv_iconst (v := nI 2) hx hb dL_works_148 (by decide) ?_
    refine x_iald (f := gf D a b) hx hb hK hP (_ + 7) 0 (app_r rfl) rfl (t := 2) (by decide) (by decide) dL_works_149 ?_
    refine to_i (y := nI b) rfl ?_
    refine n_ne (tgt := 212) hx hb dL_works_150 (by decide) (by omega) (by omega) (fun c_2 => ?_) (fun c_2 => ?_)
    · obtain ⟨st, x2, x3, k1, k2, k3, k4, k5, k6, k7, k8, k9, k10⟩ := rz_d hR hN (j := du) (by omega)
      refine lv_aload hx hb dL_works_212 (lv_at hl 5 rfl) ?_
      refine lv_iload hx hb dL_works_214 (lv_at hl 0 rfl) ?_
      refine x_iald (f := fun j => nI (Y 5 j)) hx hb hK hP (_ + 5) 0 (app_r rfl) rfl (t := du) (by omega) (by decide) dL_works_216 ?_
      refine to_i (y := nI (Y 5 du)) rfl ?_
      refine lv_iconst (v := nI 5) hx hb dL_works_217 (by decide) ?_
      refine lv_ishr hx hb dL_works_218 ?_
      refine to_i (y := nI ((Y 5 du) / 32)) (pk_shrN (by have := hYb 5 du; omega) _ 5 (by decide)) ?_
      refine lv_bipush (v := nI 7) hx hb dL_works_219 (by decide) ?_
      refine lv_iand hx hb dL_works_221 ?_
      refine to_i (y := nI (((Y 5 du) / 32) % 8)) (pk_andN (by have := hYb 5 du; omega) 3 (by decide)) ?_
      refine to_i (y := nI st) (congrArg nI (by omega)) ?_
      refine lv_istore (lv' := [(8, .int (nI st)), (7, .int (nI du)), (0, .ref oc), (1, .int (nI act)), (2, .int y), (3, .int x), (4, .ref ((ab 5))), (5, .ref ((ab 6))), (6, .ref ((ab 7)))]) hx hb dL_works_222 hl (by decide) rfl (fun ls hl => ?_)
      refine lv_iload_n hx hb dL_works_224 rfl (lv_at hl 3 rfl) ?_
      refine lv_iconst (v := nI 4) hx hb dL_works_225 (by decide) ?_
      refine n_ne (tgt := 336) hx hb dL_works_226 (by decide) (by omega) (by omega) (fun c_3 => ?_) (fun c_3 => ?_)
      · refine lv_iload_n hx hb dL_works_336 rfl (lv_at hl 3 rfl) ?_
        refine lv_bipush (v := nI 8) hx hb dL_works_337 (by decide) ?_
        refine n_ge (tgt := 477) hx hb dL_works_339 (by decide) (by omega) (by omega) (fun c_4 => ?_) (fun c_4 => ?_)
        · refine lv_iload hx hb dL_works_477 (lv_at hl 0 rfl) ?_
          refine lv_iconst (v := nI 3) hx hb dL_works_479 (by decide) ?_
          refine n_eq (tgt := 500) hx hb dL_works_480 (by decide) (by omega) (by omega) (fun c_5 => ?_) (fun c_5 => ?_)
          · refine lv_aload hx hb dL_works_500 (lv_at hl 6 rfl) ?_
            refine lv_iload hx hb dL_works_502 (lv_at hl 1 rfl) ?_
            refine lv_dup2_11 hx hb dL_works_504 rfl rfl ?_
            refine x_iald (f := fun j => nI (Y 5 j)) hx hb hK hP (_ + 5) 0 (app_r rfl) rfl (t := du) (by omega) (by decide) dL_works_505 ?_
            refine to_i (y := nI (Y 5 du)) rfl ?_
            refine lv_bipush (v := nI 32) hx hb dL_works_506 (by decide) ?_
            refine lv_iadd hx hb dL_works_508 ?_
            refine to_i (y := nI ((Y 5 du) + 32)) (nI_add _ _) ?_
            refine x_iast (f := fun j => nI (Y 5 j)) hx hb hK hP hD hS (_ + 5) 0 (app_r rfl) rfl (t := du) (x := nI ((Y 5 du) + 32)) (by omega) (by decide) dL_works_509 (fun H locs hP hD hS => ?_)
            rw [app_setr, upd_nI] at hP hD
            have hP : va_P (dC, dI) vwCl (cw cy e0 ad L S N ++ yw ab cy (va_up Y 5 (va_up (Y 5) du ((Y 5 du) + 32))) t D a b) H := hP
            have hD : va_D A (cw cy e0 ad L S N ++ yw ab cy (va_up Y 5 (va_up (Y 5) du ((Y 5 du) + 32))) t D a b) := hD
            refine lv_aload hx hb dL_works_510 (lv_at hl 7 rfl) ?_
            refine lv_iload hx hb dL_works_512 (lv_at hl 1 rfl) ?_
            refine lv_aload hx hb dL_works_514 (lv_at hl 8 rfl) ?_
            refine lv_iconst (v := nI 0) hx hb dL_works_516 (by decide) ?_
            refine x_iald (f := gf D a b) hx hb hK hP (_ + 7) 0 (app_r rfl) rfl (t := 0) (by decide) (by decide) dL_works_517 ?_
            refine to_i (y := D) rfl ?_
            refine x_iast (f := t) hx hb hK hP hD hS (_ + 6) 0 (app_r rfl) rfl (t := du) (x := D) (by omega) (by decide) dL_works_518 (fun H locs hP hD hS => ?_)
            rw [app_setr] at hP hD
            have hP : va_P (dC, dI) vwCl (cw cy e0 ad L S N ++ yw ab cy (va_up Y 5 (va_up (Y 5) du ((Y 5 du) + 32))) (upd t du D) D a b) H := hP
            have hD : va_D A (cw cy e0 ad L S N ++ yw ab cy (va_up Y 5 (va_up (Y 5) du ((Y 5 du) + 32))) (upd t du D) D a b) := hD
            refine lv_aload_n hx hb dL_works_519 rfl (lv_at hl 2 rfl) ?_
            refine lv_iload hx hb dL_works_520 (lv_at hl 1 rfl) ?_
            refine callY_i hP (vx_runSW (As := [.ref oc, .int (nI du)]) (rest := []) ⟨hx, hb, hml, hown, hts⟩ (qL_settle l dC dI cy e0 mi oc ad L S N H.size (nI du) hI hX hst hoc) (vx_cwSW 2 hts gL_works_L_settle rfl rfl rfl (by decide +kernel) ⟨Nat.le_of_ble_eq_true rfl, Nat.le_of_ble_eq_true rfl⟩) (preLS hK (w_leftP hP) (w_leftD hD) hS hA ham) rfl rfl hl.1 rfl (lv_room (Nat.le_of_ble_eq_true rfl)) dL_works_522 ⟨Nat.le_of_ble_eq_true rfl, Nat.le_of_ble_eq_true rfl⟩) hD hS hA (fun rr uc H locs hw hP hD hS => ?_)
            rw [ix_nI (show du < 2 ^ 31 by omega)] at hw
            obtain ⟨er, ad, L, rfl, hI, hX, hoc⟩ := lres_n0 hw ((if_pos (ct_in (by omega) (by omega))).trans (if_pos (by rw [ix_nI (show du < 2 ^ 31 by omega), k4]; exact congrArg nI c_5)))
            have hP : va_P (dC, dI) vwCl (cwT cy e0 (ad, L, K_count (K_move S du (nI 4) (S 0 0 0)) N du (-1), N) ++ yw ab cy (va_up Y 5 (va_up (Y 5) du ((Y 5 du) + 32))) (upd t du D) D a b) H := hP
            have hD : va_D A (cwT cy e0 (ad, L, K_count (K_move S du (nI 4) (S 0 0 0)) N du (-1), N) ++ yw ab cy (va_up Y 5 (va_up (Y 5) du ((Y 5 du) + 32))) (upd t du D) D a b) := hD
            refine to_i (y := nI x3) (er.trans (k6)) ?_
            refine lv_aload hx hb dL_works_525 (lv_at hl 6 rfl) ?_
            refine lv_iload hx hb dL_works_527 (lv_at hl 1 rfl) ?_
            refine x_iald (f := fun j => nI ((va_up Y 5 (va_up (Y 5) du ((Y 5 du) + 32))) 5 j)) hx hb hK hP (_ + 5) 0 (app_r rfl) rfl (t := du) (by omega) (by decide) dL_works_529 ?_
            refine to_i (y := nI ((Y 5 du) + 32)) (congrArg nI (by simp [va_up])) ?_
            refine lv_bipush (v := nI 14) hx hb dL_works_530 (by decide) ?_
            refine lv_ishr hx hb dL_works_532 ?_
            refine to_i (y := nI (((Y 5 du) + 32) / 16384)) (pk_shrN (by have := hYb 5 du; omega) _ 14 (by decide)) ?_
            refine to_i (y := nI x3) (congrArg nI (by omega)) ?_
            refine lv_icmp_ne (tgt := 540) hx hb dL_works_533 (by decide) (fun h9 => absurd rfl h9) (fun _ => ?_)
            refine lv_iconst (v := nI 1) hx hb dL_works_536 (by decide) ?_
            refine lv_goto (tgt := 541) hx hb dL_works_537 (by decide) ?_
            rw [← hQQ]; exact end_z (u := ((ad, L, K_count (K_move S du (nI 4) (S 0 0 0)) N du (-1), N), (va_up Y 5 (va_up (Y 5) du ((Y 5 du) + 32)), upd t du D, D, a, b))) hx hb hr hlocks dL_works_541 hK hP hD hS (by rfl) ⟨rfl, ⟨hI, hX⟩, hoc, rz_settle hR hN (by omega) (by rw [k4]; exact congrArg nI c_5) rfl⟩ (Nat.le_of_ble_eq_true rfl) (Nat.le_of_ble_eq_true rfl)
          · refine lv_aload_n hx hb dL_works_483 rfl (lv_at hl 2 rfl) ?_
            refine lv_iload hx hb dL_works_484 (lv_at hl 1 rfl) ?_
            refine callY_i hP (vx_runSW (As := [.ref oc, .int (nI du)]) (rest := []) ⟨hx, hb, hml, hown, hts⟩ (qL_settle l dC dI cy e0 mi oc ad L S N H.size (nI du) hI hX hst hoc) (vx_cwSW 2 hts gL_works_L_settle rfl rfl rfl (by decide +kernel) ⟨Nat.le_of_ble_eq_true rfl, Nat.le_of_ble_eq_true rfl⟩) (preLS hK (w_leftP hP) (w_leftD hD) hS hA ham) rfl rfl hl.1 rfl (lv_room (Nat.le_of_ble_eq_true rfl)) dL_works_486 ⟨Nat.le_of_ble_eq_true rfl, Nat.le_of_ble_eq_true rfl⟩) hD hS hA (fun rr uc H locs hw hP hD hS => ?_)
            obtain ⟨rfl, ad, L, rfl, hI, hX, hoc⟩ := lres_n2 hw ((if_pos (ct_in (by omega) (by omega))).trans (if_neg (by rw [ix_nI (show du < 2 ^ 31 by omega), k4]; exact fun q => c_5 ((nI_inj (by omega) (by decide)).mp q))))
            have hP : va_P (dC, dI) vwCl (cw cy e0 ad L S N ++ yw ab cy Y t D a b) H := hP
            have hD : va_D A (cw cy e0 ad L S N ++ yw ab cy Y t D a b) := hD
            refine lv_bipush (v := -73) hx hb dL_works_489 (by decide) ?_
            refine lv_icmp_ne (tgt := 498) hx hb dL_works_491 (by decide) (fun h9 => absurd rfl h9) (fun _ => ?_)
            refine lv_iconst (v := nI 1) hx hb dL_works_494 (by decide) ?_
            refine lv_goto (tgt := 499) hx hb dL_works_495 (by decide) ?_
            rw [← hQQ]; exact end_z (u := ((ad, L, S, N), (Y, t, D, a, b))) hx hb hr hlocks dL_works_499 hK hP hD hS (by rfl) ⟨rfl, ⟨hI, hX⟩, hoc, hR⟩ (Nat.le_of_ble_eq_true rfl) (Nat.le_of_ble_eq_true rfl)
        · refine lv_iconst (v := nI 0) hx hb dL_works_342 (by decide) ?_
          refine lv_istore (lv' := [(9, .int (nI 0)), (8, .int (nI st)), (7, .int (nI du)), (0, .ref oc), (1, .int (nI act)), (2, .int y), (3, .int x), (4, .ref ((ab 5))), (5, .ref ((ab 6))), (6, .ref ((ab 7)))]) hx hb dL_works_343 hl (by decide) rfl (fun ls hl => ?_)
          have hl_n : ∀ (k9 k : Nat) (dv : Nat), b - k = k9 → k ≤ b → dv < b → ∀ (H : Heap) (locs : List Loc) (ls : Array Slot), va_P (dC, dI) vwCl (cw cy e0 ad L S N ++ yw ab cy Y t D a b) H → va_D A (cw cy e0 ad L S N ++ yw ab cy Y t D a b) → va_S A s.heap H locs → lv_has ls 10 [(0, .ref oc), (1, .int (nI act)), (2, .int y), (3, .int x), (4, .ref ((ab 5))), (5, .ref ((ab 6))), (6, .ref ((ab 7))), (7, .int (nI dv)), (8, .int (nI st)), (9, .int (nI k))] → W p l e ({ frames := 9, cells := 100, slots := 1000, locals := 157 }) s m (([.ref oc, .int (nI act), .int y, .int x, .ref ((ab 5)), .ref ((ab 6)), .ref ((ab 7))] : List Value).toArray) below meth c H locs 0 0 QQ (F0 m 345 ls []) := by
            intro k9
            induction k9 using Nat.strongRecOn with
            | _ k9 ih_n =>
              intro k dv hk9 hle9 hdv H locs ls hP hD hS hl
              refine lv_iload hx hb dL_works_345 (lv_at hl 9 rfl) ?_
              refine lv_aload hx hb dL_works_347 (lv_at hl 6 rfl) ?_
              refine lv_iconst (v := nI 2) hx hb dL_works_349 (by decide) ?_
              refine x_iald (f := gf D a b) hx hb hK hP (_ + 7) 0 (app_r rfl) rfl (t := 2) (by decide) (by decide) dL_works_350 ?_
              refine to_i (y := nI b) rfl ?_
              refine n_ge (tgt := 384) hx hb dL_works_351 (by decide) (by omega) (by omega) (fun c_6 => ?_) (fun c_6 => ?_)
              · obtain ⟨st7, x27, x37, k17, k27, k37, k47, k57, k67, k77, k87, k97, k107⟩ := rz_d hR hN (j := dv) (by omega)
                refine lv_aload hx hb dL_works_384 (lv_at hl 4 rfl) ?_
                refine lv_iload hx hb dL_works_386 (lv_at hl 7 rfl) ?_
                refine x_iald (f := fun j => nI (Y 5 j)) hx hb hK hP (_ + 5) 0 (app_r rfl) rfl (t := dv) (by omega) (by decide) dL_works_388 ?_
                refine to_i (y := nI (Y 5 dv)) rfl ?_
                refine lv_iconst (v := nI 5) hx hb dL_works_389 (by decide) ?_
                refine lv_ishr hx hb dL_works_390 ?_
                refine to_i (y := nI ((Y 5 dv) / 32)) (pk_shrN (by have := hYb 5 dv; omega) _ 5 (by decide)) ?_
                refine lv_bipush (v := nI 7) hx hb dL_works_391 (by decide) ?_
                refine lv_iand hx hb dL_works_393 ?_
                refine to_i (y := nI (((Y 5 dv) / 32) % 8)) (pk_andN (by have := hYb 5 dv; omega) 3 (by decide)) ?_
                refine to_i (y := nI st7) (congrArg nI (by omega)) ?_
                refine n_if_ne (tgt := 409) hx hb dL_works_394 (by decide) (by omega) (fun c_7 => ?_) (fun c_7 => ?_)
                · refine lv_aload_n hx hb dL_works_409 rfl (lv_at hl 0 rfl) ?_
                  refine lv_iload hx hb dL_works_410 (lv_at hl 7 rfl) ?_
                  refine callY_i hP (vx_runSW (As := [.ref oc, .int (nI dv)]) (rest := []) ⟨hx, hb, hml, hown, hts⟩ (qL_notice l dC dI cy e0 mi oc ad L S N H.size (nI dv) hI hX hst hoc) (vx_cwSW 2 hts gL_works_L_notice rfl rfl rfl (by decide +kernel) ⟨Nat.le_of_ble_eq_true rfl, Nat.le_of_ble_eq_true rfl⟩) (preLS hK (w_leftP hP) (w_leftD hD) hS hA ham) rfl rfl hl.1 rfl (lv_room (Nat.le_of_ble_eq_true rfl)) dL_works_412 ⟨Nat.le_of_ble_eq_true rfl, Nat.le_of_ble_eq_true rfl⟩) hD hS hA (fun rr uc H locs hw hP hD hS => ?_)
                  obtain ⟨rfl, ad, L, rfl, hI, hX, hoc⟩ := lres_n2 hw ((if_pos (ct_in (by omega) (by omega))).trans (if_neg (by rw [ix_nI (show dv < 2 ^ 31 by omega)]; exact fun q => c_7 ((nI_inj (by omega) (by decide)).mp (k47.symm.trans (q.1.trans nI_00.symm))))))
                  have hP : va_P (dC, dI) vwCl (cw cy e0 ad L S N ++ yw ab cy Y t D a b) H := hP
                  have hD : va_D A (cw cy e0 ad L S N ++ yw ab cy Y t D a b) := hD
                  refine lv_bipush (v := -73) hx hb dL_works_415 (by decide) ?_
                  refine lv_icmp_ne (tgt := 424) hx hb dL_works_417 (by decide) (fun h9 => absurd rfl h9) (fun _ => ?_)
                  refine lv_iconst (v := nI 1) hx hb dL_works_420 (by decide) ?_
                  refine lv_goto (tgt := 425) hx hb dL_works_421 (by decide) ?_
                  rw [← hQQ]; exact end_z (u := ((ad, L, S, N), (Y, t, D, a, b))) hx hb hr hlocks dL_works_425 hK hP hD hS (by rfl) ⟨rfl, ⟨hI, hX⟩, hoc, hR⟩ (Nat.le_of_ble_eq_true rfl) (Nat.le_of_ble_eq_true rfl)
                · refine lv_aload hx hb dL_works_397 (lv_at hl 6 rfl) ?_
                  refine lv_iconst (v := nI 0) hx hb dL_works_399 (by decide) ?_
                  refine x_iald (f := gf D a b) hx hb hK hP (_ + 7) 0 (app_r rfl) rfl (t := 0) (by decide) (by decide) dL_works_400 ?_
                  refine to_i (y := D) rfl ?_
                  refine lv_aload hx hb dL_works_401 (lv_at hl 5 rfl) ?_
                  refine lv_iload hx hb dL_works_403 (lv_at hl 7 rfl) ?_
                  refine x_iald (f := t) hx hb hK hP (_ + 6) 0 (app_r rfl) rfl (t := dv) (by omega) (by decide) dL_works_405 ?_
                  refine lv_icmp_gt (tgt := 426) hx hb dL_works_406 (by decide) (fun c_8 => ?_) (fun c_8 => ?_)
                  · refine lv_aload hx hb dL_works_426 (lv_at hl 4 rfl) ?_
                    refine lv_iload hx hb dL_works_428 (lv_at hl 7 rfl) ?_
                    refine lv_dup2_11 hx hb dL_works_430 rfl rfl ?_
                    refine x_iald (f := fun j => nI (Y 5 j)) hx hb hK hP (_ + 5) 0 (app_r rfl) rfl (t := dv) (by omega) (by decide) dL_works_431 ?_
                    refine to_i (y := nI (Y 5 dv)) rfl ?_
                    refine lv_bipush (v := nI 64) hx hb dL_works_432 (by decide) ?_
                    refine lv_iadd hx hb dL_works_434 ?_
                    refine to_i (y := nI ((Y 5 dv) + 64)) (nI_add _ _) ?_
                    refine x_iast (f := fun j => nI (Y 5 j)) hx hb hK hP hD hS (_ + 5) 0 (app_r rfl) rfl (t := dv) (x := nI ((Y 5 dv) + 64)) (by omega) (by decide) dL_works_435 (fun H locs hP hD hS => ?_)
                    rw [app_setr, upd_nI] at hP hD
                    have hP : va_P (dC, dI) vwCl (cw cy e0 ad L S N ++ yw ab cy (va_up Y 5 (va_up (Y 5) dv ((Y 5 dv) + 64))) t D a b) H := hP
                    have hD : va_D A (cw cy e0 ad L S N ++ yw ab cy (va_up Y 5 (va_up (Y 5) dv ((Y 5 dv) + 64))) t D a b) := hD
                    refine lv_aload hx hb dL_works_436 (lv_at hl 5 rfl) ?_
                    refine lv_iload hx hb dL_works_438 (lv_at hl 7 rfl) ?_
                    refine lv_aload hx hb dL_works_440 (lv_at hl 6 rfl) ?_
                    refine lv_iconst (v := nI 0) hx hb dL_works_442 (by decide) ?_
                    refine x_iald (f := gf D a b) hx hb hK hP (_ + 7) 0 (app_r rfl) rfl (t := 0) (by decide) (by decide) dL_works_443 ?_
                    refine to_i (y := D) rfl ?_
                    refine lv_aload hx hb dL_works_444 (lv_at hl 4 rfl) ?_
                    refine lv_iload hx hb dL_works_446 (lv_at hl 7 rfl) ?_
                    refine x_iald (f := fun j => nI ((va_up Y 5 (va_up (Y 5) dv ((Y 5 dv) + 64))) 5 j)) hx hb hK hP (_ + 5) 0 (app_r rfl) rfl (t := dv) (by omega) (by decide) dL_works_448 ?_
                    refine to_i (y := nI ((Y 5 dv) + 64)) (congrArg nI (by simp [va_up])) ?_
                    refine lv_bipush (v := nI 8) hx hb dL_works_449 (by decide) ?_
                    refine lv_ishr hx hb dL_works_451 ?_
                    refine to_i (y := nI (((Y 5 dv) + 64) / 256)) (pk_shrN (by have := hYb 5 dv; omega) _ 8 (by decide)) ?_
                    refine lv_bipush (v := nI 63) hx hb dL_works_452 (by decide) ?_
                    refine lv_iand hx hb dL_works_454 ?_
                    refine to_i (y := nI ((((Y 5 dv) + 64) / 256) % 64)) (pk_andN (by have := hYb 5 dv; omega) 6 (by decide)) ?_
                    refine to_i (y := nI x27) (congrArg nI (by omega)) ?_
                    refine lv_iadd hx hb dL_works_455 ?_
                    refine x_iast (f := t) hx hb hK hP hD hS (_ + 6) 0 (app_r rfl) rfl (t := dv) (x := (D + (nI x27))) (by omega) (by decide) dL_works_456 (fun H locs hP hD hS => ?_)
                    rw [app_setr] at hP hD
                    have hP : va_P (dC, dI) vwCl (cw cy e0 ad L S N ++ yw ab cy (va_up Y 5 (va_up (Y 5) dv ((Y 5 dv) + 64))) (upd t dv (D + (nI x27))) D a b) H := hP
                    have hD : va_D A (cw cy e0 ad L S N ++ yw ab cy (va_up Y 5 (va_up (Y 5) dv ((Y 5 dv) + 64))) (upd t dv (D + (nI x27))) D a b) := hD
                    refine lv_aload_n hx hb dL_works_457 rfl (lv_at hl 0 rfl) ?_
                    refine lv_iload hx hb dL_works_458 (lv_at hl 7 rfl) ?_
                    refine callY_i hP (vx_runSW (As := [.ref oc, .int (nI dv)]) (rest := []) ⟨hx, hb, hml, hown, hts⟩ (qL_notice l dC dI cy e0 mi oc ad L S N H.size (nI dv) hI hX hst hoc) (vx_cwSW 2 hts gL_works_L_notice rfl rfl rfl (by decide +kernel) ⟨Nat.le_of_ble_eq_true rfl, Nat.le_of_ble_eq_true rfl⟩) (preLS hK (w_leftP hP) (w_leftD hD) hS hA ham) rfl rfl hl.1 rfl (lv_room (Nat.le_of_ble_eq_true rfl)) dL_works_460 ⟨Nat.le_of_ble_eq_true rfl, Nat.le_of_ble_eq_true rfl⟩) hD hS hA (fun rr uc H locs hw hP hD hS => ?_)
                    rw [ix_nI (show dv < 2 ^ 31 by omega)] at hw
                    obtain ⟨er, ad, L, rfl, hI, hX, hoc⟩ := lres_n0 hw ((if_pos (ct_in (by omega) (by omega))).trans (if_pos (by rw [ix_nI (show dv < 2 ^ 31 by omega)]; exact ⟨k47.trans ((congrArg nI c_7).trans nI_00), by rw [← k107, ← hD0]; exact Int32.not_le.mpr c_8⟩)))
                    have hP : va_P (dC, dI) vwCl (cwT cy e0 (ad, L, K_move S dv (nI 2) (S 0 0 0 + S 3 (N 3 dv 1) 2), N) ++ yw ab cy (va_up Y 5 (va_up (Y 5) dv ((Y 5 dv) + 64))) (upd t dv (D + (nI x27))) D a b) H := hP
                    have hD : va_D A (cwT cy e0 (ad, L, K_move S dv (nI 2) (S 0 0 0 + S 3 (N 3 dv 1) 2), N) ++ yw ab cy (va_up Y 5 (va_up (Y 5) dv ((Y 5 dv) + 64))) (upd t dv (D + (nI x27))) D a b) := hD
                    refine to_i (y := D + (nI x27)) (er.trans (by rw [← hD0, k57])) ?_
                    refine lv_aload hx hb dL_works_463 (lv_at hl 5 rfl) ?_
                    refine lv_iload hx hb dL_works_465 (lv_at hl 7 rfl) ?_
                    refine x_iald (f := (upd t dv (D + (nI x27)))) hx hb hK hP (_ + 6) 0 (app_r rfl) rfl (t := dv) (by omega) (by decide) dL_works_467 ?_
                    refine to_i (y := D + (nI x27)) pk_us ?_
                    refine lv_icmp_ne (tgt := 475) hx hb dL_works_468 (by decide) (fun h9 => absurd rfl h9) (fun _ => ?_)
                    refine lv_iconst (v := nI 1) hx hb dL_works_471 (by decide) ?_
                    refine lv_goto (tgt := 476) hx hb dL_works_472 (by decide) ?_
                    rw [← hQQ]; exact end_z (u := ((ad, L, K_move S dv (nI 2) (S 0 0 0 + S 3 (N 3 dv 1) 2), N), (va_up Y 5 (va_up (Y 5) dv ((Y 5 dv) + 64)), upd t dv (D + (nI x27)), D, a, b))) hx hb hr hlocks dL_works_476 hK hP hD hS (by rfl) ⟨rfl, ⟨hI, hX⟩, hoc, (by show RZ (K_move S dv (nI 2) (S 0 0 0 + S 3 (N 3 dv 1) 2)) N _ _ _ _ _; rw [← hD0, k57]; exact rz_mv hR hN (by omega) (by decide) (by rw [k47, ix_nI (by omega)]; omega) (by rw [k47]; exact nI_ne (by omega) (by decide) (by omega)) (by decide))⟩ (Nat.le_of_ble_eq_true rfl) (Nat.le_of_ble_eq_true rfl)
                  · refine lv_aload_n hx hb dL_works_409 rfl (lv_at hl 0 rfl) ?_
                    refine lv_iload hx hb dL_works_410 (lv_at hl 7 rfl) ?_
                    refine callY_i hP (vx_runSW (As := [.ref oc, .int (nI dv)]) (rest := []) ⟨hx, hb, hml, hown, hts⟩ (qL_notice l dC dI cy e0 mi oc ad L S N H.size (nI dv) hI hX hst hoc) (vx_cwSW 2 hts gL_works_L_notice rfl rfl rfl (by decide +kernel) ⟨Nat.le_of_ble_eq_true rfl, Nat.le_of_ble_eq_true rfl⟩) (preLS hK (w_leftP hP) (w_leftD hD) hS hA ham) rfl rfl hl.1 rfl (lv_room (Nat.le_of_ble_eq_true rfl)) dL_works_412 ⟨Nat.le_of_ble_eq_true rfl, Nat.le_of_ble_eq_true rfl⟩) hD hS hA (fun rr uc H locs hw hP hD hS => ?_)
                    obtain ⟨rfl, ad, L, rfl, hI, hX, hoc⟩ := lres_n2 hw ((if_pos (ct_in (by omega) (by omega))).trans (if_neg (by rw [ix_nI (show dv < 2 ^ 31 by omega)]; exact fun q => by have q2 := q.2; rw [← k107, ← hD0] at q2; exact c_8 (Int32.not_le.mp q2))))
                    have hP : va_P (dC, dI) vwCl (cw cy e0 ad L S N ++ yw ab cy Y t D a b) H := hP
                    have hD : va_D A (cw cy e0 ad L S N ++ yw ab cy Y t D a b) := hD
                    refine lv_bipush (v := -73) hx hb dL_works_415 (by decide) ?_
                    refine lv_icmp_ne (tgt := 424) hx hb dL_works_417 (by decide) (fun h9 => absurd rfl h9) (fun _ => ?_)
                    refine lv_iconst (v := nI 1) hx hb dL_works_420 (by decide) ?_
                    refine lv_goto (tgt := 425) hx hb dL_works_421 (by decide) ?_
                    rw [← hQQ]; exact end_z (u := ((ad, L, S, N), (Y, t, D, a, b))) hx hb hr hlocks dL_works_425 hK hP hD hS (by rfl) ⟨rfl, ⟨hI, hX⟩, hoc, hR⟩ (Nat.le_of_ble_eq_true rfl) (Nat.le_of_ble_eq_true rfl)
              · obtain ⟨st8, x28, x38, k18, k28, k38, k48, k58, k68, k78, k88, k98, k108⟩ := rz_d hR hN (j := dv) (by omega)
                refine lv_aload hx hb dL_works_354 (lv_at hl 4 rfl) ?_
                refine lv_iload hx hb dL_works_356 (lv_at hl 7 rfl) ?_
                refine x_iald (f := fun j => nI (Y 5 j)) hx hb hK hP (_ + 5) 0 (app_r rfl) rfl (t := dv) (by omega) (by decide) dL_works_358 ?_
                refine to_i (y := nI (Y 5 dv)) rfl ?_
                refine lv_iconst (v := nI 5) hx hb dL_works_359 (by decide) ?_
                refine lv_ishr hx hb dL_works_360 ?_
                refine to_i (y := nI ((Y 5 dv) / 32)) (pk_shrN (by have := hYb 5 dv; omega) _ 5 (by decide)) ?_
                refine lv_bipush (v := nI 7) hx hb dL_works_361 (by decide) ?_
                refine lv_iand hx hb dL_works_363 ?_
                refine to_i (y := nI (((Y 5 dv) / 32) % 8)) (pk_andN (by have := hYb 5 dv; omega) 3 (by decide)) ?_
                refine to_i (y := nI st8) (congrArg nI (by omega)) ?_
                refine n_if_eq (tgt := 384) hx hb dL_works_364 (by decide) (by omega) (fun c_9 => ?_) (fun c_9 => ?_)
                · obtain ⟨st7, x27, x37, k17, k27, k37, k47, k57, k67, k77, k87, k97, k107⟩ := rz_d hR hN (j := dv) (by omega)
                  refine lv_aload hx hb dL_works_384 (lv_at hl 4 rfl) ?_
                  refine lv_iload hx hb dL_works_386 (lv_at hl 7 rfl) ?_
                  refine x_iald (f := fun j => nI (Y 5 j)) hx hb hK hP (_ + 5) 0 (app_r rfl) rfl (t := dv) (by omega) (by decide) dL_works_388 ?_
                  refine to_i (y := nI (Y 5 dv)) rfl ?_
                  refine lv_iconst (v := nI 5) hx hb dL_works_389 (by decide) ?_
                  refine lv_ishr hx hb dL_works_390 ?_
                  refine to_i (y := nI ((Y 5 dv) / 32)) (pk_shrN (by have := hYb 5 dv; omega) _ 5 (by decide)) ?_
                  refine lv_bipush (v := nI 7) hx hb dL_works_391 (by decide) ?_
                  refine lv_iand hx hb dL_works_393 ?_
                  refine to_i (y := nI (((Y 5 dv) / 32) % 8)) (pk_andN (by have := hYb 5 dv; omega) 3 (by decide)) ?_
                  refine to_i (y := nI st7) (congrArg nI (by omega)) ?_
                  refine n_if_ne (tgt := 409) hx hb dL_works_394 (by decide) (by omega) (fun c_10 => ?_) (fun c_10 => ?_)
                  · refine lv_aload_n hx hb dL_works_409 rfl (lv_at hl 0 rfl) ?_
                    refine lv_iload hx hb dL_works_410 (lv_at hl 7 rfl) ?_
                    refine callY_i hP (vx_runSW (As := [.ref oc, .int (nI dv)]) (rest := []) ⟨hx, hb, hml, hown, hts⟩ (qL_notice l dC dI cy e0 mi oc ad L S N H.size (nI dv) hI hX hst hoc) (vx_cwSW 2 hts gL_works_L_notice rfl rfl rfl (by decide +kernel) ⟨Nat.le_of_ble_eq_true rfl, Nat.le_of_ble_eq_true rfl⟩) (preLS hK (w_leftP hP) (w_leftD hD) hS hA ham) rfl rfl hl.1 rfl (lv_room (Nat.le_of_ble_eq_true rfl)) dL_works_412 ⟨Nat.le_of_ble_eq_true rfl, Nat.le_of_ble_eq_true rfl⟩) hD hS hA (fun rr uc H locs hw hP hD hS => ?_)
                    obtain ⟨rfl, ad, L, rfl, hI, hX, hoc⟩ := lres_n2 hw ((if_pos (ct_in (by omega) (by omega))).trans (if_neg (by rw [ix_nI (show dv < 2 ^ 31 by omega)]; exact fun q => c_10 ((nI_inj (by omega) (by decide)).mp (k47.symm.trans (q.1.trans nI_00.symm))))))
                    have hP : va_P (dC, dI) vwCl (cw cy e0 ad L S N ++ yw ab cy Y t D a b) H := hP
                    have hD : va_D A (cw cy e0 ad L S N ++ yw ab cy Y t D a b) := hD
                    refine lv_bipush (v := -73) hx hb dL_works_415 (by decide) ?_
                    refine lv_icmp_ne (tgt := 424) hx hb dL_works_417 (by decide) (fun h9 => absurd rfl h9) (fun _ => ?_)
                    refine lv_iconst (v := nI 1) hx hb dL_works_420 (by decide) ?_
                    refine lv_goto (tgt := 425) hx hb dL_works_421 (by decide) ?_
                    rw [← hQQ]; exact end_z (u := ((ad, L, S, N), (Y, t, D, a, b))) hx hb hr hlocks dL_works_425 hK hP hD hS (by rfl) ⟨rfl, ⟨hI, hX⟩, hoc, hR⟩ (Nat.le_of_ble_eq_true rfl) (Nat.le_of_ble_eq_true rfl)
                  · refine lv_aload hx hb dL_works_397 (lv_at hl 6 rfl) ?_
                    refine lv_iconst (v := nI 0) hx hb dL_works_399 (by decide) ?_
                    refine x_iald (f := gf D a b) hx hb hK hP (_ + 7) 0 (app_r rfl) rfl (t := 0) (by decide) (by decide) dL_works_400 ?_
                    refine to_i (y := D) rfl ?_
                    refine lv_aload hx hb dL_works_401 (lv_at hl 5 rfl) ?_
                    refine lv_iload hx hb dL_works_403 (lv_at hl 7 rfl) ?_
                    refine x_iald (f := t) hx hb hK hP (_ + 6) 0 (app_r rfl) rfl (t := dv) (by omega) (by decide) dL_works_405 ?_
                    refine lv_icmp_gt (tgt := 426) hx hb dL_works_406 (by decide) (fun c_11 => ?_) (fun c_11 => ?_)
                    · refine lv_aload hx hb dL_works_426 (lv_at hl 4 rfl) ?_
                      refine lv_iload hx hb dL_works_428 (lv_at hl 7 rfl) ?_
                      refine lv_dup2_11 hx hb dL_works_430 rfl rfl ?_
                      refine x_iald (f := fun j => nI (Y 5 j)) hx hb hK hP (_ + 5) 0 (app_r rfl) rfl (t := dv) (by omega) (by decide) dL_works_431 ?_
                      refine to_i (y := nI (Y 5 dv)) rfl ?_
                      refine lv_bipush (v := nI 64) hx hb dL_works_432 (by decide) ?_
                      refine lv_iadd hx hb dL_works_434 ?_
                      refine to_i (y := nI ((Y 5 dv) + 64)) (nI_add _ _) ?_
                      refine x_iast (f := fun j => nI (Y 5 j)) hx hb hK hP hD hS (_ + 5) 0 (app_r rfl) rfl (t := dv) (x := nI ((Y 5 dv) + 64)) (by omega) (by decide) dL_works_435 (fun H locs hP hD hS => ?_)
                      rw [app_setr, upd_nI] at hP hD
                      have hP : va_P (dC, dI) vwCl (cw cy e0 ad L S N ++ yw ab cy (va_up Y 5 (va_up (Y 5) dv ((Y 5 dv) + 64))) t D a b) H := hP
                      have hD : va_D A (cw cy e0 ad L S N ++ yw ab cy (va_up Y 5 (va_up (Y 5) dv ((Y 5 dv) + 64))) t D a b) := hD
                      refine lv_aload hx hb dL_works_436 (lv_at hl 5 rfl) ?_
                      refine lv_iload hx hb dL_works_438 (lv_at hl 7 rfl) ?_
                      refine lv_aload hx hb dL_works_440 (lv_at hl 6 rfl) ?_
                      refine lv_iconst (v := nI 0) hx hb dL_works_442 (by decide) ?_
                      refine x_iald (f := gf D a b) hx hb hK hP (_ + 7) 0 (app_r rfl) rfl (t := 0) (by decide) (by decide) dL_works_443 ?_
                      refine to_i (y := D) rfl ?_
                      refine lv_aload hx hb dL_works_444 (lv_at hl 4 rfl) ?_
                      refine lv_iload hx hb dL_works_446 (lv_at hl 7 rfl) ?_
                      refine x_iald (f := fun j => nI ((va_up Y 5 (va_up (Y 5) dv ((Y 5 dv) + 64))) 5 j)) hx hb hK hP (_ + 5) 0 (app_r rfl) rfl (t := dv) (by omega) (by decide) dL_works_448 ?_
                      refine to_i (y := nI ((Y 5 dv) + 64)) (congrArg nI (by simp [va_up])) ?_
                      refine lv_bipush (v := nI 8) hx hb dL_works_449 (by decide) ?_
                      refine lv_ishr hx hb dL_works_451 ?_
                      refine to_i (y := nI (((Y 5 dv) + 64) / 256)) (pk_shrN (by have := hYb 5 dv; omega) _ 8 (by decide)) ?_
                      refine lv_bipush (v := nI 63) hx hb dL_works_452 (by decide) ?_
                      refine lv_iand hx hb dL_works_454 ?_
                      refine to_i (y := nI ((((Y 5 dv) + 64) / 256) % 64)) (pk_andN (by have := hYb 5 dv; omega) 6 (by decide)) ?_
                      refine to_i (y := nI x27) (congrArg nI (by omega)) ?_
                      refine lv_iadd hx hb dL_works_455 ?_
                      refine x_iast (f := t) hx hb hK hP hD hS (_ + 6) 0 (app_r rfl) rfl (t := dv) (x := (D + (nI x27))) (by omega) (by decide) dL_works_456 (fun H locs hP hD hS => ?_)
                      rw [app_setr] at hP hD
                      have hP : va_P (dC, dI) vwCl (cw cy e0 ad L S N ++ yw ab cy (va_up Y 5 (va_up (Y 5) dv ((Y 5 dv) + 64))) (upd t dv (D + (nI x27))) D a b) H := hP
                      have hD : va_D A (cw cy e0 ad L S N ++ yw ab cy (va_up Y 5 (va_up (Y 5) dv ((Y 5 dv) + 64))) (upd t dv (D + (nI x27))) D a b) := hD
                      refine lv_aload_n hx hb dL_works_457 rfl (lv_at hl 0 rfl) ?_
                      refine lv_iload hx hb dL_works_458 (lv_at hl 7 rfl) ?_
                      refine callY_i hP (vx_runSW (As := [.ref oc, .int (nI dv)]) (rest := []) ⟨hx, hb, hml, hown, hts⟩ (qL_notice l dC dI cy e0 mi oc ad L S N H.size (nI dv) hI hX hst hoc) (vx_cwSW 2 hts gL_works_L_notice rfl rfl rfl (by decide +kernel) ⟨Nat.le_of_ble_eq_true rfl, Nat.le_of_ble_eq_true rfl⟩) (preLS hK (w_leftP hP) (w_leftD hD) hS hA ham) rfl rfl hl.1 rfl (lv_room (Nat.le_of_ble_eq_true rfl)) dL_works_460 ⟨Nat.le_of_ble_eq_true rfl, Nat.le_of_ble_eq_true rfl⟩) hD hS hA (fun rr uc H locs hw hP hD hS => ?_)
                      rw [ix_nI (show dv < 2 ^ 31 by omega)] at hw
                      obtain ⟨er, ad, L, rfl, hI, hX, hoc⟩ := lres_n0 hw ((if_pos (ct_in (by omega) (by omega))).trans (if_pos (by rw [ix_nI (show dv < 2 ^ 31 by omega)]; exact ⟨k47.trans ((congrArg nI c_10).trans nI_00), by rw [← k107, ← hD0]; exact Int32.not_le.mpr c_11⟩)))
                      have hP : va_P (dC, dI) vwCl (cwT cy e0 (ad, L, K_move S dv (nI 2) (S 0 0 0 + S 3 (N 3 dv 1) 2), N) ++ yw ab cy (va_up Y 5 (va_up (Y 5) dv ((Y 5 dv) + 64))) (upd t dv (D + (nI x27))) D a b) H := hP
                      have hD : va_D A (cwT cy e0 (ad, L, K_move S dv (nI 2) (S 0 0 0 + S 3 (N 3 dv 1) 2), N) ++ yw ab cy (va_up Y 5 (va_up (Y 5) dv ((Y 5 dv) + 64))) (upd t dv (D + (nI x27))) D a b) := hD
                      refine to_i (y := D + (nI x27)) (er.trans (by rw [← hD0, k57])) ?_
                      refine lv_aload hx hb dL_works_463 (lv_at hl 5 rfl) ?_
                      refine lv_iload hx hb dL_works_465 (lv_at hl 7 rfl) ?_
                      refine x_iald (f := (upd t dv (D + (nI x27)))) hx hb hK hP (_ + 6) 0 (app_r rfl) rfl (t := dv) (by omega) (by decide) dL_works_467 ?_
                      refine to_i (y := D + (nI x27)) pk_us ?_
                      refine lv_icmp_ne (tgt := 475) hx hb dL_works_468 (by decide) (fun h9 => absurd rfl h9) (fun _ => ?_)
                      refine lv_iconst (v := nI 1) hx hb dL_works_471 (by decide) ?_
                      refine lv_goto (tgt := 476) hx hb dL_works_472 (by decide) ?_
                      rw [← hQQ]; exact end_z (u := ((ad, L, K_move S dv (nI 2) (S 0 0 0 + S 3 (N 3 dv 1) 2), N), (va_up Y 5 (va_up (Y 5) dv ((Y 5 dv) + 64)), upd t dv (D + (nI x27)), D, a, b))) hx hb hr hlocks dL_works_476 hK hP hD hS (by rfl) ⟨rfl, ⟨hI, hX⟩, hoc, (by show RZ (K_move S dv (nI 2) (S 0 0 0 + S 3 (N 3 dv 1) 2)) N _ _ _ _ _; rw [← hD0, k57]; exact rz_mv hR hN (by omega) (by decide) (by rw [k47, ix_nI (by omega)]; omega) (by rw [k47]; exact nI_ne (by omega) (by decide) (by omega)) (by decide))⟩ (Nat.le_of_ble_eq_true rfl) (Nat.le_of_ble_eq_true rfl)
                    · refine lv_aload_n hx hb dL_works_409 rfl (lv_at hl 0 rfl) ?_
                      refine lv_iload hx hb dL_works_410 (lv_at hl 7 rfl) ?_
                      refine callY_i hP (vx_runSW (As := [.ref oc, .int (nI dv)]) (rest := []) ⟨hx, hb, hml, hown, hts⟩ (qL_notice l dC dI cy e0 mi oc ad L S N H.size (nI dv) hI hX hst hoc) (vx_cwSW 2 hts gL_works_L_notice rfl rfl rfl (by decide +kernel) ⟨Nat.le_of_ble_eq_true rfl, Nat.le_of_ble_eq_true rfl⟩) (preLS hK (w_leftP hP) (w_leftD hD) hS hA ham) rfl rfl hl.1 rfl (lv_room (Nat.le_of_ble_eq_true rfl)) dL_works_412 ⟨Nat.le_of_ble_eq_true rfl, Nat.le_of_ble_eq_true rfl⟩) hD hS hA (fun rr uc H locs hw hP hD hS => ?_)
                      obtain ⟨rfl, ad, L, rfl, hI, hX, hoc⟩ := lres_n2 hw ((if_pos (ct_in (by omega) (by omega))).trans (if_neg (by rw [ix_nI (show dv < 2 ^ 31 by omega)]; exact fun q => by have q2 := q.2; rw [← k107, ← hD0] at q2; exact c_11 (Int32.not_le.mp q2))))
                      have hP : va_P (dC, dI) vwCl (cw cy e0 ad L S N ++ yw ab cy Y t D a b) H := hP
                      have hD : va_D A (cw cy e0 ad L S N ++ yw ab cy Y t D a b) := hD
                      refine lv_bipush (v := -73) hx hb dL_works_415 (by decide) ?_
                      refine lv_icmp_ne (tgt := 424) hx hb dL_works_417 (by decide) (fun h9 => absurd rfl h9) (fun _ => ?_)
                      refine lv_iconst (v := nI 1) hx hb dL_works_420 (by decide) ?_
                      refine lv_goto (tgt := 425) hx hb dL_works_421 (by decide) ?_
                      rw [← hQQ]; exact end_z (u := ((ad, L, S, N), (Y, t, D, a, b))) hx hb hr hlocks dL_works_425 hK hP hD hS (by rfl) ⟨rfl, ⟨hI, hX⟩, hoc, hR⟩ (Nat.le_of_ble_eq_true rfl) (Nat.le_of_ble_eq_true rfl)
                · refine lv_iload hx hb dL_works_367 (lv_at hl 7 rfl) ?_
                  refine lv_iconst (v := nI 1) hx hb dL_works_369 (by decide) ?_
                  refine lv_iadd hx hb dL_works_370 ?_
                  refine to_i (y := nI (dv + 1)) (nI_add _ _) ?_
                  refine lv_aload hx hb dL_works_371 (lv_at hl 6 rfl) ?_
                  refine lv_iconst (v := nI 2) hx hb dL_works_373 (by decide) ?_
                  refine x_iald (f := gf D a b) hx hb hK hP (_ + 7) 0 (app_r rfl) rfl (t := 2) (by decide) (by decide) dL_works_374 ?_
                  refine to_i (y := nI b) rfl ?_
                  refine lv_irem hx hb dL_works_375 (nI_ne0 (by omega) (by omega)) ?_
                  refine to_i (y := nI ((dv + 1) % b)) (pk_rem (by omega) (by omega) (by omega)) ?_
                  refine lv_istore (lv' := [(7, .int (nI ((dv + 1) % b))), (0, .ref oc), (1, .int (nI act)), (2, .int y), (3, .int x), (4, .ref ((ab 5))), (5, .ref ((ab 6))), (6, .ref ((ab 7))), (8, .int (nI st)), (9, .int (nI k))]) hx hb dL_works_376 hl (by decide) rfl (fun ls hl => ?_)
                  refine lv_iinc (v := nI (k + 1)) (lv' := [(9, .int (nI (k + 1))), (7, .int (nI ((dv + 1) % b))), (0, .ref oc), (1, .int (nI act)), (2, .int y), (3, .int x), (4, .ref ((ab 5))), (5, .ref ((ab 6))), (6, .ref ((ab 7))), (8, .int (nI st))]) hx hb dL_works_378 hl (k := 9) rfl (by rw [show Int32.ofInt 1 = 1 from rfl]; exact nI_1 _) (by decide) rfl (fun ls hl => ?_)
                  refine lv_goto (tgt := 345) hx hb dL_works_381 (by decide) ?_
                  exact ih_n (b - (k + 1)) (by omega) (k + 1) ((dv + 1) % b) rfl (by omega) (Nat.mod_lt _ (by omega)) H locs ls hP hD hS (by exact lv_sub hl [2, 3, 4, 5, 6, 7, 8, 1, 9, 0] rfl)
          exact hl_n b 0 du rfl (Nat.zero_le _) (by omega) H locs ls hP hD hS (lv_sub hl [3, 4, 5, 6, 7, 8, 9, 2, 1, 0] rfl)
      · refine lv_iload hx hb dL_works_229 (lv_at hl 0 rfl) ?_
        refine n_if_eq (tgt := 257) hx hb dL_works_231 (by decide) (by omega) (fun c_12 => ?_) (fun c_12 => ?_)
        · refine lv_iload hx hb dL_works_257 (lv_at hl 0 rfl) ?_
          refine lv_iconst (v := nI 2) hx hb dL_works_259 (by decide) ?_
          refine n_eq (tgt := 275) hx hb dL_works_260 (by decide) (by omega) (by omega) (fun c_13 => ?_) (fun c_13 => ?_)
          · exfalso; omega
          · refine lv_aload hx hb dL_works_263 (lv_at hl 8 rfl) ?_
            refine lv_iconst (v := nI 0) hx hb dL_works_265 (by decide) ?_
            refine x_iald (f := gf D a b) hx hb hK hP (_ + 7) 0 (app_r rfl) rfl (t := 0) (by decide) (by decide) dL_works_266 ?_
            refine to_i (y := D) rfl ?_
            refine lv_aload hx hb dL_works_267 (lv_at hl 7 rfl) ?_
            refine lv_iload hx hb dL_works_269 (lv_at hl 1 rfl) ?_
            refine x_iald (f := t) hx hb hK hP (_ + 6) 0 (app_r rfl) rfl (t := du) (by omega) (by decide) dL_works_271 ?_
            refine lv_icmp_le (tgt := 279) hx hb dL_works_272 (by decide) (fun c_14 => ?_) (fun c_14 => ?_)
            · refine lv_iconst (v := nI 0) hx hb dL_works_279 (by decide) ?_
              refine lv_istore (lv' := [(9, .int (nI 0)), (8, .int (nI st)), (7, .int (nI du)), (0, .ref oc), (1, .int (nI act)), (2, .int y), (3, .int x), (4, .ref ((ab 5))), (5, .ref ((ab 6))), (6, .ref ((ab 7)))]) hx hb dL_works_280 hl (by decide) rfl (fun ls hl => ?_)
              refine lv_aload hx hb dL_works_282 (lv_at hl 7 rfl) ?_
              refine lv_iload hx hb dL_works_284 (lv_at hl 2 rfl) ?_
              refine lv_dup2_11 hx hb dL_works_286 rfl rfl ?_
              refine x_iald (f := fun j => nI (Y 5 j)) hx hb hK hP (_ + 5) 0 (app_r rfl) rfl (t := du) (by omega) (by decide) dL_works_287 ?_
              refine to_i (y := nI (Y 5 du)) rfl ?_
              refine lv_iload hx hb dL_works_288 (lv_at hl 1 rfl) ?_
              refine n_if_ne (tgt := 298) hx hb dL_works_290 (by decide) (by omega) (fun h9 => absurd c_12 h9) (fun _ => ?_)
              refine lv_bipush (v := nI 32) hx hb dL_works_293 (by decide) ?_
              refine lv_goto (tgt := 300) hx hb dL_works_295 (by decide) ?_
              refine lv_iadd hx hb dL_works_300 ?_
              refine to_i (y := nI ((Y 5 du) + 32)) (nI_add _ _) ?_
              refine x_iast (f := fun j => nI (Y 5 j)) hx hb hK hP hD hS (_ + 5) 0 (app_r rfl) rfl (t := du) (x := nI ((Y 5 du) + 32)) (by omega) (by decide) dL_works_301 (fun H locs hP hD hS => ?_)
              rw [app_setr, upd_nI] at hP hD
              have hP : va_P (dC, dI) vwCl (cw cy e0 ad L S N ++ yw ab cy (va_up Y 5 (va_up (Y 5) du ((Y 5 du) + 32))) t D a b) H := hP
              have hD : va_D A (cw cy e0 ad L S N ++ yw ab cy (va_up Y 5 (va_up (Y 5) du ((Y 5 du) + 32))) t D a b) := hD
              refine lv_aload hx hb dL_works_302 (lv_at hl 8 rfl) ?_
              refine lv_iload hx hb dL_works_304 (lv_at hl 2 rfl) ?_
              refine lv_aload hx hb dL_works_306 (lv_at hl 9 rfl) ?_
              refine lv_iconst (v := nI 0) hx hb dL_works_308 (by decide) ?_
              refine x_iald (f := gf D a b) hx hb hK hP (_ + 7) 0 (app_r rfl) rfl (t := 0) (by decide) (by decide) dL_works_309 ?_
              refine to_i (y := D) rfl ?_
              refine x_iast (f := t) hx hb hK hP hD hS (_ + 6) 0 (app_r rfl) rfl (t := du) (x := D) (by omega) (by decide) dL_works_310 (fun H locs hP hD hS => ?_)
              rw [app_setr] at hP hD
              have hP : va_P (dC, dI) vwCl (cw cy e0 ad L S N ++ yw ab cy (va_up Y 5 (va_up (Y 5) du ((Y 5 du) + 32))) (upd t du D) D a b) H := hP
              have hD : va_D A (cw cy e0 ad L S N ++ yw ab cy (va_up Y 5 (va_up (Y 5) du ((Y 5 du) + 32))) (upd t du D) D a b) := hD
              refine lv_aload_n hx hb dL_works_311 rfl (lv_at hl 3 rfl) ?_
              refine lv_iload hx hb dL_works_312 (lv_at hl 2 rfl) ?_
              refine callY_i hP (vx_runSW (As := [.ref oc, .int (nI du)]) (rest := []) ⟨hx, hb, hml, hown, hts⟩ (qL_perform l dC dI cy e0 mi oc ad L S N H.size (nI du) hI hX hst hoc) (vx_cwSW 2 hts gL_works_L_perform rfl rfl rfl (by decide +kernel) ⟨Nat.le_of_ble_eq_true rfl, Nat.le_of_ble_eq_true rfl⟩) (preLS hK (w_leftP hP) (w_leftD hD) hS hA ham) rfl rfl hl.1 rfl (lv_room (Nat.le_of_ble_eq_true rfl)) dL_works_314 ⟨Nat.le_of_ble_eq_true rfl, Nat.le_of_ble_eq_true rfl⟩) hD hS hA (fun rr uc H locs hw hP hD hS => ?_)
              rw [ix_nI (show du < 2 ^ 31 by omega)] at hw
              obtain ⟨er, ad, L, rfl, hI, hX, hoc⟩ := lres_n0 hw ((if_pos (ct_in (by omega) (by omega))).trans (if_pos (by rw [ix_nI (show du < 2 ^ 31 by omega)]; exact Or.inl (k4.trans ((congrArg nI c_12).trans nI_00)))))
              have hP : va_P (dC, dI) vwCl (cwT cy e0 (ad, L, K_move S du (nI 1) (S 0 0 0), N) ++ yw ab cy (va_up Y 5 (va_up (Y 5) du ((Y 5 du) + 32))) (upd t du D) D a b) H := hP
              have hD : va_D A (cwT cy e0 (ad, L, K_move S du (nI 1) (S 0 0 0), N) ++ yw ab cy (va_up Y 5 (va_up (Y 5) du ((Y 5 du) + 32))) (upd t du D) D a b) := hD
              refine to_i (y := nI 0) (er.trans (bi_f (fun q => q.elim (fun q => c_13 ((nI_inj (by omega) (by decide)).mp (k4.symm.trans q))) (fun q => by rw [← k10, ← hD0] at q; exact absurd q (Int32.not_lt.mpr c_14))))) ?_
              refine lv_iload hx hb dL_works_317 (lv_at hl 0 rfl) ?_
              refine lv_if_eq (tgt := 326) hx hb dL_works_319 (by decide) (fun _ => ?_) (fun h9 => absurd h9 (by decide))
              refine lv_iconst (v := nI 0) hx hb dL_works_326 (by decide) ?_
              refine lv_icmp_ne (tgt := 334) hx hb dL_works_327 (by decide) (fun h9 => absurd rfl h9) (fun _ => ?_)
              refine lv_iconst (v := nI 1) hx hb dL_works_330 (by decide) ?_
              refine lv_goto (tgt := 335) hx hb dL_works_331 (by decide) ?_
              rw [← hQQ]; exact end_z (u := ((ad, L, K_move S du (nI 1) (S 0 0 0), N), (va_up Y 5 (va_up (Y 5) du ((Y 5 du) + 32)), upd t du D, D, a, b))) hx hb hr hlocks dL_works_335 hK hP hD hS (by rfl) ⟨rfl, ⟨hI, hX⟩, hoc, (by show RZ (K_move S du (nI 1) (S 0 0 0)) N _ _ _ _ _; rw [← hD0]; exact rz_mv hR hN (by omega) (by decide) (by rw [k4, ix_nI (by omega)]; omega) (by rw [k4]; exact nI_ne (by omega) (by decide) (by omega)) (by decide))⟩ (Nat.le_of_ble_eq_true rfl) (Nat.le_of_ble_eq_true rfl)
            · refine lv_iconst (v := nI 1) hx hb dL_works_275 (by decide) ?_
              refine lv_goto (tgt := 280) hx hb dL_works_276 (by decide) ?_
              refine lv_istore (lv' := [(9, .int (nI 1)), (8, .int (nI st)), (7, .int (nI du)), (0, .ref oc), (1, .int (nI act)), (2, .int y), (3, .int x), (4, .ref ((ab 5))), (5, .ref ((ab 6))), (6, .ref ((ab 7)))]) hx hb dL_works_280 hl (by decide) rfl (fun ls hl => ?_)
              refine lv_aload hx hb dL_works_282 (lv_at hl 7 rfl) ?_
              refine lv_iload hx hb dL_works_284 (lv_at hl 2 rfl) ?_
              refine lv_dup2_11 hx hb dL_works_286 rfl rfl ?_
              refine x_iald (f := fun j => nI (Y 5 j)) hx hb hK hP (_ + 5) 0 (app_r rfl) rfl (t := du) (by omega) (by decide) dL_works_287 ?_
              refine to_i (y := nI (Y 5 du)) rfl ?_
              refine lv_iload hx hb dL_works_288 (lv_at hl 1 rfl) ?_
              refine n_if_ne (tgt := 298) hx hb dL_works_290 (by decide) (by omega) (fun h9 => absurd c_12 h9) (fun _ => ?_)
              refine lv_bipush (v := nI 32) hx hb dL_works_293 (by decide) ?_
              refine lv_goto (tgt := 300) hx hb dL_works_295 (by decide) ?_
              refine lv_iadd hx hb dL_works_300 ?_
              refine to_i (y := nI ((Y 5 du) + 32)) (nI_add _ _) ?_
              refine x_iast (f := fun j => nI (Y 5 j)) hx hb hK hP hD hS (_ + 5) 0 (app_r rfl) rfl (t := du) (x := nI ((Y 5 du) + 32)) (by omega) (by decide) dL_works_301 (fun H locs hP hD hS => ?_)
              rw [app_setr, upd_nI] at hP hD
              have hP : va_P (dC, dI) vwCl (cw cy e0 ad L S N ++ yw ab cy (va_up Y 5 (va_up (Y 5) du ((Y 5 du) + 32))) t D a b) H := hP
              have hD : va_D A (cw cy e0 ad L S N ++ yw ab cy (va_up Y 5 (va_up (Y 5) du ((Y 5 du) + 32))) t D a b) := hD
              refine lv_aload hx hb dL_works_302 (lv_at hl 8 rfl) ?_
              refine lv_iload hx hb dL_works_304 (lv_at hl 2 rfl) ?_
              refine lv_aload hx hb dL_works_306 (lv_at hl 9 rfl) ?_
              refine lv_iconst (v := nI 0) hx hb dL_works_308 (by decide) ?_
              refine x_iald (f := gf D a b) hx hb hK hP (_ + 7) 0 (app_r rfl) rfl (t := 0) (by decide) (by decide) dL_works_309 ?_
              refine to_i (y := D) rfl ?_
              refine x_iast (f := t) hx hb hK hP hD hS (_ + 6) 0 (app_r rfl) rfl (t := du) (x := D) (by omega) (by decide) dL_works_310 (fun H locs hP hD hS => ?_)
              rw [app_setr] at hP hD
              have hP : va_P (dC, dI) vwCl (cw cy e0 ad L S N ++ yw ab cy (va_up Y 5 (va_up (Y 5) du ((Y 5 du) + 32))) (upd t du D) D a b) H := hP
              have hD : va_D A (cw cy e0 ad L S N ++ yw ab cy (va_up Y 5 (va_up (Y 5) du ((Y 5 du) + 32))) (upd t du D) D a b) := hD
              refine lv_aload_n hx hb dL_works_311 rfl (lv_at hl 3 rfl) ?_
              refine lv_iload hx hb dL_works_312 (lv_at hl 2 rfl) ?_
              refine callY_i hP (vx_runSW (As := [.ref oc, .int (nI du)]) (rest := []) ⟨hx, hb, hml, hown, hts⟩ (qL_perform l dC dI cy e0 mi oc ad L S N H.size (nI du) hI hX hst hoc) (vx_cwSW 2 hts gL_works_L_perform rfl rfl rfl (by decide +kernel) ⟨Nat.le_of_ble_eq_true rfl, Nat.le_of_ble_eq_true rfl⟩) (preLS hK (w_leftP hP) (w_leftD hD) hS hA ham) rfl rfl hl.1 rfl (lv_room (Nat.le_of_ble_eq_true rfl)) dL_works_314 ⟨Nat.le_of_ble_eq_true rfl, Nat.le_of_ble_eq_true rfl⟩) hD hS hA (fun rr uc H locs hw hP hD hS => ?_)
              rw [ix_nI (show du < 2 ^ 31 by omega)] at hw
              obtain ⟨er, ad, L, rfl, hI, hX, hoc⟩ := lres_n0 hw ((if_pos (ct_in (by omega) (by omega))).trans (if_pos (by rw [ix_nI (show du < 2 ^ 31 by omega)]; exact Or.inl (k4.trans ((congrArg nI c_12).trans nI_00)))))
              have hP : va_P (dC, dI) vwCl (cwT cy e0 (ad, L, K_move S du (nI 1) (S 0 0 0), N) ++ yw ab cy (va_up Y 5 (va_up (Y 5) du ((Y 5 du) + 32))) (upd t du D) D a b) H := hP
              have hD : va_D A (cwT cy e0 (ad, L, K_move S du (nI 1) (S 0 0 0), N) ++ yw ab cy (va_up Y 5 (va_up (Y 5) du ((Y 5 du) + 32))) (upd t du D) D a b) := hD
              refine to_i (y := nI 1) (er.trans (bi_t (Or.inr (by rw [← k10, ← hD0]; exact Int32.not_le.mp c_14)))) ?_
              refine lv_iload hx hb dL_works_317 (lv_at hl 0 rfl) ?_
              refine lv_if_eq (tgt := 326) hx hb dL_works_319 (by decide) (fun h9 => absurd h9 (by decide)) (fun _ => ?_)
              refine lv_iconst (v := nI 1) hx hb dL_works_322 (by decide) ?_
              refine lv_goto (tgt := 327) hx hb dL_works_323 (by decide) ?_
              refine lv_icmp_ne (tgt := 334) hx hb dL_works_327 (by decide) (fun h9 => absurd rfl h9) (fun _ => ?_)
              refine lv_iconst (v := nI 1) hx hb dL_works_330 (by decide) ?_
              refine lv_goto (tgt := 335) hx hb dL_works_331 (by decide) ?_
              rw [← hQQ]; exact end_z (u := ((ad, L, K_move S du (nI 1) (S 0 0 0), N), (va_up Y 5 (va_up (Y 5) du ((Y 5 du) + 32)), upd t du D, D, a, b))) hx hb hr hlocks dL_works_335 hK hP hD hS (by rfl) ⟨rfl, ⟨hI, hX⟩, hoc, (by show RZ (K_move S du (nI 1) (S 0 0 0)) N _ _ _ _ _; rw [← hD0]; exact rz_mv hR hN (by omega) (by decide) (by rw [k4, ix_nI (by omega)]; omega) (by rw [k4]; exact nI_ne (by omega) (by decide) (by omega)) (by decide))⟩ (Nat.le_of_ble_eq_true rfl) (Nat.le_of_ble_eq_true rfl)
        · refine lv_iload hx hb dL_works_234 (lv_at hl 0 rfl) ?_
          refine lv_iconst (v := nI 2) hx hb dL_works_236 (by decide) ?_
          refine n_eq (tgt := 257) hx hb dL_works_237 (by decide) (by omega) (by omega) (fun c_19 => ?_) (fun c_19 => ?_)
          · refine lv_iload hx hb dL_works_257 (lv_at hl 0 rfl) ?_
            refine lv_iconst (v := nI 2) hx hb dL_works_259 (by decide) ?_
            refine n_eq (tgt := 275) hx hb dL_works_260 (by decide) (by omega) (by omega) (fun _ => ?_) (fun h9 => absurd c_19 h9)
            refine lv_iconst (v := nI 1) hx hb dL_works_275 (by decide) ?_
            refine lv_goto (tgt := 280) hx hb dL_works_276 (by decide) ?_
            refine lv_istore (lv' := [(9, .int (nI 1)), (8, .int (nI st)), (7, .int (nI du)), (0, .ref oc), (1, .int (nI act)), (2, .int y), (3, .int x), (4, .ref ((ab 5))), (5, .ref ((ab 6))), (6, .ref ((ab 7)))]) hx hb dL_works_280 hl (by decide) rfl (fun ls hl => ?_)
            refine lv_aload hx hb dL_works_282 (lv_at hl 7 rfl) ?_
            refine lv_iload hx hb dL_works_284 (lv_at hl 2 rfl) ?_
            refine lv_dup2_11 hx hb dL_works_286 rfl rfl ?_
            refine x_iald (f := fun j => nI (Y 5 j)) hx hb hK hP (_ + 5) 0 (app_r rfl) rfl (t := du) (by omega) (by decide) dL_works_287 ?_
            refine to_i (y := nI (Y 5 du)) rfl ?_
            refine lv_iload hx hb dL_works_288 (lv_at hl 1 rfl) ?_
            refine n_if_ne (tgt := 298) hx hb dL_works_290 (by decide) (by omega) (fun _ => ?_) (fun h9 => absurd h9 c_12)
            refine lv_bipush (v := -32) hx hb dL_works_298 (by decide) ?_
            refine lv_iadd hx hb dL_works_300 ?_
            refine to_i (y := nI (Y 5 du - 32)) (add_m32 (by omega)) ?_
            refine x_iast (f := fun j => nI (Y 5 j)) hx hb hK hP hD hS (_ + 5) 0 (app_r rfl) rfl (t := du) (x := nI (Y 5 du - 32)) (by omega) (by decide) dL_works_301 (fun H locs hP hD hS => ?_)
            rw [app_setr, upd_nI] at hP hD
            have hP : va_P (dC, dI) vwCl (cw cy e0 ad L S N ++ yw ab cy (va_up Y 5 (va_up (Y 5) du (Y 5 du - 32))) t D a b) H := hP
            have hD : va_D A (cw cy e0 ad L S N ++ yw ab cy (va_up Y 5 (va_up (Y 5) du (Y 5 du - 32))) t D a b) := hD
            refine lv_aload hx hb dL_works_302 (lv_at hl 8 rfl) ?_
            refine lv_iload hx hb dL_works_304 (lv_at hl 2 rfl) ?_
            refine lv_aload hx hb dL_works_306 (lv_at hl 9 rfl) ?_
            refine lv_iconst (v := nI 0) hx hb dL_works_308 (by decide) ?_
            refine x_iald (f := gf D a b) hx hb hK hP (_ + 7) 0 (app_r rfl) rfl (t := 0) (by decide) (by decide) dL_works_309 ?_
            refine to_i (y := D) rfl ?_
            refine x_iast (f := t) hx hb hK hP hD hS (_ + 6) 0 (app_r rfl) rfl (t := du) (x := D) (by omega) (by decide) dL_works_310 (fun H locs hP hD hS => ?_)
            rw [app_setr] at hP hD
            have hP : va_P (dC, dI) vwCl (cw cy e0 ad L S N ++ yw ab cy (va_up Y 5 (va_up (Y 5) du (Y 5 du - 32))) (upd t du D) D a b) H := hP
            have hD : va_D A (cw cy e0 ad L S N ++ yw ab cy (va_up Y 5 (va_up (Y 5) du (Y 5 du - 32))) (upd t du D) D a b) := hD
            refine lv_aload_n hx hb dL_works_311 rfl (lv_at hl 3 rfl) ?_
            refine lv_iload hx hb dL_works_312 (lv_at hl 2 rfl) ?_
            refine callY_i hP (vx_runSW (As := [.ref oc, .int (nI du)]) (rest := []) ⟨hx, hb, hml, hown, hts⟩ (qL_perform l dC dI cy e0 mi oc ad L S N H.size (nI du) hI hX hst hoc) (vx_cwSW 2 hts gL_works_L_perform rfl rfl rfl (by decide +kernel) ⟨Nat.le_of_ble_eq_true rfl, Nat.le_of_ble_eq_true rfl⟩) (preLS hK (w_leftP hP) (w_leftD hD) hS hA ham) rfl rfl hl.1 rfl (lv_room (Nat.le_of_ble_eq_true rfl)) dL_works_314 ⟨Nat.le_of_ble_eq_true rfl, Nat.le_of_ble_eq_true rfl⟩) hD hS hA (fun rr uc H locs hw hP hD hS => ?_)
            rw [ix_nI (show du < 2 ^ 31 by omega)] at hw
            obtain ⟨er, ad, L, rfl, hI, hX, hoc⟩ := lres_n0 hw ((if_pos (ct_in (by omega) (by omega))).trans (if_pos (by rw [ix_nI (show du < 2 ^ 31 by omega)]; exact Or.inr (k4.trans (congrArg nI c_19)))))
            have hP : va_P (dC, dI) vwCl (cwT cy e0 (ad, L, K_move S du (nI 1) (S 0 0 0), N) ++ yw ab cy (va_up Y 5 (va_up (Y 5) du (Y 5 du - 32))) (upd t du D) D a b) H := hP
            have hD : va_D A (cwT cy e0 (ad, L, K_move S du (nI 1) (S 0 0 0), N) ++ yw ab cy (va_up Y 5 (va_up (Y 5) du (Y 5 du - 32))) (upd t du D) D a b) := hD
            refine to_i (y := nI 1) (er.trans (bi_t (Or.inl (k4.trans (congrArg nI c_19))))) ?_
            refine lv_iload hx hb dL_works_317 (lv_at hl 0 rfl) ?_
            refine lv_if_eq (tgt := 326) hx hb dL_works_319 (by decide) (fun h9 => absurd h9 (by decide)) (fun _ => ?_)
            refine lv_iconst (v := nI 1) hx hb dL_works_322 (by decide) ?_
            refine lv_goto (tgt := 327) hx hb dL_works_323 (by decide) ?_
            refine lv_icmp_ne (tgt := 334) hx hb dL_works_327 (by decide) (fun h9 => absurd rfl h9) (fun _ => ?_)
            refine lv_iconst (v := nI 1) hx hb dL_works_330 (by decide) ?_
            refine lv_goto (tgt := 335) hx hb dL_works_331 (by decide) ?_
            rw [← hQQ]; exact end_z (u := ((ad, L, K_move S du (nI 1) (S 0 0 0), N), (va_up Y 5 (va_up (Y 5) du (Y 5 du - 32)), upd t du D, D, a, b))) hx hb hr hlocks dL_works_335 hK hP hD hS (by rfl) ⟨rfl, ⟨hI, hX⟩, hoc, (by show RZ (K_move S du (nI 1) (S 0 0 0)) N _ _ _ _ _; rw [← hD0]; exact rz_mv hR hN (by omega) (by decide) (by rw [k4, ix_nI (by omega)]; omega) (by rw [k4]; exact nI_ne (by omega) (by decide) (by omega)) (by decide))⟩ (Nat.le_of_ble_eq_true rfl) (Nat.le_of_ble_eq_true rfl)
          · refine lv_aload_n hx hb dL_works_240 rfl (lv_at hl 2 rfl) ?_
            refine lv_iload hx hb dL_works_241 (lv_at hl 1 rfl) ?_
            refine callY_i hP (vx_runSW (As := [.ref oc, .int (nI du)]) (rest := []) ⟨hx, hb, hml, hown, hts⟩ (qL_perform l dC dI cy e0 mi oc ad L S N H.size (nI du) hI hX hst hoc) (vx_cwSW 2 hts gL_works_L_perform rfl rfl rfl (by decide +kernel) ⟨Nat.le_of_ble_eq_true rfl, Nat.le_of_ble_eq_true rfl⟩) (preLS hK (w_leftP hP) (w_leftD hD) hS hA ham) rfl rfl hl.1 rfl (lv_room (Nat.le_of_ble_eq_true rfl)) dL_works_243 ⟨Nat.le_of_ble_eq_true rfl, Nat.le_of_ble_eq_true rfl⟩) hD hS hA (fun rr uc H locs hw hP hD hS => ?_)
            obtain ⟨rfl, ad, L, rfl, hI, hX, hoc⟩ := lres_n2 hw ((if_pos (ct_in (by omega) (by omega))).trans (if_neg (by rw [ix_nI (show du < 2 ^ 31 by omega)]; unfold isLive; rw [k4, ← nI_00]; rintro (q | q); exact c_12 ((nI_inj (by omega) (by decide)).mp q); exact c_19 ((nI_inj (by omega) (by decide)).mp q))))
            have hP : va_P (dC, dI) vwCl (cw cy e0 ad L S N ++ yw ab cy Y t D a b) H := hP
            have hD : va_D A (cw cy e0 ad L S N ++ yw ab cy Y t D a b) := hD
            refine lv_bipush (v := -73) hx hb dL_works_246 (by decide) ?_
            refine lv_icmp_ne (tgt := 255) hx hb dL_works_248 (by decide) (fun h9 => absurd rfl h9) (fun _ => ?_)
            refine lv_iconst (v := nI 1) hx hb dL_works_251 (by decide) ?_
            refine lv_goto (tgt := 256) hx hb dL_works_252 (by decide) ?_
            rw [← hQQ]; exact end_z (u := ((ad, L, S, N), (Y, t, D, a, b))) hx hb hr hlocks dL_works_256 hK hP hD hS (by rfl) ⟨rfl, ⟨hI, hX⟩, hoc, hR⟩ (Nat.le_of_ble_eq_true rfl) (Nat.le_of_ble_eq_true rfl)
    · refine lv_aload_n hx hb dL_works_153 rfl (lv_at hl 1 rfl) ?_
      refine lv_iload hx hb dL_works_154 (lv_at hl 0 rfl) ?_
      refine callY_i hP (vx_runSW (As := [.ref oc, .int (nI du)]) (rest := []) ⟨hx, hb, hml, hown, hts⟩ (qL_perform l dC dI cy e0 mi oc ad L S N H.size (nI du) hI hX hst hoc) (vx_cwSW 2 hts gL_works_L_perform rfl rfl rfl (by decide +kernel) ⟨Nat.le_of_ble_eq_true rfl, Nat.le_of_ble_eq_true rfl⟩) (preLS hK (w_leftP hP) (w_leftD hD) hS hA ham) rfl rfl hl.1 rfl (lv_room (Nat.le_of_ble_eq_true rfl)) dL_works_156 ⟨Nat.le_of_ble_eq_true rfl, Nat.le_of_ble_eq_true rfl⟩) hD hS hA (fun rr uc H locs hw hP hD hS => ?_)
      obtain ⟨rfl, ad, L, rfl, hI, hX, hoc⟩ := lres_n1 hw (if_neg (ct_no (by omega) (by omega)))
      have hP : va_P (dC, dI) vwCl (cw cy e0 ad L S N ++ yw ab cy Y t D a b) H := hP
      have hD : va_D A (cw cy e0 ad L S N ++ yw ab cy Y t D a b) := hD
      refine lv_bipush (v := -71) hx hb dL_works_159 (by decide) ?_
      refine lv_icmp_ne (tgt := 210) hx hb dL_works_161 (by decide) (fun h9 => absurd rfl h9) (fun _ => ?_)
      refine lv_aload_n hx hb dL_works_164 rfl (lv_at hl 1 rfl) ?_
      refine lv_iconst (v := -1) hx hb dL_works_165 (by decide) ?_
      refine callY_i hP (vx_runSW (As := [.ref oc, .int ((-1))]) (rest := []) ⟨hx, hb, hml, hown, hts⟩ (qL_notice l dC dI cy e0 mi oc ad L S N H.size ((-1)) hI hX hst hoc) (vx_cwSW 2 hts gL_works_L_notice rfl rfl rfl (by decide +kernel) ⟨Nat.le_of_ble_eq_true rfl, Nat.le_of_ble_eq_true rfl⟩) (preLS hK (w_leftP hP) (w_leftD hD) hS hA ham) rfl rfl hl.1 rfl (lv_room (Nat.le_of_ble_eq_true rfl)) dL_works_166 ⟨Nat.le_of_ble_eq_true rfl, Nat.le_of_ble_eq_true rfl⟩) hD hS hA (fun rr uc H locs hw hP hD hS => ?_)
      obtain ⟨rfl, ad, L, rfl, hI, hX, hoc⟩ := lres_n1 hw (if_neg (ct_m1))
      have hP : va_P (dC, dI) vwCl (cw cy e0 ad L S N ++ yw ab cy Y t D a b) H := hP
      have hD : va_D A (cw cy e0 ad L S N ++ yw ab cy Y t D a b) := hD
      refine lv_bipush (v := -71) hx hb dL_works_169 (by decide) ?_
      refine lv_icmp_ne (tgt := 210) hx hb dL_works_171 (by decide) (fun h9 => absurd rfl h9) (fun _ => ?_)
      refine lv_aload_n hx hb dL_works_174 rfl (lv_at hl 1 rfl) ?_
      refine lv_iload hx hb dL_works_175 (lv_at hl 0 rfl) ?_
      refine callY_i hP (vx_runSW (As := [.ref oc, .int (nI du)]) (rest := []) ⟨hx, hb, hml, hown, hts⟩ (qL_settle l dC dI cy e0 mi oc ad L S N H.size (nI du) hI hX hst hoc) (vx_cwSW 2 hts gL_works_L_settle rfl rfl rfl (by decide +kernel) ⟨Nat.le_of_ble_eq_true rfl, Nat.le_of_ble_eq_true rfl⟩) (preLS hK (w_leftP hP) (w_leftD hD) hS hA ham) rfl rfl hl.1 rfl (lv_room (Nat.le_of_ble_eq_true rfl)) dL_works_177 ⟨Nat.le_of_ble_eq_true rfl, Nat.le_of_ble_eq_true rfl⟩) hD hS hA (fun rr uc H locs hw hP hD hS => ?_)
      obtain ⟨rfl, ad, L, rfl, hI, hX, hoc⟩ := lres_n1 hw (if_neg (ct_no (by omega) (by omega)))
      have hP : va_P (dC, dI) vwCl (cw cy e0 ad L S N ++ yw ab cy Y t D a b) H := hP
      have hD : va_D A (cw cy e0 ad L S N ++ yw ab cy Y t D a b) := hD
      refine lv_bipush (v := -71) hx hb dL_works_180 (by decide) ?_
      refine lv_icmp_ne (tgt := 210) hx hb dL_works_182 (by decide) (fun h9 => absurd rfl h9) (fun _ => ?_)
      refine lv_aload_n hx hb dL_works_185 rfl (lv_at hl 1 rfl) ?_
      refine lv_iload hx hb dL_works_186 (lv_at hl 0 rfl) ?_
      refine callY_i hP (vx_runSW (As := [.ref oc, .int (nI du)]) (rest := []) ⟨hx, hb, hml, hown, hts⟩ (qL_state l dC dI cy e0 mi oc ad L S N H.size (nI du) hI hX hst hoc) (vx_cwSW 2 hts gL_works_L_state rfl rfl rfl (by decide +kernel) ⟨Nat.le_of_ble_eq_true rfl, Nat.le_of_ble_eq_true rfl⟩) (preLS hK (w_leftP hP) (w_leftD hD) hS hA ham) rfl rfl hl.1 rfl (lv_room (Nat.le_of_ble_eq_true rfl)) dL_works_188 ⟨Nat.le_of_ble_eq_true rfl, Nat.le_of_ble_eq_true rfl⟩) hD hS hA (fun rr uc H locs hw hP hD hS => ?_)
      obtain ⟨rfl, ad, L, rfl, hI, hX, hoc⟩ := lres_n1 hw (if_neg (ct_no (by omega) (by omega)))
      have hP : va_P (dC, dI) vwCl (cw cy e0 ad L S N ++ yw ab cy Y t D a b) H := hP
      have hD : va_D A (cw cy e0 ad L S N ++ yw ab cy Y t D a b) := hD
      refine lv_bipush (v := -71) hx hb dL_works_191 (by decide) ?_
      refine lv_icmp_ne (tgt := 210) hx hb dL_works_193 (by decide) (fun h9 => absurd rfl h9) (fun _ => ?_)
      refine lv_aload_n hx hb dL_works_196 rfl (lv_at hl 1 rfl) ?_
      refine lv_iconst (v := -1) hx hb dL_works_197 (by decide) ?_
      refine callY_i hP (vx_runSW (As := [.ref oc, .int ((-1))]) (rest := []) ⟨hx, hb, hml, hown, hts⟩ (qL_day l dC dI cy e0 mi oc ad L S N H.size ((-1)) hI hX hst hoc) (vx_cwSW 2 hts gL_works_L_day rfl rfl rfl (by decide +kernel) ⟨Nat.le_of_ble_eq_true rfl, Nat.le_of_ble_eq_true rfl⟩) (preLS hK (w_leftP hP) (w_leftD hD) hS hA ham) rfl rfl hl.1 rfl (lv_room (Nat.le_of_ble_eq_true rfl)) dL_works_198 ⟨Nat.le_of_ble_eq_true rfl, Nat.le_of_ble_eq_true rfl⟩) hD hS hA (fun rr uc H locs hw hP hD hS => ?_)
      obtain ⟨rfl, ad, L, rfl, hI, hX, hoc⟩ := lres_n1 hw (if_neg (ct_m1))
      have hP : va_P (dC, dI) vwCl (cw cy e0 ad L S N ++ yw ab cy Y t D a b) H := hP
      have hD : va_D A (cw cy e0 ad L S N ++ yw ab cy Y t D a b) := hD
      refine lv_bipush (v := -71) hx hb dL_works_201 (by decide) ?_
      refine lv_icmp_ne (tgt := 210) hx hb dL_works_203 (by decide) (fun h9 => absurd rfl h9) (fun _ => ?_)
      refine lv_iconst (v := nI 1) hx hb dL_works_206 (by decide) ?_
      refine lv_goto (tgt := 211) hx hb dL_works_207 (by decide) ?_
      rw [← hQQ]; exact end_z (u := ((ad, L, S, N), (Y, t, D, a, b))) hx hb hr hlocks dL_works_211 hK hP hD hS (by rfl) ⟨rfl, ⟨hI, hX⟩, hoc, hR⟩ (Nat.le_of_ble_eq_true rfl) (Nat.le_of_ble_eq_true rfl)
  · refine lv_iconst (v := nI 1) hx hb dL_works_5 (by decide) ?_
    refine lv_iload_n hx hb dL_works_6 rfl (lv_at hl 3 rfl) ?_
    refine lv_iload_n hx hb dL_works_7 rfl (lv_at hl 2 rfl) ?_
    refine lv_bipush (v := nI 96) hx hb dL_works_8 (by decide) ?_
    refine lv_iand hx hb dL_works_10 ?_
    have J21 : ∀ (dn : Nat), (dn = 100 ∨ dn = 6) → ∀ (H : Heap) (locs : List Loc), va_P (dC, dI) vwCl (cw cy e0 ad L S N ++ yw ab cy Y t D a b) H → va_D A (cw cy e0 ad L S N ++ yw ab cy Y t D a b) → va_S A s.heap H locs → W p l e ({ frames := 9, cells := 100, slots := 1000, locals := 157 }) s m (([.ref oc, .int (nI act), .int y, .int x, .ref ((ab 5)), .ref ((ab 6)), .ref ((ab 7))] : List Value).toArray) below meth c H locs 0 0 QQ (F0 m 21 ls [.int (nI dn), .int x, .int (nI 1)]) := by
      intro dn hdn H locs hP hD hS
      refine call_i (va_runS (As := [.int x, .int (nI dn)]) (rest := [.int (nI 1)]) ⟨hx, hb, hml, hown, hts⟩ (qL_low l dC dI cy (cw cy e0 ad L S N ++ yw ab cy Y t D a b) H.size x dn (by omega) (by omega)) (va_cwS 2 hts gL_works_L_low rfl rfl rfl (by decide +kernel) ⟨Nat.le_of_ble_eq_true rfl, Nat.le_of_ble_eq_true rfl⟩) (preS hK hP hD) rfl rfl hl.1 rfl (lv_room (Nat.le_of_ble_eq_true rfl)) dL_works_21 ⟨Nat.le_of_ble_eq_true rfl, Nat.le_of_ble_eq_true rfl⟩) hD hS hA (fun rr uu H locs hw hP hD hS => ?_)
      obtain ⟨dl, hdl, rfl⟩ := hw
      have hP : va_P (dC, dI) vwCl (cw cy e0 ad L S N ++ yw ab cy Y t D a b) H := hP
      have hD : va_D A (cw cy e0 ad L S N ++ yw ab cy Y t D a b) := hD
      refine lv_iadd hx hb dL_works_24 ?_
      refine to_i (y := nI (1 + dl)) (nI_add _ _) ?_
      refine lv_istore (lv' := [(7, .int (nI (1 + dl))), (0, .ref oc), (1, .int (nI act)), (2, .int y), (3, .int x), (4, .ref ((ab 5))), (5, .ref ((ab 6))), (6, .ref ((ab 7)))]) hx hb dL_works_25 hl (by decide) rfl (fun ls hl => ?_)
      refine lv_aload_n hx hb dL_works_27 rfl (lv_at hl 1 rfl) ?_
      refine lv_iconst (v := nI 0) hx hb dL_works_28 (by decide) ?_
      refine callY_i hP (vx_runSW (As := [.ref oc, .int (nI 0)]) (rest := []) ⟨hx, hb, hml, hown, hts⟩ (qL_pass l dC dI cy e0 mi oc ad L S N H.size (nI 0) hI hX hst hoc) (vx_cwSW 2 hts gL_works_L_pass rfl rfl rfl (by decide +kernel) ⟨Nat.le_of_ble_eq_true rfl, Nat.le_of_ble_eq_true rfl⟩) (preLS hK (w_leftP hP) (w_leftD hD) hS hA ham) rfl rfl hl.1 rfl (lv_room (Nat.le_of_ble_eq_true rfl)) dL_works_29 ⟨Nat.le_of_ble_eq_true rfl, Nat.le_of_ble_eq_true rfl⟩) hD hS hA (fun rr uc H locs hw hP hD hS => ?_)
      obtain ⟨rfl, ad, L, rfl, hI, hX, hoc⟩ := lres_n1 hw (if_neg (fun q => absurd q.1 (by decide)))
      have hP : va_P (dC, dI) vwCl (cw cy e0 ad L S N ++ yw ab cy Y t D a b) H := hP
      have hD : va_D A (cw cy e0 ad L S N ++ yw ab cy Y t D a b) := hD
      refine lv_bipush (v := -72) hx hb dL_works_32 (by decide) ?_
      refine lv_icmp_ne (tgt := 70) hx hb dL_works_34 (by decide) (fun h9 => absurd rfl h9) (fun _ => ?_)
      refine lv_aload_n hx hb dL_works_37 rfl (lv_at hl 1 rfl) ?_
      refine lv_bipush (v := nI 101) hx hb dL_works_38 (by decide) ?_
      refine callY_i hP (vx_runSW (As := [.ref oc, .int (nI 101)]) (rest := []) ⟨hx, hb, hml, hown, hts⟩ (qL_pass l dC dI cy e0 mi oc ad L S N H.size (nI 101) hI hX hst hoc) (vx_cwSW 2 hts gL_works_L_pass rfl rfl rfl (by decide +kernel) ⟨Nat.le_of_ble_eq_true rfl, Nat.le_of_ble_eq_true rfl⟩) (preLS hK (w_leftP hP) (w_leftD hD) hS hA ham) rfl rfl hl.1 rfl (lv_room (Nat.le_of_ble_eq_true rfl)) dL_works_40 ⟨Nat.le_of_ble_eq_true rfl, Nat.le_of_ble_eq_true rfl⟩) hD hS hA (fun rr uc H locs hw hP hD hS => ?_)
      obtain ⟨rfl, ad, L, rfl, hI, hX, hoc⟩ := lres_n1 hw (if_neg (fun q => absurd q.2 (by decide)))
      have hP : va_P (dC, dI) vwCl (cw cy e0 ad L S N ++ yw ab cy Y t D a b) H := hP
      have hD : va_D A (cw cy e0 ad L S N ++ yw ab cy Y t D a b) := hD
      refine lv_bipush (v := -72) hx hb dL_works_43 (by decide) ?_
      refine lv_icmp_ne (tgt := 70) hx hb dL_works_45 (by decide) (fun h9 => absurd rfl h9) (fun _ => ?_)
      refine lv_aload_n hx hb dL_works_48 rfl (lv_at hl 1 rfl) ?_
      refine lv_ldc (v := -2147483648) hx hb hown lk0 dL_works_49 ?_
      refine callY_i hP (vx_runSW (As := [.ref oc, .int ((-2147483648))]) (rest := []) ⟨hx, hb, hml, hown, hts⟩ (qL_pass l dC dI cy e0 mi oc ad L S N H.size ((-2147483648)) hI hX hst hoc) (vx_cwSW 2 hts gL_works_L_pass rfl rfl rfl (by decide +kernel) ⟨Nat.le_of_ble_eq_true rfl, Nat.le_of_ble_eq_true rfl⟩) (preLS hK (w_leftP hP) (w_leftD hD) hS hA ham) rfl rfl hl.1 rfl (lv_room (Nat.le_of_ble_eq_true rfl)) dL_works_51 ⟨Nat.le_of_ble_eq_true rfl, Nat.le_of_ble_eq_true rfl⟩) hD hS hA (fun rr uc H locs hw hP hD hS => ?_)
      obtain ⟨rfl, ad, L, rfl, hI, hX, hoc⟩ := lres_n1 hw (if_neg (fun q => absurd q.1 (by decide)))
      have hP : va_P (dC, dI) vwCl (cw cy e0 ad L S N ++ yw ab cy Y t D a b) H := hP
      have hD : va_D A (cw cy e0 ad L S N ++ yw ab cy Y t D a b) := hD
      refine lv_bipush (v := -72) hx hb dL_works_54 (by decide) ?_
      refine lv_icmp_ne (tgt := 70) hx hb dL_works_56 (by decide) (fun h9 => absurd rfl h9) (fun _ => ?_)
      refine lv_aload_n hx hb dL_works_59 rfl (lv_at hl 1 rfl) ?_
      refine lv_ldc (v := nI 2147483647) hx hb hown lk1 dL_works_60 ?_
      refine callY_i hP (vx_runSW (As := [.ref oc, .int (nI 2147483647)]) (rest := []) ⟨hx, hb, hml, hown, hts⟩ (qL_pass l dC dI cy e0 mi oc ad L S N H.size (nI 2147483647) hI hX hst hoc) (vx_cwSW 2 hts gL_works_L_pass rfl rfl rfl (by decide +kernel) ⟨Nat.le_of_ble_eq_true rfl, Nat.le_of_ble_eq_true rfl⟩) (preLS hK (w_leftP hP) (w_leftD hD) hS hA ham) rfl rfl hl.1 rfl (lv_room (Nat.le_of_ble_eq_true rfl)) dL_works_62 ⟨Nat.le_of_ble_eq_true rfl, Nat.le_of_ble_eq_true rfl⟩) hD hS hA (fun rr uc H locs hw hP hD hS => ?_)
      obtain ⟨rfl, ad, L, rfl, hI, hX, hoc⟩ := lres_n1 hw (if_neg (fun q => absurd q.2 (by decide)))
      have hP : va_P (dC, dI) vwCl (cw cy e0 ad L S N ++ yw ab cy Y t D a b) H := hP
      have hD : va_D A (cw cy e0 ad L S N ++ yw ab cy Y t D a b) := hD
      refine lv_bipush (v := -72) hx hb dL_works_65 (by decide) ?_
      refine lv_icmp_eq (tgt := 72) hx hb dL_works_67 (by decide) (fun _ => ?_) (fun h9 => absurd rfl h9)
      refine lv_aload hx hb dL_works_72 (lv_at hl 7 rfl) ?_
      refine lv_iconst (v := nI 0) hx hb dL_works_74 (by decide) ?_
      refine x_iald (f := gf D a b) hx hb hK hP (_ + 7) 0 (app_r rfl) rfl (t := 0) (by decide) (by decide) dL_works_75 ?_
      refine to_i (y := D) rfl ?_
      refine lv_iload hx hb dL_works_76 (lv_at hl 0 rfl) ?_
      refine lv_iadd hx hb dL_works_78 ?_
      refine lv_sipush (v := nI 9999) hx hb dL_works_79 (by decide) ?_
      refine lv_icmp_le (tgt := 102) hx hb dL_works_82 (by decide) (fun c_23 => ?_) (fun c_23 => ?_)
      · refine lv_iload hx hb dL_works_102 (lv_at hl 0 rfl) ?_
        refine lv_aload hx hb dL_works_104 (lv_at hl 5 rfl) ?_
        refine lv_aload hx hb dL_works_106 (lv_at hl 6 rfl) ?_
        refine lv_aload hx hb dL_works_108 (lv_at hl 7 rfl) ?_
        refine call_i (va_runS (As := [.int (nI (1 + dl)), .ref ((ab 5)), .ref ((ab 6)), .ref ((ab 7))]) (rest := []) ⟨hx, hb, hml, hown, hts⟩ (qL_passes l dC dI cy (cw cy e0 ad L S N) ab S N Y t D a b H.size (1 + dl) hR hN (by omega)) (va_cwS 4 hts gL_works_L_passes rfl rfl rfl (by decide +kernel) ⟨Nat.le_of_ble_eq_true rfl, Nat.le_of_ble_eq_true rfl⟩) (preS hK hP hD) rfl rfl hl.1 rfl (lv_room (Nat.le_of_ble_eq_true rfl)) dL_works_110 ⟨Nat.le_of_ble_eq_true rfl, Nat.le_of_ble_eq_true rfl⟩) hD hS hA (fun rr uu H locs hw hP hD hS => ?_)
        obtain ⟨rfl, hR2⟩ := hw
        obtain ⟨Y2, t2, D2, a2, b2⟩ := uu
        have hP : va_P (dC, dI) vwCl (cw cy e0 ad L S N ++ yw ab cy Y2 t2 D2 a2 b2) H := hP
        have hD : va_D A (cw cy e0 ad L S N ++ yw ab cy Y2 t2 D2 a2 b2) := hD
        refine lv_istore (lv' := [(8, .int (nI (K_passN S N (1 + dl)))), (7, .int (nI (1 + dl))), (0, .ref oc), (1, .int (nI act)), (2, .int y), (3, .int x), (4, .ref ((ab 5))), (5, .ref ((ab 6))), (6, .ref ((ab 7)))]) hx hb dL_works_113 hl (by decide) rfl (fun ls hl => ?_)
        refine lv_aload_n hx hb dL_works_115 rfl (lv_at hl 2 rfl) ?_
        refine lv_iload hx hb dL_works_116 (lv_at hl 1 rfl) ?_
        refine callY_i hP (vx_runSW (As := [.ref oc, .int (nI (1 + dl))]) (rest := []) ⟨hx, hb, hml, hown, hts⟩ (qL_pass l dC dI cy e0 mi oc ad L S N H.size (nI (1 + dl)) hI hX hst hoc) (vx_cwSW 2 hts gL_works_L_pass rfl rfl rfl (by decide +kernel) ⟨Nat.le_of_ble_eq_true rfl, Nat.le_of_ble_eq_true rfl⟩) (preLS hK (w_leftP hP) (w_leftD hD) hS hA ham) rfl rfl hl.1 rfl (lv_room (Nat.le_of_ble_eq_true rfl)) dL_works_118 ⟨Nat.le_of_ble_eq_true rfl, Nat.le_of_ble_eq_true rfl⟩) hD hS hA (fun rr uc H locs hw hP hD hS => ?_)
        rw [ix_nI (show 1 + dl < 2 ^ 31 by omega)] at hw
        obtain ⟨er, ad, L, rfl, hI, hX, hoc⟩ := lres_n0 hw ((if_pos ⟨nI_le (by omega) (by omega), nI_le (by omega) (by decide)⟩).trans (if_pos (by rw [← hD0]; exact c_23)))
        have hP : va_P (dC, dI) vwCl (cwT cy e0 (ad, L, K_passS S N (1 + dl), N) ++ yw ab cy Y2 t2 D2 a2 b2) H := hP
        have hD : va_D A (cwT cy e0 (ad, L, K_passS S N (1 + dl), N) ++ yw ab cy Y2 t2 D2 a2 b2) := hD
        refine to_i (y := nI (K_passN S N (1 + dl))) (er.trans (rfl)) ?_
        refine lv_iload hx hb dL_works_121 (lv_at hl 0 rfl) ?_
        refine lv_icmp_ne (tgt := 130) hx hb dL_works_123 (by decide) (fun h9 => absurd rfl h9) (fun _ => ?_)
        refine lv_iconst (v := nI 1) hx hb dL_works_126 (by decide) ?_
        refine lv_goto (tgt := 131) hx hb dL_works_127 (by decide) ?_
        rw [← hQQ]; exact end_z (u := ((ad, L, K_passS S N (1 + dl), N), (Y2, t2, D2, a2, b2))) hx hb hr hlocks dL_works_131 hK hP hD hS (by rfl) ⟨rfl, ⟨hI, hX⟩, hoc, hR2⟩ (Nat.le_of_ble_eq_true rfl) (Nat.le_of_ble_eq_true rfl)
      · refine lv_aload_n hx hb dL_works_85 rfl (lv_at hl 1 rfl) ?_
        refine lv_iload hx hb dL_works_86 (lv_at hl 0 rfl) ?_
        refine callY_i hP (vx_runSW (As := [.ref oc, .int (nI (1 + dl))]) (rest := []) ⟨hx, hb, hml, hown, hts⟩ (qL_pass l dC dI cy e0 mi oc ad L S N H.size (nI (1 + dl)) hI hX hst hoc) (vx_cwSW 2 hts gL_works_L_pass rfl rfl rfl (by decide +kernel) ⟨Nat.le_of_ble_eq_true rfl, Nat.le_of_ble_eq_true rfl⟩) (preLS hK (w_leftP hP) (w_leftD hD) hS hA ham) rfl rfl hl.1 rfl (lv_room (Nat.le_of_ble_eq_true rfl)) dL_works_88 ⟨Nat.le_of_ble_eq_true rfl, Nat.le_of_ble_eq_true rfl⟩) hD hS hA (fun rr uc H locs hw hP hD hS => ?_)
        obtain ⟨rfl, ad, L, rfl, hI, hX, hoc⟩ := lres_n2 hw ((if_pos ⟨nI_le (by omega) (by omega), nI_le (by omega) (by decide)⟩).trans (if_neg (by rw [← hD0]; exact c_23)))
        have hP : va_P (dC, dI) vwCl (cw cy e0 ad L S N ++ yw ab cy Y t D a b) H := hP
        have hD : va_D A (cw cy e0 ad L S N ++ yw ab cy Y t D a b) := hD
        refine lv_bipush (v := -73) hx hb dL_works_91 (by decide) ?_
        refine lv_icmp_ne (tgt := 100) hx hb dL_works_93 (by decide) (fun h9 => absurd rfl h9) (fun _ => ?_)
        refine lv_iconst (v := nI 1) hx hb dL_works_96 (by decide) ?_
        refine lv_goto (tgt := 101) hx hb dL_works_97 (by decide) ?_
        rw [← hQQ]; exact end_z (u := ((ad, L, S, N), (Y, t, D, a, b))) hx hb hr hlocks dL_works_101 hK hP hD hS (by rfl) ⟨rfl, ⟨hI, hX⟩, hoc, hR⟩ (Nat.le_of_ble_eq_true rfl) (Nat.le_of_ble_eq_true rfl)
    refine lv_if_ne (tgt := 19) hx hb dL_works_11 (by decide) (fun c_24 => ?_) (fun c_24 => ?_)
    · refine lv_bipush (v := nI 6) hx hb dL_works_19 (by decide) ?_
      exact J21 6 (Or.inr rfl) H locs hP hD hS
    · refine lv_bipush (v := nI 100) hx hb dL_works_14 (by decide) ?_
      refine lv_goto (tgt := 21) hx hb dL_works_16 (by decide) ?_
      exact J21 100 (Or.inl rfl) H locs hP hD hS

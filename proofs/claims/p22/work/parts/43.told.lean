/-! isTold: every answer that reads -/
def of2 (S : SS) (N : NN) (k c : Nat) : Nat := if isDr S k then K_off N k c else 0
theorem of2_1 {S : SS} {N : NN} {k c : Nat} (h1 : isDr S k) (h2 : hasLater N k c) : of2 S N k (c + 1) = of2 S N k c + 1 := by
  unfold of2
  rw [if_pos h1, if_pos h1]
  exact if_pos h2
theorem of2_0 {S : SS} {N : NN} {k c : Nat} (h : ¬ (isDr S k ∧ hasLater N k c)) : of2 S N k (c + 1) = of2 S N k c + 0 := by
  unfold of2
  by_cases h1 : isDr S k
  · rw [if_pos h1, if_pos h1]
    exact if_neg (fun q => h ⟨h1, q⟩)
  · rw [if_neg h1, if_neg h1]
theorem of2_6 {S : SS} {N : NN} {k : Nat} (h6 : ∀ c, 6 ≤ c → c < 10 → N 2 k c = 0) : (if isDr S k then nI (K_off N k 10) else nI 0) = nI (of2 S N k 6) := by
  have s : ∀ j, N 2 k j = 0 → K_off N k (j + 1) = K_off N k j := fun j h => if_neg (fun q => q.1 h)
  have e : K_off N k 10 = K_off N k 6 := (s 9 (h6 9 (by decide) (by decide))).trans ((s 8 (h6 8 (by decide) (by decide))).trans ((s 7 (h6 7 (by decide) (by decide))).trans (s 6 (h6 6 (by decide) (by decide)))))
  unfold of2
  rw [e]
  split <;> rfl
theorem zi_15 {S : SS} {N : NN} {Y : Nat → Nat → Nat} {t : Nat → Int32} {D : Int32} {a b i c : Nat} (h : RZ S N Y t D a b) (hN : okS N) (hi : i < N 0 0 0) (hc : c < 6) : Y 3 (6 * i + c) % 16 = N 2 i c := by
  by_cases h0 : N 2 i c = 0
  · have := (zi_iff h (by have := hN.2.2.2.1; omega) hc).mpr h0
    omega
  · obtain ⟨m0, m1, l0, l1, l2, e4, e5, e6, l3, l4⟩ := zi_at h hN hi hc h0
    omega
theorem z4_le {S : SS} {N : NN} {Y : Nat → Nat → Nat} {i : Nat} (hs : zS S N Y) (hi : i < 10) : Y 4 i ≤ 4 := by
  obtain ⟨s0, s1, h0, h1, -, -, e⟩ := zs_at hs hi
  rcases (show s0 = 0 ∨ s0 = 1 by omega) with rfl | rfl <;> rcases (show s1 = 0 ∨ s1 = 1 by omega) with rfl | rfl <;> omega
theorem ct_ge {N : NN} {k j : Nat} (h : N k 0 0 ≤ j) (hj : j < 2 ^ 31) : ¬ isCt N k (nI j) := by
  rintro ⟨h1, h2⟩
  rcases Nat.eq_zero_or_pos (N k 0 0) with e | e
  · rw [e] at h2
    exact absurd (Int32.le_trans h1 h2) (by decide)
  · obtain ⟨q, e⟩ : ∃ q, N k 0 0 = q + 1 := ⟨N k 0 0 - 1, by omega⟩
    rw [e, show (nI (q + 1) - 1 : Int32) = nI q from nI_pred q, nI_leI (by omega) (by omega)] at h2
    omega
section PN
variable {S : SS} {N : NN} {k x : Nat}
theorem pn_no (h : ¬ (N 3 x 0 = k ∧ S 9 x 0 = nI 3)) : penB S N k 0 (x + 1) - penB S N k 1 (x + 1) = penB S N k 0 x - penB S N k 1 x := by
  have e0 : penB S N k 0 (x + 1) = penB S N k 0 x + 0 := congrArg (penB S N k 0 x + ·) (if_neg (fun q => h ⟨q.1, q.2.2⟩))
  have e1 : penB S N k 1 (x + 1) = penB S N k 1 x + 0 := congrArg (penB S N k 1 x + ·) (if_neg (fun q => h ⟨q.1, q.2.2⟩))
  rw [e0, e1, Int32.add_zero, Int32.add_zero]
theorem pn_0 {x3 : Nat} (h1 : N 3 x 0 = k) (h2 : N 4 (N 3 x 1) 0 = 0) (h3 : S 9 x 0 = nI 3) (h4 : S 3 (N 3 x 1) 3 = nI x3) : penB S N k 0 (x + 1) - penB S N k 1 (x + 1) = penB S N k 0 x - penB S N k 1 x + nI x3 := by
  have e0 : penB S N k 0 (x + 1) = penB S N k 0 x + S 3 (N 3 x 1) 3 := congrArg (penB S N k 0 x + ·) (if_pos ⟨h1, h2, h3⟩)
  have e1 : penB S N k 1 (x + 1) = penB S N k 1 x + 0 := congrArg (penB S N k 1 x + ·) (if_neg (fun q => absurd (h2.symm.trans q.2.1) (by decide)))
  rw [e0, e1, add_sub_l, h4]
theorem pn_1 {x3 : Nat} (h1 : N 3 x 0 = k) (h2 : N 4 (N 3 x 1) 0 = 1) (h3 : S 9 x 0 = nI 3) (h4 : S 3 (N 3 x 1) 3 = nI x3) : penB S N k 0 (x + 1) - penB S N k 1 (x + 1) = penB S N k 0 x - penB S N k 1 x + -nI x3 := by
  have e0 : penB S N k 0 (x + 1) = penB S N k 0 x + 0 := congrArg (penB S N k 0 x + ·) (if_neg (fun q => absurd (h2.symm.trans q.2.1) (by decide)))
  have e1 : penB S N k 1 (x + 1) = penB S N k 1 x + S 3 (N 3 x 1) 3 := congrArg (penB S N k 1 x + ·) (if_pos ⟨h1, h2, h3⟩)
  rw [e0, e1, add_sub_r, h4]
end PN
theorem ow_pos {x : Int32} (h : ¬ x ≤ 0) : (if nI 0 < x then x else nI 0) = x := if_pos (by rw [nI_00]; exact Int32.not_le.mp h)
theorem ow_neg {x : Int32} (h : x ≤ 0) : (if nI 0 < x then x else nI 0) = nI 0 := if_neg (by rw [nI_00]; exact Int32.not_lt.mpr h)
theorem on_neg {p q : Nat} (hp : p < 2 ^ 30) (hq : q < 2 ^ 30) (h : ¬ 0 ≤ nI p - nI q) : (if nI 0 < nI q - nI p then nI q - nI p else nI 0) = -(nI p - nI q) := by
  have e1 := pk_sub_toInt hp hq
  have e2 := pk_sub_toInt hq hp
  rw [Int32.le_iff_toInt_le, e1, show (0 : Int32).toInt = 0 from rfl] at h
  rw [if_pos (by rw [nI_00, Int32.lt_iff_toInt_lt, e2, show (0 : Int32).toInt = 0 from rfl]; omega), Int32.neg_sub]
theorem on_pos {p q : Nat} (hp : p < 2 ^ 30) (hq : q < 2 ^ 30) (h : 0 ≤ nI p - nI q) : (if nI 0 < nI q - nI p then nI q - nI p else nI 0) = nI 0 := by
  have e1 := pk_sub_toInt hp hq
  have e2 := pk_sub_toInt hq hp
  rw [Int32.le_iff_toInt_le, e1, show (0 : Int32).toInt = 0 from rfl] at h
  exact if_neg (by rw [nI_00, Int32.lt_iff_toInt_lt, e2, show (0 : Int32).toInt = 0 from rfl]; omega)

set_option maxHeartbeats 8000000 in
set_option maxRecDepth 100000 in
/-- all that can be asked -/
theorem qL_isTold (l : Launch) (dC : Nat → ClassId) (dI : Nat → Nat → Nat) (cy : Nat → ClassId) (e0 mi oc : Nat) (ab : Nat → Nat) (ad : Lc → Nat) (L : List Lc) (S : SS) (N : NN) (Y : Nat → Nat → Nat) (t : Nat → Int32) (D : Int32) (a b : Nat) (sz : Nat)  (y : Int32) (hI : okC L N) (hX : okX L N) (hst : l.stackTraces = false) (hoc : ad (10, 0) = oc) (hR : RZ S N Y t D a b) : Met l yL_isTold wsL_isTold ({ frames := 9, cells := 500, slots := 3000, locals := 158 }) (va_Pc [.ref oc, .int y, .ref ((ab 0)), .ref ((ab 1)), .ref ((ab 3)), .ref ((ab 4)), .ref ((ab 5)), .ref ((ab 6)), .ref ((ab 7))] (wPreL (dC, dI) (tyL cy) e0 mi (cw cy e0 ad L S N ++ yw ab cy Y t D a b) sz)) (QI (dC, dI) (tyL cy) (fun (r : Int32) (u : LU2) => r = nI 1 ∧ INV oc u) (lw2 cy e0 ab) (va_A (cw cy e0 ad L S N ++ yw ab cy Y t D a b) sz)) 500 3000 (va_A (cw cy e0 ad L S N ++ yw ab cy Y t D a b) sz) := by
  refine enLA (cc := cL_isTold) (maxL := 14) (ret := (some .boolean)) (own := RL) (lv := [(0, .ref oc), (1, .int y), (2, .ref ((ab 0))), (3, .ref ((ab 1))), (4, .ref ((ab 3))), (5, .ref ((ab 4))), (6, .ref ((ab 5))), (7, .ref ((ab 6))), (8, .ref ((ab 7)))]) (by decide) rfl rfl (Nat.le_of_ble_eq_true rfl) rfl ?_
  intro p e s m below meth c ls A H locs hx hb hr hts hown hlocks hml hin hsz hK hP hD hS hA hl ham
  generalize hQQ : MQ below _ _ s _ _ A = QQ
  have lk0 : (Cond.constant RL 118 (2147483647)).before (([.ref oc, .int y, .ref ((ab 0)), .ref ((ab 1)), .ref ((ab 3)), .ref ((ab 4)), .ref ((ab 5)), .ref ((ab 6)), .ref ((ab 7))] : List Value).toArray) s = true := hts _ (List.mem_of_getElem? (i := 1) rfl)
  have hN := okS_of hI
  have hYb : zY Y := hR.2.2.2.2.2.2.2
  obtain ⟨hD0, hb1, hb5, -⟩ := hR.2.2.2.2.2.2.1
  have hb60 := rz_60 hR hN
  have h10 := hN.2.2.2.1
  refine lv_iconst (v := nI 0) hx hb dL_isTold_0 (by decide) ?_
  refine lv_istore (lv' := [(9, .int (nI 0)), (0, .ref oc), (1, .int y), (2, .ref ((ab 0))), (3, .ref ((ab 1))), (4, .ref ((ab 3))), (5, .ref ((ab 4))), (6, .ref ((ab 5))), (7, .ref ((ab 6))), (8, .ref ((ab 7)))]) hx hb dL_isTold_1 hl (by decide) rfl (fun ls hl => ?_)
  have hl_a : ∀ (k9 ck : Nat) (ad : Lc → Nat) (L : List Lc), 6 - ck = k9 → ck ≤ 6 → (okC L N) → (okX L N) → (ad (10, 0) = oc) → ∀ (H : Heap) (locs : List Loc) (ls : Array Slot), va_P (dC, dI) vwCl (cw cy e0 ad L S N ++ yw ab cy Y t D a b) H → va_D A (cw cy e0 ad L S N ++ yw ab cy Y t D a b) → va_S A s.heap H locs → lv_has ls 14 [(0, .ref oc), (1, .int y), (2, .ref ((ab 0))), (3, .ref ((ab 1))), (4, .ref ((ab 3))), (5, .ref ((ab 4))), (6, .ref ((ab 5))), (7, .ref ((ab 6))), (8, .ref ((ab 7))), (9, .int (nI ck))] → W p l e ({ frames := 9, cells := 500, slots := 3000, locals := 158 }) s m (([.ref oc, .int y, .ref ((ab 0)), .ref ((ab 1)), .ref ((ab 3)), .ref ((ab 4)), .ref ((ab 5)), .ref ((ab 6)), .ref ((ab 7))] : List Value).toArray) below meth c H locs (ck) (6 * ck) QQ (F0 m 3 ls []) := by
    intro k9
    induction k9 using Nat.strongRecOn with
    | _ k9 ih_a =>
      intro ck ad L hk9 hle9 hI hX hoc H locs ls hP hD hS hl
      refine lv_iload hx hb dL_isTold_3 (lv_at hl 9 rfl) ?_
      refine lv_bipush (v := nI 6) hx hb dL_isTold_5 (by decide) ?_
      refine n_ge (tgt := 31) hx hb dL_isTold_7 (by decide) (by omega) (by omega) (fun c_1 => ?_) (fun c_1 => ?_)
      · obtain rfl : 6 = ck := by omega
        refine lv_iconst (v := nI 0) hx hb dL_isTold_31 (by decide) ?_
        refine lv_istore (lv' := [(9, .int (nI 0)), (0, .ref oc), (1, .int y), (2, .ref ((ab 0))), (3, .ref ((ab 1))), (4, .ref ((ab 3))), (5, .ref ((ab 4))), (6, .ref ((ab 5))), (7, .ref ((ab 6))), (8, .ref ((ab 7)))]) hx hb dL_isTold_32 hl (by decide) rfl (fun ls hl => ?_)
        have hl_k : ∀ (k9 k : Nat) (ad : Lc → Nat) (L : List Lc), a - k = k9 → k ≤ a → (okC L N) → (okX L N) → (ad (10, 0) = oc) → ∀ (H : Heap) (locs : List Loc) (ls : Array Slot), va_P (dC, dI) vwCl (cw cy e0 ad L S N ++ yw ab cy Y t D a b) H → va_D A (cw cy e0 ad L S N ++ yw ab cy Y t D a b) → va_S A s.heap H locs → lv_has ls 14 [(0, .ref oc), (1, .int y), (2, .ref ((ab 0))), (3, .ref ((ab 1))), (4, .ref ((ab 3))), (5, .ref ((ab 4))), (6, .ref ((ab 5))), (7, .ref ((ab 6))), (8, .ref ((ab 7))), (9, .int (nI k))] → W p l e ({ frames := 9, cells := 500, slots := 3000, locals := 158 }) s m (([.ref oc, .int y, .ref ((ab 0)), .ref ((ab 1)), .ref ((ab 3)), .ref ((ab 4)), .ref ((ab 5)), .ref ((ab 6)), .ref ((ab 7))] : List Value).toArray) below meth c H locs (6 + 24 * k) (36 + 144 * k) QQ (F0 m 34 ls []) := by
          intro k9
          induction k9 using Nat.strongRecOn with
          | _ k9 ih_k =>
            intro k ad L hk9 hle9 hI hX hoc H locs ls hP hD hS hl
            refine lv_iload hx hb dL_isTold_34 (lv_at hl 9 rfl) ?_
            refine lv_aload hx hb dL_isTold_36 (lv_at hl 8 rfl) ?_
            refine lv_iconst (v := nI 1) hx hb dL_isTold_38 (by decide) ?_
            refine x_iald (f := gf D a b) hx hb hK hP (_ + 7) 0 (app_r rfl) rfl (t := 1) (by decide) (by decide) dL_isTold_39 ?_
            refine to_i (y := nI a) rfl ?_
            refine n_ge (tgt := 328) hx hb dL_isTold_40 (by decide) (by omega) (by omega) (fun c_2 => ?_) (fun c_2 => ?_)
            · obtain rfl : a = k := by omega
              refine lv_iconst (v := nI 0) hx hb dL_isTold_328 (by decide) ?_
              refine lv_istore (lv' := [(9, .int (nI 0)), (0, .ref oc), (1, .int y), (2, .ref ((ab 0))), (3, .ref ((ab 1))), (4, .ref ((ab 3))), (5, .ref ((ab 4))), (6, .ref ((ab 5))), (7, .ref ((ab 6))), (8, .ref ((ab 7)))]) hx hb dL_isTold_329 hl (by decide) rfl (fun ls hl => ?_)
              have hl_d : ∀ (k9 k : Nat) (ad : Lc → Nat) (L : List Lc), b - k = k9 → k ≤ b → (okC L N) → (okX L N) → (ad (10, 0) = oc) → ∀ (H : Heap) (locs : List Loc) (ls : Array Slot), va_P (dC, dI) vwCl (cw cy e0 ad L S N ++ yw ab cy Y t D a b) H → va_D A (cw cy e0 ad L S N ++ yw ab cy Y t D a b) → va_S A s.heap H locs → lv_has ls 14 [(0, .ref oc), (1, .int y), (2, .ref ((ab 0))), (3, .ref ((ab 1))), (4, .ref ((ab 3))), (5, .ref ((ab 4))), (6, .ref ((ab 5))), (7, .ref ((ab 6))), (8, .ref ((ab 7))), (9, .int (nI k))] → W p l e ({ frames := 9, cells := 500, slots := 3000, locals := 158 }) s m (([.ref oc, .int y, .ref ((ab 0)), .ref ((ab 1)), .ref ((ab 3)), .ref ((ab 4)), .ref ((ab 5)), .ref ((ab 6)), .ref ((ab 7))] : List Value).toArray) below meth c H locs (6 + 24 * a + 3 * k) (36 + 144 * a + 18 * k) QQ (F0 m 331 ls []) := by
                intro k9
                induction k9 using Nat.strongRecOn with
                | _ k9 ih_d =>
                  intro k ad L hk9 hle9 hI hX hoc H locs ls hP hD hS hl
                  refine lv_iload hx hb dL_isTold_331 (lv_at hl 9 rfl) ?_
                  refine lv_aload hx hb dL_isTold_333 (lv_at hl 8 rfl) ?_
                  refine lv_iconst (v := nI 2) hx hb dL_isTold_335 (by decide) ?_
                  refine x_iald (f := gf D a b) hx hb hK hP (_ + 7) 0 (app_r rfl) rfl (t := 2) (by decide) (by decide) dL_isTold_336 ?_
                  refine to_i (y := nI b) rfl ?_
                  refine n_ge (tgt := 399) hx hb dL_isTold_337 (by decide) (by omega) (by omega) (fun c_3 => ?_) (fun c_3 => ?_)
                  · obtain rfl : b = k := by omega
                    refine lv_aload_n hx hb dL_isTold_399 rfl (lv_at hl 0 rfl) ?_
                    refine to_v (y := .ref (ad (10, 0))) (congrArg Value.ref hoc.symm) ?_
                    obtain ⟨z10, hz10⟩ := pl_get (ad := ad) (f := cc cy e0 ad S N) (hI.1.2.2.2.1 10 (by decide))
                    refine callY_i hP (va_runV (As := []) (rest := []) ⟨hx, hb, hml, hown, hts⟩ (qX3_duties l dC dI cy e0 mi ad L S N H.size hI) (cwV 0 hts gL_isTold_X3_duties rfl rfl rfl (by decide +kernel) ⟨Nat.le_of_ble_eq_true rfl, Nat.le_of_ble_eq_true rfl⟩) (preV hK (w_leftP hP) (w_leftD hD) (w_recv (ci := 4) (q0 := z10) hK (w_leftP hP) hz10 rfl)) rfl rfl hl.1 rfl (lv_room (Nat.le_of_ble_eq_true rfl)) dL_isTold_400 ⟨by show _ ≤ 500; omega, by show _ ≤ 3000; omega⟩) hD hS hA (fun rr uu H locs hw hP hD hS => ?_)
                    obtain ⟨rfl, rfl⟩ := hw
                    have hP : va_P (dC, dI) vwCl (cw cy e0 ad L S N ++ yw ab cy Y t D a b) H := hP
                    have hD : va_D A (cw cy e0 ad L S N ++ yw ab cy Y t D a b) := hD
                    refine to_i (y := nI b) (congrArg nI hb5.symm) ?_
                    refine lv_aload hx hb dL_isTold_403 (lv_at hl 8 rfl) ?_
                    refine lv_iconst (v := nI 2) hx hb dL_isTold_405 (by decide) ?_
                    refine x_iald (f := gf D a b) hx hb hK hP (_ + 7) 0 (app_r rfl) rfl (t := 2) (by decide) (by decide) dL_isTold_406 ?_
                    refine to_i (y := nI b) rfl ?_
                    refine lv_icmp_ne (tgt := 503) hx hb dL_isTold_407 (by decide) (fun h9 => absurd rfl h9) (fun _ => ?_)
                    refine lv_aload_n hx hb dL_isTold_410 rfl (lv_at hl 0 rfl) ?_
                    refine lv_aload hx hb dL_isTold_411 (lv_at hl 8 rfl) ?_
                    refine lv_iconst (v := nI 2) hx hb dL_isTold_413 (by decide) ?_
                    refine x_iald (f := gf D a b) hx hb hK hP (_ + 7) 0 (app_r rfl) rfl (t := 2) (by decide) (by decide) dL_isTold_414 ?_
                    refine to_i (y := nI b) rfl ?_
                    refine callY_i hP (vx_runSW (As := [.ref oc, .int (nI b)]) (rest := []) ⟨hx, hb, hml, hown, hts⟩ (qL_state l dC dI cy e0 mi oc ad L S N H.size (nI b) hI hX hst hoc) (vx_cwSW 2 hts gL_isTold_L_state rfl rfl rfl (by decide +kernel) ⟨Nat.le_of_ble_eq_true rfl, Nat.le_of_ble_eq_true rfl⟩) (preLS hK (w_leftP hP) (w_leftD hD) hS hA ham) rfl rfl hl.1 rfl (lv_room (Nat.le_of_ble_eq_true rfl)) dL_isTold_415 ⟨by show _ ≤ 500; omega, by show _ ≤ 3000; omega⟩) hD hS hA (fun rr uc H locs hw hP hD hS => ?_)
                    obtain ⟨rfl, ad, L, rfl, hI, hX, hoc⟩ := lres_n1 hw (if_neg (ct_ge (by omega) (by omega)))
                    have hP : va_P (dC, dI) vwCl (cw cy e0 ad L S N ++ yw ab cy Y t D a b) H := hP
                    have hD : va_D A (cw cy e0 ad L S N ++ yw ab cy Y t D a b) := hD
                    refine lv_bipush (v := -71) hx hb dL_isTold_418 (by decide) ?_
                    refine lv_icmp_ne (tgt := 503) hx hb dL_isTold_420 (by decide) (fun h9 => absurd rfl h9) (fun _ => ?_)
                    refine lv_aload_n hx hb dL_isTold_423 rfl (lv_at hl 0 rfl) ?_
                    refine lv_iconst (v := -1) hx hb dL_isTold_424 (by decide) ?_
                    refine callY_i hP (vx_runSW (As := [.ref oc, .int ((-1))]) (rest := []) ⟨hx, hb, hml, hown, hts⟩ (qL_state l dC dI cy e0 mi oc ad L S N H.size ((-1)) hI hX hst hoc) (vx_cwSW 2 hts gL_isTold_L_state rfl rfl rfl (by decide +kernel) ⟨Nat.le_of_ble_eq_true rfl, Nat.le_of_ble_eq_true rfl⟩) (preLS hK (w_leftP hP) (w_leftD hD) hS hA ham) rfl rfl hl.1 rfl (lv_room (Nat.le_of_ble_eq_true rfl)) dL_isTold_425 ⟨by show _ ≤ 500; omega, by show _ ≤ 3000; omega⟩) hD hS hA (fun rr uc H locs hw hP hD hS => ?_)
                    obtain ⟨rfl, ad, L, rfl, hI, hX, hoc⟩ := lres_n1 hw (if_neg ct_m1)
                    have hP : va_P (dC, dI) vwCl (cw cy e0 ad L S N ++ yw ab cy Y t D a b) H := hP
                    have hD : va_D A (cw cy e0 ad L S N ++ yw ab cy Y t D a b) := hD
                    refine lv_bipush (v := -71) hx hb dL_isTold_428 (by decide) ?_
                    refine lv_icmp_ne (tgt := 503) hx hb dL_isTold_430 (by decide) (fun h9 => absurd rfl h9) (fun _ => ?_)
                    refine lv_aload_n hx hb dL_isTold_433 rfl (lv_at hl 0 rfl) ?_
                    refine lv_ldc (v := nI 2147483647) hx hb hown lk0 dL_isTold_434 ?_
                    refine callY_i hP (vx_runSW (As := [.ref oc, .int (nI 2147483647)]) (rest := []) ⟨hx, hb, hml, hown, hts⟩ (qL_day l dC dI cy e0 mi oc ad L S N H.size (nI 2147483647) hI hX hst hoc) (vx_cwSW 2 hts gL_isTold_L_day rfl rfl rfl (by decide +kernel) ⟨Nat.le_of_ble_eq_true rfl, Nat.le_of_ble_eq_true rfl⟩) (preLS hK (w_leftP hP) (w_leftD hD) hS hA ham) rfl rfl hl.1 rfl (lv_room (Nat.le_of_ble_eq_true rfl)) dL_isTold_436 ⟨by show _ ≤ 500; omega, by show _ ≤ 3000; omega⟩) hD hS hA (fun rr uc H locs hw hP hD hS => ?_)
                    obtain ⟨rfl, ad, L, rfl, hI, hX, hoc⟩ := lres_n1 hw (if_neg (ct_ge (by omega) (by omega)))
                    have hP : va_P (dC, dI) vwCl (cw cy e0 ad L S N ++ yw ab cy Y t D a b) H := hP
                    have hD : va_D A (cw cy e0 ad L S N ++ yw ab cy Y t D a b) := hD
                    refine lv_bipush (v := -71) hx hb dL_isTold_439 (by decide) ?_
                    refine lv_icmp_ne (tgt := 503) hx hb dL_isTold_441 (by decide) (fun h9 => absurd rfl h9) (fun _ => ?_)
                    refine lv_aload_n hx hb dL_isTold_444 rfl (lv_at hl 0 rfl) ?_
                    refine lv_bipush (v := nI 10) hx hb dL_isTold_445 (by decide) ?_
                    refine callY_i hP (vx_runSW (As := [.ref oc, .int (nI 10)]) (rest := []) ⟨hx, hb, hml, hown, hts⟩ (qL_latest l dC dI cy e0 mi oc ad L S N H.size (nI 10) hI hX hst hoc) (vx_cwSW 2 hts gL_isTold_L_latest rfl rfl rfl (by decide +kernel) ⟨Nat.le_of_ble_eq_true rfl, Nat.le_of_ble_eq_true rfl⟩) (preLS hK (w_leftP hP) (w_leftD hD) hS hA ham) rfl rfl hl.1 rfl (lv_room (Nat.le_of_ble_eq_true rfl)) dL_isTold_447 ⟨by show _ ≤ 500; omega, by show _ ≤ 3000; omega⟩) hD hS hA (fun rr uc H locs hw hP hD hS => ?_)
                    obtain ⟨rfl, ad, L, rfl, hI, hX, hoc⟩ := lres_n1 hw (if_neg (fun q => absurd q (by decide)))
                    have hP : va_P (dC, dI) vwCl (cw cy e0 ad L S N ++ yw ab cy Y t D a b) H := hP
                    have hD : va_D A (cw cy e0 ad L S N ++ yw ab cy Y t D a b) := hD
                    refine lv_bipush (v := -72) hx hb dL_isTold_450 (by decide) ?_
                    refine lv_icmp_ne (tgt := 503) hx hb dL_isTold_452 (by decide) (fun h9 => absurd rfl h9) (fun _ => ?_)
                    refine lv_aload_n hx hb dL_isTold_455 rfl (lv_at hl 0 rfl) ?_
                    refine lv_iconst (v := -1) hx hb dL_isTold_456 (by decide) ?_
                    refine callY_i hP (vx_runSW (As := [.ref oc, .int ((-1))]) (rest := []) ⟨hx, hb, hml, hown, hts⟩ (qL_latest l dC dI cy e0 mi oc ad L S N H.size ((-1)) hI hX hst hoc) (vx_cwSW 2 hts gL_isTold_L_latest rfl rfl rfl (by decide +kernel) ⟨Nat.le_of_ble_eq_true rfl, Nat.le_of_ble_eq_true rfl⟩) (preLS hK (w_leftP hP) (w_leftD hD) hS hA ham) rfl rfl hl.1 rfl (lv_room (Nat.le_of_ble_eq_true rfl)) dL_isTold_457 ⟨by show _ ≤ 500; omega, by show _ ≤ 3000; omega⟩) hD hS hA (fun rr uc H locs hw hP hD hS => ?_)
                    obtain ⟨rfl, ad, L, rfl, hI, hX, hoc⟩ := lres_n1 hw (if_neg (fun q => absurd q (by decide)))
                    have hP : va_P (dC, dI) vwCl (cw cy e0 ad L S N ++ yw ab cy Y t D a b) H := hP
                    have hD : va_D A (cw cy e0 ad L S N ++ yw ab cy Y t D a b) := hD
                    refine lv_bipush (v := -72) hx hb dL_isTold_460 (by decide) ?_
                    refine lv_icmp_ne (tgt := 503) hx hb dL_isTold_462 (by decide) (fun h9 => absurd rfl h9) (fun _ => ?_)
                    refine lv_aload_n hx hb dL_isTold_465 rfl (lv_at hl 0 rfl) ?_
                    refine lv_bipush (v := nI 9) hx hb dL_isTold_466 (by decide) ?_
                    refine callY_i hP (vx_runSW (As := [.ref oc, .int (nI 9)]) (rest := []) ⟨hx, hb, hml, hown, hts⟩ (qL_latest l dC dI cy e0 mi oc ad L S N H.size (nI 9) hI hX hst hoc) (vx_cwSW 2 hts gL_isTold_L_latest rfl rfl rfl (by decide +kernel) ⟨Nat.le_of_ble_eq_true rfl, Nat.le_of_ble_eq_true rfl⟩) (preLS hK (w_leftP hP) (w_leftD hD) hS hA ham) rfl rfl hl.1 rfl (lv_room (Nat.le_of_ble_eq_true rfl)) dL_isTold_468 ⟨by show _ ≤ 500; omega, by show _ ≤ 3000; omega⟩) hD hS hA (fun rr uc H locs hw hP hD hS => ?_)
                    obtain ⟨rfl, ad, L, rfl, hI, hX, hoc⟩ := lres_n0 hw (if_pos (by decide))
                    have hP : va_P (dC, dI) vwCl (cw cy e0 ad L S N ++ yw ab cy Y t D a b) H := hP
                    have hD : va_D A (cw cy e0 ad L S N ++ yw ab cy Y t D a b) := hD
                    refine to_i (y := nI 0) (by rw [ix_nI (show 9 < 2 ^ 31 by decide), hR.2.1 9 (by decide) (by decide)]) ?_
                    refine lv_if_ne (tgt := 503) hx hb dL_isTold_471 (by decide) (fun h9 => absurd h9 (by decide)) (fun _ => ?_)
                    refine lv_aload_n hx hb dL_isTold_474 rfl (lv_at hl 0 rfl) ?_
                    refine lv_aload hx hb dL_isTold_475 (lv_at hl 8 rfl) ?_
                    refine lv_iconst (v := nI 1) hx hb dL_isTold_477 (by decide) ?_
                    refine x_iald (f := gf D a b) hx hb hK hP (_ + 7) 0 (app_r rfl) rfl (t := 1) (by decide) (by decide) dL_isTold_478 ?_
                    refine to_i (y := nI a) rfl ?_
                    refine lv_iconst (v := nI 0) hx hb dL_isTold_479 (by decide) ?_
                    refine callY_i hP (vx_runSW (As := [.ref oc, .int (nI a), .int (nI 0)]) (rest := []) ⟨hx, hb, hml, hown, hts⟩ (qL_version l dC dI cy e0 mi oc ad L S N H.size (nI a) (nI 0) hI hX hst hoc) (vx_cwSW 3 hts gL_isTold_L_version rfl rfl rfl (by decide +kernel) ⟨Nat.le_of_ble_eq_true rfl, Nat.le_of_ble_eq_true rfl⟩) (preLS hK (w_leftP hP) (w_leftD hD) hS hA ham) rfl rfl hl.1 rfl (lv_room (Nat.le_of_ble_eq_true rfl)) dL_isTold_480 ⟨by show _ ≤ 500; omega, by show _ ≤ 3000; omega⟩) hD hS hA (fun rr uc H locs hw hP hD hS => ?_)
                    obtain ⟨rfl, ad, L, rfl, hI, hX, hoc⟩ := lres_n1 hw (if_neg (ct_ge (by omega) (by omega)))
                    have hP : va_P (dC, dI) vwCl (cw cy e0 ad L S N ++ yw ab cy Y t D a b) H := hP
                    have hD : va_D A (cw cy e0 ad L S N ++ yw ab cy Y t D a b) := hD
                    refine lv_bipush (v := -71) hx hb dL_isTold_483 (by decide) ?_
                    refine lv_icmp_ne (tgt := 503) hx hb dL_isTold_485 (by decide) (fun h9 => absurd rfl h9) (fun _ => ?_)
                    refine lv_aload_n hx hb dL_isTold_488 rfl (lv_at hl 0 rfl) ?_
                    refine lv_iconst (v := -1) hx hb dL_isTold_489 (by decide) ?_
                    refine lv_iconst (v := nI 0) hx hb dL_isTold_490 (by decide) ?_
                    refine callY_i hP (vx_runSW (As := [.ref oc, .int ((-1)), .int (nI 0)]) (rest := []) ⟨hx, hb, hml, hown, hts⟩ (qL_owes l dC dI cy e0 mi oc ad L S N H.size ((-1)) (nI 0) hI hX hst hoc) (vx_cwSW 3 hts gL_isTold_L_owes rfl rfl rfl (by decide +kernel) ⟨Nat.le_of_ble_eq_true rfl, Nat.le_of_ble_eq_true rfl⟩) (preLS hK (w_leftP hP) (w_leftD hD) hS hA ham) rfl rfl hl.1 rfl (lv_room (Nat.le_of_ble_eq_true rfl)) dL_isTold_491 ⟨by show _ ≤ 500; omega, by show _ ≤ 3000; omega⟩) hD hS hA (fun rr uc H locs hw hP hD hS => ?_)
                    obtain ⟨rfl, ad, L, rfl, hI, hX, hoc⟩ := lres_n1 hw (if_neg ct_m1)
                    have hP : va_P (dC, dI) vwCl (cw cy e0 ad L S N ++ yw ab cy Y t D a b) H := hP
                    have hD : va_D A (cw cy e0 ad L S N ++ yw ab cy Y t D a b) := hD
                    refine lv_bipush (v := -71) hx hb dL_isTold_494 (by decide) ?_
                    refine lv_icmp_ne (tgt := 503) hx hb dL_isTold_496 (by decide) (fun h9 => absurd rfl h9) (fun _ => ?_)
                    refine lv_iconst (v := nI 1) hx hb dL_isTold_499 (by decide) ?_
                    refine lv_goto (tgt := 504) hx hb dL_isTold_500 (by decide) ?_
                    rw [← hQQ]; exact end_z (u := ((ad, L, S, N), (Y, t, D, a, b))) hx hb hr hlocks dL_isTold_504 hK hP hD hS (by rfl) ⟨rfl, ⟨hI, hX⟩, hoc, hR⟩ (by omega) (by omega)
                  · obtain ⟨st, x2, x3, k1, k2, k3, k4, k5, k6, k7, k8, k9, k10⟩ := rz_d hR hN (j := k) (by omega)
                    refine lv_aload_n hx hb dL_isTold_340 rfl (lv_at hl 0 rfl) ?_
                    refine lv_iload hx hb dL_isTold_341 (lv_at hl 9 rfl) ?_
                    refine callY_i hP (vx_runSW (As := [.ref oc, .int (nI k)]) (rest := []) ⟨hx, hb, hml, hown, hts⟩ (qL_state l dC dI cy e0 mi oc ad L S N H.size (nI k) hI hX hst hoc) (vx_cwSW 2 hts gL_isTold_L_state rfl rfl rfl (by decide +kernel) ⟨Nat.le_of_ble_eq_true rfl, Nat.le_of_ble_eq_true rfl⟩) (preLS hK (w_leftP hP) (w_leftD hD) hS hA ham) rfl rfl hl.1 rfl (lv_room (Nat.le_of_ble_eq_true rfl)) dL_isTold_343 ⟨by show _ ≤ 500; omega, by show _ ≤ 3000; omega⟩) hD hS hA (fun rr uc H locs hw hP hD hS => ?_)
                    obtain ⟨rfl, ad, L, rfl, hI, hX, hoc⟩ := lres_n0 hw (if_pos (ct_in (by omega) (by omega)))
                    have hP : va_P (dC, dI) vwCl (cw cy e0 ad L S N ++ yw ab cy Y t D a b) H := hP
                    have hD : va_D A (cw cy e0 ad L S N ++ yw ab cy Y t D a b) := hD
                    refine to_i (y := nI st) (by rw [ix_nI (show k < 2 ^ 31 by omega)]; exact k4) ?_
                    refine lv_aload hx hb dL_isTold_346 (lv_at hl 6 rfl) ?_
                    refine lv_iload hx hb dL_isTold_348 (lv_at hl 9 rfl) ?_
                    refine x_iald (f := fun j => nI (Y 5 j)) hx hb hK hP (_ + 5) 0 (app_r rfl) rfl (t := k) (by omega) (by decide) dL_isTold_350 ?_
                    refine to_i (y := nI (Y 5 k)) rfl ?_
                    refine lv_iconst (v := nI 5) hx hb dL_isTold_351 (by decide) ?_
                    refine lv_ishr hx hb dL_isTold_352 ?_
                    refine to_i (y := nI ((Y 5 k) / 32)) (pk_shrN (by have := hYb 5 k; omega) _ 5 (by decide)) ?_
                    refine lv_bipush (v := nI 7) hx hb dL_isTold_353 (by decide) ?_
                    refine lv_iand hx hb dL_isTold_355 ?_
                    refine to_i (y := nI (((Y 5 k) / 32) % 8)) (pk_andN (by have := hYb 5 k; omega) 3 (by decide)) ?_
                    refine to_i (y := nI st) (congrArg nI (by omega)) ?_
                    refine lv_icmp_ne (tgt := 391) hx hb dL_isTold_356 (by decide) (fun h9 => absurd rfl h9) (fun _ => ?_)
                    refine lv_aload_n hx hb dL_isTold_359 rfl (lv_at hl 0 rfl) ?_
                    refine lv_iload hx hb dL_isTold_360 (lv_at hl 9 rfl) ?_
                    refine callY_i hP (vx_runSW (As := [.ref oc, .int (nI k)]) (rest := []) ⟨hx, hb, hml, hown, hts⟩ (qL_day l dC dI cy e0 mi oc ad L S N H.size (nI k) hI hX hst hoc) (vx_cwSW 2 hts gL_isTold_L_day rfl rfl rfl (by decide +kernel) ⟨Nat.le_of_ble_eq_true rfl, Nat.le_of_ble_eq_true rfl⟩) (preLS hK (w_leftP hP) (w_leftD hD) hS hA ham) rfl rfl hl.1 rfl (lv_room (Nat.le_of_ble_eq_true rfl)) dL_isTold_362 ⟨by show _ ≤ 500; omega, by show _ ≤ 3000; omega⟩) hD hS hA (fun rr uc H locs hw hP hD hS => ?_)
                    obtain ⟨rfl, ad, L, rfl, hI, hX, hoc⟩ := lres_n0 hw (if_pos (ct_in (by omega) (by omega)))
                    have hP : va_P (dC, dI) vwCl (cw cy e0 ad L S N ++ yw ab cy Y t D a b) H := hP
                    have hD : va_D A (cw cy e0 ad L S N ++ yw ab cy Y t D a b) := hD
                    refine to_i (y := t k) (by rw [ix_nI (show k < 2 ^ 31 by omega)]; exact k10.symm) ?_
                    refine lv_aload hx hb dL_isTold_365 (lv_at hl 7 rfl) ?_
                    refine lv_iload hx hb dL_isTold_367 (lv_at hl 9 rfl) ?_
                    refine x_iald (f := t) hx hb hK hP (_ + 6) 0 (app_r rfl) rfl (t := k) (by omega) (by decide) dL_isTold_369 ?_
                    refine lv_icmp_ne (tgt := 391) hx hb dL_isTold_370 (by decide) (fun h9 => absurd rfl h9) (fun _ => ?_)
                    refine lv_aload_n hx hb dL_isTold_373 rfl (lv_at hl 0 rfl) ?_
                    refine to_v (y := .ref (ad (10, 0))) (congrArg Value.ref hoc.symm) ?_
                    refine lv_iload hx hb dL_isTold_374 (lv_at hl 9 rfl) ?_
                    have hV0 : V_at N 5 (nI k) = 0 := if_pos (ct_in (by omega) (by omega))
                    obtain ⟨z10, hz10⟩ := pl_get (ad := ad) (f := cc cy e0 ad S N) (hI.1.2.2.2.1 10 (by decide))
                    refine callY_ix hP (vx_runV (As := [.int (nI k)]) (rest := []) ⟨hx, hb, hml, hown, hts⟩ (qX3_isSuspended l dC dI cy e0 mi ad L S N H.size (nI k) hI hst) (cwV 1 hts gL_isTold_X3_isSuspended rfl rfl rfl (by decide +kernel) ⟨Nat.le_of_ble_eq_true rfl, Nat.le_of_ble_eq_true rfl⟩) (preXV hK (w_leftP hP) (w_leftD hD) hS hA ham.1 (w_recv (ci := 4) (q0 := z10) hK (w_leftP hP) hz10 rfl)) rfl rfl hl.1 rfl (lv_room (Nat.le_of_ble_eq_true rfl)) dL_isTold_376 ⟨by show _ ≤ 500; omega, by show _ ≤ 3000; omega⟩) hD hS hA (fun E ce q9 H locs hpx hP hS hc1 hc2 hc3 => absurd (hV0.symm.trans hpx.1) (by decide)) (fun rr uu H locs hw hP hD hS => ?_)
                    obtain ⟨-, rfl, rfl⟩ := hw
                    have hP : va_P (dC, dI) vwCl (cw cy e0 ad L S N ++ yw ab cy Y t D a b) H := hP
                    have hD : va_D A (cw cy e0 ad L S N ++ yw ab cy Y t D a b) := hD
                    refine to_i (y := bi (isHeld S N k)) (by rw [ix_nI (show k < 2 ^ 31 by omega)]) ?_
                    refine lv_aload hx hb dL_isTold_379 (lv_at hl 6 rfl) ?_
                    refine lv_aload hx hb dL_isTold_381 (lv_at hl 8 rfl) ?_
                    refine lv_iload hx hb dL_isTold_383 (lv_at hl 9 rfl) ?_
                    refine call_i (va_runS (As := [.ref ((ab 5)), .ref ((ab 7)), .int (nI k)]) (rest := [.int (bi (isHeld S N k))]) ⟨hx, hb, hml, hown, hts⟩ (qL_isSuspended l dC dI cy (cw cy e0 ad L S N) ab S N Y t D a b H.size k hR hN (by omega)) (va_cwS 3 hts gL_isTold_L_isSuspended rfl rfl rfl (by decide +kernel) ⟨Nat.le_of_ble_eq_true rfl, Nat.le_of_ble_eq_true rfl⟩) (preS hK hP hD) rfl rfl hl.1 rfl (lv_room (Nat.le_of_ble_eq_true rfl)) dL_isTold_385 ⟨by show _ ≤ 500; omega, by show _ ≤ 3000; omega⟩) hD hS hA (fun rr uu H locs hw hP hD hS => ?_)
                    obtain rfl := hw
                    have hP : va_P (dC, dI) vwCl (cw cy e0 ad L S N ++ yw ab cy Y t D a b) H := hP
                    have hD : va_D A (cw cy e0 ad L S N ++ yw ab cy Y t D a b) := hD
                    refine lv_icmp_eq (tgt := 393) hx hb dL_isTold_388 (by decide) (fun _ => ?_) (fun h9 => absurd rfl h9)
                    refine lv_iinc (v := nI (k + 1)) (lv' := [(9, .int (nI (k + 1))), (0, .ref oc), (1, .int y), (2, .ref ((ab 0))), (3, .ref ((ab 1))), (4, .ref ((ab 3))), (5, .ref ((ab 4))), (6, .ref ((ab 5))), (7, .ref ((ab 6))), (8, .ref ((ab 7)))]) hx hb dL_isTold_393 hl (k := 9) rfl (by rw [show Int32.ofInt 1 = 1 from rfl]; exact nI_1 _) (by decide) rfl (fun ls hl => ?_)
                    refine lv_goto (tgt := 331) hx hb dL_isTold_396 (by decide) ?_
                    exact W.widen (k := 6 + 24 * a + 3 * (k + 1)) (n := 36 + 144 * a + 18 * (k + 1)) (by omega) (by omega) (ih_d (b - (k + 1)) (by omega) (k + 1) ad L rfl (by omega) hI hX hoc H locs ls hP hD hS (by exact lv_sub hl [1, 2, 3, 4, 5, 6, 7, 8, 9, 0] rfl))
              exact W.widen (k := 6 + 24 * a + 3 * 0) (n := 36 + 144 * a + 18 * 0) (by omega) (by omega) (hl_d b 0 ad L rfl (Nat.zero_le _) hI hX hoc H locs ls hP hD hS (lv_sub hl [1, 2, 3, 4, 5, 6, 7, 8, 9, 0] rfl))
            · have hdr := dr_iff hR.2.2.2.1 (show k < 10 by omega)
              have h4l := z4_le hR.2.2.2.1 (show k < 10 by omega)
              have h6 := hi6 hR hN (show k < N 0 0 0 by omega)
              refine lv_iconst (v := nI 0) hx hb dL_isTold_43 (by decide) ?_
              refine to_i (y := nI (of2 S N k 0)) (congrArg nI (by unfold of2; split <;> rfl)) ?_
              refine lv_istore (lv' := [(10, .int (nI (of2 S N k 0))), (0, .ref oc), (1, .int y), (2, .ref ((ab 0))), (3, .ref ((ab 1))), (4, .ref ((ab 3))), (5, .ref ((ab 4))), (6, .ref ((ab 5))), (7, .ref ((ab 6))), (8, .ref ((ab 7))), (9, .int (nI k))]) hx hb dL_isTold_44 hl (by decide) rfl (fun ls hl => ?_)
              refine lv_iconst (v := nI 0) hx hb dL_isTold_46 (by decide) ?_
              refine to_i (y := penB S N k 0 0 - penB S N k 1 0) (by show nI 0 = (0 : Int32) - 0; decide) ?_
              refine lv_istore (lv' := [(11, .int (penB S N k 0 0 - penB S N k 1 0)), (10, .int (nI (of2 S N k 0))), (0, .ref oc), (1, .int y), (2, .ref ((ab 0))), (3, .ref ((ab 1))), (4, .ref ((ab 3))), (5, .ref ((ab 4))), (6, .ref ((ab 5))), (7, .ref ((ab 6))), (8, .ref ((ab 7))), (9, .int (nI k))]) hx hb dL_isTold_47 hl (by decide) rfl (fun ls hl => ?_)
              refine lv_iconst (v := nI 0) hx hb dL_isTold_49 (by decide) ?_
              refine lv_istore (lv' := [(12, .int (nI 0)), (11, .int (penB S N k 0 0 - penB S N k 1 0)), (10, .int (nI (of2 S N k 0))), (0, .ref oc), (1, .int y), (2, .ref ((ab 0))), (3, .ref ((ab 1))), (4, .ref ((ab 3))), (5, .ref ((ab 4))), (6, .ref ((ab 5))), (7, .ref ((ab 6))), (8, .ref ((ab 7))), (9, .int (nI k))]) hx hb dL_isTold_50 hl (by decide) rfl (fun ls hl => ?_)
              have hl_c : ∀ (k9 ck : Nat) (ad : Lc → Nat) (L : List Lc), 6 - ck = k9 → ck ≤ 6 → (okC L N) → (okX L N) → (ad (10, 0) = oc) → ∀ (H : Heap) (locs : List Loc) (ls : Array Slot), va_P (dC, dI) vwCl (cw cy e0 ad L S N ++ yw ab cy Y t D a b) H → va_D A (cw cy e0 ad L S N ++ yw ab cy Y t D a b) → va_S A s.heap H locs → lv_has ls 14 [(0, .ref oc), (1, .int y), (2, .ref ((ab 0))), (3, .ref ((ab 1))), (4, .ref ((ab 3))), (5, .ref ((ab 4))), (6, .ref ((ab 5))), (7, .ref ((ab 6))), (8, .ref ((ab 7))), (9, .int (nI k)), (10, .int (nI (of2 S N k ck))), (11, .int (penB S N k 0 0 - penB S N k 1 0)), (12, .int (nI ck))] → W p l e ({ frames := 9, cells := 500, slots := 3000, locals := 158 }) s m (([.ref oc, .int y, .ref ((ab 0)), .ref ((ab 1)), .ref ((ab 3)), .ref ((ab 4)), .ref ((ab 5)), .ref ((ab 6)), .ref ((ab 7))] : List Value).toArray) below meth c H locs (6 + 24 * k + 2 * ck) (36 + 144 * k + 12 * ck) QQ (F0 m 52 ls []) := by
                intro k9
                induction k9 using Nat.strongRecOn with
                | _ k9 ih_c =>
                  intro ck ad L hk9 hle9 hI hX hoc H locs ls hP hD hS hl
                  refine lv_iload hx hb dL_isTold_52 (lv_at hl 12 rfl) ?_
                  refine lv_bipush (v := nI 6) hx hb dL_isTold_54 (by decide) ?_
                  refine n_ge (tgt := 129) hx hb dL_isTold_56 (by decide) (by omega) (by omega) (fun c_5 => ?_) (fun c_5 => ?_)
                  · obtain rfl : 6 = ck := by omega
                    refine lv_iconst (v := nI 0) hx hb dL_isTold_129 (by decide) ?_
                    refine lv_istore (lv' := [(12, .int (nI 0)), (0, .ref oc), (1, .int y), (2, .ref ((ab 0))), (3, .ref ((ab 1))), (4, .ref ((ab 3))), (5, .ref ((ab 4))), (6, .ref ((ab 5))), (7, .ref ((ab 6))), (8, .ref ((ab 7))), (9, .int (nI k)), (10, .int (nI (of2 S N k 6))), (11, .int (penB S N k 0 0 - penB S N k 1 0))]) hx hb dL_isTold_130 hl (by decide) rfl (fun ls hl => ?_)
                    have hl_x : ∀ (k9 x : Nat) (ad : Lc → Nat) (L : List Lc), b - x = k9 → x ≤ b → (okC L N) → (okX L N) → (ad (10, 0) = oc) → ∀ (H : Heap) (locs : List Loc) (ls : Array Slot), va_P (dC, dI) vwCl (cw cy e0 ad L S N ++ yw ab cy Y t D a b) H → va_D A (cw cy e0 ad L S N ++ yw ab cy Y t D a b) → va_S A s.heap H locs → lv_has ls 14 [(0, .ref oc), (1, .int y), (2, .ref ((ab 0))), (3, .ref ((ab 1))), (4, .ref ((ab 3))), (5, .ref ((ab 4))), (6, .ref ((ab 5))), (7, .ref ((ab 6))), (8, .ref ((ab 7))), (9, .int (nI k)), (10, .int (nI (of2 S N k 6))), (11, .int (penB S N k 0 x - penB S N k 1 x)), (12, .int (nI x))] → W p l e ({ frames := 9, cells := 500, slots := 3000, locals := 158 }) s m (([.ref oc, .int y, .ref ((ab 0)), .ref ((ab 1)), .ref ((ab 3)), .ref ((ab 4)), .ref ((ab 5)), .ref ((ab 6)), .ref ((ab 7))] : List Value).toArray) below meth c H locs (6 + 24 * k + 12) (36 + 144 * k + 72) QQ (F0 m 132 ls []) := by
                      intro k9
                      induction k9 using Nat.strongRecOn with
                      | _ k9 ih_x =>
                        intro x ad L hk9 hle9 hI hX hoc H locs ls hP hD hS hl
                        refine lv_iload hx hb dL_isTold_132 (lv_at hl 12 rfl) ?_
                        refine lv_aload hx hb dL_isTold_134 (lv_at hl 8 rfl) ?_
                        refine lv_iconst (v := nI 2) hx hb dL_isTold_136 (by decide) ?_
                        refine x_iald (f := gf D a b) hx hb hK hP (_ + 7) 0 (app_r rfl) rfl (t := 2) (by decide) (by decide) dL_isTold_137 ?_
                        refine to_i (y := nI b) rfl ?_
                        refine n_ge (tgt := 211) hx hb dL_isTold_138 (by decide) (by omega) (by omega) (fun c_6 => ?_) (fun c_6 => ?_)
                        · obtain rfl : b = x := by omega
                          refine lv_aload_n hx hb dL_isTold_211 rfl (lv_at hl 0 rfl) ?_
                          refine lv_iload hx hb dL_isTold_212 (lv_at hl 9 rfl) ?_
                          refine callY_i hP (vx_runSW (As := [.ref oc, .int (nI k)]) (rest := []) ⟨hx, hb, hml, hown, hts⟩ (qL_offered l dC dI cy e0 mi oc ad L S N H.size (nI k) hI hX hst hoc) (vx_cwSW 2 hts gL_isTold_L_offered rfl rfl rfl (by decide +kernel) ⟨Nat.le_of_ble_eq_true rfl, Nat.le_of_ble_eq_true rfl⟩) (preLS hK (w_leftP hP) (w_leftD hD) hS hA ham) rfl rfl hl.1 rfl (lv_room (Nat.le_of_ble_eq_true rfl)) dL_isTold_214 ⟨by show _ ≤ 500; omega, by show _ ≤ 3000; omega⟩) hD hS hA (fun rr uc H locs hw hP hD hS => ?_)
                          obtain ⟨rfl, ad, L, rfl, hI, hX, hoc⟩ := lres_n0 hw (if_pos (ct_in (by omega) (by omega)))
                          have hP : va_P (dC, dI) vwCl (cw cy e0 ad L S N ++ yw ab cy Y t D a b) H := hP
                          have hD : va_D A (cw cy e0 ad L S N ++ yw ab cy Y t D a b) := hD
                          refine to_i (y := nI (of2 S N k 6)) (by rw [ix_nI (show k < 2 ^ 31 by omega)]; exact of2_6 h6) ?_
                          refine lv_iload hx hb dL_isTold_217 (lv_at hl 10 rfl) ?_
                          refine lv_icmp_ne (tgt := 320) hx hb dL_isTold_219 (by decide) (fun h9 => absurd rfl h9) (fun _ => ?_)
                          refine lv_aload_n hx hb dL_isTold_222 rfl (lv_at hl 0 rfl) ?_
                          refine lv_iload hx hb dL_isTold_223 (lv_at hl 9 rfl) ?_
                          refine callY_i hP (vx_runSW (As := [.ref oc, .int (nI k)]) (rest := []) ⟨hx, hb, hml, hown, hts⟩ (qL_whyNot l dC dI cy e0 mi oc ad L S N H.size (nI k) hI hX hst hoc) (vx_cwSW 2 hts gL_isTold_L_whyNot rfl rfl rfl (by decide +kernel) ⟨Nat.le_of_ble_eq_true rfl, Nat.le_of_ble_eq_true rfl⟩) (preLS hK (w_leftP hP) (w_leftD hD) hS hA ham) rfl rfl hl.1 rfl (lv_room (Nat.le_of_ble_eq_true rfl)) dL_isTold_225 ⟨by show _ ≤ 500; omega, by show _ ≤ 3000; omega⟩) hD hS hA (fun rr uc H locs hw hP hD hS => ?_)
                          obtain ⟨rfl, ad, L, rfl, hI, hX, hoc⟩ := lres_n0 hw (if_pos (ct_in (by omega) (by omega)))
                          have hP : va_P (dC, dI) vwCl (cw cy e0 ad L S N ++ yw ab cy Y t D a b) H := hP
                          have hD : va_D A (cw cy e0 ad L S N ++ yw ab cy Y t D a b) := hD
                          refine to_i (y := nI (K_obst S N k)) (by rw [ix_nI (show k < 2 ^ 31 by omega)]) ?_
                          refine lv_aload_n hx hb dL_isTold_228 rfl (lv_at hl 3 rfl) ?_
                          refine lv_aload hx hb dL_isTold_229 (lv_at hl 4 rfl) ?_
                          refine lv_aload hx hb dL_isTold_231 (lv_at hl 5 rfl) ?_
                          refine lv_iload hx hb dL_isTold_233 (lv_at hl 9 rfl) ?_
                          refine call_i (va_runS (As := [.ref ((ab 1)), .ref ((ab 3)), .ref ((ab 4)), .int (nI k)]) (rest := [.int (nI (K_obst S N k))]) ⟨hx, hb, hml, hown, hts⟩ (qL_reason l dC dI cy (cw cy e0 ad L S N) ab S N Y t D a b H.size k hR hN (by omega)) (va_cwS 4 hts gL_isTold_L_reason rfl rfl rfl (by decide +kernel) ⟨Nat.le_of_ble_eq_true rfl, Nat.le_of_ble_eq_true rfl⟩) (preS hK hP hD) rfl rfl hl.1 rfl (lv_room (Nat.le_of_ble_eq_true rfl)) dL_isTold_235 ⟨by show _ ≤ 500; omega, by show _ ≤ 3000; omega⟩) hD hS hA (fun rr uu H locs hw hP hD hS => ?_)
                          obtain rfl := hw
                          have hP : va_P (dC, dI) vwCl (cw cy e0 ad L S N ++ yw ab cy Y t D a b) H := hP
                          have hD : va_D A (cw cy e0 ad L S N ++ yw ab cy Y t D a b) := hD
                          have hob := obst_le S N k
                          refine lv_icmp_ne (tgt := 320) hx hb dL_isTold_238 (by decide) (fun h9 => absurd rfl h9) (fun _ => ?_)
                          refine lv_aload_n hx hb dL_isTold_241 rfl (lv_at hl 0 rfl) ?_
                          refine lv_iload hx hb dL_isTold_242 (lv_at hl 9 rfl) ?_
                          refine lv_iconst (v := nI 0) hx hb dL_isTold_244 (by decide) ?_
                          refine callY_i hP (vx_runSW (As := [.ref oc, .int (nI k), .int (nI 0)]) (rest := []) ⟨hx, hb, hml, hown, hts⟩ (qL_owes l dC dI cy e0 mi oc ad L S N H.size (nI k) (nI 0) hI hX hst hoc) (vx_cwSW 3 hts gL_isTold_L_owes rfl rfl rfl (by decide +kernel) ⟨Nat.le_of_ble_eq_true rfl, Nat.le_of_ble_eq_true rfl⟩) (preLS hK (w_leftP hP) (w_leftD hD) hS hA ham) rfl rfl hl.1 rfl (lv_room (Nat.le_of_ble_eq_true rfl)) dL_isTold_245 ⟨by show _ ≤ 500; omega, by show _ ≤ 3000; omega⟩) hD hS hA (fun rr uc H locs hw hP hD hS => ?_)
                          obtain ⟨rfl, ad, L, rfl, hI, hX, hoc⟩ := lres_n0 hw ((if_pos (ct_in (by omega) (by omega))).trans (if_pos (by decide)))
                          have hP : va_P (dC, dI) vwCl (cw cy e0 ad L S N ++ yw ab cy Y t D a b) H := hP
                          have hD : va_D A (cw cy e0 ad L S N ++ yw ab cy Y t D a b) := hD
                          refine to_i (y := if nI 0 < (penB S N k 0 b - penB S N k 1 b) then (penB S N k 0 b - penB S N k 1 b) else nI 0) (by rw [ix_nI (show k < 2 ^ 31 by omega), ix_nI (show 0 < 2 ^ 31 by decide), (hR.2.2.2.2.2.1 k (by omega) 0 (by decide)).2, (hR.2.2.2.2.2.1 k (by omega) 1 (by decide)).2, ← hb5]) ?_
                          refine lv_iload hx hb dL_isTold_248 (lv_at hl 11 rfl) ?_
                          refine lv_if_le (tgt := 258) hx hb dL_isTold_250 (by decide) (fun c_7 => ?_) (fun c_7 => ?_)
                          · refine lv_iconst (v := nI 0) hx hb dL_isTold_258 (by decide) ?_
                            refine lv_icmp_ne (tgt := 320) hx hb dL_isTold_259 (by decide) (fun h9 => absurd (ow_neg c_7) h9) (fun _ => ?_)
                            refine lv_aload_n hx hb dL_isTold_262 rfl (lv_at hl 0 rfl) ?_
                            refine lv_iload hx hb dL_isTold_263 (lv_at hl 9 rfl) ?_
                            refine lv_iconst (v := nI 1) hx hb dL_isTold_265 (by decide) ?_
                            refine callY_i hP (vx_runSW (As := [.ref oc, .int (nI k), .int (nI 1)]) (rest := []) ⟨hx, hb, hml, hown, hts⟩ (qL_owes l dC dI cy e0 mi oc ad L S N H.size (nI k) (nI 1) hI hX hst hoc) (vx_cwSW 3 hts gL_isTold_L_owes rfl rfl rfl (by decide +kernel) ⟨Nat.le_of_ble_eq_true rfl, Nat.le_of_ble_eq_true rfl⟩) (preLS hK (w_leftP hP) (w_leftD hD) hS hA ham) rfl rfl hl.1 rfl (lv_room (Nat.le_of_ble_eq_true rfl)) dL_isTold_266 ⟨by show _ ≤ 500; omega, by show _ ≤ 3000; omega⟩) hD hS hA (fun rr uc H locs hw hP hD hS => ?_)
                            obtain ⟨rfl, ad, L, rfl, hI, hX, hoc⟩ := lres_n0 hw ((if_pos (ct_in (by omega) (by omega))).trans (if_pos (by decide)))
                            have hP : va_P (dC, dI) vwCl (cw cy e0 ad L S N ++ yw ab cy Y t D a b) H := hP
                            have hD : va_D A (cw cy e0 ad L S N ++ yw ab cy Y t D a b) := hD
                            refine to_i (y := if nI 0 < (penB S N k 1 b - penB S N k 0 b) then (penB S N k 1 b - penB S N k 0 b) else nI 0) (by rw [ix_nI (show k < 2 ^ 31 by omega), ix_nI (show 1 < 2 ^ 31 by decide), (hR.2.2.2.2.2.1 k (by omega) 1 (by decide)).2, (hR.2.2.2.2.2.1 k (by omega) 0 (by decide)).2, ← hb5]) ?_
                            refine lv_iload hx hb dL_isTold_269 (lv_at hl 11 rfl) ?_
                            refine lv_if_ge (tgt := 280) hx hb dL_isTold_271 (by decide) (fun c_8 => ?_) (fun c_8 => ?_)
                            · refine lv_iconst (v := nI 0) hx hb dL_isTold_280 (by decide) ?_
                              obtain ⟨pn, pn1, pn2⟩ := pen_N hR hN k 0 b (by omega)
                              obtain ⟨qn, qn1, qn2⟩ := pen_N hR hN k 1 b (by omega)
                              refine lv_icmp_ne (tgt := 320) hx hb dL_isTold_281 (by decide) (fun h9 => absurd (by have hc9 := c_8; rw [pn2, qn2] at hc9 ⊢; exact on_pos (by omega) (by omega) hc9) h9) (fun _ => ?_)
                              refine lv_aload_n hx hb dL_isTold_284 rfl (lv_at hl 0 rfl) ?_
                              refine lv_iload hx hb dL_isTold_285 (lv_at hl 9 rfl) ?_
                              refine lv_iconst (v := nI 2) hx hb dL_isTold_287 (by decide) ?_
                              refine callY_i hP (vx_runSW (As := [.ref oc, .int (nI k), .int (nI 2)]) (rest := []) ⟨hx, hb, hml, hown, hts⟩ (qL_owes l dC dI cy e0 mi oc ad L S N H.size (nI k) (nI 2) hI hX hst hoc) (vx_cwSW 3 hts gL_isTold_L_owes rfl rfl rfl (by decide +kernel) ⟨Nat.le_of_ble_eq_true rfl, Nat.le_of_ble_eq_true rfl⟩) (preLS hK (w_leftP hP) (w_leftD hD) hS hA ham) rfl rfl hl.1 rfl (lv_room (Nat.le_of_ble_eq_true rfl)) dL_isTold_288 ⟨by show _ ≤ 500; omega, by show _ ≤ 3000; omega⟩) hD hS hA (fun rr uc H locs hw hP hD hS => ?_)
                              obtain ⟨rfl, ad, L, rfl, hI, hX, hoc⟩ := lres_n2 hw ((if_pos (ct_in (by omega) (by omega))).trans (if_neg (fun q => absurd q (by decide))))
                              have hP : va_P (dC, dI) vwCl (cw cy e0 ad L S N ++ yw ab cy Y t D a b) H := hP
                              have hD : va_D A (cw cy e0 ad L S N ++ yw ab cy Y t D a b) := hD
                              refine lv_bipush (v := -72) hx hb dL_isTold_291 (by decide) ?_
                              refine lv_icmp_ne (tgt := 320) hx hb dL_isTold_293 (by decide) (fun h9 => absurd rfl h9) (fun _ => ?_)
                              refine lv_aload_n hx hb dL_isTold_296 rfl (lv_at hl 0 rfl) ?_
                              refine lv_iload hx hb dL_isTold_297 (lv_at hl 9 rfl) ?_
                              refine lv_bipush (v := nI 10) hx hb dL_isTold_299 (by decide) ?_
                              refine callY_i hP (vx_runSW (As := [.ref oc, .int (nI k), .int (nI 10)]) (rest := []) ⟨hx, hb, hml, hown, hts⟩ (qL_version l dC dI cy e0 mi oc ad L S N H.size (nI k) (nI 10) hI hX hst hoc) (vx_cwSW 3 hts gL_isTold_L_version rfl rfl rfl (by decide +kernel) ⟨Nat.le_of_ble_eq_true rfl, Nat.le_of_ble_eq_true rfl⟩) (preLS hK (w_leftP hP) (w_leftD hD) hS hA ham) rfl rfl hl.1 rfl (lv_room (Nat.le_of_ble_eq_true rfl)) dL_isTold_301 ⟨by show _ ≤ 500; omega, by show _ ≤ 3000; omega⟩) hD hS hA (fun rr uc H locs hw hP hD hS => ?_)
                              obtain ⟨rfl, ad, L, rfl, hI, hX, hoc⟩ := lres_n2 hw ((if_pos (ct_in (by omega) (by omega))).trans (if_neg (fun q => absurd q (by decide))))
                              have hP : va_P (dC, dI) vwCl (cw cy e0 ad L S N ++ yw ab cy Y t D a b) H := hP
                              have hD : va_D A (cw cy e0 ad L S N ++ yw ab cy Y t D a b) := hD
                              refine lv_bipush (v := -72) hx hb dL_isTold_304 (by decide) ?_
                              refine lv_icmp_ne (tgt := 320) hx hb dL_isTold_306 (by decide) (fun h9 => absurd rfl h9) (fun _ => ?_)
                              refine lv_aload_n hx hb dL_isTold_309 rfl (lv_at hl 0 rfl) ?_
                              refine lv_iload hx hb dL_isTold_310 (lv_at hl 9 rfl) ?_
                              refine lv_bipush (v := nI 7) hx hb dL_isTold_312 (by decide) ?_
                              refine callY_i hP (vx_runSW (As := [.ref oc, .int (nI k), .int (nI 7)]) (rest := []) ⟨hx, hb, hml, hown, hts⟩ (qL_version l dC dI cy e0 mi oc ad L S N H.size (nI k) (nI 7) hI hX hst hoc) (vx_cwSW 3 hts gL_isTold_L_version rfl rfl rfl (by decide +kernel) ⟨Nat.le_of_ble_eq_true rfl, Nat.le_of_ble_eq_true rfl⟩) (preLS hK (w_leftP hP) (w_leftD hD) hS hA ham) rfl rfl hl.1 rfl (lv_room (Nat.le_of_ble_eq_true rfl)) dL_isTold_314 ⟨by show _ ≤ 500; omega, by show _ ≤ 3000; omega⟩) hD hS hA (fun rr uc H locs hw hP hD hS => ?_)
                              obtain ⟨rfl, ad, L, rfl, hI, hX, hoc⟩ := lres_n0 hw ((if_pos (ct_in (by omega) (by omega))).trans (if_pos (by decide)))
                              have hP : va_P (dC, dI) vwCl (cw cy e0 ad L S N ++ yw ab cy Y t D a b) H := hP
                              have hD : va_D A (cw cy e0 ad L S N ++ yw ab cy Y t D a b) := hD
                              refine to_i (y := nI 0) (by rw [ix_nI (show k < 2 ^ 31 by omega), ix_nI (show 7 < 2 ^ 31 by decide), h6 7 (by decide) (by decide)]) ?_
                              refine lv_if_eq (tgt := 322) hx hb dL_isTold_317 (by decide) (fun _ => ?_) (fun h9 => absurd h9 (by decide))
                              refine lv_iinc (v := nI (k + 1)) (lv' := [(9, .int (nI (k + 1))), (0, .ref oc), (1, .int y), (2, .ref ((ab 0))), (3, .ref ((ab 1))), (4, .ref ((ab 3))), (5, .ref ((ab 4))), (6, .ref ((ab 5))), (7, .ref ((ab 6))), (8, .ref ((ab 7))), (10, .int (nI (of2 S N k 6))), (11, .int (penB S N k 0 b - penB S N k 1 b)), (12, .int (nI b))]) hx hb dL_isTold_322 hl (k := 9) rfl (by rw [show Int32.ofInt 1 = 1 from rfl]; exact nI_1 _) (by decide) rfl (fun ls hl => ?_)
                              refine lv_goto (tgt := 34) hx hb dL_isTold_325 (by decide) ?_
                              exact W.widen (k := 6 + 24 * (k + 1)) (n := 36 + 144 * (k + 1)) (by omega) (by omega) (ih_k (a - (k + 1)) (by omega) (k + 1) ad L rfl (by omega) hI hX hoc H locs ls hP hD hS (by exact lv_sub hl [1, 2, 3, 4, 5, 6, 7, 8, 9, 0] rfl))
                            · refine lv_iload hx hb dL_isTold_274 (lv_at hl 11 rfl) ?_
                              refine lv_ineg hx hb dL_isTold_276 ?_
                              refine lv_goto (tgt := 281) hx hb dL_isTold_277 (by decide) ?_
                              obtain ⟨pn, pn1, pn2⟩ := pen_N hR hN k 0 b (by omega)
                              obtain ⟨qn, qn1, qn2⟩ := pen_N hR hN k 1 b (by omega)
                              refine lv_icmp_ne (tgt := 320) hx hb dL_isTold_281 (by decide) (fun h9 => absurd (by have hc9 := c_8; rw [pn2, qn2] at hc9 ⊢; exact on_neg (by omega) (by omega) hc9) h9) (fun _ => ?_)
                              refine lv_aload_n hx hb dL_isTold_284 rfl (lv_at hl 0 rfl) ?_
                              refine lv_iload hx hb dL_isTold_285 (lv_at hl 9 rfl) ?_
                              refine lv_iconst (v := nI 2) hx hb dL_isTold_287 (by decide) ?_
                              refine callY_i hP (vx_runSW (As := [.ref oc, .int (nI k), .int (nI 2)]) (rest := []) ⟨hx, hb, hml, hown, hts⟩ (qL_owes l dC dI cy e0 mi oc ad L S N H.size (nI k) (nI 2) hI hX hst hoc) (vx_cwSW 3 hts gL_isTold_L_owes rfl rfl rfl (by decide +kernel) ⟨Nat.le_of_ble_eq_true rfl, Nat.le_of_ble_eq_true rfl⟩) (preLS hK (w_leftP hP) (w_leftD hD) hS hA ham) rfl rfl hl.1 rfl (lv_room (Nat.le_of_ble_eq_true rfl)) dL_isTold_288 ⟨by show _ ≤ 500; omega, by show _ ≤ 3000; omega⟩) hD hS hA (fun rr uc H locs hw hP hD hS => ?_)
                              obtain ⟨rfl, ad, L, rfl, hI, hX, hoc⟩ := lres_n2 hw ((if_pos (ct_in (by omega) (by omega))).trans (if_neg (fun q => absurd q (by decide))))
                              have hP : va_P (dC, dI) vwCl (cw cy e0 ad L S N ++ yw ab cy Y t D a b) H := hP
                              have hD : va_D A (cw cy e0 ad L S N ++ yw ab cy Y t D a b) := hD
                              refine lv_bipush (v := -72) hx hb dL_isTold_291 (by decide) ?_
                              refine lv_icmp_ne (tgt := 320) hx hb dL_isTold_293 (by decide) (fun h9 => absurd rfl h9) (fun _ => ?_)
                              refine lv_aload_n hx hb dL_isTold_296 rfl (lv_at hl 0 rfl) ?_
                              refine lv_iload hx hb dL_isTold_297 (lv_at hl 9 rfl) ?_
                              refine lv_bipush (v := nI 10) hx hb dL_isTold_299 (by decide) ?_
                              refine callY_i hP (vx_runSW (As := [.ref oc, .int (nI k), .int (nI 10)]) (rest := []) ⟨hx, hb, hml, hown, hts⟩ (qL_version l dC dI cy e0 mi oc ad L S N H.size (nI k) (nI 10) hI hX hst hoc) (vx_cwSW 3 hts gL_isTold_L_version rfl rfl rfl (by decide +kernel) ⟨Nat.le_of_ble_eq_true rfl, Nat.le_of_ble_eq_true rfl⟩) (preLS hK (w_leftP hP) (w_leftD hD) hS hA ham) rfl rfl hl.1 rfl (lv_room (Nat.le_of_ble_eq_true rfl)) dL_isTold_301 ⟨by show _ ≤ 500; omega, by show _ ≤ 3000; omega⟩) hD hS hA (fun rr uc H locs hw hP hD hS => ?_)
                              obtain ⟨rfl, ad, L, rfl, hI, hX, hoc⟩ := lres_n2 hw ((if_pos (ct_in (by omega) (by omega))).trans (if_neg (fun q => absurd q (by decide))))
                              have hP : va_P (dC, dI) vwCl (cw cy e0 ad L S N ++ yw ab cy Y t D a b) H := hP
                              have hD : va_D A (cw cy e0 ad L S N ++ yw ab cy Y t D a b) := hD
                              refine lv_bipush (v := -72) hx hb dL_isTold_304 (by decide) ?_
                              refine lv_icmp_ne (tgt := 320) hx hb dL_isTold_306 (by decide) (fun h9 => absurd rfl h9) (fun _ => ?_)
                              refine lv_aload_n hx hb dL_isTold_309 rfl (lv_at hl 0 rfl) ?_
                              refine lv_iload hx hb dL_isTold_310 (lv_at hl 9 rfl) ?_
                              refine lv_bipush (v := nI 7) hx hb dL_isTold_312 (by decide) ?_
                              refine callY_i hP (vx_runSW (As := [.ref oc, .int (nI k), .int (nI 7)]) (rest := []) ⟨hx, hb, hml, hown, hts⟩ (qL_version l dC dI cy e0 mi oc ad L S N H.size (nI k) (nI 7) hI hX hst hoc) (vx_cwSW 3 hts gL_isTold_L_version rfl rfl rfl (by decide +kernel) ⟨Nat.le_of_ble_eq_true rfl, Nat.le_of_ble_eq_true rfl⟩) (preLS hK (w_leftP hP) (w_leftD hD) hS hA ham) rfl rfl hl.1 rfl (lv_room (Nat.le_of_ble_eq_true rfl)) dL_isTold_314 ⟨by show _ ≤ 500; omega, by show _ ≤ 3000; omega⟩) hD hS hA (fun rr uc H locs hw hP hD hS => ?_)
                              obtain ⟨rfl, ad, L, rfl, hI, hX, hoc⟩ := lres_n0 hw ((if_pos (ct_in (by omega) (by omega))).trans (if_pos (by decide)))
                              have hP : va_P (dC, dI) vwCl (cw cy e0 ad L S N ++ yw ab cy Y t D a b) H := hP
                              have hD : va_D A (cw cy e0 ad L S N ++ yw ab cy Y t D a b) := hD
                              refine to_i (y := nI 0) (by rw [ix_nI (show k < 2 ^ 31 by omega), ix_nI (show 7 < 2 ^ 31 by decide), h6 7 (by decide) (by decide)]) ?_
                              refine lv_if_eq (tgt := 322) hx hb dL_isTold_317 (by decide) (fun _ => ?_) (fun h9 => absurd h9 (by decide))
                              refine lv_iinc (v := nI (k + 1)) (lv' := [(9, .int (nI (k + 1))), (0, .ref oc), (1, .int y), (2, .ref ((ab 0))), (3, .ref ((ab 1))), (4, .ref ((ab 3))), (5, .ref ((ab 4))), (6, .ref ((ab 5))), (7, .ref ((ab 6))), (8, .ref ((ab 7))), (10, .int (nI (of2 S N k 6))), (11, .int (penB S N k 0 b - penB S N k 1 b)), (12, .int (nI b))]) hx hb dL_isTold_322 hl (k := 9) rfl (by rw [show Int32.ofInt 1 = 1 from rfl]; exact nI_1 _) (by decide) rfl (fun ls hl => ?_)
                              refine lv_goto (tgt := 34) hx hb dL_isTold_325 (by decide) ?_
                              exact W.widen (k := 6 + 24 * (k + 1)) (n := 36 + 144 * (k + 1)) (by omega) (by omega) (ih_k (a - (k + 1)) (by omega) (k + 1) ad L rfl (by omega) hI hX hoc H locs ls hP hD hS (by exact lv_sub hl [1, 2, 3, 4, 5, 6, 7, 8, 9, 0] rfl))
                          · refine lv_iload hx hb dL_isTold_253 (lv_at hl 11 rfl) ?_
                            refine lv_goto (tgt := 259) hx hb dL_isTold_255 (by decide) ?_
                            refine lv_icmp_ne (tgt := 320) hx hb dL_isTold_259 (by decide) (fun h9 => absurd (ow_pos c_7) h9) (fun _ => ?_)
                            refine lv_aload_n hx hb dL_isTold_262 rfl (lv_at hl 0 rfl) ?_
                            refine lv_iload hx hb dL_isTold_263 (lv_at hl 9 rfl) ?_
                            refine lv_iconst (v := nI 1) hx hb dL_isTold_265 (by decide) ?_
                            refine callY_i hP (vx_runSW (As := [.ref oc, .int (nI k), .int (nI 1)]) (rest := []) ⟨hx, hb, hml, hown, hts⟩ (qL_owes l dC dI cy e0 mi oc ad L S N H.size (nI k) (nI 1) hI hX hst hoc) (vx_cwSW 3 hts gL_isTold_L_owes rfl rfl rfl (by decide +kernel) ⟨Nat.le_of_ble_eq_true rfl, Nat.le_of_ble_eq_true rfl⟩) (preLS hK (w_leftP hP) (w_leftD hD) hS hA ham) rfl rfl hl.1 rfl (lv_room (Nat.le_of_ble_eq_true rfl)) dL_isTold_266 ⟨by show _ ≤ 500; omega, by show _ ≤ 3000; omega⟩) hD hS hA (fun rr uc H locs hw hP hD hS => ?_)
                            obtain ⟨rfl, ad, L, rfl, hI, hX, hoc⟩ := lres_n0 hw ((if_pos (ct_in (by omega) (by omega))).trans (if_pos (by decide)))
                            have hP : va_P (dC, dI) vwCl (cw cy e0 ad L S N ++ yw ab cy Y t D a b) H := hP
                            have hD : va_D A (cw cy e0 ad L S N ++ yw ab cy Y t D a b) := hD
                            refine to_i (y := if nI 0 < (penB S N k 1 b - penB S N k 0 b) then (penB S N k 1 b - penB S N k 0 b) else nI 0) (by rw [ix_nI (show k < 2 ^ 31 by omega), ix_nI (show 1 < 2 ^ 31 by decide), (hR.2.2.2.2.2.1 k (by omega) 1 (by decide)).2, (hR.2.2.2.2.2.1 k (by omega) 0 (by decide)).2, ← hb5]) ?_
                            refine lv_iload hx hb dL_isTold_269 (lv_at hl 11 rfl) ?_
                            refine lv_if_ge (tgt := 280) hx hb dL_isTold_271 (by decide) (fun c_11 => ?_) (fun c_11 => ?_)
                            · refine lv_iconst (v := nI 0) hx hb dL_isTold_280 (by decide) ?_
                              obtain ⟨pn, pn1, pn2⟩ := pen_N hR hN k 0 b (by omega)
                              obtain ⟨qn, qn1, qn2⟩ := pen_N hR hN k 1 b (by omega)
                              refine lv_icmp_ne (tgt := 320) hx hb dL_isTold_281 (by decide) (fun h9 => absurd (by have hc9 := c_11; rw [pn2, qn2] at hc9 ⊢; exact on_pos (by omega) (by omega) hc9) h9) (fun _ => ?_)
                              refine lv_aload_n hx hb dL_isTold_284 rfl (lv_at hl 0 rfl) ?_
                              refine lv_iload hx hb dL_isTold_285 (lv_at hl 9 rfl) ?_
                              refine lv_iconst (v := nI 2) hx hb dL_isTold_287 (by decide) ?_
                              refine callY_i hP (vx_runSW (As := [.ref oc, .int (nI k), .int (nI 2)]) (rest := []) ⟨hx, hb, hml, hown, hts⟩ (qL_owes l dC dI cy e0 mi oc ad L S N H.size (nI k) (nI 2) hI hX hst hoc) (vx_cwSW 3 hts gL_isTold_L_owes rfl rfl rfl (by decide +kernel) ⟨Nat.le_of_ble_eq_true rfl, Nat.le_of_ble_eq_true rfl⟩) (preLS hK (w_leftP hP) (w_leftD hD) hS hA ham) rfl rfl hl.1 rfl (lv_room (Nat.le_of_ble_eq_true rfl)) dL_isTold_288 ⟨by show _ ≤ 500; omega, by show _ ≤ 3000; omega⟩) hD hS hA (fun rr uc H locs hw hP hD hS => ?_)
                              obtain ⟨rfl, ad, L, rfl, hI, hX, hoc⟩ := lres_n2 hw ((if_pos (ct_in (by omega) (by omega))).trans (if_neg (fun q => absurd q (by decide))))
                              have hP : va_P (dC, dI) vwCl (cw cy e0 ad L S N ++ yw ab cy Y t D a b) H := hP
                              have hD : va_D A (cw cy e0 ad L S N ++ yw ab cy Y t D a b) := hD
                              refine lv_bipush (v := -72) hx hb dL_isTold_291 (by decide) ?_
                              refine lv_icmp_ne (tgt := 320) hx hb dL_isTold_293 (by decide) (fun h9 => absurd rfl h9) (fun _ => ?_)
                              refine lv_aload_n hx hb dL_isTold_296 rfl (lv_at hl 0 rfl) ?_
                              refine lv_iload hx hb dL_isTold_297 (lv_at hl 9 rfl) ?_
                              refine lv_bipush (v := nI 10) hx hb dL_isTold_299 (by decide) ?_
                              refine callY_i hP (vx_runSW (As := [.ref oc, .int (nI k), .int (nI 10)]) (rest := []) ⟨hx, hb, hml, hown, hts⟩ (qL_version l dC dI cy e0 mi oc ad L S N H.size (nI k) (nI 10) hI hX hst hoc) (vx_cwSW 3 hts gL_isTold_L_version rfl rfl rfl (by decide +kernel) ⟨Nat.le_of_ble_eq_true rfl, Nat.le_of_ble_eq_true rfl⟩) (preLS hK (w_leftP hP) (w_leftD hD) hS hA ham) rfl rfl hl.1 rfl (lv_room (Nat.le_of_ble_eq_true rfl)) dL_isTold_301 ⟨by show _ ≤ 500; omega, by show _ ≤ 3000; omega⟩) hD hS hA (fun rr uc H locs hw hP hD hS => ?_)
                              obtain ⟨rfl, ad, L, rfl, hI, hX, hoc⟩ := lres_n2 hw ((if_pos (ct_in (by omega) (by omega))).trans (if_neg (fun q => absurd q (by decide))))
                              have hP : va_P (dC, dI) vwCl (cw cy e0 ad L S N ++ yw ab cy Y t D a b) H := hP
                              have hD : va_D A (cw cy e0 ad L S N ++ yw ab cy Y t D a b) := hD
                              refine lv_bipush (v := -72) hx hb dL_isTold_304 (by decide) ?_
                              refine lv_icmp_ne (tgt := 320) hx hb dL_isTold_306 (by decide) (fun h9 => absurd rfl h9) (fun _ => ?_)
                              refine lv_aload_n hx hb dL_isTold_309 rfl (lv_at hl 0 rfl) ?_
                              refine lv_iload hx hb dL_isTold_310 (lv_at hl 9 rfl) ?_
                              refine lv_bipush (v := nI 7) hx hb dL_isTold_312 (by decide) ?_
                              refine callY_i hP (vx_runSW (As := [.ref oc, .int (nI k), .int (nI 7)]) (rest := []) ⟨hx, hb, hml, hown, hts⟩ (qL_version l dC dI cy e0 mi oc ad L S N H.size (nI k) (nI 7) hI hX hst hoc) (vx_cwSW 3 hts gL_isTold_L_version rfl rfl rfl (by decide +kernel) ⟨Nat.le_of_ble_eq_true rfl, Nat.le_of_ble_eq_true rfl⟩) (preLS hK (w_leftP hP) (w_leftD hD) hS hA ham) rfl rfl hl.1 rfl (lv_room (Nat.le_of_ble_eq_true rfl)) dL_isTold_314 ⟨by show _ ≤ 500; omega, by show _ ≤ 3000; omega⟩) hD hS hA (fun rr uc H locs hw hP hD hS => ?_)
                              obtain ⟨rfl, ad, L, rfl, hI, hX, hoc⟩ := lres_n0 hw ((if_pos (ct_in (by omega) (by omega))).trans (if_pos (by decide)))
                              have hP : va_P (dC, dI) vwCl (cw cy e0 ad L S N ++ yw ab cy Y t D a b) H := hP
                              have hD : va_D A (cw cy e0 ad L S N ++ yw ab cy Y t D a b) := hD
                              refine to_i (y := nI 0) (by rw [ix_nI (show k < 2 ^ 31 by omega), ix_nI (show 7 < 2 ^ 31 by decide), h6 7 (by decide) (by decide)]) ?_
                              refine lv_if_eq (tgt := 322) hx hb dL_isTold_317 (by decide) (fun _ => ?_) (fun h9 => absurd h9 (by decide))
                              refine lv_iinc (v := nI (k + 1)) (lv' := [(9, .int (nI (k + 1))), (0, .ref oc), (1, .int y), (2, .ref ((ab 0))), (3, .ref ((ab 1))), (4, .ref ((ab 3))), (5, .ref ((ab 4))), (6, .ref ((ab 5))), (7, .ref ((ab 6))), (8, .ref ((ab 7))), (10, .int (nI (of2 S N k 6))), (11, .int (penB S N k 0 b - penB S N k 1 b)), (12, .int (nI b))]) hx hb dL_isTold_322 hl (k := 9) rfl (by rw [show Int32.ofInt 1 = 1 from rfl]; exact nI_1 _) (by decide) rfl (fun ls hl => ?_)
                              refine lv_goto (tgt := 34) hx hb dL_isTold_325 (by decide) ?_
                              exact W.widen (k := 6 + 24 * (k + 1)) (n := 36 + 144 * (k + 1)) (by omega) (by omega) (ih_k (a - (k + 1)) (by omega) (k + 1) ad L rfl (by omega) hI hX hoc H locs ls hP hD hS (by exact lv_sub hl [1, 2, 3, 4, 5, 6, 7, 8, 9, 0] rfl))
                            · refine lv_iload hx hb dL_isTold_274 (lv_at hl 11 rfl) ?_
                              refine lv_ineg hx hb dL_isTold_276 ?_
                              refine lv_goto (tgt := 281) hx hb dL_isTold_277 (by decide) ?_
                              obtain ⟨pn, pn1, pn2⟩ := pen_N hR hN k 0 b (by omega)
                              obtain ⟨qn, qn1, qn2⟩ := pen_N hR hN k 1 b (by omega)
                              refine lv_icmp_ne (tgt := 320) hx hb dL_isTold_281 (by decide) (fun h9 => absurd (by have hc9 := c_11; rw [pn2, qn2] at hc9 ⊢; exact on_neg (by omega) (by omega) hc9) h9) (fun _ => ?_)
                              refine lv_aload_n hx hb dL_isTold_284 rfl (lv_at hl 0 rfl) ?_
                              refine lv_iload hx hb dL_isTold_285 (lv_at hl 9 rfl) ?_
                              refine lv_iconst (v := nI 2) hx hb dL_isTold_287 (by decide) ?_
                              refine callY_i hP (vx_runSW (As := [.ref oc, .int (nI k), .int (nI 2)]) (rest := []) ⟨hx, hb, hml, hown, hts⟩ (qL_owes l dC dI cy e0 mi oc ad L S N H.size (nI k) (nI 2) hI hX hst hoc) (vx_cwSW 3 hts gL_isTold_L_owes rfl rfl rfl (by decide +kernel) ⟨Nat.le_of_ble_eq_true rfl, Nat.le_of_ble_eq_true rfl⟩) (preLS hK (w_leftP hP) (w_leftD hD) hS hA ham) rfl rfl hl.1 rfl (lv_room (Nat.le_of_ble_eq_true rfl)) dL_isTold_288 ⟨by show _ ≤ 500; omega, by show _ ≤ 3000; omega⟩) hD hS hA (fun rr uc H locs hw hP hD hS => ?_)
                              obtain ⟨rfl, ad, L, rfl, hI, hX, hoc⟩ := lres_n2 hw ((if_pos (ct_in (by omega) (by omega))).trans (if_neg (fun q => absurd q (by decide))))
                              have hP : va_P (dC, dI) vwCl (cw cy e0 ad L S N ++ yw ab cy Y t D a b) H := hP
                              have hD : va_D A (cw cy e0 ad L S N ++ yw ab cy Y t D a b) := hD
                              refine lv_bipush (v := -72) hx hb dL_isTold_291 (by decide) ?_
                              refine lv_icmp_ne (tgt := 320) hx hb dL_isTold_293 (by decide) (fun h9 => absurd rfl h9) (fun _ => ?_)
                              refine lv_aload_n hx hb dL_isTold_296 rfl (lv_at hl 0 rfl) ?_
                              refine lv_iload hx hb dL_isTold_297 (lv_at hl 9 rfl) ?_
                              refine lv_bipush (v := nI 10) hx hb dL_isTold_299 (by decide) ?_
                              refine callY_i hP (vx_runSW (As := [.ref oc, .int (nI k), .int (nI 10)]) (rest := []) ⟨hx, hb, hml, hown, hts⟩ (qL_version l dC dI cy e0 mi oc ad L S N H.size (nI k) (nI 10) hI hX hst hoc) (vx_cwSW 3 hts gL_isTold_L_version rfl rfl rfl (by decide +kernel) ⟨Nat.le_of_ble_eq_true rfl, Nat.le_of_ble_eq_true rfl⟩) (preLS hK (w_leftP hP) (w_leftD hD) hS hA ham) rfl rfl hl.1 rfl (lv_room (Nat.le_of_ble_eq_true rfl)) dL_isTold_301 ⟨by show _ ≤ 500; omega, by show _ ≤ 3000; omega⟩) hD hS hA (fun rr uc H locs hw hP hD hS => ?_)
                              obtain ⟨rfl, ad, L, rfl, hI, hX, hoc⟩ := lres_n2 hw ((if_pos (ct_in (by omega) (by omega))).trans (if_neg (fun q => absurd q (by decide))))
                              have hP : va_P (dC, dI) vwCl (cw cy e0 ad L S N ++ yw ab cy Y t D a b) H := hP
                              have hD : va_D A (cw cy e0 ad L S N ++ yw ab cy Y t D a b) := hD
                              refine lv_bipush (v := -72) hx hb dL_isTold_304 (by decide) ?_
                              refine lv_icmp_ne (tgt := 320) hx hb dL_isTold_306 (by decide) (fun h9 => absurd rfl h9) (fun _ => ?_)
                              refine lv_aload_n hx hb dL_isTold_309 rfl (lv_at hl 0 rfl) ?_
                              refine lv_iload hx hb dL_isTold_310 (lv_at hl 9 rfl) ?_
                              refine lv_bipush (v := nI 7) hx hb dL_isTold_312 (by decide) ?_
                              refine callY_i hP (vx_runSW (As := [.ref oc, .int (nI k), .int (nI 7)]) (rest := []) ⟨hx, hb, hml, hown, hts⟩ (qL_version l dC dI cy e0 mi oc ad L S N H.size (nI k) (nI 7) hI hX hst hoc) (vx_cwSW 3 hts gL_isTold_L_version rfl rfl rfl (by decide +kernel) ⟨Nat.le_of_ble_eq_true rfl, Nat.le_of_ble_eq_true rfl⟩) (preLS hK (w_leftP hP) (w_leftD hD) hS hA ham) rfl rfl hl.1 rfl (lv_room (Nat.le_of_ble_eq_true rfl)) dL_isTold_314 ⟨by show _ ≤ 500; omega, by show _ ≤ 3000; omega⟩) hD hS hA (fun rr uc H locs hw hP hD hS => ?_)
                              obtain ⟨rfl, ad, L, rfl, hI, hX, hoc⟩ := lres_n0 hw ((if_pos (ct_in (by omega) (by omega))).trans (if_pos (by decide)))
                              have hP : va_P (dC, dI) vwCl (cw cy e0 ad L S N ++ yw ab cy Y t D a b) H := hP
                              have hD : va_D A (cw cy e0 ad L S N ++ yw ab cy Y t D a b) := hD
                              refine to_i (y := nI 0) (by rw [ix_nI (show k < 2 ^ 31 by omega), ix_nI (show 7 < 2 ^ 31 by decide), h6 7 (by decide) (by decide)]) ?_
                              refine lv_if_eq (tgt := 322) hx hb dL_isTold_317 (by decide) (fun _ => ?_) (fun h9 => absurd h9 (by decide))
                              refine lv_iinc (v := nI (k + 1)) (lv' := [(9, .int (nI (k + 1))), (0, .ref oc), (1, .int y), (2, .ref ((ab 0))), (3, .ref ((ab 1))), (4, .ref ((ab 3))), (5, .ref ((ab 4))), (6, .ref ((ab 5))), (7, .ref ((ab 6))), (8, .ref ((ab 7))), (10, .int (nI (of2 S N k 6))), (11, .int (penB S N k 0 b - penB S N k 1 b)), (12, .int (nI b))]) hx hb dL_isTold_322 hl (k := 9) rfl (by rw [show Int32.ofInt 1 = 1 from rfl]; exact nI_1 _) (by decide) rfl (fun ls hl => ?_)
                              refine lv_goto (tgt := 34) hx hb dL_isTold_325 (by decide) ?_
                              exact W.widen (k := 6 + 24 * (k + 1)) (n := 36 + 144 * (k + 1)) (by omega) (by omega) (ih_k (a - (k + 1)) (by omega) (k + 1) ad L rfl (by omega) hI hX hoc H locs ls hP hD hS (by exact lv_sub hl [1, 2, 3, 4, 5, 6, 7, 8, 9, 0] rfl))
                        · obtain ⟨st, x2, x3, k1, k2, k3, k4, k5, k6, k7, k8, k9, k10⟩ := rz_d hR hN (j := x) (by omega)
                          refine lv_aload hx hb dL_isTold_141 (lv_at hl 6 rfl) ?_
                          refine lv_iload hx hb dL_isTold_143 (lv_at hl 12 rfl) ?_
                          refine x_iald (f := fun j => nI (Y 5 j)) hx hb hK hP (_ + 5) 0 (app_r rfl) rfl (t := x) (by omega) (by decide) dL_isTold_145 ?_
                          refine to_i (y := nI (Y 5 x)) rfl ?_
                          refine lv_bipush (v := nI 15) hx hb dL_isTold_146 (by decide) ?_
                          refine lv_iand hx hb dL_isTold_148 ?_
                          refine to_i (y := nI ((Y 5 x) % 16)) (pk_andN (by have := hYb 5 x; omega) 4 (by decide)) ?_
                          refine to_i (y := nI (N 3 x 0)) (congrArg nI (by omega)) ?_
                          refine lv_iload hx hb dL_isTold_149 (lv_at hl 9 rfl) ?_
                          refine n_ne (tgt := 205) hx hb dL_isTold_151 (by decide) (by omega) (by omega) (fun c_14 => ?_) (fun c_14 => ?_)
                          · refine lv_iinc (v := nI (x + 1)) (lv' := [(12, .int (nI (x + 1))), (0, .ref oc), (1, .int y), (2, .ref ((ab 0))), (3, .ref ((ab 1))), (4, .ref ((ab 3))), (5, .ref ((ab 4))), (6, .ref ((ab 5))), (7, .ref ((ab 6))), (8, .ref ((ab 7))), (9, .int (nI k)), (10, .int (nI (of2 S N k 6))), (11, .int (penB S N k 0 x - penB S N k 1 x))]) hx hb dL_isTold_205 hl (k := 12) rfl (by rw [show Int32.ofInt 1 = 1 from rfl]; exact nI_1 _) (by decide) rfl (fun ls hl => ?_)
                            refine lv_goto (tgt := 132) hx hb dL_isTold_208 (by decide) ?_
                            have e9 : penB S N k 0 (x + 1) - penB S N k 1 (x + 1) = penB S N k 0 x - penB S N k 1 x := pn_no (fun q => by have q2 := (nI_inj (by omega) (by decide)).mp (k4.symm.trans q.2); omega)
                            exact W.widen (k := 6 + 24 * k + 12) (n := 36 + 144 * k + 72) (by omega) (by omega) (ih_x (b - (x + 1)) (by omega) (x + 1) ad L rfl (by omega) hI hX hoc H locs ls hP hD hS (by rw [e9]; exact lv_sub hl [1, 2, 3, 4, 5, 6, 7, 8, 9, 10, 11, 12, 0] rfl))
                          · refine lv_aload hx hb dL_isTold_154 (lv_at hl 6 rfl) ?_
                            refine lv_iload hx hb dL_isTold_156 (lv_at hl 12 rfl) ?_
                            refine x_iald (f := fun j => nI (Y 5 j)) hx hb hK hP (_ + 5) 0 (app_r rfl) rfl (t := x) (by omega) (by decide) dL_isTold_158 ?_
                            refine to_i (y := nI (Y 5 x)) rfl ?_
                            refine lv_iconst (v := nI 5) hx hb dL_isTold_159 (by decide) ?_
                            refine lv_ishr hx hb dL_isTold_160 ?_
                            refine to_i (y := nI ((Y 5 x) / 32)) (pk_shrN (by have := hYb 5 x; omega) _ 5 (by decide)) ?_
                            refine lv_bipush (v := nI 7) hx hb dL_isTold_161 (by decide) ?_
                            refine lv_iand hx hb dL_isTold_163 ?_
                            refine to_i (y := nI (((Y 5 x) / 32) % 8)) (pk_andN (by have := hYb 5 x; omega) 3 (by decide)) ?_
                            refine to_i (y := nI st) (congrArg nI (by omega)) ?_
                            refine lv_iconst (v := nI 3) hx hb dL_isTold_164 (by decide) ?_
                            refine n_ne (tgt := 205) hx hb dL_isTold_165 (by decide) (by omega) (by omega) (fun c_15 => ?_) (fun c_15 => ?_)
                            · refine lv_iinc (v := nI (x + 1)) (lv' := [(12, .int (nI (x + 1))), (0, .ref oc), (1, .int y), (2, .ref ((ab 0))), (3, .ref ((ab 1))), (4, .ref ((ab 3))), (5, .ref ((ab 4))), (6, .ref ((ab 5))), (7, .ref ((ab 6))), (8, .ref ((ab 7))), (9, .int (nI k)), (10, .int (nI (of2 S N k 6))), (11, .int (penB S N k 0 x - penB S N k 1 x))]) hx hb dL_isTold_205 hl (k := 12) rfl (by rw [show Int32.ofInt 1 = 1 from rfl]; exact nI_1 _) (by decide) rfl (fun ls hl => ?_)
                              refine lv_goto (tgt := 132) hx hb dL_isTold_208 (by decide) ?_
                              have e9 : penB S N k 0 (x + 1) - penB S N k 1 (x + 1) = penB S N k 0 x - penB S N k 1 x := pn_no (fun q => by have q2 := (nI_inj (by omega) (by decide)).mp (k4.symm.trans q.2); omega)
                              exact W.widen (k := 6 + 24 * k + 12) (n := 36 + 144 * k + 72) (by omega) (by omega) (ih_x (b - (x + 1)) (by omega) (x + 1) ad L rfl (by omega) hI hX hoc H locs ls hP hD hS (by rw [e9]; exact lv_sub hl [1, 2, 3, 4, 5, 6, 7, 8, 9, 10, 11, 12, 0] rfl))
                            · refine lv_iload hx hb dL_isTold_168 (lv_at hl 11 rfl) ?_
                              refine lv_aload hx hb dL_isTold_170 (lv_at hl 6 rfl) ?_
                              refine lv_iload hx hb dL_isTold_172 (lv_at hl 12 rfl) ?_
                              refine x_iald (f := fun j => nI (Y 5 j)) hx hb hK hP (_ + 5) 0 (app_r rfl) rfl (t := x) (by omega) (by decide) dL_isTold_174 ?_
                              refine to_i (y := nI (Y 5 x)) rfl ?_
                              refine lv_iconst (v := nI 4) hx hb dL_isTold_175 (by decide) ?_
                              refine lv_ishr hx hb dL_isTold_176 ?_
                              refine to_i (y := nI ((Y 5 x) / 16)) (pk_shrN (by have := hYb 5 x; omega) _ 4 (by decide)) ?_
                              refine lv_iconst (v := nI 1) hx hb dL_isTold_177 (by decide) ?_
                              refine lv_iand hx hb dL_isTold_178 ?_
                              refine to_i (y := nI (((Y 5 x) / 16) % 2)) (pk_andN (by have := hYb 5 x; omega) 1 (by decide)) ?_
                              refine to_i (y := nI (N 4 (N 3 x 1) 0)) (congrArg nI (by omega)) ?_
                              refine n_if_ne (tgt := 193) hx hb dL_isTold_179 (by decide) (by omega) (fun c_16 => ?_) (fun c_16 => ?_)
                              · refine lv_aload hx hb dL_isTold_193 (lv_at hl 6 rfl) ?_
                                refine lv_iload hx hb dL_isTold_195 (lv_at hl 12 rfl) ?_
                                refine x_iald (f := fun j => nI (Y 5 j)) hx hb hK hP (_ + 5) 0 (app_r rfl) rfl (t := x) (by omega) (by decide) dL_isTold_197 ?_
                                refine to_i (y := nI (Y 5 x)) rfl ?_
                                refine lv_bipush (v := nI 14) hx hb dL_isTold_198 (by decide) ?_
                                refine lv_ishr hx hb dL_isTold_200 ?_
                                refine to_i (y := nI ((Y 5 x) / 16384)) (pk_shrN (by have := hYb 5 x; omega) _ 14 (by decide)) ?_
                                refine to_i (y := nI x3) (congrArg nI (by omega)) ?_
                                refine lv_ineg hx hb dL_isTold_201 ?_
                                refine lv_iadd hx hb dL_isTold_202 ?_
                                refine lv_istore (lv' := [(11, .int ((penB S N k 0 x - penB S N k 1 x) + (-(nI x3)))), (0, .ref oc), (1, .int y), (2, .ref ((ab 0))), (3, .ref ((ab 1))), (4, .ref ((ab 3))), (5, .ref ((ab 4))), (6, .ref ((ab 5))), (7, .ref ((ab 6))), (8, .ref ((ab 7))), (9, .int (nI k)), (10, .int (nI (of2 S N k 6))), (12, .int (nI x))]) hx hb dL_isTold_203 hl (by decide) rfl (fun ls hl => ?_)
                                refine lv_iinc (v := nI (x + 1)) (lv' := [(12, .int (nI (x + 1))), (11, .int ((penB S N k 0 x - penB S N k 1 x) + (-(nI x3)))), (0, .ref oc), (1, .int y), (2, .ref ((ab 0))), (3, .ref ((ab 1))), (4, .ref ((ab 3))), (5, .ref ((ab 4))), (6, .ref ((ab 5))), (7, .ref ((ab 6))), (8, .ref ((ab 7))), (9, .int (nI k)), (10, .int (nI (of2 S N k 6)))]) hx hb dL_isTold_205 hl (k := 12) rfl (by rw [show Int32.ofInt 1 = 1 from rfl]; exact nI_1 _) (by decide) rfl (fun ls hl => ?_)
                                refine lv_goto (tgt := 132) hx hb dL_isTold_208 (by decide) ?_
                                have e9 : penB S N k 0 (x + 1) - penB S N k 1 (x + 1) = penB S N k 0 x - penB S N k 1 x + -nI x3 := pn_1 (by omega) (by omega) (k4.trans (congrArg nI (by omega))) k6
                                exact W.widen (k := 6 + 24 * k + 12) (n := 36 + 144 * k + 72) (by omega) (by omega) (ih_x (b - (x + 1)) (by omega) (x + 1) ad L rfl (by omega) hI hX hoc H locs ls hP hD hS (by rw [e9]; exact lv_sub hl [2, 3, 4, 5, 6, 7, 8, 9, 10, 11, 12, 1, 0] rfl))
                              · refine lv_aload hx hb dL_isTold_182 (lv_at hl 6 rfl) ?_
                                refine lv_iload hx hb dL_isTold_184 (lv_at hl 12 rfl) ?_
                                refine x_iald (f := fun j => nI (Y 5 j)) hx hb hK hP (_ + 5) 0 (app_r rfl) rfl (t := x) (by omega) (by decide) dL_isTold_186 ?_
                                refine to_i (y := nI (Y 5 x)) rfl ?_
                                refine lv_bipush (v := nI 14) hx hb dL_isTold_187 (by decide) ?_
                                refine lv_ishr hx hb dL_isTold_189 ?_
                                refine to_i (y := nI ((Y 5 x) / 16384)) (pk_shrN (by have := hYb 5 x; omega) _ 14 (by decide)) ?_
                                refine to_i (y := nI x3) (congrArg nI (by omega)) ?_
                                refine lv_goto (tgt := 202) hx hb dL_isTold_190 (by decide) ?_
                                refine lv_iadd hx hb dL_isTold_202 ?_
                                refine lv_istore (lv' := [(11, .int ((penB S N k 0 x - penB S N k 1 x) + (nI x3))), (0, .ref oc), (1, .int y), (2, .ref ((ab 0))), (3, .ref ((ab 1))), (4, .ref ((ab 3))), (5, .ref ((ab 4))), (6, .ref ((ab 5))), (7, .ref ((ab 6))), (8, .ref ((ab 7))), (9, .int (nI k)), (10, .int (nI (of2 S N k 6))), (12, .int (nI x))]) hx hb dL_isTold_203 hl (by decide) rfl (fun ls hl => ?_)
                                refine lv_iinc (v := nI (x + 1)) (lv' := [(12, .int (nI (x + 1))), (11, .int ((penB S N k 0 x - penB S N k 1 x) + (nI x3))), (0, .ref oc), (1, .int y), (2, .ref ((ab 0))), (3, .ref ((ab 1))), (4, .ref ((ab 3))), (5, .ref ((ab 4))), (6, .ref ((ab 5))), (7, .ref ((ab 6))), (8, .ref ((ab 7))), (9, .int (nI k)), (10, .int (nI (of2 S N k 6)))]) hx hb dL_isTold_205 hl (k := 12) rfl (by rw [show Int32.ofInt 1 = 1 from rfl]; exact nI_1 _) (by decide) rfl (fun ls hl => ?_)
                                refine lv_goto (tgt := 132) hx hb dL_isTold_208 (by decide) ?_
                                have e9 : penB S N k 0 (x + 1) - penB S N k 1 (x + 1) = penB S N k 0 x - penB S N k 1 x + nI x3 := pn_0 (by omega) (by omega) (k4.trans (congrArg nI (by omega))) k6
                                exact W.widen (k := 6 + 24 * k + 12) (n := 36 + 144 * k + 72) (by omega) (by omega) (ih_x (b - (x + 1)) (by omega) (x + 1) ad L rfl (by omega) hI hX hoc H locs ls hP hD hS (by rw [e9]; exact lv_sub hl [2, 3, 4, 5, 6, 7, 8, 9, 10, 11, 12, 1, 0] rfl))
                    exact W.widen (k := 6 + 24 * k + 12) (n := 36 + 144 * k + 72) (by omega) (by omega) (hl_x b 0 ad L rfl (Nat.zero_le _) hI hX hoc H locs ls hP hD hS (lv_sub hl [1, 2, 3, 4, 5, 6, 7, 8, 9, 10, 11, 12, 0] rfl))
                  · have ey0 : Y 0 ck = N 1 0 ck := (hR.1 ck (by omega)).1
                    have h9 := hN.2.1 ck (by omega)
                    have hle := hN.1 k ck (by omega) (by omega)
                    refine lv_aload hx hb dL_isTold_59 (lv_at hl 4 rfl) ?_
                    refine lv_bipush (v := nI 6) hx hb dL_isTold_61 (by decide) ?_
                    refine lv_iload hx hb dL_isTold_63 (lv_at hl 9 rfl) ?_
                    refine lv_imul hx hb dL_isTold_65 ?_
                    refine to_i (y := nI (6 * k)) (pk_mul _ _) ?_
                    refine lv_iload hx hb dL_isTold_66 (lv_at hl 12 rfl) ?_
                    refine lv_iadd hx hb dL_isTold_68 ?_
                    refine to_i (y := nI ((6 * k) + ck)) (nI_add _ _) ?_
                    refine x_iald (f := fun j => nI (Y 3 j)) hx hb hK hP (_ + 3) 0 (app_r rfl) rfl (t := (6 * k) + ck) (by omega) (by decide) dL_isTold_69 ?_
                    refine to_i (y := nI (Y 3 ((6 * k) + ck))) rfl ?_
                    refine lv_bipush (v := nI 15) hx hb dL_isTold_70 (by decide) ?_
                    refine lv_iand hx hb dL_isTold_72 ?_
                    refine to_i (y := nI ((Y 3 ((6 * k) + ck)) % 16)) (pk_andN (by have := hYb 3 ((6 * k) + ck); omega) 4 (by decide)) ?_
                    refine to_i (y := nI (N 2 k ck)) (congrArg nI (zi_15 hR hN (by omega) (by omega))) ?_
                    refine lv_istore (lv' := [(13, .int (nI (N 2 k ck))), (0, .ref oc), (1, .int y), (2, .ref ((ab 0))), (3, .ref ((ab 1))), (4, .ref ((ab 3))), (5, .ref ((ab 4))), (6, .ref ((ab 5))), (7, .ref ((ab 6))), (8, .ref ((ab 7))), (9, .int (nI k)), (10, .int (nI (of2 S N k ck))), (11, .int (penB S N k 0 0 - penB S N k 1 0)), (12, .int (nI ck))]) hx hb dL_isTold_73 hl (by decide) rfl (fun ls hl => ?_)
                    refine lv_aload_n hx hb dL_isTold_75 rfl (lv_at hl 1 rfl) ?_
                    refine lv_iload hx hb dL_isTold_76 (lv_at hl 10 rfl) ?_
                    refine lv_iload hx hb dL_isTold_78 (lv_at hl 13 rfl) ?_
                    refine callY_i hP (vx_runSW (As := [.ref oc, .int (nI k), .int (nI ck)]) (rest := []) ⟨hx, hb, hml, hown, hts⟩ (qL_version l dC dI cy e0 mi oc ad L S N H.size (nI k) (nI ck) hI hX hst hoc) (vx_cwSW 3 hts gL_isTold_L_version rfl rfl rfl (by decide +kernel) ⟨Nat.le_of_ble_eq_true rfl, Nat.le_of_ble_eq_true rfl⟩) (preLS hK (w_leftP hP) (w_leftD hD) hS hA ham) rfl rfl hl.1 rfl (lv_room (Nat.le_of_ble_eq_true rfl)) dL_isTold_80 ⟨by show _ ≤ 500; omega, by show _ ≤ 3000; omega⟩) hD hS hA (fun rr uc H locs hw hP hD hS => ?_)
                    obtain ⟨rfl, ad, L, rfl, hI, hX, hoc⟩ := lres_n0 hw ((if_pos (ct_in (by omega) (by omega))).trans (if_pos (cl_in (by omega))))
                    have hP : va_P (dC, dI) vwCl (cw cy e0 ad L S N ++ yw ab cy Y t D a b) H := hP
                    have hD : va_D A (cw cy e0 ad L S N ++ yw ab cy Y t D a b) := hD
                    refine to_i (y := nI (N 2 k ck)) (by rw [ix_nI (show k < 2 ^ 31 by omega), ix_nI (show ck < 2 ^ 31 by omega)]) ?_
                    refine lv_iload hx hb dL_isTold_83 (lv_at hl 0 rfl) ?_
                    refine lv_icmp_eq (tgt := 90) hx hb dL_isTold_85 (by decide) (fun _ => ?_) (fun h9 => absurd rfl h9)
                    refine lv_iload hx hb dL_isTold_90 (lv_at hl 11 rfl) ?_
                    refine lv_aload hx hb dL_isTold_92 (lv_at hl 6 rfl) ?_
                    refine lv_iload hx hb dL_isTold_94 (lv_at hl 10 rfl) ?_
                    refine x_iald (f := fun j => nI (Y 4 j)) hx hb hK hP (_ + 4) 0 (app_r rfl) rfl (t := k) (by omega) (by decide) dL_isTold_96 ?_
                    refine to_i (y := nI (Y 4 k)) rfl ?_
                    refine lv_iconst (v := nI 4) hx hb dL_isTold_97 (by decide) ?_
                    refine n_ge (tgt := 119) hx hb dL_isTold_98 (by decide) (by have := hYb 4 k; omega) (by omega) (fun c_17 => ?_) (fun c_17 => ?_)
                    · refine lv_iconst (v := nI 0) hx hb dL_isTold_119 (by decide) ?_
                      refine lv_iadd hx hb dL_isTold_120 ?_
                      refine to_i (y := nI ((of2 S N k ck) + 0)) (nI_add _ _) ?_
                      refine lv_istore (lv' := [(10, .int (nI ((of2 S N k ck) + 0))), (13, .int (nI (N 2 k ck))), (0, .ref oc), (1, .int y), (2, .ref ((ab 0))), (3, .ref ((ab 1))), (4, .ref ((ab 3))), (5, .ref ((ab 4))), (6, .ref ((ab 5))), (7, .ref ((ab 6))), (8, .ref ((ab 7))), (9, .int (nI k)), (11, .int (penB S N k 0 0 - penB S N k 1 0)), (12, .int (nI ck))]) hx hb dL_isTold_121 hl (by decide) rfl (fun ls hl => ?_)
                      refine lv_iinc (v := nI (ck + 1)) (lv' := [(12, .int (nI (ck + 1))), (10, .int (nI ((of2 S N k ck) + 0))), (13, .int (nI (N 2 k ck))), (0, .ref oc), (1, .int y), (2, .ref ((ab 0))), (3, .ref ((ab 1))), (4, .ref ((ab 3))), (5, .ref ((ab 4))), (6, .ref ((ab 5))), (7, .ref ((ab 6))), (8, .ref ((ab 7))), (9, .int (nI k)), (11, .int (penB S N k 0 0 - penB S N k 1 0))]) hx hb dL_isTold_123 hl (k := 13) rfl (by rw [show Int32.ofInt 1 = 1 from rfl]; exact nI_1 _) (by decide) rfl (fun ls hl => ?_)
                      refine lv_goto (tgt := 52) hx hb dL_isTold_126 (by decide) ?_
                      have e9 : of2 S N k (ck + 1) = of2 S N k ck + 0 := of2_0 (fun q => by have q1 := hdr.mp q.1; omega)
                      exact W.widen (k := 6 + 24 * k + 2 * (ck + 1)) (n := 36 + 144 * k + 12 * (ck + 1)) (by omega) (by omega) (ih_c (6 - (ck + 1)) (by omega) (ck + 1) ad L rfl (by omega) hI hX hoc H locs ls hP hD hS (by rw [e9]; exact lv_sub hl [3, 4, 5, 6, 7, 8, 9, 10, 11, 12, 1, 13, 0] rfl))
                    · refine lv_iload hx hb dL_isTold_101 (lv_at hl 0 rfl) ?_
                      refine n_if_le (tgt := 119) hx hb dL_isTold_103 (by decide) (by omega) (fun c_18 => ?_) (fun c_18 => ?_)
                      · refine lv_iconst (v := nI 0) hx hb dL_isTold_119 (by decide) ?_
                        refine lv_iadd hx hb dL_isTold_120 ?_
                        refine to_i (y := nI ((of2 S N k ck) + 0)) (nI_add _ _) ?_
                        refine lv_istore (lv' := [(10, .int (nI ((of2 S N k ck) + 0))), (13, .int (nI (N 2 k ck))), (0, .ref oc), (1, .int y), (2, .ref ((ab 0))), (3, .ref ((ab 1))), (4, .ref ((ab 3))), (5, .ref ((ab 4))), (6, .ref ((ab 5))), (7, .ref ((ab 6))), (8, .ref ((ab 7))), (9, .int (nI k)), (11, .int (penB S N k 0 0 - penB S N k 1 0)), (12, .int (nI ck))]) hx hb dL_isTold_121 hl (by decide) rfl (fun ls hl => ?_)
                        refine lv_iinc (v := nI (ck + 1)) (lv' := [(12, .int (nI (ck + 1))), (10, .int (nI ((of2 S N k ck) + 0))), (13, .int (nI (N 2 k ck))), (0, .ref oc), (1, .int y), (2, .ref ((ab 0))), (3, .ref ((ab 1))), (4, .ref ((ab 3))), (5, .ref ((ab 4))), (6, .ref ((ab 5))), (7, .ref ((ab 6))), (8, .ref ((ab 7))), (9, .int (nI k)), (11, .int (penB S N k 0 0 - penB S N k 1 0))]) hx hb dL_isTold_123 hl (k := 13) rfl (by rw [show Int32.ofInt 1 = 1 from rfl]; exact nI_1 _) (by decide) rfl (fun ls hl => ?_)
                        refine lv_goto (tgt := 52) hx hb dL_isTold_126 (by decide) ?_
                        have e9 : of2 S N k (ck + 1) = of2 S N k ck + 0 := of2_0 (fun q => by have q1 := q.2.1; have q2 := q.2.2; omega)
                        exact W.widen (k := 6 + 24 * k + 2 * (ck + 1)) (n := 36 + 144 * k + 12 * (ck + 1)) (by omega) (by omega) (ih_c (6 - (ck + 1)) (by omega) (ck + 1) ad L rfl (by omega) hI hX hoc H locs ls hP hD hS (by rw [e9]; exact lv_sub hl [3, 4, 5, 6, 7, 8, 9, 10, 11, 12, 1, 13, 0] rfl))
                      · refine lv_iload hx hb dL_isTold_106 (lv_at hl 0 rfl) ?_
                        refine lv_aload_n hx hb dL_isTold_108 rfl (lv_at hl 3 rfl) ?_
                        refine lv_iload hx hb dL_isTold_109 (lv_at hl 13 rfl) ?_
                        refine x_iald (f := fun j => nI (Y 0 j)) hx hb hK hP (_ + 0) 0 (app_r rfl) rfl (t := ck) (by omega) (by decide) dL_isTold_111 ?_
                        refine to_i (y := nI (Y 0 ck)) rfl ?_
                        refine n_ge (tgt := 119) hx hb dL_isTold_112 (by decide) (by omega) (by have := hYb 0 ck; omega) (fun c_19 => ?_) (fun c_19 => ?_)
                        · refine lv_iconst (v := nI 0) hx hb dL_isTold_119 (by decide) ?_
                          refine lv_iadd hx hb dL_isTold_120 ?_
                          refine to_i (y := nI ((of2 S N k ck) + 0)) (nI_add _ _) ?_
                          refine lv_istore (lv' := [(10, .int (nI ((of2 S N k ck) + 0))), (13, .int (nI (N 2 k ck))), (0, .ref oc), (1, .int y), (2, .ref ((ab 0))), (3, .ref ((ab 1))), (4, .ref ((ab 3))), (5, .ref ((ab 4))), (6, .ref ((ab 5))), (7, .ref ((ab 6))), (8, .ref ((ab 7))), (9, .int (nI k)), (11, .int (penB S N k 0 0 - penB S N k 1 0)), (12, .int (nI ck))]) hx hb dL_isTold_121 hl (by decide) rfl (fun ls hl => ?_)
                          refine lv_iinc (v := nI (ck + 1)) (lv' := [(12, .int (nI (ck + 1))), (10, .int (nI ((of2 S N k ck) + 0))), (13, .int (nI (N 2 k ck))), (0, .ref oc), (1, .int y), (2, .ref ((ab 0))), (3, .ref ((ab 1))), (4, .ref ((ab 3))), (5, .ref ((ab 4))), (6, .ref ((ab 5))), (7, .ref ((ab 6))), (8, .ref ((ab 7))), (9, .int (nI k)), (11, .int (penB S N k 0 0 - penB S N k 1 0))]) hx hb dL_isTold_123 hl (k := 13) rfl (by rw [show Int32.ofInt 1 = 1 from rfl]; exact nI_1 _) (by decide) rfl (fun ls hl => ?_)
                          refine lv_goto (tgt := 52) hx hb dL_isTold_126 (by decide) ?_
                          have e9 : of2 S N k (ck + 1) = of2 S N k ck + 0 := of2_0 (fun q => by have q1 := q.2.1; have q2 := q.2.2; omega)
                          exact W.widen (k := 6 + 24 * k + 2 * (ck + 1)) (n := 36 + 144 * k + 12 * (ck + 1)) (by omega) (by omega) (ih_c (6 - (ck + 1)) (by omega) (ck + 1) ad L rfl (by omega) hI hX hoc H locs ls hP hD hS (by rw [e9]; exact lv_sub hl [3, 4, 5, 6, 7, 8, 9, 10, 11, 12, 1, 13, 0] rfl))
                        · refine lv_iconst (v := nI 1) hx hb dL_isTold_115 (by decide) ?_
                          refine lv_goto (tgt := 120) hx hb dL_isTold_116 (by decide) ?_
                          refine lv_iadd hx hb dL_isTold_120 ?_
                          refine to_i (y := nI ((of2 S N k ck) + 1)) (nI_add _ _) ?_
                          refine lv_istore (lv' := [(10, .int (nI ((of2 S N k ck) + 1))), (13, .int (nI (N 2 k ck))), (0, .ref oc), (1, .int y), (2, .ref ((ab 0))), (3, .ref ((ab 1))), (4, .ref ((ab 3))), (5, .ref ((ab 4))), (6, .ref ((ab 5))), (7, .ref ((ab 6))), (8, .ref ((ab 7))), (9, .int (nI k)), (11, .int (penB S N k 0 0 - penB S N k 1 0)), (12, .int (nI ck))]) hx hb dL_isTold_121 hl (by decide) rfl (fun ls hl => ?_)
                          refine lv_iinc (v := nI (ck + 1)) (lv' := [(12, .int (nI (ck + 1))), (10, .int (nI ((of2 S N k ck) + 1))), (13, .int (nI (N 2 k ck))), (0, .ref oc), (1, .int y), (2, .ref ((ab 0))), (3, .ref ((ab 1))), (4, .ref ((ab 3))), (5, .ref ((ab 4))), (6, .ref ((ab 5))), (7, .ref ((ab 6))), (8, .ref ((ab 7))), (9, .int (nI k)), (11, .int (penB S N k 0 0 - penB S N k 1 0))]) hx hb dL_isTold_123 hl (k := 13) rfl (by rw [show Int32.ofInt 1 = 1 from rfl]; exact nI_1 _) (by decide) rfl (fun ls hl => ?_)
                          refine lv_goto (tgt := 52) hx hb dL_isTold_126 (by decide) ?_
                          have e9 : of2 S N k (ck + 1) = of2 S N k ck + 1 := of2_1 (hdr.mpr (by omega)) ⟨by omega, by omega⟩
                          exact W.widen (k := 6 + 24 * k + 2 * (ck + 1)) (n := 36 + 144 * k + 12 * (ck + 1)) (by omega) (by omega) (ih_c (6 - (ck + 1)) (by omega) (ck + 1) ad L rfl (by omega) hI hX hoc H locs ls hP hD hS (by rw [e9]; exact lv_sub hl [3, 4, 5, 6, 7, 8, 9, 10, 11, 12, 1, 13, 0] rfl))
              exact W.widen (k := 6 + 24 * k + 2 * 0) (n := 36 + 144 * k + 12 * 0) (by omega) (by omega) (hl_c 6 0 ad L rfl (Nat.zero_le _) hI hX hoc H locs ls hP hD hS (lv_sub hl [3, 4, 5, 6, 7, 8, 9, 10, 11, 12, 2, 1, 0] rfl))
        exact W.widen (k := 6 + 24 * 0) (n := 36 + 144 * 0) (by omega) (by omega) (hl_k a 0 ad L rfl (Nat.zero_le _) hI hX hoc H locs ls hP hD hS (lv_sub hl [1, 2, 3, 4, 5, 6, 7, 8, 9, 0] rfl))
      · refine lv_aload_n hx hb dL_isTold_10 rfl (lv_at hl 0 rfl) ?_
        refine lv_iload hx hb dL_isTold_11 (lv_at hl 9 rfl) ?_
        refine callY_i hP (vx_runSW (As := [.ref oc, .int (nI ck)]) (rest := []) ⟨hx, hb, hml, hown, hts⟩ (qL_latest l dC dI cy e0 mi oc ad L S N H.size (nI ck) hI hX hst hoc) (vx_cwSW 2 hts gL_isTold_L_latest rfl rfl rfl (by decide +kernel) ⟨Nat.le_of_ble_eq_true rfl, Nat.le_of_ble_eq_true rfl⟩) (preLS hK (w_leftP hP) (w_leftD hD) hS hA ham) rfl rfl hl.1 rfl (lv_room (Nat.le_of_ble_eq_true rfl)) dL_isTold_13 ⟨by show _ ≤ 500; omega, by show _ ≤ 3000; omega⟩) hD hS hA (fun rr uc H locs hw hP hD hS => ?_)
        obtain ⟨rfl, ad, L, rfl, hI, hX, hoc⟩ := lres_n0 hw (if_pos (cl_in (by omega)))
        have hP : va_P (dC, dI) vwCl (cw cy e0 ad L S N ++ yw ab cy Y t D a b) H := hP
        have hD : va_D A (cw cy e0 ad L S N ++ yw ab cy Y t D a b) := hD
        refine to_i (y := nI (Y 0 ck)) (by rw [ix_nI (show ck < 2 ^ 31 by omega), (hR.1 ck (by omega)).1]) ?_
        refine lv_aload_n hx hb dL_isTold_16 rfl (lv_at hl 2 rfl) ?_
        refine lv_iload hx hb dL_isTold_17 (lv_at hl 9 rfl) ?_
        refine x_iald (f := fun j => nI (Y 0 j)) hx hb hK hP (_ + 0) 0 (app_r rfl) rfl (t := ck) (by omega) (by decide) dL_isTold_19 ?_
        refine to_i (y := nI (Y 0 ck)) rfl ?_
        refine lv_icmp_eq (tgt := 25) hx hb dL_isTold_20 (by decide) (fun _ => ?_) (fun h9 => absurd rfl h9)
        refine lv_iinc (v := nI (ck + 1)) (lv' := [(9, .int (nI (ck + 1))), (0, .ref oc), (1, .int y), (2, .ref ((ab 0))), (3, .ref ((ab 1))), (4, .ref ((ab 3))), (5, .ref ((ab 4))), (6, .ref ((ab 5))), (7, .ref ((ab 6))), (8, .ref ((ab 7)))]) hx hb dL_isTold_25 hl (k := 9) rfl (by rw [show Int32.ofInt 1 = 1 from rfl]; exact nI_1 _) (by decide) rfl (fun ls hl => ?_)
        refine lv_goto (tgt := 3) hx hb dL_isTold_28 (by decide) ?_
        exact W.widen (k := (ck + 1)) (n := 6 * (ck + 1)) (by omega) (by omega) (ih_a (6 - (ck + 1)) (by omega) (ck + 1) ad L rfl (by omega) hI hX hoc H locs ls hP hD hS (by exact lv_sub hl [1, 2, 3, 4, 5, 6, 7, 8, 9, 0] rfl))
  exact W.widen (k := 0) (n := 6 * 0) (by omega) (by omega) (hl_a 6 0 ad L rfl (Nat.zero_le _) hI hX hoc H locs ls hP hD hS (lv_sub hl [1, 2, 3, 4, 5, 6, 7, 8, 9, 0] rfl))

/-! the law's methods that only read: breached, isSuspended, reason -/
def bq (S : SS) (N : NN) (i o k : Nat) : Nat := if 0 < cntB S N i o k then 1 else 0
theorem bq_le (S : SS) (N : NN) (i o k : Nat) : bq S N i o k ≤ 1 := by unfold bq; split <;> omega
theorem bq_s (S : SS) (N : NN) (i o k : Nat) : bq S N i o (k + 1) = if N 3 k 0 = i ∧ N 4 (N 3 k 1) 0 = o ∧ S 9 k 0 = nI 3 then 1 else bq S N i o k := by
  unfold bq
  simp only [cntB]
  by_cases h : N 3 k 0 = i ∧ N 4 (N 3 k 1) 0 = o ∧ S 9 k 0 = nI 3
  · rw [if_pos h, if_pos h, if_pos (by omega)]
  · rw [if_neg h, if_neg h, Nat.add_zero]
theorem bq_no {S : SS} {N : NN} {i k : Nat} (h : ¬ (N 3 k 0 = i ∧ S 9 k 0 = nI 3)) : nI (bq S N i 0 (k + 1) + 2 * bq S N i 1 (k + 1)) = nI (bq S N i 0 k + 2 * bq S N i 1 k) := by
  rw [bq_s, bq_s, if_neg (fun q => h ⟨q.1, q.2.2⟩), if_neg (fun q => h ⟨q.1, q.2.2⟩)]
theorem or_bits : ∀ p0 p1 o : Fin 2, nI (p0.val + 2 * p1.val) ||| (nI 1 <<< (nI o.val &&& 31)) = nI ((if o.val = 0 then 1 else p0.val) + 2 * (if o.val = 1 then 1 else p1.val)) := by decide +kernel
theorem bq_yes {S : SS} {N : NN} {i k o : Nat} (h1 : N 3 k 0 = i) (h3 : S 9 k 0 = nI 3) (ho : N 4 (N 3 k 1) 0 < 2) (e : o = N 4 (N 3 k 1) 0) : nI (bq S N i 0 (k + 1) + 2 * bq S N i 1 (k + 1)) = nI (bq S N i 0 k + 2 * bq S N i 1 k) ||| (nI 1 <<< (nI o &&& 31)) := by
  have l0 := bq_le S N i 0 k
  have l1 := bq_le S N i 1 k
  have z := or_bits ⟨bq S N i 0 k, by omega⟩ ⟨bq S N i 1 k, by omega⟩ ⟨o, by omega⟩
  refine Eq.trans ?_ z.symm
  rw [bq_s, bq_s, ← e]
  refine congrArg nI ?_
  rcases (show o = 0 ∨ o = 1 by omega) with q | q
  · rw [if_pos ⟨h1, q, h3⟩, if_neg (fun z => absurd (q.symm.trans z.2.1) (by decide)), if_pos q, if_neg (by omega)]
  · rw [if_neg (fun z => absurd (q.symm.trans z.2.1) (by decide)), if_pos ⟨h1, q, h3⟩, if_neg (by omega), if_pos q]
theorem sh_bits : ∀ p0 p1 o : Fin 2, (nI (p0.val + 2 * p1.val) >>> (nI (1 - o.val) &&& 31)) &&& nI 1 = nI (if o.val = 0 then p1.val else p0.val) := by decide +kernel
theorem sh_bit {p0 p1 o : Nat} (h0 : p0 ≤ 1) (h1 : p1 ≤ 1) (ho : o < 2) : (nI (p0 + 2 * p1) >>> (nI (1 - o) &&& 31)) &&& nI 1 = nI (if o = 0 then p1 else p0) := sh_bits ⟨p0, by omega⟩ ⟨p1, by omega⟩ ⟨o, ho⟩
theorem br_if (S : SS) (N : NN) (i : Nat) {o : Nat} (ho : o < 2) : (if o = 0 then br S N i 1 else br S N i 0) = br S N i (1 - o) := by
  rcases (show o = 0 ∨ o = 1 by omega) with rfl | rfl <;> rfl

set_option maxHeartbeats 8000000 in
set_option maxRecDepth 100000 in
/-- the sides with a breach -/
theorem qL_breached (l : Launch) (dC : Nat → ClassId) (dI : Nat → Nat → Nat) (cy : Nat → ClassId) (X : va_W) (ab : Nat → Nat) (S : SS) (N : NN) (Y : Nat → Nat → Nat) (t : Nat → Int32) (D : Int32) (a b : Nat) (sz : Nat) (i : Nat) (hR : RZ S N Y t D a b) (hN : okS N) (hi : i < 10) : Met l yL_breached wsL_breached ({ frames := 0, cells := 0, slots := 0, locals := 0 }) (va_Pc [.ref ((ab 5)), .ref ((ab 7)), .int (nI i)] (wPre (dC, dI) (tyL cy) (X ++ yw ab cy Y t D a b) sz)) (QI (dC, dI) (tyL cy) (fun (r : Int32) (_ : Unit) => r = nI (br S N i 0 + 2 * br S N i 1)) (fun _ => X ++ yw ab cy Y t D a b) (va_A (X ++ yw ab cy Y t D a b) sz)) 0 0 (va_A (X ++ yw ab cy Y t D a b) sz) := by
  refine en (cc := cL_breached) (maxL := 5) (ret := (some .int)) (own := RL) (lv := [(0, .ref ((ab 5))), (1, .ref ((ab 7))), (2, .int (nI i))]) (by decide) rfl rfl (Nat.le_of_ble_eq_true rfl) rfl ?_
  intro p e s m below meth c ls A H locs hx hb hr hts hown hlocks hml hin hsz hK hP hD hS hA hl
  generalize hQQ : MQ below _ _ s _ _ A = QQ
  have hYb : zY Y := hR.2.2.2.2.2.2.2
  obtain ⟨hD0, hb1, hb5, -⟩ := hR.2.2.2.2.2.2.1
  have hb60 := rz_60 hR hN
  have h10 := hN.2.2.2.1
  refine lv_iconst (v := nI 0) hx hb dL_breached_0 (by decide) ?_
  refine lv_istore_n (lv' := [(3, .int (nI 0)), (0, .ref ((ab 5))), (1, .ref ((ab 7))), (2, .int (nI i))]) hx hb dL_breached_1 rfl hl (by decide) rfl (fun ls hl => ?_)
  refine lv_iconst (v := nI 0) hx hb dL_breached_2 (by decide) ?_
  refine lv_istore (lv' := [(4, .int (nI 0)), (3, .int (nI 0)), (0, .ref ((ab 5))), (1, .ref ((ab 7))), (2, .int (nI i))]) hx hb dL_breached_3 hl (by decide) rfl (fun ls hl => ?_)
  have hl_br : ∀ (k9 k : Nat), b - k = k9 → k ≤ b → ∀ (H : Heap) (locs : List Loc) (ls : Array Slot), va_P (dC, dI) vwCl (X ++ yw ab cy Y t D a b) H → va_D A (X ++ yw ab cy Y t D a b) → va_S A s.heap H locs → lv_has ls 5 [(0, .ref ((ab 5))), (1, .ref ((ab 7))), (2, .int (nI i)), (3, .int (nI (bq S N i 0 k + 2 * bq S N i 1 k))), (4, .int (nI k))] → W p l e ({ frames := 0, cells := 0, slots := 0, locals := 0 }) s m (([.ref ((ab 5)), .ref ((ab 7)), .int (nI i)] : List Value).toArray) below meth c H locs 0 0 QQ (F0 m 5 ls []) := by
    intro k9
    induction k9 using Nat.strongRecOn with
    | _ k9 ih =>
      intro k  hk9 hle9  H locs ls hP hD hS hl
      refine lv_iload hx hb dL_breached_5 (lv_at hl 4 rfl) ?_
      refine lv_aload_n hx hb dL_breached_7 rfl (lv_at hl 1 rfl) ?_
      refine lv_iconst (v := nI 2) hx hb dL_breached_8 (by decide) ?_
      refine x_iald (f := gf D a b) hx hb hK hP (_ + 7) 0 (app_r rfl) rfl (t := 2) (by decide) (by decide) dL_breached_9 ?_
      refine to_i (y := nI b) rfl ?_
      refine n_ge (tgt := 56) hx hb dL_breached_10 (by decide) (by omega) (by omega) (fun c_1 => ?_) (fun c_1 => ?_)
      · obtain rfl : k = b := by omega
        refine lv_iload_n hx hb dL_breached_56 rfl (lv_at hl 3 rfl) ?_
        rw [← hQQ]; exact end_i (u := ()) hx hb hr hlocks dL_breached_57 hK hP hD hS (by rw [hb5]; rfl) (Nat.le_of_ble_eq_true rfl) (Nat.le_of_ble_eq_true rfl)
      · obtain ⟨st, x2, x3, k1, k2, k3, k4, k5, k6, k7, k8, k9, k10⟩ := rz_d hR hN (j := k) (by omega)
        refine lv_aload_n hx hb dL_breached_13 rfl (lv_at hl 0 rfl) ?_
        refine lv_iload hx hb dL_breached_14 (lv_at hl 4 rfl) ?_
        refine x_iald (f := fun j => nI (Y 5 j)) hx hb hK hP (_ + 5) 0 (app_r rfl) rfl (t := k) (by omega) (by decide) dL_breached_16 ?_
        refine to_i (y := nI (Y 5 k)) rfl ?_
        refine lv_bipush (v := nI 15) hx hb dL_breached_17 (by decide) ?_
        refine lv_iand hx hb dL_breached_19 ?_
        refine to_i (y := nI ((Y 5 k) % 16)) (pk_andN (by have := hYb 5 k; omega) 4 (by decide)) ?_
        refine to_i (y := nI (N 3 k 0)) (congrArg nI (by omega)) ?_
        refine lv_iload_n hx hb dL_breached_20 rfl (lv_at hl 2 rfl) ?_
        refine n_ne (tgt := 50) hx hb dL_breached_21 (by decide) (by omega) (by omega) (fun c_2 => ?_) (fun c_2 => ?_)
        · refine lv_iinc (v := nI (k + 1)) (lv' := [(4, .int (nI (k + 1))), (0, .ref ((ab 5))), (1, .ref ((ab 7))), (2, .int (nI i)), (3, .int (nI (bq S N i 0 k + 2 * bq S N i 1 k)))]) hx hb dL_breached_50 hl (k := 4) rfl (by rw [show Int32.ofInt 1 = 1 from rfl]; exact nI_1 _) (by decide) rfl (fun ls hl => ?_)
          refine lv_goto (tgt := 5) hx hb dL_breached_53 (by decide) ?_
          have e9 : nI (bq S N i 0 (k + 1) + 2 * bq S N i 1 (k + 1)) = nI (bq S N i 0 k + 2 * bq S N i 1 k) := bq_no (fun q => by
            have q2 := (nI_inj (by omega) (by decide)).mp (k4.symm.trans q.2)
            omega)
          exact ih (b - (k + 1)) (by omega) (k + 1)  rfl (by omega)  H locs ls hP hD hS (by rw [e9]; exact lv_sub hl [1, 2, 3, 4, 0] rfl)
        · refine lv_aload_n hx hb dL_breached_24 rfl (lv_at hl 0 rfl) ?_
          refine lv_iload hx hb dL_breached_25 (lv_at hl 4 rfl) ?_
          refine x_iald (f := fun j => nI (Y 5 j)) hx hb hK hP (_ + 5) 0 (app_r rfl) rfl (t := k) (by omega) (by decide) dL_breached_27 ?_
          refine to_i (y := nI (Y 5 k)) rfl ?_
          refine lv_iconst (v := nI 5) hx hb dL_breached_28 (by decide) ?_
          refine lv_ishr hx hb dL_breached_29 ?_
          refine to_i (y := nI ((Y 5 k) / 32)) (pk_shrN (by have := hYb 5 k; omega) _ 5 (by decide)) ?_
          refine lv_bipush (v := nI 7) hx hb dL_breached_30 (by decide) ?_
          refine lv_iand hx hb dL_breached_32 ?_
          refine to_i (y := nI (((Y 5 k) / 32) % 8)) (pk_andN (by have := hYb 5 k; omega) 3 (by decide)) ?_
          refine to_i (y := nI st) (congrArg nI (by omega)) ?_
          refine lv_iconst (v := nI 3) hx hb dL_breached_33 (by decide) ?_
          refine n_ne (tgt := 50) hx hb dL_breached_34 (by decide) (by omega) (by omega) (fun c_3 => ?_) (fun c_3 => ?_)
          · refine lv_iinc (v := nI (k + 1)) (lv' := [(4, .int (nI (k + 1))), (0, .ref ((ab 5))), (1, .ref ((ab 7))), (2, .int (nI i)), (3, .int (nI (bq S N i 0 k + 2 * bq S N i 1 k)))]) hx hb dL_breached_50 hl (k := 4) rfl (by rw [show Int32.ofInt 1 = 1 from rfl]; exact nI_1 _) (by decide) rfl (fun ls hl => ?_)
            refine lv_goto (tgt := 5) hx hb dL_breached_53 (by decide) ?_
            have e9 : nI (bq S N i 0 (k + 1) + 2 * bq S N i 1 (k + 1)) = nI (bq S N i 0 k + 2 * bq S N i 1 k) := bq_no (fun q => by
              have q2 := (nI_inj (by omega) (by decide)).mp (k4.symm.trans q.2)
              omega)
            exact ih (b - (k + 1)) (by omega) (k + 1)  rfl (by omega)  H locs ls hP hD hS (by rw [e9]; exact lv_sub hl [1, 2, 3, 4, 0] rfl)
          · refine lv_iload_n hx hb dL_breached_37 rfl (lv_at hl 3 rfl) ?_
            refine lv_iconst (v := nI 1) hx hb dL_breached_38 (by decide) ?_
            refine lv_aload_n hx hb dL_breached_39 rfl (lv_at hl 0 rfl) ?_
            refine lv_iload hx hb dL_breached_40 (lv_at hl 4 rfl) ?_
            refine x_iald (f := fun j => nI (Y 5 j)) hx hb hK hP (_ + 5) 0 (app_r rfl) rfl (t := k) (by omega) (by decide) dL_breached_42 ?_
            refine to_i (y := nI (Y 5 k)) rfl ?_
            refine lv_iconst (v := nI 4) hx hb dL_breached_43 (by decide) ?_
            refine lv_ishr hx hb dL_breached_44 ?_
            refine to_i (y := nI ((Y 5 k) / 16)) (pk_shrN (by have := hYb 5 k; omega) _ 4 (by decide)) ?_
            refine lv_iconst (v := nI 1) hx hb dL_breached_45 (by decide) ?_
            refine lv_iand hx hb dL_breached_46 ?_
            refine to_i (y := nI (((Y 5 k) / 16) % 2)) (pk_andN (by have := hYb 5 k; omega) 1 (by decide)) ?_
            refine to_i (y := nI (N 4 (N 3 k 1) 0)) (congrArg nI (by omega)) ?_
            refine lv_ishl hx hb dL_breached_47 ?_
            refine lv_ior hx hb dL_breached_48 ?_
            refine lv_istore_n (lv' := [(3, .int ((nI (bq S N i 0 k + 2 * bq S N i 1 k)) ||| ((nI 1) <<< ((nI (N 4 (N 3 k 1) 0)) &&& 31)))), (0, .ref ((ab 5))), (1, .ref ((ab 7))), (2, .int (nI i)), (4, .int (nI k))]) hx hb dL_breached_49 rfl hl (by decide) rfl (fun ls hl => ?_)
            refine lv_iinc (v := nI (k + 1)) (lv' := [(4, .int (nI (k + 1))), (3, .int ((nI (bq S N i 0 k + 2 * bq S N i 1 k)) ||| ((nI 1) <<< ((nI (N 4 (N 3 k 1) 0)) &&& 31)))), (0, .ref ((ab 5))), (1, .ref ((ab 7))), (2, .int (nI i))]) hx hb dL_breached_50 hl (k := 4) rfl (by rw [show Int32.ofInt 1 = 1 from rfl]; exact nI_1 _) (by decide) rfl (fun ls hl => ?_)
            refine lv_goto (tgt := 5) hx hb dL_breached_53 (by decide) ?_
            have e9 : nI (bq S N i 0 (k + 1) + 2 * bq S N i 1 (k + 1)) = nI (bq S N i 0 k + 2 * bq S N i 1 k) := bq_no (fun q => by
              have q2 := (nI_inj (by omega) (by decide)).mp (k4.symm.trans q.2)
              omega)
            exact ih (b - (k + 1)) (by omega) (k + 1)  rfl (by omega)  H locs ls hP hD hS (by rw [e9]; exact lv_sub hl [2, 3, 4, 1, 0] rfl)
  exact hl_br b 0  rfl (Nat.zero_le _)  H locs ls hP hD hS (lv_sub hl [2, 3, 4, 1, 0] rfl)

set_option maxHeartbeats 8000000 in
set_option maxRecDepth 100000 in
/-- is a duty held up -/
theorem qL_isSuspended (l : Launch) (dC : Nat → ClassId) (dI : Nat → Nat → Nat) (cy : Nat → ClassId) (X : va_W) (ab : Nat → Nat) (S : SS) (N : NN) (Y : Nat → Nat → Nat) (t : Nat → Int32) (D : Int32) (a b : Nat) (sz : Nat) (k : Nat) (hR : RZ S N Y t D a b) (hN : okS N) (hk : k < N 5 0 0) : Met l yL_isSuspended wsL_isSuspended ({ frames := 1, cells := 0, slots := 0, locals := 24 }) (va_Pc [.ref ((ab 5)), .ref ((ab 7)), .int (nI k)] (wPre (dC, dI) (tyL cy) (X ++ yw ab cy Y t D a b) sz)) (QI (dC, dI) (tyL cy) (fun (r : Int32) (_ : Unit) => r = bi (isHeld S N k)) (fun _ => X ++ yw ab cy Y t D a b) (va_A (X ++ yw ab cy Y t D a b) sz)) 0 0 (va_A (X ++ yw ab cy Y t D a b) sz) := by
  refine en (cc := cL_isSuspended) (maxL := 4) (ret := (some .boolean)) (own := RL) (lv := [(0, .ref ((ab 5))), (1, .ref ((ab 7))), (2, .int (nI k))]) (by decide) rfl rfl (Nat.le_of_ble_eq_true rfl) rfl ?_
  intro p e s m below meth c ls A H locs hx hb hr hts hown hlocks hml hin hsz hK hP hD hS hA hl
  generalize hQQ : MQ below _ _ s _ _ A = QQ
  have hYb : zY Y := hR.2.2.2.2.2.2.2
  obtain ⟨hD0, hb1, hb5, -⟩ := hR.2.2.2.2.2.2.1
  have hb60 := rz_60 hR hN
  have h10 := hN.2.2.2.1
  obtain ⟨st, x2, x3, k1, k2, k3, k4, k5, k6, k7, k8, k9, k10⟩ := rz_d hR hN (j := k) (by omega)
  refine lv_aload_n hx hb dL_isSuspended_0 rfl (lv_at hl 0 rfl) ?_
  refine lv_iload_n hx hb dL_isSuspended_1 rfl (lv_at hl 2 rfl) ?_
  refine x_iald (f := fun j => nI (Y 5 j)) hx hb hK hP (_ + 5) 0 (app_r rfl) rfl (t := k) (by omega) (by decide) dL_isSuspended_2 ?_
  refine to_i (y := nI (Y 5 k)) rfl ?_
  refine lv_iconst (v := nI 5) hx hb dL_isSuspended_3 (by decide) ?_
  refine lv_ishr hx hb dL_isSuspended_4 ?_
  refine to_i (y := nI ((Y 5 k) / 32)) (pk_shrN (by have := hYb 5 k; omega) _ 5 (by decide)) ?_
  refine lv_bipush (v := nI 7) hx hb dL_isSuspended_5 (by decide) ?_
  refine lv_iand hx hb dL_isSuspended_7 ?_
  refine to_i (y := nI (((Y 5 k) / 32) % 8)) (pk_andN (by have := hYb 5 k; omega) 3 (by decide)) ?_
  refine to_i (y := nI st) (congrArg nI (by omega)) ?_
  refine lv_istore_n (lv' := [(3, .int (nI st)), (0, .ref ((ab 5))), (1, .ref ((ab 7))), (2, .int (nI k))]) hx hb dL_isSuspended_8 rfl hl (by decide) rfl (fun ls hl => ?_)
  refine lv_iload_n hx hb dL_isSuspended_9 rfl (lv_at hl 0 rfl) ?_
  refine n_if_eq (tgt := 18) hx hb dL_isSuspended_10 (by decide) (by omega) (fun c_1 => ?_) (fun c_1 => ?_)
  · refine lv_aload_n hx hb dL_isSuspended_18 rfl (lv_at hl 1 rfl) ?_
    refine lv_aload_n hx hb dL_isSuspended_19 rfl (lv_at hl 2 rfl) ?_
    refine lv_aload_n hx hb dL_isSuspended_20 rfl (lv_at hl 1 rfl) ?_
    refine lv_iload_n hx hb dL_isSuspended_21 rfl (lv_at hl 3 rfl) ?_
    refine x_iald (f := fun j => nI (Y 5 j)) hx hb hK hP (_ + 5) 0 (app_r rfl) rfl (t := k) (by omega) (by decide) dL_isSuspended_22 ?_
    refine to_i (y := nI (Y 5 k)) rfl ?_
    refine lv_bipush (v := nI 15) hx hb dL_isSuspended_23 (by decide) ?_
    refine lv_iand hx hb dL_isSuspended_25 ?_
    refine to_i (y := nI ((Y 5 k) % 16)) (pk_andN (by have := hYb 5 k; omega) 4 (by decide)) ?_
    refine to_i (y := nI (N 3 k 0)) (congrArg nI (by omega)) ?_
    refine call_i (va_runS (As := [.ref ((ab 5)), .ref ((ab 7)), .int (nI (N 3 k 0))]) (rest := []) ⟨hx, hb, hml, hown, hts⟩ (qL_breached l dC dI cy X ab S N Y t D a b H.size (N 3 k 0) hR hN (by omega)) (va_cwS 3 hts gL_isSuspended_L_breached rfl rfl rfl (by decide +kernel) ⟨Nat.le_of_ble_eq_true rfl, Nat.le_of_ble_eq_true rfl⟩) (preS hK hP hD) rfl rfl hl.1 rfl (lv_room (Nat.le_of_ble_eq_true rfl)) dL_isSuspended_26 ⟨Nat.le_of_ble_eq_true rfl, Nat.le_of_ble_eq_true rfl⟩) hD hS hA (fun rr uu H locs hw hP hD hS => ?_)
    obtain rfl := hw
    have hP : va_P (dC, dI) vwCl (X ++ yw ab cy Y t D a b) H := hP
    have hD : va_D A (X ++ yw ab cy Y t D a b) := hD
    refine lv_iconst (v := nI 1) hx hb dL_isSuspended_29 (by decide) ?_
    refine lv_aload_n hx hb dL_isSuspended_30 rfl (lv_at hl 1 rfl) ?_
    refine lv_iload_n hx hb dL_isSuspended_31 rfl (lv_at hl 3 rfl) ?_
    refine x_iald (f := fun j => nI (Y 5 j)) hx hb hK hP (_ + 5) 0 (app_r rfl) rfl (t := k) (by omega) (by decide) dL_isSuspended_32 ?_
    refine to_i (y := nI (Y 5 k)) rfl ?_
    refine lv_iconst (v := nI 4) hx hb dL_isSuspended_33 (by decide) ?_
    refine lv_ishr hx hb dL_isSuspended_34 ?_
    refine to_i (y := nI ((Y 5 k) / 16)) (pk_shrN (by have := hYb 5 k; omega) _ 4 (by decide)) ?_
    refine lv_iconst (v := nI 1) hx hb dL_isSuspended_35 (by decide) ?_
    refine lv_iand hx hb dL_isSuspended_36 ?_
    refine to_i (y := nI (((Y 5 k) / 16) % 2)) (pk_andN (by have := hYb 5 k; omega) 1 (by decide)) ?_
    refine to_i (y := nI (N 4 (N 3 k 1) 0)) (congrArg nI (by omega)) ?_
    refine lv_isub hx hb dL_isSuspended_37 ?_
    refine to_i (y := nI (1 - (N 4 (N 3 k 1) 0))) (pk_sub (by omega)) ?_
    refine lv_ishr hx hb dL_isSuspended_38 ?_
    refine lv_iconst (v := nI 1) hx hb dL_isSuspended_39 (by decide) ?_
    refine lv_iand hx hb dL_isSuspended_40 ?_
    refine to_i (y := nI (if N 4 (N 3 k 1) 0 = 0 then br S N (N 3 k 0) 1 else br S N (N 3 k 0) 0)) (sh_bit (br_le _ _ _ _) (br_le _ _ _ _) (by omega)) ?_
    have e_q_2 : (if N 4 (N 3 k 1) 0 = 0 then br S N (N 3 k 0) 1 else br S N (N 3 k 0) 0) = br S N (N 3 k 0) (1 - (N 4 (N 3 k 1) 0)) := br_if _ _ _ (by omega)
    refine to_i (y := nI (br S N (N 3 k 0) (1 - (N 4 (N 3 k 1) 0)))) (congrArg nI e_q_2) ?_
    have l_q_2 := br_le S N (N 3 k 0) (1 - (N 4 (N 3 k 1) 0))
    refine lv_iconst (v := nI 1) hx hb dL_isSuspended_41 (by decide) ?_
    refine n_ne (tgt := 49) hx hb dL_isSuspended_42 (by decide) (by omega) (by omega) (fun c_3 => ?_) (fun c_3 => ?_)
    · refine lv_iconst (v := nI 0) hx hb dL_isSuspended_49 (by decide) ?_
      have hno : ¬ isHeld S N k := fun q => by have q2 := (br_held hR hN (by omega) k4 k1).mp q; omega
      rw [← hQQ]; exact end_z (u := ()) hx hb hr hlocks dL_isSuspended_50 hK hP hD hS (by rfl) (bi_f hno).symm (Nat.le_of_ble_eq_true rfl) (Nat.le_of_ble_eq_true rfl)
    · refine lv_iconst (v := nI 1) hx hb dL_isSuspended_45 (by decide) ?_
      refine lv_goto (tgt := 50) hx hb dL_isSuspended_46 (by decide) ?_
      rw [← hQQ]; exact end_z (u := ()) hx hb hr hlocks dL_isSuspended_50 hK hP hD hS (by rfl) (bi_t (P := isHeld S N k) ((br_held hR hN (by omega) k4 k1).mpr ⟨by omega, by omega⟩)).symm (Nat.le_of_ble_eq_true rfl) (Nat.le_of_ble_eq_true rfl)
  · refine lv_iload_n hx hb dL_isSuspended_13 rfl (lv_at hl 0 rfl) ?_
    refine lv_iconst (v := nI 2) hx hb dL_isSuspended_14 (by decide) ?_
    refine n_ne (tgt := 49) hx hb dL_isSuspended_15 (by decide) (by omega) (by omega) (fun c_4 => ?_) (fun c_4 => ?_)
    · refine lv_iconst (v := nI 0) hx hb dL_isSuspended_49 (by decide) ?_
      have hno : ¬ isHeld S N k := fun q => by have q2 := (br_held hR hN (by omega) k4 k1).mp q; omega
      rw [← hQQ]; exact end_z (u := ()) hx hb hr hlocks dL_isSuspended_50 hK hP hD hS (by rfl) (bi_f hno).symm (Nat.le_of_ble_eq_true rfl) (Nat.le_of_ble_eq_true rfl)
    · refine lv_aload_n hx hb dL_isSuspended_18 rfl (lv_at hl 1 rfl) ?_
      refine lv_aload_n hx hb dL_isSuspended_19 rfl (lv_at hl 2 rfl) ?_
      refine lv_aload_n hx hb dL_isSuspended_20 rfl (lv_at hl 1 rfl) ?_
      refine lv_iload_n hx hb dL_isSuspended_21 rfl (lv_at hl 3 rfl) ?_
      refine x_iald (f := fun j => nI (Y 5 j)) hx hb hK hP (_ + 5) 0 (app_r rfl) rfl (t := k) (by omega) (by decide) dL_isSuspended_22 ?_
      refine to_i (y := nI (Y 5 k)) rfl ?_
      refine lv_bipush (v := nI 15) hx hb dL_isSuspended_23 (by decide) ?_
      refine lv_iand hx hb dL_isSuspended_25 ?_
      refine to_i (y := nI ((Y 5 k) % 16)) (pk_andN (by have := hYb 5 k; omega) 4 (by decide)) ?_
      refine to_i (y := nI (N 3 k 0)) (congrArg nI (by omega)) ?_
      refine call_i (va_runS (As := [.ref ((ab 5)), .ref ((ab 7)), .int (nI (N 3 k 0))]) (rest := []) ⟨hx, hb, hml, hown, hts⟩ (qL_breached l dC dI cy X ab S N Y t D a b H.size (N 3 k 0) hR hN (by omega)) (va_cwS 3 hts gL_isSuspended_L_breached rfl rfl rfl (by decide +kernel) ⟨Nat.le_of_ble_eq_true rfl, Nat.le_of_ble_eq_true rfl⟩) (preS hK hP hD) rfl rfl hl.1 rfl (lv_room (Nat.le_of_ble_eq_true rfl)) dL_isSuspended_26 ⟨Nat.le_of_ble_eq_true rfl, Nat.le_of_ble_eq_true rfl⟩) hD hS hA (fun rr uu H locs hw hP hD hS => ?_)
      obtain rfl := hw
      have hP : va_P (dC, dI) vwCl (X ++ yw ab cy Y t D a b) H := hP
      have hD : va_D A (X ++ yw ab cy Y t D a b) := hD
      refine lv_iconst (v := nI 1) hx hb dL_isSuspended_29 (by decide) ?_
      refine lv_aload_n hx hb dL_isSuspended_30 rfl (lv_at hl 1 rfl) ?_
      refine lv_iload_n hx hb dL_isSuspended_31 rfl (lv_at hl 3 rfl) ?_
      refine x_iald (f := fun j => nI (Y 5 j)) hx hb hK hP (_ + 5) 0 (app_r rfl) rfl (t := k) (by omega) (by decide) dL_isSuspended_32 ?_
      refine to_i (y := nI (Y 5 k)) rfl ?_
      refine lv_iconst (v := nI 4) hx hb dL_isSuspended_33 (by decide) ?_
      refine lv_ishr hx hb dL_isSuspended_34 ?_
      refine to_i (y := nI ((Y 5 k) / 16)) (pk_shrN (by have := hYb 5 k; omega) _ 4 (by decide)) ?_
      refine lv_iconst (v := nI 1) hx hb dL_isSuspended_35 (by decide) ?_
      refine lv_iand hx hb dL_isSuspended_36 ?_
      refine to_i (y := nI (((Y 5 k) / 16) % 2)) (pk_andN (by have := hYb 5 k; omega) 1 (by decide)) ?_
      refine to_i (y := nI (N 4 (N 3 k 1) 0)) (congrArg nI (by omega)) ?_
      refine lv_isub hx hb dL_isSuspended_37 ?_
      refine to_i (y := nI (1 - (N 4 (N 3 k 1) 0))) (pk_sub (by omega)) ?_
      refine lv_ishr hx hb dL_isSuspended_38 ?_
      refine lv_iconst (v := nI 1) hx hb dL_isSuspended_39 (by decide) ?_
      refine lv_iand hx hb dL_isSuspended_40 ?_
      refine to_i (y := nI (if N 4 (N 3 k 1) 0 = 0 then br S N (N 3 k 0) 1 else br S N (N 3 k 0) 0)) (sh_bit (br_le _ _ _ _) (br_le _ _ _ _) (by omega)) ?_
      have e_q_5 : (if N 4 (N 3 k 1) 0 = 0 then br S N (N 3 k 0) 1 else br S N (N 3 k 0) 0) = br S N (N 3 k 0) (1 - (N 4 (N 3 k 1) 0)) := br_if _ _ _ (by omega)
      refine to_i (y := nI (br S N (N 3 k 0) (1 - (N 4 (N 3 k 1) 0)))) (congrArg nI e_q_5) ?_
      have l_q_5 := br_le S N (N 3 k 0) (1 - (N 4 (N 3 k 1) 0))
      refine lv_iconst (v := nI 1) hx hb dL_isSuspended_41 (by decide) ?_
      refine n_ne (tgt := 49) hx hb dL_isSuspended_42 (by decide) (by omega) (by omega) (fun c_6 => ?_) (fun c_6 => ?_)
      · refine lv_iconst (v := nI 0) hx hb dL_isSuspended_49 (by decide) ?_
        have hno : ¬ isHeld S N k := fun q => by have q2 := (br_held hR hN (by omega) k4 k1).mp q; omega
        rw [← hQQ]; exact end_z (u := ()) hx hb hr hlocks dL_isSuspended_50 hK hP hD hS (by rfl) (bi_f hno).symm (Nat.le_of_ble_eq_true rfl) (Nat.le_of_ble_eq_true rfl)
      · refine lv_iconst (v := nI 1) hx hb dL_isSuspended_45 (by decide) ?_
        refine lv_goto (tgt := 50) hx hb dL_isSuspended_46 (by decide) ?_
        rw [← hQQ]; exact end_z (u := ()) hx hb hr hlocks dL_isSuspended_50 hK hP hD hS (by rfl) (bi_t (P := isHeld S N k) ((br_held hR hN (by omega) k4 k1).mpr ⟨by omega, by omega⟩)).symm (Nat.le_of_ble_eq_true rfl) (Nat.le_of_ble_eq_true rfl)

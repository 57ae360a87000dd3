theorem nI_or (a b : Nat) : nI a ||| nI b = nI (a ||| b) := by
  apply Int32.toBitVec_inj.mp
  rw [Int32.toBitVec_or]
  show BitVec.ofNat 32 a ||| BitVec.ofNat 32 b = BitVec.ofNat 32 (a ||| b)
  ext i hi
  simp [Nat.testBit_or]

/-! the law's methods that only read: breached, isSuspended, reason -/
def bq (S : SS) (N : NN) (i o k : Nat) : Nat := if 0 < cntB S N i o k then 1 else 0
theorem bq_le (S : SS) (N : NN) (i o k : Nat) : bq S N i o k ≤ 1 := by unfold bq; split <;> omega
theorem bq_s (S : SS) (N : NN) (i o k : Nat) : bq S N i o (k + 1) = if N 3 k 0 = i ∧ N 4 (N 3 k 1) 0 = o ∧ S 9 k 0 = nI 3 then 1 else bq S N i o k := by
  have e : cntB S N i o (k + 1) = cntB S N i o k + (if N 3 k 0 = i ∧ N 4 (N 3 k 1) 0 = o ∧ S 9 k 0 = nI 3 then 1 else 0) := rfl
  unfold bq
  by_cases h : N 3 k 0 = i ∧ N 4 (N 3 k 1) 0 = o ∧ S 9 k 0 = nI 3
  · rw [if_pos h] at e
    rw [if_pos h, if_pos (by omega)]
  · rw [if_neg h, Nat.add_zero] at e
    rw [if_neg h, e]
    rfl
theorem bq_no {S : SS} {N : NN} {i k : Nat} (h : ¬ (N 3 k 0 = i ∧ S 9 k 0 = nI 3)) : nI (bq S N i 0 (k + 1) + 2 * bq S N i 1 (k + 1)) = nI (bq S N i 0 k + 2 * bq S N i 1 k) := by
  rw [bq_s, bq_s, if_neg (fun q => h ⟨q.1, q.2.2⟩), if_neg (fun q => h ⟨q.1, q.2.2⟩)]
theorem or_bits : ∀ p0 p1 o : Fin 2, nI (p0.val + 2 * p1.val) ||| (nI 1 <<< (nI o.val &&& 31)) = nI ((if o.val = 0 then 1 else p0.val) + 2 * (if o.val = 1 then 1 else p1.val)) := by decide +kernel
theorem bq_yes {S : SS} {N : NN} {i k o : Nat} (h1 : N 3 k 0 = i) (h3 : S 9 k 0 = nI 3) (ho : N 4 (N 3 k 1) 0 < 2) (e : o = N 4 (N 3 k 1) 0) : nI (bq S N i 0 (k + 1) + 2 * bq S N i 1 (k + 1)) = nI (bq S N i 0 k + 2 * bq S N i 1 k) ||| (nI 1 <<< (nI o &&& 31)) := by
  have l0 := bq_le S N i 0 k
  have l1 := bq_le S N i 1 k
  have z := or_bits ⟨bq S N i 0 k, by omega⟩ ⟨bq S N i 1 k, by omega⟩ ⟨o, by omega⟩
  refine Eq.trans ?_ z.symm
  rw [bq_s, bq_s, ← e]
  refine congrArg nI ?_
  rcases (show o = 0 ∨ o = 1 by omega) with q | q
  · rw [if_pos ⟨h1, q, h3⟩, if_neg (fun z => absurd (q.symm.trans z.2.1) (by decide)), if_pos q, if_neg (c := o = 1) (by omega)]
  · rw [if_neg (fun z => absurd (q.symm.trans z.2.1) (by decide)), if_pos ⟨h1, q, h3⟩, if_neg (c := o = 0) (by omega), if_pos q]
theorem sh_bits : ∀ p0 p1 o : Fin 2, (nI (p0.val + 2 * p1.val) >>> (nI (1 - o.val) &&& 31)) &&& nI 1 = nI (if o.val = 0 then p1.val else p0.val) := by decide +kernel
theorem sh_bit {p0 p1 o : Nat} (h0 : p0 ≤ 1) (h1 : p1 ≤ 1) (ho : o < 2) : (nI (p0 + 2 * p1) >>> (nI (1 - o) &&& 31)) &&& nI 1 = nI (if o = 0 then p1 else p0) := sh_bits ⟨p0, by omega⟩ ⟨p1, by omega⟩ ⟨o, ho⟩
theorem br_if (S : SS) (N : NN) (i : Nat) {o : Nat} (ho : o < 2) : (if o = 0 then br S N i 1 else br S N i 0) = br S N i (1 - o) := by
  rcases (show o = 0 ∨ o = 1 by omega) with rfl | rfl <;> rfl

set_option maxHeartbeats 8000000 in
set_option maxRecDepth 100000 in
/-- the sides with a breach -/
theorem qL_breached (l : Launch) (dC : Nat → ClassId) (dI : Nat → Nat → Nat) (cy : Nat → ClassId) (X : va_W) (ab : Nat → Nat) (S : SS) (N : NN) (Y : Nat → Nat → Nat) (t : Nat → Int32) (D : Int32) (a b : Nat) (sz : Nat) (i : Nat) (hR : RZ S N Y t D a b) (hN : okS N) (hi : i < 10) : Met l yL_breached wsL_breached ({ frames := 0, cells := 0, slots := 0, locals := 0 }) (va_Pc [.ref ((ab 5)), .ref ((ab 7)), .int (nI i)] (wPre (dC, dI) (tyL cy) (X ++ yw ab cy Y t D a b) sz)) (QI (dC, dI) (tyL cy) (fun (r : Int32) (_ : Unit) => r = nI (br S N i 0 + 2 * br S N i 1)) (fun _ => X ++ yw ab cy Y t D a b) (va_A (X ++ yw ab cy Y t D a b) sz)) 0 0 (va_A (X ++ yw ab cy Y t D a b) sz) := by
  refine en (cc := cL_breached) (maxL := 5) (ret := (some .int)) (own := RL) (lv := [(0, .ref ((ab 5))), (1, .ref ((ab 7))), (2, .int (nI i))]) (by decide) rfl rfl (Nat.le_of_ble_eq_true rfl) rfl ?_
  intro p e s m below meth c ls A H locs hx hb hr hts hown hlocks hml hin hsz hK hP hD hS hA hl
  generalize hQQ : MQ below _ _ s _ _ A = QQ
  have hYb : zY Y := hR.2.2.2.2.2.2.2
  obtain ⟨hD0, hb1, hb5, -⟩ := hR.2.2.2.2.2.2.1
  have hb60 := rz_60 hR hN
  have h10 := hN.2.2.2.1
  refine lv_iconst (v := nI 0) hx hb dL_breached_0 (by decide) ?_
  refine lv_istore_n (lv' := [(3, .int (nI 0)), (0, .ref ((ab 5))), (1, .ref ((ab 7))), (2, .int (nI i))]) hx hb dL_breached_1 rfl hl (by decide) rfl (fun ls hl => ?_)
  refine lv_iconst (v := nI 0) hx hb dL_breached_2 (by decide) ?_
  refine lv_istore (lv' := [(4, .int (nI 0)), (3, .int (nI 0)), (0, .ref ((ab 5))), (1, .ref ((ab 7))), (2, .int (nI i))]) hx hb dL_breached_3 hl (by decide) rfl (fun ls hl => ?_)
  have hl_br : ∀ (k9 k : Nat), b - k = k9 → k ≤ b → ∀ (H : Heap) (locs : List Loc) (ls : Array Slot), va_P (dC, dI) vwCl (X ++ yw ab cy Y t D a b) H → va_D A (X ++ yw ab cy Y t D a b) → va_S A s.heap H locs → lv_has ls 5 [(0, .ref ((ab 5))), (1, .ref ((ab 7))), (2, .int (nI i)), (3, .int (nI (bq S N i 0 k + 2 * bq S N i 1 k))), (4, .int (nI k))] → W p l e ({ frames := 0, cells := 0, slots := 0, locals := 0 }) s m (([.ref ((ab 5)), .ref ((ab 7)), .int (nI i)] : List Value).toArray) below meth c H locs 0 0 QQ (F0 m 5 ls []) := by
    intro k9
    induction k9 using Nat.strongRecOn with
    | _ k9 ih_br =>
      intro k  hk9 hle9  H locs ls hP hD hS hl
      refine lv_iload hx hb dL_breached_5 (lv_at hl 4 rfl) ?_
      refine lv_aload_n hx hb dL_breached_7 rfl (lv_at hl 1 rfl) ?_
      refine lv_iconst (v := nI 2) hx hb dL_breached_8 (by decide) ?_
      refine x_iald (f := gf D a b) hx hb hK hP (_ + 7) 0 (app_r rfl) rfl (t := 2) (by decide) (by decide) dL_breached_9 ?_
      refine to_i (y := nI b) rfl ?_
      refine n_ge (tgt := 56) hx hb dL_breached_10 (by decide) (by omega) (by omega) (fun c_1 => ?_) (fun c_1 => ?_)
      · obtain rfl : k = b := by omega
        refine lv_iload_n hx hb dL_breached_56 rfl (lv_at hl 3 rfl) ?_
        rw [← hQQ]; exact end_i (u := ()) hx hb hr hlocks dL_breached_57 hK hP hD hS (by rw [hb5]; rfl) (Nat.le_of_ble_eq_true rfl) (Nat.le_of_ble_eq_true rfl)
      · obtain ⟨st, x2, x3, k1, k2, k3, k4, k5, k6, k7, k8, k9, k10⟩ := rz_d hR hN (j := k) (by omega)
        refine lv_aload_n hx hb dL_breached_13 rfl (lv_at hl 0 rfl) ?_
        refine lv_iload hx hb dL_breached_14 (lv_at hl 4 rfl) ?_
        refine x_iald (f := fun j => nI (Y 5 j)) hx hb hK hP (_ + 5) 0 (app_r rfl) rfl (t := k) (by omega) (by decide) dL_breached_16 ?_
        refine to_i (y := nI (Y 5 k)) rfl ?_
        refine lv_bipush (v := nI 15) hx hb dL_breached_17 (by decide) ?_
        refine lv_iand hx hb dL_breached_19 ?_
        refine to_i (y := nI ((Y 5 k) % 16)) (pk_andN (by have := hYb 5 k; omega) 4 (by decide)) ?_
        refine to_i (y := nI (N 3 k 0)) (congrArg nI (by omega)) ?_
        refine lv_iload_n hx hb dL_breached_20 rfl (lv_at hl 2 rfl) ?_
        refine n_ne (tgt := 50) hx hb dL_breached_21 (by decide) (by omega) (by omega) (fun c_2 => ?_) (fun c_2 => ?_)
        · refine lv_iinc (v := nI (k + 1)) (lv' := [(4, .int (nI (k + 1))), (0, .ref ((ab 5))), (1, .ref ((ab 7))), (2, .int (nI i)), (3, .int (nI (bq S N i 0 k + 2 * bq S N i 1 k)))]) hx hb dL_breached_50 hl (k := 4) rfl (by rw [show Int32.ofInt 1 = 1 from rfl]; exact nI_1 _) (by decide) rfl (fun ls hl => ?_)
          refine lv_goto (tgt := 5) hx hb dL_breached_53 (by decide) ?_
          have e9 : nI (bq S N i 0 (k + 1) + 2 * bq S N i 1 (k + 1)) = nI (bq S N i 0 k + 2 * bq S N i 1 k) := bq_no (fun q => by
            have q2 := (nI_inj (by omega) (by decide)).mp (k4.symm.trans q.2)
            omega)
          exact ih_br (b - (k + 1)) (by omega) (k + 1)  rfl (by omega)  H locs ls hP hD hS (by rw [e9]; exact lv_sub hl [1, 2, 3, 4, 0] rfl)
        · refine lv_aload_n hx hb dL_breached_24 rfl (lv_at hl 0 rfl) ?_
          refine lv_iload hx hb dL_breached_25 (lv_at hl 4 rfl) ?_
          refine x_iald (f := fun j => nI (Y 5 j)) hx hb hK hP (_ + 5) 0 (app_r rfl) rfl (t := k) (by omega) (by decide) dL_breached_27 ?_
          refine to_i (y := nI (Y 5 k)) rfl ?_
          refine lv_iconst (v := nI 5) hx hb dL_breached_28 (by decide) ?_
          refine lv_ishr hx hb dL_breached_29 ?_
          refine to_i (y := nI ((Y 5 k) / 32)) (pk_shrN (by have := hYb 5 k; omega) _ 5 (by decide)) ?_
          refine lv_bipush (v := nI 7) hx hb dL_breached_30 (by decide) ?_
          refine lv_iand hx hb dL_breached_32 ?_
          refine to_i (y := nI (((Y 5 k) / 32) % 8)) (pk_andN (by have := hYb 5 k; omega) 3 (by decide)) ?_
          refine to_i (y := nI st) (congrArg nI (by omega)) ?_
          refine lv_iconst (v := nI 3) hx hb dL_breached_33 (by decide) ?_
          refine n_ne (tgt := 50) hx hb dL_breached_34 (by decide) (by omega) (by omega) (fun c_3 => ?_) (fun c_3 => ?_)
          · refine lv_iinc (v := nI (k + 1)) (lv' := [(4, .int (nI (k + 1))), (0, .ref ((ab 5))), (1, .ref ((ab 7))), (2, .int (nI i)), (3, .int (nI (bq S N i 0 k + 2 * bq S N i 1 k)))]) hx hb dL_breached_50 hl (k := 4) rfl (by rw [show Int32.ofInt 1 = 1 from rfl]; exact nI_1 _) (by decide) rfl (fun ls hl => ?_)
            refine lv_goto (tgt := 5) hx hb dL_breached_53 (by decide) ?_
            have e9 : nI (bq S N i 0 (k + 1) + 2 * bq S N i 1 (k + 1)) = nI (bq S N i 0 k + 2 * bq S N i 1 k) := bq_no (fun q => by
              have q2 := (nI_inj (by omega) (by decide)).mp (k4.symm.trans q.2)
              omega)
            exact ih_br (b - (k + 1)) (by omega) (k + 1)  rfl (by omega)  H locs ls hP hD hS (by rw [e9]; exact lv_sub hl [1, 2, 3, 4, 0] rfl)
          · refine lv_iload_n hx hb dL_breached_37 rfl (lv_at hl 3 rfl) ?_
            refine lv_iconst (v := nI 1) hx hb dL_breached_38 (by decide) ?_
            refine lv_aload_n hx hb dL_breached_39 rfl (lv_at hl 0 rfl) ?_
            refine lv_iload hx hb dL_breached_40 (lv_at hl 4 rfl) ?_
            refine x_iald (f := fun j => nI (Y 5 j)) hx hb hK hP (_ + 5) 0 (app_r rfl) rfl (t := k) (by omega) (by decide) dL_breached_42 ?_
            refine to_i (y := nI (Y 5 k)) rfl ?_
            refine lv_iconst (v := nI 4) hx hb dL_breached_43 (by decide) ?_
            refine lv_ishr hx hb dL_breached_44 ?_
            refine to_i (y := nI ((Y 5 k) / 16)) (pk_shrN (by have := hYb 5 k; omega) _ 4 (by decide)) ?_
            refine lv_iconst (v := nI 1) hx hb dL_breached_45 (by decide) ?_
            refine lv_iand hx hb dL_breached_46 ?_
            refine to_i (y := nI (((Y 5 k) / 16) % 2)) (pk_andN (by have := hYb 5 k; omega) 1 (by decide)) ?_
            refine to_i (y := nI (N 4 (N 3 k 1) 0)) (congrArg nI (by omega)) ?_
            refine lv_ishl hx hb dL_breached_47 ?_
            refine lv_ior hx hb dL_breached_48 ?_
            refine lv_istore_n (lv' := [(3, .int ((nI (bq S N i 0 k + 2 * bq S N i 1 k)) ||| ((nI 1) <<< ((nI (N 4 (N 3 k 1) 0)) &&& 31)))), (0, .ref ((ab 5))), (1, .ref ((ab 7))), (2, .int (nI i)), (4, .int (nI k))]) hx hb dL_breached_49 rfl hl (by decide) rfl (fun ls hl => ?_)
            refine lv_iinc (v := nI (k + 1)) (lv' := [(4, .int (nI (k + 1))), (3, .int ((nI (bq S N i 0 k + 2 * bq S N i 1 k)) ||| ((nI 1) <<< ((nI (N 4 (N 3 k 1) 0)) &&& 31)))), (0, .ref ((ab 5))), (1, .ref ((ab 7))), (2, .int (nI i))]) hx hb dL_breached_50 hl (k := 4) rfl (by rw [show Int32.ofInt 1 = 1 from rfl]; exact nI_1 _) (by decide) rfl (fun ls hl => ?_)
            refine lv_goto (tgt := 5) hx hb dL_breached_53 (by decide) ?_
            have e9 : nI (bq S N i 0 (k + 1) + 2 * bq S N i 1 (k + 1)) = (nI (bq S N i 0 k + 2 * bq S N i 1 k)) ||| ((nI 1) <<< ((nI (N 4 (N 3 k 1) 0)) &&& 31)) := bq_yes (by omega) (by rw [k4]; exact congrArg nI (by omega)) k9 rfl
            exact ih_br (b - (k + 1)) (by omega) (k + 1)  rfl (by omega)  H locs ls hP hD hS (by rw [e9]; exact lv_sub hl [2, 3, 4, 1, 0] rfl)
  exact hl_br b 0  rfl (Nat.zero_le _)  H locs ls hP hD hS (lv_sub hl [2, 3, 4, 1, 0] rfl)

set_option maxHeartbeats 8000000 in
set_option maxRecDepth 100000 in
/-- is a duty held up -/
theorem qL_isSuspended (l : Launch) (dC : Nat → ClassId) (dI : Nat → Nat → Nat) (cy : Nat → ClassId) (X : va_W) (ab : Nat → Nat) (S : SS) (N : NN) (Y : Nat → Nat → Nat) (t : Nat → Int32) (D : Int32) (a b : Nat) (sz : Nat) (k : Nat) (hR : RZ S N Y t D a b) (hN : okS N) (hk : k < N 5 0 0) : Met l yL_isSuspended wsL_isSuspended ({ frames := 1, cells := 0, slots := 0, locals := 24 }) (va_Pc [.ref ((ab 5)), .ref ((ab 7)), .int (nI k)] (wPre (dC, dI) (tyL cy) (X ++ yw ab cy Y t D a b) sz)) (QI (dC, dI) (tyL cy) (fun (r : Int32) (_ : Unit) => r = bi (isHeld S N k)) (fun _ => X ++ yw ab cy Y t D a b) (va_A (X ++ yw ab cy Y t D a b) sz)) 0 0 (va_A (X ++ yw ab cy Y t D a b) sz) := by
  refine en (cc := cL_isSuspended) (maxL := 4) (ret := (some .boolean)) (own := RL) (lv := [(0, .ref ((ab 5))), (1, .ref ((ab 7))), (2, .int (nI k))]) (by decide) rfl rfl (Nat.le_of_ble_eq_true rfl) rfl ?_
  intro p e s m below meth c ls A H locs hx hb hr hts hown hlocks hml hin hsz hK hP hD hS hA hl
  generalize hQQ : MQ below _ _ s _ _ A = QQ
  have hYb : zY Y := hR.2.2.2.2.2.2.2
  obtain ⟨hD0, hb1, hb5, -⟩ := hR.2.2.2.2.2.2.1
  have hb60 := rz_60 hR hN
  have h10 := hN.2.2.2.1
  obtain ⟨st, x2, x3, k1, k2, k3, k4, k5, k6, k7, k8, k9, k10⟩ := rz_d hR hN (j := k) (by omega)
  refine lv_aload_n hx hb dL_isSuspended_0 rfl (lv_at hl 0 rfl) ?_
  refine lv_iload_n hx hb dL_isSuspended_1 rfl (lv_at hl 2 rfl) ?_
  refine x_iald (f := fun j => nI (Y 5 j)) hx hb hK hP (_ + 5) 0 (app_r rfl) rfl (t := k) (by omega) (by decide) dL_isSuspended_2 ?_
  refine to_i (y := nI (Y 5 k)) rfl ?_
  refine lv_iconst (v := nI 5) hx hb dL_isSuspended_3 (by decide) ?_
  refine lv_ishr hx hb dL_isSuspended_4 ?_
  refine to_i (y := nI ((Y 5 k) / 32)) (pk_shrN (by have := hYb 5 k; omega) _ 5 (by decide)) ?_
  refine lv_bipush (v := nI 7) hx hb dL_isSuspended_5 (by decide) ?_
  refine lv_iand hx hb dL_isSuspended_7 ?_
  refine to_i (y := nI (((Y 5 k) / 32) % 8)) (pk_andN (by have := hYb 5 k; omega) 3 (by decide)) ?_
  refine to_i (y := nI st) (congrArg nI (by omega)) ?_
  refine lv_istore_n (lv' := [(3, .int (nI st)), (0, .ref ((ab 5))), (1, .ref ((ab 7))), (2, .int (nI k))]) hx hb dL_isSuspended_8 rfl hl (by decide) rfl (fun ls hl => ?_)
  refine lv_iload_n hx hb dL_isSuspended_9 rfl (lv_at hl 0 rfl) ?_
  refine n_if_eq (tgt := 18) hx hb dL_isSuspended_10 (by decide) (by omega) (fun c_1 => ?_) (fun c_1 => ?_)
  · refine lv_aload_n hx hb dL_isSuspended_18 rfl (lv_at hl 1 rfl) ?_
    refine lv_aload_n hx hb dL_isSuspended_19 rfl (lv_at hl 2 rfl) ?_
    refine lv_aload_n hx hb dL_isSuspended_20 rfl (lv_at hl 1 rfl) ?_
    refine lv_iload_n hx hb dL_isSuspended_21 rfl (lv_at hl 3 rfl) ?_
    refine x_iald (f := fun j => nI (Y 5 j)) hx hb hK hP (_ + 5) 0 (app_r rfl) rfl (t := k) (by omega) (by decide) dL_isSuspended_22 ?_
    refine to_i (y := nI (Y 5 k)) rfl ?_
    refine lv_bipush (v := nI 15) hx hb dL_isSuspended_23 (by decide) ?_
    refine lv_iand hx hb dL_isSuspended_25 ?_
    refine to_i (y := nI ((Y 5 k) % 16)) (pk_andN (by have := hYb 5 k; omega) 4 (by decide)) ?_
    refine to_i (y := nI (N 3 k 0)) (congrArg nI (by omega)) ?_
    refine call_i (va_runS (As := [.ref ((ab 5)), .ref ((ab 7)), .int (nI (N 3 k 0))]) (rest := []) ⟨hx, hb, hml, hown, hts⟩ (qL_breached l dC dI cy X ab S N Y t D a b H.size (N 3 k 0) hR hN (by omega)) (va_cwS 3 hts gL_isSuspended_L_breached rfl rfl rfl (by decide +kernel) ⟨Nat.le_of_ble_eq_true rfl, Nat.le_of_ble_eq_true rfl⟩) (preS hK hP hD) rfl rfl hl.1 rfl (lv_room (Nat.le_of_ble_eq_true rfl)) dL_isSuspended_26 ⟨Nat.le_of_ble_eq_true rfl, Nat.le_of_ble_eq_true rfl⟩) hD hS hA (fun rr uu H locs hw hP hD hS => ?_)
    obtain rfl := hw
    have hP : va_P (dC, dI) vwCl (X ++ yw ab cy Y t D a b) H := hP
    have hD : va_D A (X ++ yw ab cy Y t D a b) := hD
    refine lv_iconst (v := nI 1) hx hb dL_isSuspended_29 (by decide) ?_
    refine lv_aload_n hx hb dL_isSuspended_30 rfl (lv_at hl 1 rfl) ?_
    refine lv_iload_n hx hb dL_isSuspended_31 rfl (lv_at hl 3 rfl) ?_
    refine x_iald (f := fun j => nI (Y 5 j)) hx hb hK hP (_ + 5) 0 (app_r rfl) rfl (t := k) (by omega) (by decide) dL_isSuspended_32 ?_
    refine to_i (y := nI (Y 5 k)) rfl ?_
    refine lv_iconst (v := nI 4) hx hb dL_isSuspended_33 (by decide) ?_
    refine lv_ishr hx hb dL_isSuspended_34 ?_
    refine to_i (y := nI ((Y 5 k) / 16)) (pk_shrN (by have := hYb 5 k; omega) _ 4 (by decide)) ?_
    refine lv_iconst (v := nI 1) hx hb dL_isSuspended_35 (by decide) ?_
    refine lv_iand hx hb dL_isSuspended_36 ?_
    refine to_i (y := nI (((Y 5 k) / 16) % 2)) (pk_andN (by have := hYb 5 k; omega) 1 (by decide)) ?_
    refine to_i (y := nI (N 4 (N 3 k 1) 0)) (congrArg nI (by omega)) ?_
    refine lv_isub hx hb dL_isSuspended_37 ?_
    refine to_i (y := nI (1 - (N 4 (N 3 k 1) 0))) (pk_sub (by omega)) ?_
    refine lv_ishr hx hb dL_isSuspended_38 ?_
    refine lv_iconst (v := nI 1) hx hb dL_isSuspended_39 (by decide) ?_
    refine lv_iand hx hb dL_isSuspended_40 ?_
    refine to_i (y := nI (if N 4 (N 3 k 1) 0 = 0 then br S N (N 3 k 0) 1 else br S N (N 3 k 0) 0)) (sh_bit (br_le _ _ _ _) (br_le _ _ _ _) (by omega)) ?_
    have e_q_2 : (if N 4 (N 3 k 1) 0 = 0 then br S N (N 3 k 0) 1 else br S N (N 3 k 0) 0) = br S N (N 3 k 0) (1 - (N 4 (N 3 k 1) 0)) := br_if _ _ _ (by omega)
    refine to_i (y := nI (br S N (N 3 k 0) (1 - (N 4 (N 3 k 1) 0)))) (congrArg nI e_q_2) ?_
    have l_q_2 := br_le S N (N 3 k 0) (1 - (N 4 (N 3 k 1) 0))
    refine lv_iconst (v := nI 1) hx hb dL_isSuspended_41 (by decide) ?_
    refine n_ne (tgt := 49) hx hb dL_isSuspended_42 (by decide) (by omega) (by omega) (fun c_3 => ?_) (fun c_3 => ?_)
    · refine lv_iconst (v := nI 0) hx hb dL_isSuspended_49 (by decide) ?_
      have hno : ¬ isHeld S N k := fun q => by have q2 := (br_held hR hN (by omega) k4 k1).mp q; omega
      rw [← hQQ]; exact end_z (u := ()) hx hb hr hlocks dL_isSuspended_50 hK hP hD hS (by rfl) (bi_f hno).symm (Nat.le_of_ble_eq_true rfl) (Nat.le_of_ble_eq_true rfl)
    · refine lv_iconst (v := nI 1) hx hb dL_isSuspended_45 (by decide) ?_
      refine lv_goto (tgt := 50) hx hb dL_isSuspended_46 (by decide) ?_
      rw [← hQQ]; exact end_z (u := ()) hx hb hr hlocks dL_isSuspended_50 hK hP hD hS (by rfl) (bi_t (P := isHeld S N k) ((br_held hR hN (by omega) k4 k1).mpr ⟨by omega, by omega⟩)).symm (Nat.le_of_ble_eq_true rfl) (Nat.le_of_ble_eq_true rfl)
  · refine lv_iload_n hx hb dL_isSuspended_13 rfl (lv_at hl 0 rfl) ?_
    refine lv_iconst (v := nI 2) hx hb dL_isSuspended_14 (by decide) ?_
    refine n_ne (tgt := 49) hx hb dL_isSuspended_15 (by decide) (by omega) (by omega) (fun c_4 => ?_) (fun c_4 => ?_)
    · refine lv_iconst (v := nI 0) hx hb dL_isSuspended_49 (by decide) ?_
      have hno : ¬ isHeld S N k := fun q => by have q2 := (br_held hR hN (by omega) k4 k1).mp q; omega
      rw [← hQQ]; exact end_z (u := ()) hx hb hr hlocks dL_isSuspended_50 hK hP hD hS (by rfl) (bi_f hno).symm (Nat.le_of_ble_eq_true rfl) (Nat.le_of_ble_eq_true rfl)
    · refine lv_aload_n hx hb dL_isSuspended_18 rfl (lv_at hl 1 rfl) ?_
      refine lv_aload_n hx hb dL_isSuspended_19 rfl (lv_at hl 2 rfl) ?_
      refine lv_aload_n hx hb dL_isSuspended_20 rfl (lv_at hl 1 rfl) ?_
      refine lv_iload_n hx hb dL_isSuspended_21 rfl (lv_at hl 3 rfl) ?_
      refine x_iald (f := fun j => nI (Y 5 j)) hx hb hK hP (_ + 5) 0 (app_r rfl) rfl (t := k) (by omega) (by decide) dL_isSuspended_22 ?_
      refine to_i (y := nI (Y 5 k)) rfl ?_
      refine lv_bipush (v := nI 15) hx hb dL_isSuspended_23 (by decide) ?_
      refine lv_iand hx hb dL_isSuspended_25 ?_
      refine to_i (y := nI ((Y 5 k) % 16)) (pk_andN (by have := hYb 5 k; omega) 4 (by decide)) ?_
      refine to_i (y := nI (N 3 k 0)) (congrArg nI (by omega)) ?_
      refine call_i (va_runS (As := [.ref ((ab 5)), .ref ((ab 7)), .int (nI (N 3 k 0))]) (rest := []) ⟨hx, hb, hml, hown, hts⟩ (qL_breached l dC dI cy X ab S N Y t D a b H.size (N 3 k 0) hR hN (by omega)) (va_cwS 3 hts gL_isSuspended_L_breached rfl rfl rfl (by decide +kernel) ⟨Nat.le_of_ble_eq_true rfl, Nat.le_of_ble_eq_true rfl⟩) (preS hK hP hD) rfl rfl hl.1 rfl (lv_room (Nat.le_of_ble_eq_true rfl)) dL_isSuspended_26 ⟨Nat.le_of_ble_eq_true rfl, Nat.le_of_ble_eq_true rfl⟩) hD hS hA (fun rr uu H locs hw hP hD hS => ?_)
      obtain rfl := hw
      have hP : va_P (dC, dI) vwCl (X ++ yw ab cy Y t D a b) H := hP
      have hD : va_D A (X ++ yw ab cy Y t D a b) := hD
      refine lv_iconst (v := nI 1) hx hb dL_isSuspended_29 (by decide) ?_
      refine lv_aload_n hx hb dL_isSuspended_30 rfl (lv_at hl 1 rfl) ?_
      refine lv_iload_n hx hb dL_isSuspended_31 rfl (lv_at hl 3 rfl) ?_
      refine x_iald (f := fun j => nI (Y 5 j)) hx hb hK hP (_ + 5) 0 (app_r rfl) rfl (t := k) (by omega) (by decide) dL_isSuspended_32 ?_
      refine to_i (y := nI (Y 5 k)) rfl ?_
      refine lv_iconst (v := nI 4) hx hb dL_isSuspended_33 (by decide) ?_
      refine lv_ishr hx hb dL_isSuspended_34 ?_
      refine to_i (y := nI ((Y 5 k) / 16)) (pk_shrN (by have := hYb 5 k; omega) _ 4 (by decide)) ?_
      refine lv_iconst (v := nI 1) hx hb dL_isSuspended_35 (by decide) ?_
      refine lv_iand hx hb dL_isSuspended_36 ?_
      refine to_i (y := nI (((Y 5 k) / 16) % 2)) (pk_andN (by have := hYb 5 k; omega) 1 (by decide)) ?_
      refine to_i (y := nI (N 4 (N 3 k 1) 0)) (congrArg nI (by omega)) ?_
      refine lv_isub hx hb dL_isSuspended_37 ?_
      refine to_i (y := nI (1 - (N 4 (N 3 k 1) 0))) (pk_sub (by omega)) ?_
      refine lv_ishr hx hb dL_isSuspended_38 ?_
      refine lv_iconst (v := nI 1) hx hb dL_isSuspended_39 (by decide) ?_
      refine lv_iand hx hb dL_isSuspended_40 ?_
      refine to_i (y := nI (if N 4 (N 3 k 1) 0 = 0 then br S N (N 3 k 0) 1 else br S N (N 3 k 0) 0)) (sh_bit (br_le _ _ _ _) (br_le _ _ _ _) (by omega)) ?_
      have e_q_5 : (if N 4 (N 3 k 1) 0 = 0 then br S N (N 3 k 0) 1 else br S N (N 3 k 0) 0) = br S N (N 3 k 0) (1 - (N 4 (N 3 k 1) 0)) := br_if _ _ _ (by omega)
      refine to_i (y := nI (br S N (N 3 k 0) (1 - (N 4 (N 3 k 1) 0)))) (congrArg nI e_q_5) ?_
      have l_q_5 := br_le S N (N 3 k 0) (1 - (N 4 (N 3 k 1) 0))
      refine lv_iconst (v := nI 1) hx hb dL_isSuspended_41 (by decide) ?_
      refine n_ne (tgt := 49) hx hb dL_isSuspended_42 (by decide) (by omega) (by omega) (fun c_6 => ?_) (fun c_6 => ?_)
      · refine lv_iconst (v := nI 0) hx hb dL_isSuspended_49 (by decide) ?_
        have hno : ¬ isHeld S N k := fun q => by have q2 := (br_held hR hN (by omega) k4 k1).mp q; omega
        rw [← hQQ]; exact end_z (u := ()) hx hb hr hlocks dL_isSuspended_50 hK hP hD hS (by rfl) (bi_f hno).symm (Nat.le_of_ble_eq_true rfl) (Nat.le_of_ble_eq_true rfl)
      · refine lv_iconst (v := nI 1) hx hb dL_isSuspended_45 (by decide) ?_
        refine lv_goto (tgt := 50) hx hb dL_isSuspended_46 (by decide) ?_
        rw [← hQQ]; exact end_z (u := ()) hx hb hr hlocks dL_isSuspended_50 hK hP hD hS (by rfl) (bi_t (P := isHeld S N k) ((br_held hR hN (by omega) k4 k1).mpr ⟨by omega, by omega⟩)).symm (Nat.le_of_ble_eq_true rfl) (Nat.le_of_ble_eq_true rfl)

/-! reason -/
theorem zi_iff {S : SS} {N : NN} {Y : Nat → Nat → Nat} {t : Nat → Int32} {D : Int32} {a b i c : Nat} (h : RZ S N Y t D a b) (hi : i < 10) (hc : c < 6) : Y 3 (6 * i + c) = 0 ↔ N 2 i c = 0 := by
  obtain ⟨h0, h1⟩ := (h.2.2.1 i hi).1 c hc
  constructor
  · intro q
    refine Classical.byContradiction (fun q2 => ?_)
    obtain ⟨-, -, -, e⟩ := h1 q2
    omega
  · exact h0
theorem zi_at {S : SS} {N : NN} {Y : Nat → Nat → Nat} {t : Nat → Int32} {D : Int32} {a b i c : Nat} (h : RZ S N Y t D a b) (hN : okS N) (hi : i < N 0 0 0) (hc : c < 6) (h0 : ¬ N 2 i c = 0) : ∃ m0 m1 : Nat, m0 ≤ 2 ∧ m1 ≤ 2 ∧ (m0 = 1 ∨ m1 = 1) ∧ S 4 i c = nI m0 ∧ S 5 i c = nI m1 ∧ Y 3 (6 * i + c) = N 2 i c + 16 * m0 + 64 * m1 ∧ N 2 i c ≤ N 1 0 c ∧ N 1 0 c ≤ 9 := by
  have h10 := hN.2.2.2.1
  obtain ⟨e0, e1, e2, e3⟩ := ((h.2.2.1 i (by omega)).1 c hc).2 h0
  refine ⟨_, _, e0.2, e1.2, ?_, e0.1, e1.1, e3, hN.1 i c hi (by omega), hN.2.1 c (by omega)⟩
  exact e2.imp (isN_eq e0 (by decide) (by decide)).mp (isN_eq e1 (by decide) (by decide)).mp
theorem hi6 {S : SS} {N : NN} {Y : Nat → Nat → Nat} {t : Nat → Int32} {D : Int32} {a b i : Nat} (h : RZ S N Y t D a b) (hN : okS N) (hi : i < N 0 0 0) : ∀ c, 6 ≤ c → c < 10 → N 2 i c = 0 := fun c h1 h2 => by
  have e1 := hN.1 i c hi h2
  have e2 := h.2.1 c h1 h2
  omega
theorem one_sh : ∀ j : Fin 6, nI 1 <<< (nI j.val &&& 31) = nI (2 ^ j.val) := by decide +kernel
theorem items_N (it : Nat → Nat) : ∀ j, j ≤ 6 → ∃ m, m < 64 ∧ K_items it j = nI m
  | 0, _ => ⟨0, by decide, rfl⟩
  | j + 1, hj => by
    obtain ⟨m, h1, h2⟩ := items_N it j (by omega)
    simp only [K_items]
    split
    · exact ⟨m, h1, h2⟩
    · have e := one_sh ⟨j, by omega⟩
      refine ⟨m ||| 2 ^ j, Nat.or_lt_two_pow (n := 6) h1 (Nat.pow_lt_pow_right (by decide) (by omega)), ?_⟩
      rw [h2, show nI 1 <<< (nI j &&& 31) = nI (2 ^ j) from e, nI_or]
theorem bit2 : ∀ x : Fin 64, ∀ c : Fin 6, ((nI x.val >>> (nI c.val &&& 31)) &&& nI 1 = 0 ↔ nI x.val &&& (nI 1 <<< (nI c.val &&& 31)) = 0) := by decide +kernel
theorem it_bit (it : Nat → Nat) {c : Nat} (hc : c < 6) : (K_items it 6 >>> (nI c &&& 31)) &&& nI 1 = 0 ↔ it c = 0 := by
  obtain ⟨m, h1, h2⟩ := items_N it 6 (Nat.le_refl _)
  have z := bit2 ⟨m, h1⟩ ⟨c, hc⟩
  have k := K_bit it c (by omega) 6 (by decide)
  rw [h2] at k ⊢
  exact z.trans (k.trans ⟨fun q => q hc, fun q _ => q⟩)
theorem un_s (it : Nat → Nat) (r : Nat → Int32) {c : Nat} (hc : c < 6) : K_union (K_items it 6) r (c + 1) = if it c = 0 then K_union (K_items it 6) r c else K_union (K_items it 6) r c ||| r c := by
  have k := K_bit it c (by omega) 6 (by decide)
  simp only [K_union]
  by_cases h : it c = 0
  · rw [if_pos (k.mpr (fun _ => h)), if_pos h]
  · rw [if_neg (fun q => h (k.mp q hc)), if_neg h]
theorem un_0 (x : Int32) (r : Nat → Int32) (y : Int32) : K_union x r 0 &&& y = 0 := by
  show nI 0 &&& y = 0
  rw [nI_00, Int32.zero_and]
theorem lk_1 {K r x : Int32} (h : ¬ r &&& x = 0) : bi (¬ (K ||| r) &&& x = 0) = bi (¬ K &&& x = 0) ||| nI 1 := by
  rw [bi_t (P := ¬ (K ||| r) &&& x = 0) (fun q => h ((or_and0 _ _ _).mp q).2)]
  by_cases q : ¬ K &&& x = 0
  · rw [bi_t q]; decide
  · rw [bi_f q]; decide
theorem lk_0 {K r x : Int32} (h : r &&& x = 0) : bi (¬ (K ||| r) &&& x = 0) = bi (¬ K &&& x = 0) ||| nI 0 := by
  rw [bi_congr (P := ¬ (K ||| r) &&& x = 0) (Q := ¬ K &&& x = 0) (not_congr ((or_and0 _ _ _).trans ⟨fun q => q.1, fun q => ⟨q, h⟩⟩))]
  by_cases q : ¬ K &&& x = 0
  · rw [bi_t q]; decide
  · rw [bi_f q]; decide
theorem ag_1 {it : Nat → Nat} {p q : Nat → Int32} {c : Nat} (h0 : ¬ it c = 0) (h1 : p c = nI 1) (h2 : q c = nI 1) : bi (K_agr it p q (c + 1) = true) = bi (K_agr it p q c = true) &&& nI 1 := by
  rw [bi_congr (P := K_agr it p q (c + 1) = true) (Q := K_agr it p q c = true) (by simp [K_agr, h1, h2])]
  by_cases z : K_agr it p q c = true
  · rw [bi_t z]; decide
  · rw [bi_f z]; decide
theorem ag_0 {it : Nat → Nat} {p q : Nat → Int32} {c : Nat} (h0 : ¬ it c = 0) (h1 : ¬ (p c = nI 1 ∧ q c = nI 1)) : bi (K_agr it p q (c + 1) = true) = bi (K_agr it p q c = true) &&& nI 0 := by
  rw [bi_f (P := K_agr it p q (c + 1) = true) (by simp only [K_agr, Bool.and_eq_true, Bool.or_eq_true, decide_eq_true_eq]; exact fun z => z.2.elim h0 h1)]
  by_cases z : K_agr it p q c = true
  · rw [bi_t z]; decide
  · rw [bi_f z]; decide
theorem ag_z {it : Nat → Nat} {p q : Nat → Int32} {c : Nat} (h0 : it c = 0) : bi (K_agr it p q (c + 1) = true) = bi (K_agr it p q c = true) := bi_congr (by simp [K_agr, h0])
theorem obst_at {S : SS} {N : NN} {i : Nat} (h6 : ∀ c, 6 ≤ c → c < 10 → N 2 i c = 0) : K_obst S N i = if isDr S i then
    (if K_items (N 2 i) 6 = 0 then 2 else if K_agr (N 2 i) (S 4 i) (S 5 i) 6 = true then
      (if K_union (K_items (N 2 i) 6) (S 1 0) 6 &&& (K_items (N 2 i) 6 ^^^ (-1)) = 0 then (if K_union (K_items (N 2 i) 6) (S 2 0) 6 &&& K_items (N 2 i) 6 = 0 then 0 else 5) else 4)
     else 3)
  else 1 := by
  have a6 := h6 6 (by decide) (by decide)
  have a7 := h6 7 (by decide) (by decide)
  have a8 := h6 8 (by decide) (by decide)
  have a9 := h6 9 (by decide) (by decide)
  have s : ∀ j, N 2 i j = 0 → K_items (N 2 i) (j + 1) = K_items (N 2 i) j := fun j h => if_pos h
  have e1 : K_items (N 2 i) 10 = K_items (N 2 i) 6 := (s 9 a9).trans ((s 8 a8).trans ((s 7 a7).trans (s 6 a6)))
  have g : ∀ j, N 2 i j = 0 → K_agr (N 2 i) (S 4 i) (S 5 i) (j + 1) = K_agr (N 2 i) (S 4 i) (S 5 i) j := fun j h => by simp [K_agr, h]
  have e2 : K_agr (N 2 i) (S 4 i) (S 5 i) 10 = K_agr (N 2 i) (S 4 i) (S 5 i) 6 := (g 9 a9).trans ((g 8 a8).trans ((g 7 a7).trans (g 6 a6)))
  have u : ∀ (r : Nat → Int32) (j : Nat), j < 10 → N 2 i j = 0 → K_union (K_items (N 2 i) 6) r (j + 1) = K_union (K_items (N 2 i) 6) r j := fun r j hj h => if_pos ((K_bit (N 2 i) j hj 6 (by decide)).mpr (fun _ => h))
  have e3 : ∀ r : Nat → Int32, K_union (K_items (N 2 i) 6) r 10 = K_union (K_items (N 2 i) 6) r 6 := fun r => (u r 9 (by decide) a9).trans ((u r 8 (by decide) a8).trans ((u r 7 (by decide) a7).trans (u r 6 (by decide) a6)))
  unfold K_obst
  rw [e1, e2, e3, e3]

set_option maxHeartbeats 8000000 in
set_option maxRecDepth 100000 in
/-- why a draft cannot be signed -/
theorem qL_reason (l : Launch) (dC : Nat → ClassId) (dI : Nat → Nat → Nat) (cy : Nat → ClassId) (X : va_W) (ab : Nat → Nat) (S : SS) (N : NN) (Y : Nat → Nat → Nat) (t : Nat → Int32) (D : Int32) (a b : Nat) (sz : Nat) (i : Nat) (hR : RZ S N Y t D a b) (hN : okS N) (hi : i < N 0 0 0) : Met l yL_reason wsL_reason ({ frames := 0, cells := 0, slots := 0, locals := 0 }) (va_Pc [.ref ((ab 1)), .ref ((ab 3)), .ref ((ab 4)), .int (nI i)] (wPre (dC, dI) (tyL cy) (X ++ yw ab cy Y t D a b) sz)) (QI (dC, dI) (tyL cy) (fun (r : Int32) (_ : Unit) => r = nI (K_obst S N i)) (fun _ => X ++ yw ab cy Y t D a b) (va_A (X ++ yw ab cy Y t D a b) sz)) 0 0 (va_A (X ++ yw ab cy Y t D a b) sz) := by
  refine en (cc := cL_reason) (maxL := 9) (ret := (some .int)) (own := RL) (lv := [(0, .ref ((ab 1))), (1, .ref ((ab 3))), (2, .ref ((ab 4))), (3, .int (nI i))]) (by decide) rfl rfl (Nat.le_of_ble_eq_true rfl) rfl ?_
  intro p e s m below meth c ls A H locs hx hb hr hts hown hlocks hml hin hsz hK hP hD hS hA hl
  generalize hQQ : MQ below _ _ s _ _ A = QQ
  have hYb : zY Y := hR.2.2.2.2.2.2.2
  obtain ⟨hD0, hb1, hb5, -⟩ := hR.2.2.2.2.2.2.1
  have hb60 := rz_60 hR hN
  have h10 := hN.2.2.2.1
  refine lv_aload_n hx hb dL_reason_0 rfl (lv_at hl 2 rfl) ?_
  refine lv_iload_n hx hb dL_reason_1 rfl (lv_at hl 3 rfl) ?_
  refine x_iald (f := fun j => nI (Y 4 j)) hx hb hK hP (_ + 4) 0 (app_r rfl) rfl (t := i) (by omega) (by decide) dL_reason_2 ?_
  refine to_i (y := nI (Y 4 i)) rfl ?_
  refine lv_iconst (v := nI 4) hx hb dL_reason_3 (by decide) ?_
  refine n_ne (tgt := 9) hx hb dL_reason_4 (by decide) (by have := hYb 4 i; omega) (by omega) (fun c_1 => ?_) (fun c_1 => ?_)
  · refine lv_iconst (v := nI 0) hx hb dL_reason_9 (by decide) ?_
    refine to_i (y := K_items (N 2 i) 0) (rfl) ?_
    refine lv_istore (lv' := [(4, .int (K_items (N 2 i) 0)), (0, .ref ((ab 1))), (1, .ref ((ab 3))), (2, .ref ((ab 4))), (3, .int (nI i))]) hx hb dL_reason_10 hl (by decide) rfl (fun ls hl => ?_)
    refine lv_iconst (v := nI 1) hx hb dL_reason_12 (by decide) ?_
    refine to_i (y := bi (K_agr (N 2 i) (S 4 i) (S 5 i) 0 = true)) ((bi_t rfl).symm) ?_
    refine lv_istore (lv' := [(5, .int (bi (K_agr (N 2 i) (S 4 i) (S 5 i) 0 = true))), (4, .int (K_items (N 2 i) 0)), (0, .ref ((ab 1))), (1, .ref ((ab 3))), (2, .ref ((ab 4))), (3, .int (nI i))]) hx hb dL_reason_13 hl (by decide) rfl (fun ls hl => ?_)
    refine lv_iconst (v := nI 0) hx hb dL_reason_15 (by decide) ?_
    refine lv_istore (lv' := [(6, .int (nI 0)), (5, .int (bi (K_agr (N 2 i) (S 4 i) (S 5 i) 0 = true))), (4, .int (K_items (N 2 i) 0)), (0, .ref ((ab 1))), (1, .ref ((ab 3))), (2, .ref ((ab 4))), (3, .int (nI i))]) hx hb dL_reason_16 hl (by decide) rfl (fun ls hl => ?_)
    have hl_r1 : ∀ (k9 ck : Nat), 6 - ck = k9 → ck ≤ 6 → ∀ (H : Heap) (locs : List Loc) (ls : Array Slot), va_P (dC, dI) vwCl (X ++ yw ab cy Y t D a b) H → va_D A (X ++ yw ab cy Y t D a b) → va_S A s.heap H locs → lv_has ls 9 [(0, .ref ((ab 1))), (1, .ref ((ab 3))), (2, .ref ((ab 4))), (3, .int (nI i)), (4, .int (K_items (N 2 i) ck)), (5, .int (bi (K_agr (N 2 i) (S 4 i) (S 5 i) ck = true))), (6, .int (nI ck))] → W p l e ({ frames := 0, cells := 0, slots := 0, locals := 0 }) s m (([.ref ((ab 1)), .ref ((ab 3)), .ref ((ab 4)), .int (nI i)] : List Value).toArray) below meth c H locs 0 0 QQ (F0 m 18 ls []) := by
      intro k9
      induction k9 using Nat.strongRecOn with
      | _ k9 ih_r1 =>
        intro ck  hk9 hle9  H locs ls hP hD hS hl
        refine lv_iload hx hb dL_reason_18 (lv_at hl 6 rfl) ?_
        refine lv_bipush (v := nI 6) hx hb dL_reason_20 (by decide) ?_
        refine n_ge (tgt := 77) hx hb dL_reason_22 (by decide) (by omega) (by omega) (fun c_2 => ?_) (fun c_2 => ?_)
        · obtain rfl : ck = 6 := by omega
          refine lv_iload hx hb dL_reason_77 (lv_at hl 4 rfl) ?_
          refine lv_if_ne (tgt := 84) hx hb dL_reason_79 (by decide) (fun c_3 => ?_) (fun c_3 => ?_)
          · refine lv_iload hx hb dL_reason_84 (lv_at hl 5 rfl) ?_
            refine br_ne (tgt := 91) hx hb dL_reason_86 (by decide) (fun c_4 => ?_) (fun c_4 => ?_)
            · refine lv_iconst (v := nI 0) hx hb dL_reason_91 (by decide) ?_
              refine to_i (y := bi (¬ K_union (K_items (N 2 i) 6) (S 1 0) 0 &&& (K_items (N 2 i) 6 ^^^ (-1)) = 0)) ((bi_f (fun q => q (un_0 _ _ _))).symm) ?_
              refine lv_istore (lv' := [(6, .int (bi (¬ K_union (K_items (N 2 i) 6) (S 1 0) 0 &&& (K_items (N 2 i) 6 ^^^ (-1)) = 0))), (0, .ref ((ab 1))), (1, .ref ((ab 3))), (2, .ref ((ab 4))), (3, .int (nI i)), (4, .int (K_items (N 2 i) 6)), (5, .int (bi (K_agr (N 2 i) (S 4 i) (S 5 i) 6 = true)))]) hx hb dL_reason_92 hl (by decide) rfl (fun ls hl => ?_)
              refine lv_iconst (v := nI 0) hx hb dL_reason_94 (by decide) ?_
              refine to_i (y := bi (¬ K_union (K_items (N 2 i) 6) (S 2 0) 0 &&& K_items (N 2 i) 6 = 0)) ((bi_f (fun q => q (un_0 _ _ _))).symm) ?_
              refine lv_istore (lv' := [(7, .int (bi (¬ K_union (K_items (N 2 i) 6) (S 2 0) 0 &&& K_items (N 2 i) 6 = 0))), (6, .int (bi (¬ K_union (K_items (N 2 i) 6) (S 1 0) 0 &&& (K_items (N 2 i) 6 ^^^ (-1)) = 0))), (0, .ref ((ab 1))), (1, .ref ((ab 3))), (2, .ref ((ab 4))), (3, .int (nI i)), (4, .int (K_items (N 2 i) 6)), (5, .int (bi (K_agr (N 2 i) (S 4 i) (S 5 i) 6 = true)))]) hx hb dL_reason_95 hl (by decide) rfl (fun ls hl => ?_)
              refine lv_iconst (v := nI 0) hx hb dL_reason_97 (by decide) ?_
              refine lv_istore (lv' := [(8, .int (nI 0)), (7, .int (bi (¬ K_union (K_items (N 2 i) 6) (S 2 0) 0 &&& K_items (N 2 i) 6 = 0))), (6, .int (bi (¬ K_union (K_items (N 2 i) 6) (S 1 0) 0 &&& (K_items (N 2 i) 6 ^^^ (-1)) = 0))), (0, .ref ((ab 1))), (1, .ref ((ab 3))), (2, .ref ((ab 4))), (3, .int (nI i)), (4, .int (K_items (N 2 i) 6)), (5, .int (bi (K_agr (N 2 i) (S 4 i) (S 5 i) 6 = true)))]) hx hb dL_reason_98 hl (by decide) rfl (fun ls hl => ?_)
              have hl_r2 : ∀ (k9 ck : Nat), 6 - ck = k9 → ck ≤ 6 → ∀ (H : Heap) (locs : List Loc) (ls : Array Slot), va_P (dC, dI) vwCl (X ++ yw ab cy Y t D a b) H → va_D A (X ++ yw ab cy Y t D a b) → va_S A s.heap H locs → lv_has ls 9 [(0, .ref ((ab 1))), (1, .ref ((ab 3))), (2, .ref ((ab 4))), (3, .int (nI i)), (4, .int (K_items (N 2 i) 6)), (5, .int (bi (K_agr (N 2 i) (S 4 i) (S 5 i) 6 = true))), (6, .int (bi (¬ K_union (K_items (N 2 i) 6) (S 1 0) ck &&& (K_items (N 2 i) 6 ^^^ (-1)) = 0))), (7, .int (bi (¬ K_union (K_items (N 2 i) 6) (S 2 0) ck &&& K_items (N 2 i) 6 = 0))), (8, .int (nI ck))] → W p l e ({ frames := 0, cells := 0, slots := 0, locals := 0 }) s m (([.ref ((ab 1)), .ref ((ab 3)), .ref ((ab 4)), .int (nI i)] : List Value).toArray) below meth c H locs 0 0 QQ (F0 m 100 ls []) := by
                intro k9
                induction k9 using Nat.strongRecOn with
                | _ k9 ih_r2 =>
                  intro ck  hk9 hle9  H locs ls hP hD hS hl
                  refine lv_iload hx hb dL_reason_100 (lv_at hl 8 rfl) ?_
                  refine lv_bipush (v := nI 6) hx hb dL_reason_102 (by decide) ?_
                  refine n_ge (tgt := 175) hx hb dL_reason_104 (by decide) (by omega) (by omega) (fun c_5 => ?_) (fun c_5 => ?_)
                  · obtain rfl : ck = 6 := by omega
                    refine lv_iload hx hb dL_reason_175 (lv_at hl 6 rfl) ?_
                    refine br_eq (tgt := 184) hx hb dL_reason_177 (by decide) (fun c_6 => ?_) (fun c_6 => ?_)
                    · refine lv_iload hx hb dL_reason_184 (lv_at hl 7 rfl) ?_
                      refine br_eq (tgt := 193) hx hb dL_reason_186 (by decide) (fun c_7 => ?_) (fun c_7 => ?_)
                      · refine lv_iconst (v := nI 0) hx hb dL_reason_193 (by decide) ?_
                        rw [← hQQ]; exact end_i (u := ()) hx hb hr hlocks dL_reason_194 hK hP hD hS (by rw [obst_at (hi6 hR hN hi), if_pos ((dr_iff hR.2.2.2.1 (by omega)).mpr c_1), if_neg c_3, if_pos c_4, if_pos (Classical.not_not.mp c_6), if_pos (Classical.not_not.mp c_7)]) (Nat.le_of_ble_eq_true rfl) (Nat.le_of_ble_eq_true rfl)
                      · refine lv_iconst (v := nI 5) hx hb dL_reason_189 (by decide) ?_
                        refine lv_goto (tgt := 194) hx hb dL_reason_190 (by decide) ?_
                        rw [← hQQ]; exact end_i (u := ()) hx hb hr hlocks dL_reason_194 hK hP hD hS (by rw [obst_at (hi6 hR hN hi), if_pos ((dr_iff hR.2.2.2.1 (by omega)).mpr c_1), if_neg c_3, if_pos c_4, if_pos (Classical.not_not.mp c_6), if_neg c_7]) (Nat.le_of_ble_eq_true rfl) (Nat.le_of_ble_eq_true rfl)
                    · refine lv_iconst (v := nI 4) hx hb dL_reason_180 (by decide) ?_
                      refine lv_goto (tgt := 194) hx hb dL_reason_181 (by decide) ?_
                      rw [← hQQ]; exact end_i (u := ()) hx hb hr hlocks dL_reason_194 hK hP hD hS (by rw [obst_at (hi6 hR hN hi), if_pos ((dr_iff hR.2.2.2.1 (by omega)).mpr c_1), if_neg c_3, if_pos c_4, if_neg c_6]) (Nat.le_of_ble_eq_true rfl) (Nat.le_of_ble_eq_true rfl)
                  · refine lv_iload hx hb dL_reason_107 (lv_at hl 4 rfl) ?_
                    refine lv_iload hx hb dL_reason_109 (lv_at hl 8 rfl) ?_
                    refine lv_ishr hx hb dL_reason_111 ?_
                    refine lv_iconst (v := nI 1) hx hb dL_reason_112 (by decide) ?_
                    refine lv_iand hx hb dL_reason_113 ?_
                    refine lv_if_ne (tgt := 120) hx hb dL_reason_114 (by decide) (fun c_8 => ?_) (fun c_8 => ?_)
                    · have hz : ¬ N 2 i ck = 0 := fun q => c_8 ((it_bit (N 2 i) (by omega)).mpr q)
                      obtain ⟨v1, v2, v3, v4, -⟩ := hR.1 ck (by omega)
                      have b2 := v2.2
                      have b3 := v3.2
                      refine lv_iload hx hb dL_reason_120 (lv_at hl 6 rfl) ?_
                      refine lv_aload_n hx hb dL_reason_122 rfl (lv_at hl 0 rfl) ?_
                      refine lv_iload hx hb dL_reason_123 (lv_at hl 8 rfl) ?_
                      refine x_iald (f := fun j => nI (Y 1 j)) hx hb hK hP (_ + 1) 0 (app_r rfl) rfl (t := ck) (by omega) (by decide) dL_reason_125 ?_
                      refine to_i (y := nI (Y 1 ck)) rfl ?_
                      refine lv_sipush (v := nI 1023) hx hb dL_reason_126 (by decide) ?_
                      refine lv_iand hx hb dL_reason_129 ?_
                      refine to_i (y := nI ((Y 1 ck) % 1024)) (pk_andN (by have := hYb 1 ck; omega) 10 (by decide)) ?_
                      refine to_i (y := S 1 0 ck) ((congrArg nI (by omega : Y 1 ck % 1024 = ix (S 1 0 ck))).trans v2.1.symm) ?_
                      refine lv_iload hx hb dL_reason_130 (lv_at hl 4 rfl) ?_
                      refine lv_iconst (v := -1) hx hb dL_reason_132 (by decide) ?_
                      refine lv_ixor hx hb dL_reason_133 ?_
                      refine lv_iand hx hb dL_reason_134 ?_
                      refine lv_if_eq (tgt := 142) hx hb dL_reason_135 (by decide) (fun c_9 => ?_) (fun c_9 => ?_)
                      · refine lv_iconst (v := nI 0) hx hb dL_reason_142 (by decide) ?_
                        refine lv_ior hx hb dL_reason_143 ?_
                        refine lv_istore (lv' := [(6, .int ((bi (¬ K_union (K_items (N 2 i) 6) (S 1 0) ck &&& (K_items (N 2 i) 6 ^^^ (-1)) = 0)) ||| (nI 0))), (0, .ref ((ab 1))), (1, .ref ((ab 3))), (2, .ref ((ab 4))), (3, .int (nI i)), (4, .int (K_items (N 2 i) 6)), (5, .int (bi (K_agr (N 2 i) (S 4 i) (S 5 i) 6 = true))), (7, .int (bi (¬ K_union (K_items (N 2 i) 6) (S 2 0) ck &&& K_items (N 2 i) 6 = 0))), (8, .int (nI ck))]) hx hb dL_reason_144 hl (by decide) rfl (fun ls hl => ?_)
                        refine lv_iload hx hb dL_reason_146 (lv_at hl 7 rfl) ?_
                        refine lv_aload_n hx hb dL_reason_148 rfl (lv_at hl 1 rfl) ?_
                        refine lv_iload hx hb dL_reason_149 (lv_at hl 8 rfl) ?_
                        refine x_iald (f := fun j => nI (Y 1 j)) hx hb hK hP (_ + 1) 0 (app_r rfl) rfl (t := ck) (by omega) (by decide) dL_reason_151 ?_
                        refine to_i (y := nI (Y 1 ck)) rfl ?_
                        refine lv_bipush (v := nI 10) hx hb dL_reason_152 (by decide) ?_
                        refine lv_ishr hx hb dL_reason_154 ?_
                        refine to_i (y := nI ((Y 1 ck) / 1024)) (pk_shrN (by have := hYb 1 ck; omega) _ 10 (by decide)) ?_
                        refine to_i (y := S 2 0 ck) ((congrArg nI (by omega : Y 1 ck / 1024 = ix (S 2 0 ck))).trans v3.1.symm) ?_
                        refine lv_iload hx hb dL_reason_155 (lv_at hl 5 rfl) ?_
                        refine lv_iand hx hb dL_reason_157 ?_
                        refine lv_if_eq (tgt := 165) hx hb dL_reason_158 (by decide) (fun c_10 => ?_) (fun c_10 => ?_)
                        · refine lv_iconst (v := nI 0) hx hb dL_reason_165 (by decide) ?_
                          refine lv_ior hx hb dL_reason_166 ?_
                          refine lv_istore (lv' := [(7, .int ((bi (¬ K_union (K_items (N 2 i) 6) (S 2 0) ck &&& K_items (N 2 i) 6 = 0)) ||| (nI 0))), (6, .int ((bi (¬ K_union (K_items (N 2 i) 6) (S 1 0) ck &&& (K_items (N 2 i) 6 ^^^ (-1)) = 0)) ||| (nI 0))), (0, .ref ((ab 1))), (1, .ref ((ab 3))), (2, .ref ((ab 4))), (3, .int (nI i)), (4, .int (K_items (N 2 i) 6)), (5, .int (bi (K_agr (N 2 i) (S 4 i) (S 5 i) 6 = true))), (8, .int (nI ck))]) hx hb dL_reason_167 hl (by decide) rfl (fun ls hl => ?_)
                          refine lv_iinc (v := nI (ck + 1)) (lv' := [(8, .int (nI (ck + 1))), (7, .int ((bi (¬ K_union (K_items (N 2 i) 6) (S 2 0) ck &&& K_items (N 2 i) 6 = 0)) ||| (nI 0))), (6, .int ((bi (¬ K_union (K_items (N 2 i) 6) (S 1 0) ck &&& (K_items (N 2 i) 6 ^^^ (-1)) = 0)) ||| (nI 0))), (0, .ref ((ab 1))), (1, .ref ((ab 3))), (2, .ref ((ab 4))), (3, .int (nI i)), (4, .int (K_items (N 2 i) 6)), (5, .int (bi (K_agr (N 2 i) (S 4 i) (S 5 i) 6 = true)))]) hx hb dL_reason_169 hl (k := 8) rfl (by rw [show Int32.ofInt 1 = 1 from rfl]; exact nI_1 _) (by decide) rfl (fun ls hl => ?_)
                          refine lv_goto (tgt := 100) hx hb dL_reason_172 (by decide) ?_
                          exact ih_r2 (6 - (ck + 1)) (by omega) (ck + 1)  rfl (by omega)  H locs ls hP hD hS (by rw [un_s (N 2 i) (S 1 0) (by omega : ck < 6)]; rw [un_s (N 2 i) (S 2 0) (by omega : ck < 6)]; rw [if_neg hz]; rw [if_neg hz]; rw [lk_0 c_9]; rw [lk_0 c_10]; exact lv_sub hl [3, 4, 5, 6, 7, 8, 2, 1, 0] rfl)
                        · refine lv_iconst (v := nI 1) hx hb dL_reason_161 (by decide) ?_
                          refine lv_goto (tgt := 166) hx hb dL_reason_162 (by decide) ?_
                          refine lv_ior hx hb dL_reason_166 ?_
                          refine lv_istore (lv' := [(7, .int ((bi (¬ K_union (K_items (N 2 i) 6) (S 2 0) ck &&& K_items (N 2 i) 6 = 0)) ||| (nI 1))), (6, .int ((bi (¬ K_union (K_items (N 2 i) 6) (S 1 0) ck &&& (K_items (N 2 i) 6 ^^^ (-1)) = 0)) ||| (nI 0))), (0, .ref ((ab 1))), (1, .ref ((ab 3))), (2, .ref ((ab 4))), (3, .int (nI i)), (4, .int (K_items (N 2 i) 6)), (5, .int (bi (K_agr (N 2 i) (S 4 i) (S 5 i) 6 = true))), (8, .int (nI ck))]) hx hb dL_reason_167 hl (by decide) rfl (fun ls hl => ?_)
                          refine lv_iinc (v := nI (ck + 1)) (lv' := [(8, .int (nI (ck + 1))), (7, .int ((bi (¬ K_union (K_items (N 2 i) 6) (S 2 0) ck &&& K_items (N 2 i) 6 = 0)) ||| (nI 1))), (6, .int ((bi (¬ K_union (K_items (N 2 i) 6) (S 1 0) ck &&& (K_items (N 2 i) 6 ^^^ (-1)) = 0)) ||| (nI 0))), (0, .ref ((ab 1))), (1, .ref ((ab 3))), (2, .ref ((ab 4))), (3, .int (nI i)), (4, .int (K_items (N 2 i) 6)), (5, .int (bi (K_agr (N 2 i) (S 4 i) (S 5 i) 6 = true)))]) hx hb dL_reason_169 hl (k := 8) rfl (by rw [show Int32.ofInt 1 = 1 from rfl]; exact nI_1 _) (by decide) rfl (fun ls hl => ?_)
                          refine lv_goto (tgt := 100) hx hb dL_reason_172 (by decide) ?_
                          exact ih_r2 (6 - (ck + 1)) (by omega) (ck + 1)  rfl (by omega)  H locs ls hP hD hS (by rw [un_s (N 2 i) (S 1 0) (by omega : ck < 6)]; rw [un_s (N 2 i) (S 2 0) (by omega : ck < 6)]; rw [if_neg hz]; rw [if_neg hz]; rw [lk_0 c_9]; rw [lk_1 c_10]; exact lv_sub hl [3, 4, 5, 6, 7, 8, 2, 1, 0] rfl)
                      · refine lv_iconst (v := nI 1) hx hb dL_reason_138 (by decide) ?_
                        refine lv_goto (tgt := 143) hx hb dL_reason_139 (by decide) ?_
                        refine lv_ior hx hb dL_reason_143 ?_
                        refine lv_istore (lv' := [(6, .int ((bi (¬ K_union (K_items (N 2 i) 6) (S 1 0) ck &&& (K_items (N 2 i) 6 ^^^ (-1)) = 0)) ||| (nI 1))), (0, .ref ((ab 1))), (1, .ref ((ab 3))), (2, .ref ((ab 4))), (3, .int (nI i)), (4, .int (K_items (N 2 i) 6)), (5, .int (bi (K_agr (N 2 i) (S 4 i) (S 5 i) 6 = true))), (7, .int (bi (¬ K_union (K_items (N 2 i) 6) (S 2 0) ck &&& K_items (N 2 i) 6 = 0))), (8, .int (nI ck))]) hx hb dL_reason_144 hl (by decide) rfl (fun ls hl => ?_)
                        refine lv_iload hx hb dL_reason_146 (lv_at hl 7 rfl) ?_
                        refine lv_aload_n hx hb dL_reason_148 rfl (lv_at hl 1 rfl) ?_
                        refine lv_iload hx hb dL_reason_149 (lv_at hl 8 rfl) ?_
                        refine x_iald (f := fun j => nI (Y 1 j)) hx hb hK hP (_ + 1) 0 (app_r rfl) rfl (t := ck) (by omega) (by decide) dL_reason_151 ?_
                        refine to_i (y := nI (Y 1 ck)) rfl ?_
                        refine lv_bipush (v := nI 10) hx hb dL_reason_152 (by decide) ?_
                        refine lv_ishr hx hb dL_reason_154 ?_
                        refine to_i (y := nI ((Y 1 ck) / 1024)) (pk_shrN (by have := hYb 1 ck; omega) _ 10 (by decide)) ?_
                        refine to_i (y := S 2 0 ck) ((congrArg nI (by omega : Y 1 ck / 1024 = ix (S 2 0 ck))).trans v3.1.symm) ?_
                        refine lv_iload hx hb dL_reason_155 (lv_at hl 5 rfl) ?_
                        refine lv_iand hx hb dL_reason_157 ?_
                        refine lv_if_eq (tgt := 165) hx hb dL_reason_158 (by decide) (fun c_11 => ?_) (fun c_11 => ?_)
                        · refine lv_iconst (v := nI 0) hx hb dL_reason_165 (by decide) ?_
                          refine lv_ior hx hb dL_reason_166 ?_
                          refine lv_istore (lv' := [(7, .int ((bi (¬ K_union (K_items (N 2 i) 6) (S 2 0) ck &&& K_items (N 2 i) 6 = 0)) ||| (nI 0))), (6, .int ((bi (¬ K_union (K_items (N 2 i) 6) (S 1 0) ck &&& (K_items (N 2 i) 6 ^^^ (-1)) = 0)) ||| (nI 1))), (0, .ref ((ab 1))), (1, .ref ((ab 3))), (2, .ref ((ab 4))), (3, .int (nI i)), (4, .int (K_items (N 2 i) 6)), (5, .int (bi (K_agr (N 2 i) (S 4 i) (S 5 i) 6 = true))), (8, .int (nI ck))]) hx hb dL_reason_167 hl (by decide) rfl (fun ls hl => ?_)
                          refine lv_iinc (v := nI (ck + 1)) (lv' := [(8, .int (nI (ck + 1))), (7, .int ((bi (¬ K_union (K_items (N 2 i) 6) (S 2 0) ck &&& K_items (N 2 i) 6 = 0)) ||| (nI 0))), (6, .int ((bi (¬ K_union (K_items (N 2 i) 6) (S 1 0) ck &&& (K_items (N 2 i) 6 ^^^ (-1)) = 0)) ||| (nI 1))), (0, .ref ((ab 1))), (1, .ref ((ab 3))), (2, .ref ((ab 4))), (3, .int (nI i)), (4, .int (K_items (N 2 i) 6)), (5, .int (bi (K_agr (N 2 i) (S 4 i) (S 5 i) 6 = true)))]) hx hb dL_reason_169 hl (k := 8) rfl (by rw [show Int32.ofInt 1 = 1 from rfl]; exact nI_1 _) (by decide) rfl (fun ls hl => ?_)
                          refine lv_goto (tgt := 100) hx hb dL_reason_172 (by decide) ?_
                          exact ih_r2 (6 - (ck + 1)) (by omega) (ck + 1)  rfl (by omega)  H locs ls hP hD hS (by rw [un_s (N 2 i) (S 1 0) (by omega : ck < 6)]; rw [un_s (N 2 i) (S 2 0) (by omega : ck < 6)]; rw [if_neg hz]; rw [if_neg hz]; rw [lk_1 c_9]; rw [lk_0 c_11]; exact lv_sub hl [3, 4, 5, 6, 7, 8, 2, 1, 0] rfl)
                        · refine lv_iconst (v := nI 1) hx hb dL_reason_161 (by decide) ?_
                          refine lv_goto (tgt := 166) hx hb dL_reason_162 (by decide) ?_
                          refine lv_ior hx hb dL_reason_166 ?_
                          refine lv_istore (lv' := [(7, .int ((bi (¬ K_union (K_items (N 2 i) 6) (S 2 0) ck &&& K_items (N 2 i) 6 = 0)) ||| (nI 1))), (6, .int ((bi (¬ K_union (K_items (N 2 i) 6) (S 1 0) ck &&& (K_items (N 2 i) 6 ^^^ (-1)) = 0)) ||| (nI 1))), (0, .ref ((ab 1))), (1, .ref ((ab 3))), (2, .ref ((ab 4))), (3, .int (nI i)), (4, .int (K_items (N 2 i) 6)), (5, .int (bi (K_agr (N 2 i) (S 4 i) (S 5 i) 6 = true))), (8, .int (nI ck))]) hx hb dL_reason_167 hl (by decide) rfl (fun ls hl => ?_)
                          refine lv_iinc (v := nI (ck + 1)) (lv' := [(8, .int (nI (ck + 1))), (7, .int ((bi (¬ K_union (K_items (N 2 i) 6) (S 2 0) ck &&& K_items (N 2 i) 6 = 0)) ||| (nI 1))), (6, .int ((bi (¬ K_union (K_items (N 2 i) 6) (S 1 0) ck &&& (K_items (N 2 i) 6 ^^^ (-1)) = 0)) ||| (nI 1))), (0, .ref ((ab 1))), (1, .ref ((ab 3))), (2, .ref ((ab 4))), (3, .int (nI i)), (4, .int (K_items (N 2 i) 6)), (5, .int (bi (K_agr (N 2 i) (S 4 i) (S 5 i) 6 = true)))]) hx hb dL_reason_169 hl (k := 8) rfl (by rw [show Int32.ofInt 1 = 1 from rfl]; exact nI_1 _) (by decide) rfl (fun ls hl => ?_)
                          refine lv_goto (tgt := 100) hx hb dL_reason_172 (by decide) ?_
                          exact ih_r2 (6 - (ck + 1)) (by omega) (ck + 1)  rfl (by omega)  H locs ls hP hD hS (by rw [un_s (N 2 i) (S 1 0) (by omega : ck < 6)]; rw [un_s (N 2 i) (S 2 0) (by omega : ck < 6)]; rw [if_neg hz]; rw [if_neg hz]; rw [lk_1 c_9]; rw [lk_1 c_11]; exact lv_sub hl [3, 4, 5, 6, 7, 8, 2, 1, 0] rfl)
                    · have hz : N 2 i ck = 0 := (it_bit (N 2 i) (by omega)).mp c_8
                      refine lv_goto (tgt := 169) hx hb dL_reason_117 (by decide) ?_
                      refine lv_iinc (v := nI (ck + 1)) (lv' := [(8, .int (nI (ck + 1))), (0, .ref ((ab 1))), (1, .ref ((ab 3))), (2, .ref ((ab 4))), (3, .int (nI i)), (4, .int (K_items (N 2 i) 6)), (5, .int (bi (K_agr (N 2 i) (S 4 i) (S 5 i) 6 = true))), (6, .int (bi (¬ K_union (K_items (N 2 i) 6) (S 1 0) ck &&& (K_items (N 2 i) 6 ^^^ (-1)) = 0))), (7, .int (bi (¬ K_union (K_items (N 2 i) 6) (S 2 0) ck &&& K_items (N 2 i) 6 = 0)))]) hx hb dL_reason_169 hl (k := 8) rfl (by rw [show Int32.ofInt 1 = 1 from rfl]; exact nI_1 _) (by decide) rfl (fun ls hl => ?_)
                      refine lv_goto (tgt := 100) hx hb dL_reason_172 (by decide) ?_
                      exact ih_r2 (6 - (ck + 1)) (by omega) (ck + 1)  rfl (by omega)  H locs ls hP hD hS (by rw [un_s (N 2 i) (S 1 0) (by omega : ck < 6)]; rw [un_s (N 2 i) (S 2 0) (by omega : ck < 6)]; rw [if_pos hz]; rw [if_pos hz]; exact lv_sub hl [1, 2, 3, 4, 5, 6, 7, 8, 0] rfl)
              exact hl_r2 6 0  rfl (Nat.zero_le _)  H locs ls hP hD hS (lv_sub hl [3, 4, 5, 6, 7, 8, 2, 1, 0] rfl)
            · refine lv_iconst (v := nI 3) hx hb dL_reason_89 (by decide) ?_
              rw [← hQQ]; exact end_i (u := ()) hx hb hr hlocks dL_reason_90 hK hP hD hS (by rw [obst_at (hi6 hR hN hi), if_pos ((dr_iff hR.2.2.2.1 (by omega)).mpr c_1), if_neg c_3, if_neg c_4]) (Nat.le_of_ble_eq_true rfl) (Nat.le_of_ble_eq_true rfl)
          · refine lv_iconst (v := nI 2) hx hb dL_reason_82 (by decide) ?_
            rw [← hQQ]; exact end_i (u := ()) hx hb hr hlocks dL_reason_83 hK hP hD hS (by rw [obst_at (hi6 hR hN hi), if_pos ((dr_iff hR.2.2.2.1 (by omega)).mpr c_1), if_pos c_3]) (Nat.le_of_ble_eq_true rfl) (Nat.le_of_ble_eq_true rfl)
        · refine lv_aload_n hx hb dL_reason_25 rfl (lv_at hl 1 rfl) ?_
          refine lv_bipush (v := nI 6) hx hb dL_reason_26 (by decide) ?_
          refine lv_iload_n hx hb dL_reason_28 rfl (lv_at hl 3 rfl) ?_
          refine lv_imul hx hb dL_reason_29 ?_
          refine to_i (y := nI (6 * i)) (pk_mul _ _) ?_
          refine lv_iload hx hb dL_reason_30 (lv_at hl 6 rfl) ?_
          refine lv_iadd hx hb dL_reason_32 ?_
          refine to_i (y := nI ((6 * i) + ck)) (nI_add _ _) ?_
          refine x_iald (f := fun j => nI (Y 3 j)) hx hb hK hP (_ + 3) 0 (app_r rfl) rfl (t := (6 * i) + ck) (by omega) (by decide) dL_reason_33 ?_
          refine to_i (y := nI (Y 3 ((6 * i) + ck))) rfl ?_
          refine lv_istore (lv' := [(7, .int (nI (Y 3 ((6 * i) + ck)))), (0, .ref ((ab 1))), (1, .ref ((ab 3))), (2, .ref ((ab 4))), (3, .int (nI i)), (4, .int (K_items (N 2 i) ck)), (5, .int (bi (K_agr (N 2 i) (S 4 i) (S 5 i) ck = true))), (6, .int (nI ck))]) hx hb dL_reason_34 hl (by decide) rfl (fun ls hl => ?_)
          refine lv_iload hx hb dL_reason_36 (lv_at hl 0 rfl) ?_
          refine n_if_ne (tgt := 44) hx hb dL_reason_38 (by decide) (by have := hYb 3 ((6 * i) + ck); omega) (fun c_12 => ?_) (fun c_12 => ?_)
          · have hz : ¬ N 2 i ck = 0 := fun q => c_12 ((zi_iff hR (by omega) (by omega)).mpr q)
            obtain ⟨m0, m1, l0, l1, l2, e4, e5, e6, l3, l4⟩ := zi_at hR hN hi (by omega : ck < 6) hz
            refine lv_iload hx hb dL_reason_44 (lv_at hl 5 rfl) ?_
            refine lv_iconst (v := nI 1) hx hb dL_reason_46 (by decide) ?_
            refine lv_iload hx hb dL_reason_47 (lv_at hl 7 rfl) ?_
            refine lv_ishl hx hb dL_reason_49 ?_
            refine lv_ior hx hb dL_reason_50 ?_
            refine lv_istore (lv' := [(4, .int ((K_items (N 2 i) ck) ||| ((nI 1) <<< ((nI ck) &&& 31)))), (7, .int (nI (Y 3 ((6 * i) + ck)))), (0, .ref ((ab 1))), (1, .ref ((ab 3))), (2, .ref ((ab 4))), (3, .int (nI i)), (5, .int (bi (K_agr (N 2 i) (S 4 i) (S 5 i) ck = true))), (6, .int (nI ck))]) hx hb dL_reason_51 hl (by decide) rfl (fun ls hl => ?_)
            refine lv_iload hx hb dL_reason_53 (lv_at hl 6 rfl) ?_
            refine lv_iload hx hb dL_reason_55 (lv_at hl 1 rfl) ?_
            refine lv_iconst (v := nI 4) hx hb dL_reason_57 (by decide) ?_
            refine lv_ishr hx hb dL_reason_58 ?_
            refine to_i (y := nI ((Y 3 ((6 * i) + ck)) / 16)) (pk_shrN (by have := hYb 3 ((6 * i) + ck); omega) _ 4 (by decide)) ?_
            refine lv_iconst (v := nI 5) hx hb dL_reason_59 (by decide) ?_
            refine n_ne (tgt := 67) hx hb dL_reason_60 (by decide) (by have := hYb 3 ((6 * i) + ck); omega) (by omega) (fun c_13 => ?_) (fun c_13 => ?_)
            · refine lv_iconst (v := nI 0) hx hb dL_reason_67 (by decide) ?_
              refine lv_iand hx hb dL_reason_68 ?_
              refine lv_istore (lv' := [(5, .int ((bi (K_agr (N 2 i) (S 4 i) (S 5 i) ck = true)) &&& (nI 0))), (4, .int ((K_items (N 2 i) ck) ||| ((nI 1) <<< ((nI ck) &&& 31)))), (7, .int (nI (Y 3 ((6 * i) + ck)))), (0, .ref ((ab 1))), (1, .ref ((ab 3))), (2, .ref ((ab 4))), (3, .int (nI i)), (6, .int (nI ck))]) hx hb dL_reason_69 hl (by decide) rfl (fun ls hl => ?_)
              refine lv_iinc (v := nI (ck + 1)) (lv' := [(6, .int (nI (ck + 1))), (5, .int ((bi (K_agr (N 2 i) (S 4 i) (S 5 i) ck = true)) &&& (nI 0))), (4, .int ((K_items (N 2 i) ck) ||| ((nI 1) <<< ((nI ck) &&& 31)))), (7, .int (nI (Y 3 ((6 * i) + ck)))), (0, .ref ((ab 1))), (1, .ref ((ab 3))), (2, .ref ((ab 4))), (3, .int (nI i))]) hx hb dL_reason_71 hl (k := 7) rfl (by rw [show Int32.ofInt 1 = 1 from rfl]; exact nI_1 _) (by decide) rfl (fun ls hl => ?_)
              refine lv_goto (tgt := 18) hx hb dL_reason_74 (by decide) ?_
              exact ih_r1 (6 - (ck + 1)) (by omega) (ck + 1)  rfl (by omega)  H locs ls hP hD hS (by rw [show K_items (N 2 i) (ck + 1) = (K_items (N 2 i) ck) ||| ((nI 1) <<< ((nI ck) &&& 31)) from if_neg hz]; rw [ag_0 (it := N 2 i) (p := S 4 i) (q := S 5 i) hz (fun q => by have q1 := (nI_inj (by omega) (by decide)).mp (e4.symm.trans q.1); have q2 := (nI_inj (by omega) (by decide)).mp (e5.symm.trans q.2); omega)]; exact lv_sub hl [4, 5, 6, 7, 2, 1, 0] rfl)
            · refine lv_iconst (v := nI 1) hx hb dL_reason_63 (by decide) ?_
              refine lv_goto (tgt := 68) hx hb dL_reason_64 (by decide) ?_
              refine lv_iand hx hb dL_reason_68 ?_
              refine lv_istore (lv' := [(5, .int ((bi (K_agr (N 2 i) (S 4 i) (S 5 i) ck = true)) &&& (nI 1))), (4, .int ((K_items (N 2 i) ck) ||| ((nI 1) <<< ((nI ck) &&& 31)))), (7, .int (nI (Y 3 ((6 * i) + ck)))), (0, .ref ((ab 1))), (1, .ref ((ab 3))), (2, .ref ((ab 4))), (3, .int (nI i)), (6, .int (nI ck))]) hx hb dL_reason_69 hl (by decide) rfl (fun ls hl => ?_)
              refine lv_iinc (v := nI (ck + 1)) (lv' := [(6, .int (nI (ck + 1))), (5, .int ((bi (K_agr (N 2 i) (S 4 i) (S 5 i) ck = true)) &&& (nI 1))), (4, .int ((K_items (N 2 i) ck) ||| ((nI 1) <<< ((nI ck) &&& 31)))), (7, .int (nI (Y 3 ((6 * i) + ck)))), (0, .ref ((ab 1))), (1, .ref ((ab 3))), (2, .ref ((ab 4))), (3, .int (nI i))]) hx hb dL_reason_71 hl (k := 7) rfl (by rw [show Int32.ofInt 1 = 1 from rfl]; exact nI_1 _) (by decide) rfl (fun ls hl => ?_)
              refine lv_goto (tgt := 18) hx hb dL_reason_74 (by decide) ?_
              exact ih_r1 (6 - (ck + 1)) (by omega) (ck + 1)  rfl (by omega)  H locs ls hP hD hS (by rw [show K_items (N 2 i) (ck + 1) = (K_items (N 2 i) ck) ||| ((nI 1) <<< ((nI ck) &&& 31)) from if_neg hz]; rw [ag_1 (it := N 2 i) (p := S 4 i) (q := S 5 i) hz (by rw [e4]; exact congrArg nI (by omega)) (by rw [e5]; exact congrArg nI (by omega))]; exact lv_sub hl [4, 5, 6, 7, 2, 1, 0] rfl)
          · have hz : N 2 i ck = 0 := (zi_iff hR (by omega) (by omega)).mp c_12
            refine lv_goto (tgt := 71) hx hb dL_reason_41 (by decide) ?_
            refine lv_iinc (v := nI (ck + 1)) (lv' := [(6, .int (nI (ck + 1))), (7, .int (nI (Y 3 ((6 * i) + ck)))), (0, .ref ((ab 1))), (1, .ref ((ab 3))), (2, .ref ((ab 4))), (3, .int (nI i)), (4, .int (K_items (N 2 i) ck)), (5, .int (bi (K_agr (N 2 i) (S 4 i) (S 5 i) ck = true)))]) hx hb dL_reason_71 hl (k := 7) rfl (by rw [show Int32.ofInt 1 = 1 from rfl]; exact nI_1 _) (by decide) rfl (fun ls hl => ?_)
            refine lv_goto (tgt := 18) hx hb dL_reason_74 (by decide) ?_
            exact ih_r1 (6 - (ck + 1)) (by omega) (ck + 1)  rfl (by omega)  H locs ls hP hD hS (by rw [show K_items (N 2 i) (ck + 1) = K_items (N 2 i) ck from if_pos hz]; rw [ag_z (it := N 2 i) (p := S 4 i) (q := S 5 i) hz]; exact lv_sub hl [2, 3, 4, 5, 6, 7, 0] rfl)
    exact hl_r1 6 0  rfl (Nat.zero_le _)  H locs ls hP hD hS (lv_sub hl [3, 4, 5, 6, 2, 1, 0] rfl)
  · refine lv_iconst (v := nI 1) hx hb dL_reason_7 (by decide) ?_
    rw [← hQQ]; exact end_i (u := ()) hx hb hr hlocks dL_reason_8 hK hP hD hS (by rw [obst_at (hi6 hR hN hi), if_neg (fun q => (dr_iff hR.2.2.2.1 (by omega)).mp q c_1)]) (Nat.le_of_ble_eq_true rfl) (Nat.le_of_ble_eq_true rfl)

theorem h10 : ((1 : Nat) = 0) = False := by simp
theorem okC_item {L : List Lc} {N : NN} {i c n : Nat} (h : okC L N) (hn : n ≤ N 1 0 c) : okC L (nu N 2 i (va_up (N 2 i) c n)) := by
  obtain ⟨hM, hV, hr⟩ := h
  refine ⟨hM, fun i' c' hi' hc' => ?_, hr⟩
  show nu N 2 i (va_up (N 2 i) c n) 2 i' c' ≤ N 1 0 c'
  by_cases hi : i' = i
  · subst hi
    rw [nu_self]
    by_cases hc : c' = c
    · subst hc; rw [va_up_self]; exact hn
    · rw [va_up_ne _ _ hc]; exact hV _ _ hi' hc'
  · rw [nu_ne (fun z => hi z.2)]; exact hV _ _ hi' hc'
theorem su_su (S : SS) (k i : Nat) (r r2 : Nat → Int32) : su (su S k i r) k i r2 = su S k i r2 := by
  funext a b
  by_cases h : a = k ∧ b = i <;> simp [su, h]
theorem nu_nu (N : NN) (k i : Nat) (r r2 : Nat → Nat) : nu (nu N k i r) k i r2 = nu N k i r2 := by
  funext a b
  by_cases h : a = k ∧ b = i <;> simp [nu, h]
theorem vpt_z {ad : Lc → Nat} {n c : Nat} (h : n = 0) : va_rf (vpt ad n c) = .null := by rw [vpt, if_pos h]; rfl
theorem vpt_s {ad : Lc → Nat} {n c : Nat} (h : ¬ n = 0) : va_rf (vpt ad n c) = .ref (ad (9, 9 * c + n - 1)) := by rw [vpt, if_neg h]; rfl
/-- a draft: a signature is wanting -/
abbrev isDr (S : SS) (i : Nat) : Prop := S 6 i 0 = 0 ∨ S 6 i 1 = 0
abbrev noSig (S : SS) (i : Nat) : SS := su S 6 i (upd (upd (S 6 i) 0 (nI 0)) 1 (nI 0))

set_option maxHeartbeats 4000000 in
set_option maxRecDepth 100000 in
/-- isDraft -/
theorem qX0_isDraft (l : Launch) (dC : Nat → ClassId) (dI : Nat → Nat → Nat) (cy : Nat → ClassId) (e0 mi : Nat) (ad : Lc → Nat) (L : List Lc) (S : SS) (N : NN) (sz : Nat) (i : Nat) (hI : okC L N) (hi : i < N 0 0 0) : Met l yX0_isDraft wsX0_isDraft ({ frames := 0, cells := 0, slots := 0, locals := 0 }) (va_Pc [.ref (ad (0, i))] (wPre (dC, dI) (tyL cy) (cw cy e0 ad L S N) sz)) (QI (dC, dI) (tyL cy) (fun (r : Int32) (u : CS) => r = bi (isDr S i) ∧ u = (S, N)) (cwU cy e0 ad L) (va_A (cw cy e0 ad L S N) sz)) 0 0 (va_A (cw cy e0 ad L S N) sz) := by
  refine en (cc := cX0_isDraft) (maxL := 1) (ret := (some .boolean)) (own := RX0) (lv := [(0, .ref (ad (0, i)))]) (by decide) rfl rfl (Nat.le_of_ble_eq_true rfl) rfl ?_
  intro p e s m below meth c ls A H locs hx hb hr hts hown hlocks hml hin hsz hK hP hD hS hA hl
  generalize hQQ : MQ below _ _ s _ _ A = QQ
  have hI0 := hI
  obtain ⟨⟨hM0, hM8, hM9, hMF, hM15, hM17⟩, hV, hLt, hO, hDu, hnc, hnd, hcC, hcD, hcC2, hcD2⟩ := hI
  have inX0_ : ∀ w ∈ wsX00, w ∈ wsX0_isDraft := fun _ h => List.mem_cons_of_mem _ (List.mem_append_right _ h)
  have lk0 : (Cond.fieldLink RX0 22 "ClauseShop$Contract" "signed" "[Z").before (([.ref (ad (0, i))] : List Value).toArray) s = true := hts _ (List.mem_of_getElem? (i := 1) rfl)
  refine lv_aload_n hx hb dX0_isDraft_0 rfl (lv_at hl 0 rfl) ?_
  obtain ⟨z_1, hz_1⟩ := pl_get (ad := ad) (f := cc cy e0 ad S N) (hM0 0 i (by decide) (by omega))
  rw [show cc cy e0 ad S N (0, i) = .inr (1, [.ref (ad (1, i)), .ref (ad (2, i)), .ref (ad (5, i)), .ref (ad (6, i)), .ref (ad (7, i))]) from rfl] at hz_1
  refine va_get (D := (dC, dI)) (ci := 1) (v := .ref (ad (5, i))) (C := RX0) (T := TX0) (N := 5) hx hb hts inX0_ hown hK hP z_1 hz_1 rfl 2 (by decide) lk0 (fun _ h9 => h9) rfl dX0_isDraft_1 ?_
  refine lv_iconst (v := nI 0) hx hb dX0_isDraft_4 (by decide) ?_
  obtain ⟨z_2, hz_2⟩ := pl_get (ad := ad) (f := cc cy e0 ad S N) (hM0 5 i (by decide) (by omega))
  rw [show cc cy e0 ad S N (5, i) = .inl (cy 1, 2, .inl (S 6 i)) from rfl] at hz_2
  refine x_zald (f := S 6 i) hx hb hK hP z_2 1 hz_2 rfl (t := 0) (by omega) (by decide) dX0_isDraft_5 ?_
  refine lv_if_eq (tgt := 18) hx hb dX0_isDraft_6 (by decide) (fun c_3 => ?_) (fun c_3 => ?_)
  · refine lv_iconst (v := nI 1) hx hb dX0_isDraft_18 (by decide) ?_
    refine lv_goto (tgt := 23) hx hb dX0_isDraft_19 (by decide) ?_
    rw [← hQQ]; exact end_z (u := (S, N)) hx hb hr hlocks dX0_isDraft_23 hK hP hD hS (by rfl) ⟨(bi_t (P := isDr S i) (by simp only [eq_true c_3, isDr, and_true, true_and, and_false, false_and, if_true, if_false, not_true, not_false_iff, not_false_eq_true, or_true, true_or, or_false, false_or, ite_true, ite_false, and_self, Classical.not_not, Bool.false_eq_true])).symm, rfl⟩ (Nat.le_of_ble_eq_true rfl) (Nat.le_of_ble_eq_true rfl)
  · refine lv_aload_n hx hb dX0_isDraft_9 rfl (lv_at hl 0 rfl) ?_
    obtain ⟨z_4, hz_4⟩ := pl_get (ad := ad) (f := cc cy e0 ad S N) (hM0 0 i (by decide) (by omega))
    rw [show cc cy e0 ad S N (0, i) = .inr (1, [.ref (ad (1, i)), .ref (ad (2, i)), .ref (ad (5, i)), .ref (ad (6, i)), .ref (ad (7, i))]) from rfl] at hz_4
    refine va_get (D := (dC, dI)) (ci := 1) (v := .ref (ad (5, i))) (C := RX0) (T := TX0) (N := 5) hx hb hts inX0_ hown hK hP z_4 hz_4 rfl 2 (by decide) lk0 (fun _ h9 => h9) rfl dX0_isDraft_10 ?_
    refine lv_iconst (v := nI 1) hx hb dX0_isDraft_13 (by decide) ?_
    obtain ⟨z_5, hz_5⟩ := pl_get (ad := ad) (f := cc cy e0 ad S N) (hM0 5 i (by decide) (by omega))
    rw [show cc cy e0 ad S N (5, i) = .inl (cy 1, 2, .inl (S 6 i)) from rfl] at hz_5
    refine x_zald (f := S 6 i) hx hb hK hP z_5 1 hz_5 rfl (t := 1) (by omega) (by decide) dX0_isDraft_14 ?_
    refine lv_if_ne (tgt := 22) hx hb dX0_isDraft_15 (by decide) (fun c_6 => ?_) (fun c_6 => ?_)
    · refine lv_iconst (v := nI 0) hx hb dX0_isDraft_22 (by decide) ?_
      rw [← hQQ]; exact end_z (u := (S, N)) hx hb hr hlocks dX0_isDraft_23 hK hP hD hS (by rfl) ⟨(bi_f (P := isDr S i) (by simp only [c_3, c_6, isDr, and_true, true_and, and_false, false_and, if_true, if_false, not_true, not_false_iff, not_false_eq_true, or_true, true_or, or_false, false_or, ite_true, ite_false, and_self, Classical.not_not, Bool.false_eq_true])).symm, rfl⟩ (Nat.le_of_ble_eq_true rfl) (Nat.le_of_ble_eq_true rfl)
    · refine lv_iconst (v := nI 1) hx hb dX0_isDraft_18 (by decide) ?_
      refine lv_goto (tgt := 23) hx hb dX0_isDraft_19 (by decide) ?_
      rw [← hQQ]; exact end_z (u := (S, N)) hx hb hr hlocks dX0_isDraft_23 hK hP hD hS (by rfl) ⟨(bi_t (P := isDr S i) (by simp only [c_3, eq_true c_6, isDr, and_true, true_and, and_false, false_and, if_true, if_false, not_true, not_false_iff, not_false_eq_true, or_true, true_or, or_false, false_or, ite_true, ite_false, and_self, Classical.not_not, Bool.false_eq_true])).symm, rfl⟩ (Nat.le_of_ble_eq_true rfl) (Nat.le_of_ble_eq_true rfl)

set_option maxHeartbeats 4000000 in
set_option maxRecDepth 100000 in
/-- loseSignatures -/
theorem qX0_loseSignatures (l : Launch) (dC : Nat → ClassId) (dI : Nat → Nat → Nat) (cy : Nat → ClassId) (e0 mi : Nat) (ad : Lc → Nat) (L : List Lc) (S : SS) (N : NN) (sz : Nat) (i : Nat) (hI : okC L N) (hi : i < N 0 0 0) : Met l yX0_loseSignatures wsX0_loseSignatures ({ frames := 0, cells := 0, slots := 0, locals := 0 }) (va_Pc [.ref (ad (0, i))] (wPre (dC, dI) (tyL cy) (cw cy e0 ad L S N) sz)) (QV (dC, dI) (tyL cy) (fun (u : CS) => u = (noSig S i, N)) (cwU cy e0 ad L) (va_A (cw cy e0 ad L S N) sz)) 0 0 (va_A (cw cy e0 ad L S N) sz) := by
  refine en (cc := cX0_loseSignatures) (maxL := 1) (ret := none) (own := RX0) (lv := [(0, .ref (ad (0, i)))]) (by decide) rfl rfl (Nat.le_of_ble_eq_true rfl) rfl ?_
  intro p e s m below meth c ls A H locs hx hb hr hts hown hlocks hml hin hsz hK hP hD hS hA hl
  generalize hQQ : MQ below _ _ s _ _ A = QQ
  have hI0 := hI
  obtain ⟨⟨hM0, hM8, hM9, hMF, hM15, hM17⟩, hV, hLt, hO, hDu, hnc, hnd, hcC, hcD, hcC2, hcD2⟩ := hI
  have inX0_ : ∀ w ∈ wsX00, w ∈ wsX0_loseSignatures := fun _ h => List.mem_cons_of_mem _ (List.mem_append_right _ h)
  have lk0 : (Cond.fieldLink RX0 22 "ClauseShop$Contract" "signed" "[Z").before (([.ref (ad (0, i))] : List Value).toArray) s = true := hts _ (List.mem_of_getElem? (i := 1) rfl)
  refine lv_aload_n hx hb dX0_loseSignatures_0 rfl (lv_at hl 0 rfl) ?_
  obtain ⟨z_1, hz_1⟩ := pl_get (ad := ad) (f := cc cy e0 ad S N) (hM0 0 i (by decide) (by omega))
  rw [show cc cy e0 ad S N (0, i) = .inr (1, [.ref (ad (1, i)), .ref (ad (2, i)), .ref (ad (5, i)), .ref (ad (6, i)), .ref (ad (7, i))]) from rfl] at hz_1
  refine va_get (D := (dC, dI)) (ci := 1) (v := .ref (ad (5, i))) (C := RX0) (T := TX0) (N := 5) hx hb hts inX0_ hown hK hP z_1 hz_1 rfl 2 (by decide) lk0 (fun _ h9 => h9) rfl dX0_loseSignatures_1 ?_
  refine lv_iconst (v := nI 0) hx hb dX0_loseSignatures_4 (by decide) ?_
  refine lv_iconst (v := nI 0) hx hb dX0_loseSignatures_5 (by decide) ?_
  obtain ⟨z_2, hz_2⟩ := pl_get (ad := ad) (f := cc cy e0 ad S N) (hM0 5 i (by decide) (by omega))
  rw [show cc cy e0 ad S N (5, i) = .inl (cy 1, 2, .inl (S 6 i)) from rfl] at hz_2
  have eW : (cw cy e0 ad L S N).set z_2 (ad (5, i), .inl (cy 1, 2, .inl (upd (S 6 i) 0 (nI 0)))) = cw cy e0 ad L (su S 6 i (upd (S 6 i) 0 (nI 0))) N := st_5 (upd (S 6 i) 0 (nI 0)) hD hz_2 (hM0 5 i (by decide) (by omega))
  refine x_zast (f := S 6 i) hx hb hK hP hD hS z_2 1 hz_2 rfl (t := 0) (x := (nI 0)) (by omega) (by decide) (by rfl) dX0_loseSignatures_6 (fun H locs hP hD hS => ?_)
  have hP : va_P (dC, dI) vwCl (cw cy e0 ad L (su S 6 i (upd (S 6 i) 0 (nI 0))) N) H := by rw [← eW]; exact hP
  have hD : va_D A (cw cy e0 ad L (su S 6 i (upd (S 6 i) 0 (nI 0))) N) := by rw [← eW]; exact hD
  refine lv_aload_n hx hb dX0_loseSignatures_7 rfl (lv_at hl 0 rfl) ?_
  obtain ⟨z_3, hz_3⟩ := pl_get (ad := ad) (f := cc cy e0 ad (su S 6 i (upd (S 6 i) 0 (nI 0))) N) (hM0 0 i (by decide) (by omega))
  rw [show cc cy e0 ad (su S 6 i (upd (S 6 i) 0 (nI 0))) N (0, i) = .inr (1, [.ref (ad (1, i)), .ref (ad (2, i)), .ref (ad (5, i)), .ref (ad (6, i)), .ref (ad (7, i))]) from by first | rfl | simp [cc, su, nu, upd]] at hz_3
  refine va_get (D := (dC, dI)) (ci := 1) (v := .ref (ad (5, i))) (C := RX0) (T := TX0) (N := 5) hx hb hts inX0_ hown hK hP z_3 hz_3 rfl 2 (by decide) lk0 (fun _ h9 => h9) rfl dX0_loseSignatures_8 ?_
  refine lv_iconst (v := nI 1) hx hb dX0_loseSignatures_11 (by decide) ?_
  refine lv_iconst (v := nI 0) hx hb dX0_loseSignatures_12 (by decide) ?_
  obtain ⟨z_4, hz_4⟩ := pl_get (ad := ad) (f := cc cy e0 ad (su S 6 i (upd (S 6 i) 0 (nI 0))) N) (hM0 5 i (by decide) (by omega))
  rw [show cc cy e0 ad (su S 6 i (upd (S 6 i) 0 (nI 0))) N (5, i) = .inl (cy 1, 2, .inl (upd (S 6 i) 0 (nI 0))) from by first | rfl | simp [cc, su, nu, upd]] at hz_4
  have eW : (cw cy e0 ad L (su S 6 i (upd (S 6 i) 0 (nI 0))) N).set z_4 (ad (5, i), .inl (cy 1, 2, .inl (upd (upd (S 6 i) 0 (nI 0)) 1 (nI 0)))) = cw cy e0 ad L (su S 6 i (upd (upd (S 6 i) 0 (nI 0)) 1 (nI 0))) N := by have h9 := st_5 (ad := ad) (cy := cy) (e0 := e0) (upd (upd (S 6 i) 0 (nI 0)) 1 (nI 0)) hD hz_4 (hM0 5 i (by decide) (by omega)); simp only [su_self, su_su, nu_self, nu_nu, pk_us] at h9; exact h9
  refine x_zast (f := upd (S 6 i) 0 (nI 0)) hx hb hK hP hD hS z_4 1 hz_4 rfl (t := 1) (x := (nI 0)) (by omega) (by decide) (by rfl) dX0_loseSignatures_13 (fun H locs hP hD hS => ?_)
  have hP : va_P (dC, dI) vwCl (cw cy e0 ad L (su S 6 i (upd (upd (S 6 i) 0 (nI 0)) 1 (nI 0))) N) H := by rw [← eW]; exact hP
  have hD : va_D A (cw cy e0 ad L (su S 6 i (upd (upd (S 6 i) 0 (nI 0)) 1 (nI 0))) N) := by rw [← eW]; exact hD
  rw [← hQQ]; exact end_v (u := (su S 6 i (upd (upd (S 6 i) 0 (nI 0)) 1 (nI 0)), N)) hx hb hr hlocks dX0_loseSignatures_14 hK hP hD hS (by simp only [noSig]) (Nat.le_of_ble_eq_true rfl) (Nat.le_of_ble_eq_true rfl)

def K_bring (S : SS) (i sd c : Nat) : SS := if sd = 0 then noSig (su (su S 4 i (upd (S 4 i) c (nI 1))) 5 i (upd (S 5 i) c (nI 0))) i else noSig (su (su S 5 i (upd (S 5 i) c (nI 1))) 4 i (upd (S 4 i) c (nI 0))) i

theorem vpt_n {ad : Lc → Nat} {c : Nat} : vpt ad 0 c = none := rfl
theorem vpt_o {ad : Lc → Nat} {n c : Nat} (h : ¬ n = 0) : vpt ad n c = some (ad (9, 9 * c + n - 1)) := if_neg h

set_option maxHeartbeats 4000000 in
set_option maxRecDepth 100000 in
/-- bringIn -/
theorem qX0_bringIn (l : Launch) (dC : Nat → ClassId) (dI : Nat → Nat → Nat) (cy : Nat → ClassId) (e0 mi : Nat) (ad : Lc → Nat) (L : List Lc) (S : SS) (N : NN) (sz : Nat) (i cn n sd : Nat) (hI : okC L N) (hi : i < N 0 0 0) (hcn : cn < 10) (hn0 : ¬ n = 0) (hnl : n ≤ N 1 0 cn) (hmv : (9, 9 * cn + n - 1) ∈ L) (hsd : sd < 2) : Met l yX0_bringIn wsX0_bringIn ({ frames := 1, cells := 0, slots := 0, locals := 20 }) (va_Pc [.ref (ad (0, i)), .ref (ad (9, 9 * cn + n - 1)), .int (nI cn), .int (nI sd)] (wPre (dC, dI) (tyL cy) (cw cy e0 ad L S N) sz)) (QV (dC, dI) (tyL cy) (fun (u : CS) => u = (K_bring S i sd cn, nu N 2 i (va_up (N 2 i) cn n))) (cwU cy e0 ad L) (va_A (cw cy e0 ad L S N) sz)) 0 0 (va_A (cw cy e0 ad L S N) sz) := by
  refine en (cc := cX0_bringIn) (maxL := 4) (ret := none) (own := RX0) (lv := [(0, .ref (ad (0, i))), (1, .ref (ad (9, 9 * cn + n - 1))), (2, .int (nI cn)), (3, .int (nI sd))]) (by decide) rfl rfl (Nat.le_of_ble_eq_true rfl) rfl ?_
  intro p e s m below meth c ls A H locs hx hb hr hts hown hlocks hml hin hsz hK hP hD hS hA hl
  generalize hQQ : MQ below _ _ s _ _ A = QQ
  have hI0 := hI
  obtain ⟨⟨hM0, hM8, hM9, hMF, hM15, hM17⟩, hV, hLt, hO, hDu, hnc, hnd, hcC, hcD, hcC2, hcD2⟩ := hI
  have inX0_ : ∀ w ∈ wsX00, w ∈ wsX0_bringIn := fun _ h => List.mem_cons_of_mem _ (List.mem_append_right _ h)
  have lk0 : (Cond.fieldLink RX0 11 "ClauseShop$Contract" "items" "[LClauseShop$Version;").before (([.ref (ad (0, i)), .ref (ad (9, 9 * cn + n - 1)), .int (nI cn), .int (nI sd)] : List Value).toArray) s = true := hts _ (List.mem_of_getElem? (i := 1) rfl)
  have lk1 : (Cond.fieldLink RX0 19 "ClauseShop$Contract" "marks" "[[I").before (([.ref (ad (0, i)), .ref (ad (9, 9 * cn + n - 1)), .int (nI cn), .int (nI sd)] : List Value).toArray) s = true := hts _ (List.mem_of_getElem? (i := 2) rfl)
  have hsd2 : sd = 0 ∨ sd = 1 := by omega
  rcases hsd2 with rfl | rfl
  · refine lv_aload_n hx hb dX0_bringIn_0 rfl (lv_at hl 0 rfl) ?_
    obtain ⟨z_1, hz_1⟩ := pl_get (ad := ad) (f := cc cy e0 ad S N) (hM0 0 i (by decide) (by omega))
    rw [show cc cy e0 ad S N (0, i) = .inr (1, [.ref (ad (1, i)), .ref (ad (2, i)), .ref (ad (5, i)), .ref (ad (6, i)), .ref (ad (7, i))]) from rfl] at hz_1
    refine va_get (D := (dC, dI)) (ci := 1) (v := .ref (ad (1, i))) (C := RX0) (T := TX0) (N := 5) hx hb hts inX0_ hown hK hP z_1 hz_1 rfl 0 (by decide) lk0 (fun _ h9 => h9) rfl dX0_bringIn_1 ?_
    refine lv_iload_n hx hb dX0_bringIn_4 rfl (lv_at hl 2 rfl) ?_
    refine lv_aload_n hx hb dX0_bringIn_5 rfl (lv_at hl 1 rfl) ?_
    obtain ⟨z_2, hz_2⟩ := pl_get (ad := ad) (f := cc cy e0 ad S N) (hM0 1 i (by decide) (by omega))
    rw [show cc cy e0 ad S N (1, i) = .inl (cy 2, 10, .inr (.inr (.inr (.inr (fun d => vpt ad ((N 2 i) d) d))))) from rfl] at hz_2
    have eW : (cw cy e0 ad L S N).set z_2 (ad (1, i), .inl (cy 2, 10, .inr (.inr (.inr (.inr (va_up (fun d => vpt ad (N 2 i d) d) cn (some (ad (9, 9 * cn + n - 1))))))))) = cw cy e0 ad L S (nu N 2 i (va_up (N 2 i) cn n)) := by rw [← vpt_o hn0 (ad := ad) (c := cn)]; exact st_1 cn n hD hz_2 (hM0 1 i (by decide) (by omega))
    obtain ⟨zv, hzv⟩ := pl_get (ad := ad) (f := cc cy e0 ad S N) hmv
    refine va_astq hx hb hK hP hD hS z_2 2 zv 3 hz_2 rfl hzv rfl (vp_in_nI hcn (by decide)) dX0_bringIn_6 (fun H locs hP hD hS => ?_)
    rw [nI_clamp (by omega)] at hP hD
    have hP : va_P (dC, dI) vwCl (cw cy e0 ad L S (nu N 2 i (va_up (N 2 i) cn n))) H := by rw [← eW]; exact hP
    have hD : va_D A (cw cy e0 ad L S (nu N 2 i (va_up (N 2 i) cn n))) := by rw [← eW]; exact hD
    refine lv_aload_n hx hb dX0_bringIn_7 rfl (lv_at hl 0 rfl) ?_
    obtain ⟨z_3, hz_3⟩ := pl_get (ad := ad) (f := cc cy e0 ad S (nu N 2 i (va_up (N 2 i) cn n))) (hM0 0 i (by decide) (by omega))
    rw [show cc cy e0 ad S (nu N 2 i (va_up (N 2 i) cn n)) (0, i) = .inr (1, [.ref (ad (1, i)), .ref (ad (2, i)), .ref (ad (5, i)), .ref (ad (6, i)), .ref (ad (7, i))]) from by first | rfl | simp [cc, su, nu, upd]] at hz_3
    refine va_get (D := (dC, dI)) (ci := 1) (v := .ref (ad (2, i))) (C := RX0) (T := TX0) (N := 5) hx hb hts inX0_ hown hK hP z_3 hz_3 rfl 1 (by decide) lk1 (fun _ h9 => h9) rfl dX0_bringIn_8 ?_
    refine lv_iload_n hx hb dX0_bringIn_11 rfl (lv_at hl 3 rfl) ?_
    obtain ⟨z_4, hz_4⟩ := pl_get (ad := ad) (f := cc cy e0 ad S (nu N 2 i (va_up (N 2 i) cn n))) (hM0 2 i (by decide) (by omega))
    rw [show cc cy e0 ad S (nu N 2 i (va_up (N 2 i) cn n)) (2, i) = .inl (cy 4, 2, .inr (.inr (.inr (.inr (fun s => if s = 0 then some (ad (3, i)) else some (ad (4, i))))))) from by first | rfl | simp [cc, su, nu, upd]] at hz_4
    refine x_aaldA hx hb hK hP z_4 4 hz_4 rfl (t := 0) (by omega) (by decide) dX0_bringIn_12 ?_
    refine to_v (y := .ref (ad (3, i))) rfl ?_
    refine lv_iload_n hx hb dX0_bringIn_13 rfl (lv_at hl 2 rfl) ?_
    refine lv_iconst (v := nI 1) hx hb dX0_bringIn_14 (by decide) ?_
    obtain ⟨z_5, hz_5⟩ := pl_get (ad := ad) (f := cc cy e0 ad S (nu N 2 i (va_up (N 2 i) cn n))) (hM0 3 i (by decide) (by omega))
    rw [show cc cy e0 ad S (nu N 2 i (va_up (N 2 i) cn n)) (3, i) = .inl (cy 0, 10, .inl (S 4 i)) from by first | rfl | simp [cc, su, nu, upd]] at hz_5
    have eW : (cw cy e0 ad L S (nu N 2 i (va_up (N 2 i) cn n))).set z_5 (ad (3, i), .inl (cy 0, 10, .inl (upd (S 4 i) cn (nI 1)))) = cw cy e0 ad L (su S 4 i (upd (S 4 i) cn (nI 1))) (nu N 2 i (va_up (N 2 i) cn n)) := st_3 (upd (S 4 i) cn (nI 1)) hD hz_5 (hM0 3 i (by decide) (by omega))
    refine x_iast (f := S 4 i) hx hb hK hP hD hS z_5 0 hz_5 rfl (t := cn) (x := (nI 1)) (by omega) (by decide) dX0_bringIn_15 (fun H locs hP hD hS => ?_)
    have hP : va_P (dC, dI) vwCl (cw cy e0 ad L (su S 4 i (upd (S 4 i) cn (nI 1))) (nu N 2 i (va_up (N 2 i) cn n))) H := by rw [← eW]; exact hP
    have hD : va_D A (cw cy e0 ad L (su S 4 i (upd (S 4 i) cn (nI 1))) (nu N 2 i (va_up (N 2 i) cn n))) := by rw [← eW]; exact hD
    refine lv_aload_n hx hb dX0_bringIn_16 rfl (lv_at hl 0 rfl) ?_
    obtain ⟨z_6, hz_6⟩ := pl_get (ad := ad) (f := cc cy e0 ad (su S 4 i (upd (S 4 i) cn (nI 1))) (nu N 2 i (va_up (N 2 i) cn n))) (hM0 0 i (by decide) (by omega))
    rw [show cc cy e0 ad (su S 4 i (upd (S 4 i) cn (nI 1))) (nu N 2 i (va_up (N 2 i) cn n)) (0, i) = .inr (1, [.ref (ad (1, i)), .ref (ad (2, i)), .ref (ad (5, i)), .ref (ad (6, i)), .ref (ad (7, i))]) from by first | rfl | simp [cc, su, nu, upd]] at hz_6
    refine va_get (D := (dC, dI)) (ci := 1) (v := .ref (ad (2, i))) (C := RX0) (T := TX0) (N := 5) hx hb hts inX0_ hown hK hP z_6 hz_6 rfl 1 (by decide) lk1 (fun _ h9 => h9) rfl dX0_bringIn_17 ?_
    refine lv_iconst (v := nI 1) hx hb dX0_bringIn_20 (by decide) ?_
    refine lv_iload_n hx hb dX0_bringIn_21 rfl (lv_at hl 3 rfl) ?_
    refine lv_isub hx hb dX0_bringIn_22 ?_
    refine to_i (y := nI 1) (by decide) ?_
    obtain ⟨z_7, hz_7⟩ := pl_get (ad := ad) (f := cc cy e0 ad (su S 4 i (upd (S 4 i) cn (nI 1))) (nu N 2 i (va_up (N 2 i) cn n))) (hM0 2 i (by decide) (by omega))
    rw [show cc cy e0 ad (su S 4 i (upd (S 4 i) cn (nI 1))) (nu N 2 i (va_up (N 2 i) cn n)) (2, i) = .inl (cy 4, 2, .inr (.inr (.inr (.inr (fun s => if s = 0 then some (ad (3, i)) else some (ad (4, i))))))) from by first | rfl | simp [cc, su, nu, upd]] at hz_7
    refine x_aaldA hx hb hK hP z_7 4 hz_7 rfl (t := 1) (by omega) (by decide) dX0_bringIn_23 ?_
    refine to_v (y := .ref (ad (4, i))) rfl ?_
    refine lv_iload_n hx hb dX0_bringIn_24 rfl (lv_at hl 2 rfl) ?_
    refine lv_iconst (v := nI 0) hx hb dX0_bringIn_25 (by decide) ?_
    obtain ⟨z_8, hz_8⟩ := pl_get (ad := ad) (f := cc cy e0 ad (su S 4 i (upd (S 4 i) cn (nI 1))) (nu N 2 i (va_up (N 2 i) cn n))) (hM0 4 i (by decide) (by omega))
    rw [show cc cy e0 ad (su S 4 i (upd (S 4 i) cn (nI 1))) (nu N 2 i (va_up (N 2 i) cn n)) (4, i) = .inl (cy 0, 10, .inl (S 5 i)) from by first | rfl | simp [cc, su, nu, upd]] at hz_8
    have eW : (cw cy e0 ad L (su S 4 i (upd (S 4 i) cn (nI 1))) (nu N 2 i (va_up (N 2 i) cn n))).set z_8 (ad (4, i), .inl (cy 0, 10, .inl (upd (S 5 i) cn (nI 0)))) = cw cy e0 ad L (su (su S 4 i (upd (S 4 i) cn (nI 1))) 5 i (upd (S 5 i) cn (nI 0))) (nu N 2 i (va_up (N 2 i) cn n)) := st_4 (upd (S 5 i) cn (nI 0)) hD hz_8 (hM0 4 i (by decide) (by omega))
    refine x_iast (f := S 5 i) hx hb hK hP hD hS z_8 0 hz_8 rfl (t := cn) (x := (nI 0)) (by omega) (by decide) dX0_bringIn_26 (fun H locs hP hD hS => ?_)
    have hP : va_P (dC, dI) vwCl (cw cy e0 ad L (su (su S 4 i (upd (S 4 i) cn (nI 1))) 5 i (upd (S 5 i) cn (nI 0))) (nu N 2 i (va_up (N 2 i) cn n))) H := by rw [← eW]; exact hP
    have hD : va_D A (cw cy e0 ad L (su (su S 4 i (upd (S 4 i) cn (nI 1))) 5 i (upd (S 5 i) cn (nI 0))) (nu N 2 i (va_up (N 2 i) cn n))) := by rw [← eW]; exact hD
    refine lv_aload_n hx hb dX0_bringIn_27 rfl (lv_at hl 0 rfl) ?_
    obtain ⟨z_9, hz_9⟩ := pl_get (ad := ad) (f := cc cy e0 ad (su (su S 4 i (upd (S 4 i) cn (nI 1))) 5 i (upd (S 5 i) cn (nI 0))) (nu N 2 i (va_up (N 2 i) cn n))) (hM0 0 i (by decide) (by omega))
    rw [show cc cy e0 ad (su (su S 4 i (upd (S 4 i) cn (nI 1))) 5 i (upd (S 5 i) cn (nI 0))) (nu N 2 i (va_up (N 2 i) cn n)) (0, i) = .inr (1, [.ref (ad (1, i)), .ref (ad (2, i)), .ref (ad (5, i)), .ref (ad (6, i)), .ref (ad (7, i))]) from by first | rfl | simp [cc, su, nu, upd]] at hz_9
    refine call_v (va_runV (As := []) (rest := []) ⟨hx, hb, hml, hown, hts⟩ (qX0_loseSignatures l dC dI cy e0 mi ad L (su (su S 4 i (upd (S 4 i) cn (nI 1))) 5 i (upd (S 5 i) cn (nI 0))) (nu N 2 i (va_up (N 2 i) cn n)) H.size i (okC_item hI0 hnl) hi) (cwV 0 hts gX0_bringIn_X0_loseSignatures rfl rfl rfl (by decide +kernel) ⟨Nat.le_of_ble_eq_true rfl, Nat.le_of_ble_eq_true rfl⟩) (preV hK hP hD (w_recv (ci := 1) (q0 := z_9) hK hP hz_9 rfl)) rfl rfl hl.1 rfl (lv_room (Nat.le_of_ble_eq_true rfl)) dX0_bringIn_28 ⟨Nat.le_of_ble_eq_true rfl, Nat.le_of_ble_eq_true rfl⟩) hD hS hA (fun u H locs w_11 hP hD hS => ?_)
    subst w_11
    have hP : va_P (dC, dI) vwCl (cw cy e0 ad L (su (su (su S 4 i (upd (S 4 i) cn (nI 1))) 5 i (upd (S 5 i) cn (nI 0))) 6 i (upd (upd (S 6 i) 0 (nI 0)) 1 (nI 0))) (nu N 2 i (va_up (N 2 i) cn n))) H := hP
    have hD : va_D A (cw cy e0 ad L (su (su (su S 4 i (upd (S 4 i) cn (nI 1))) 5 i (upd (S 5 i) cn (nI 0))) 6 i (upd (upd (S 6 i) 0 (nI 0)) 1 (nI 0))) (nu N 2 i (va_up (N 2 i) cn n))) := hD
    rw [← hQQ]; exact end_v (u := (su (su (su S 4 i (upd (S 4 i) cn (nI 1))) 5 i (upd (S 5 i) cn (nI 0))) 6 i (upd (upd (S 6 i) 0 (nI 0)) 1 (nI 0)), nu N 2 i (va_up (N 2 i) cn n))) hx hb hr hlocks dX0_bringIn_31 hK hP hD hS (by first | rfl | simp [K_bring]) (Nat.le_of_ble_eq_true rfl) (Nat.le_of_ble_eq_true rfl)
  · refine lv_aload_n hx hb dX0_bringIn_0 rfl (lv_at hl 0 rfl) ?_
    obtain ⟨z_12, hz_12⟩ := pl_get (ad := ad) (f := cc cy e0 ad S N) (hM0 0 i (by decide) (by omega))
    rw [show cc cy e0 ad S N (0, i) = .inr (1, [.ref (ad (1, i)), .ref (ad (2, i)), .ref (ad (5, i)), .ref (ad (6, i)), .ref (ad (7, i))]) from rfl] at hz_12
    refine va_get (D := (dC, dI)) (ci := 1) (v := .ref (ad (1, i))) (C := RX0) (T := TX0) (N := 5) hx hb hts inX0_ hown hK hP z_12 hz_12 rfl 0 (by decide) lk0 (fun _ h9 => h9) rfl dX0_bringIn_1 ?_
    refine lv_iload_n hx hb dX0_bringIn_4 rfl (lv_at hl 2 rfl) ?_
    refine lv_aload_n hx hb dX0_bringIn_5 rfl (lv_at hl 1 rfl) ?_
    obtain ⟨z_13, hz_13⟩ := pl_get (ad := ad) (f := cc cy e0 ad S N) (hM0 1 i (by decide) (by omega))
    rw [show cc cy e0 ad S N (1, i) = .inl (cy 2, 10, .inr (.inr (.inr (.inr (fun d => vpt ad ((N 2 i) d) d))))) from rfl] at hz_13
    have eW : (cw cy e0 ad L S N).set z_13 (ad (1, i), .inl (cy 2, 10, .inr (.inr (.inr (.inr (va_up (fun d => vpt ad (N 2 i d) d) cn (some (ad (9, 9 * cn + n - 1))))))))) = cw cy e0 ad L S (nu N 2 i (va_up (N 2 i) cn n)) := by rw [← vpt_o hn0 (ad := ad) (c := cn)]; exact st_1 cn n hD hz_13 (hM0 1 i (by decide) (by omega))
    obtain ⟨zv, hzv⟩ := pl_get (ad := ad) (f := cc cy e0 ad S N) hmv
    refine va_astq hx hb hK hP hD hS z_13 2 zv 3 hz_13 rfl hzv rfl (vp_in_nI hcn (by decide)) dX0_bringIn_6 (fun H locs hP hD hS => ?_)
    rw [nI_clamp (by omega)] at hP hD
    have hP : va_P (dC, dI) vwCl (cw cy e0 ad L S (nu N 2 i (va_up (N 2 i) cn n))) H := by rw [← eW]; exact hP
    have hD : va_D A (cw cy e0 ad L S (nu N 2 i (va_up (N 2 i) cn n))) := by rw [← eW]; exact hD
    refine lv_aload_n hx hb dX0_bringIn_7 rfl (lv_at hl 0 rfl) ?_
    obtain ⟨z_14, hz_14⟩ := pl_get (ad := ad) (f := cc cy e0 ad S (nu N 2 i (va_up (N 2 i) cn n))) (hM0 0 i (by decide) (by omega))
    rw [show cc cy e0 ad S (nu N 2 i (va_up (N 2 i) cn n)) (0, i) = .inr (1, [.ref (ad (1, i)), .ref (ad (2, i)), .ref (ad (5, i)), .ref (ad (6, i)), .ref (ad (7, i))]) from by first | rfl | simp [cc, su, nu, upd]] at hz_14
    refine va_get (D := (dC, dI)) (ci := 1) (v := .ref (ad (2, i))) (C := RX0) (T := TX0) (N := 5) hx hb hts inX0_ hown hK hP z_14 hz_14 rfl 1 (by decide) lk1 (fun _ h9 => h9) rfl dX0_bringIn_8 ?_
    refine lv_iload_n hx hb dX0_bringIn_11 rfl (lv_at hl 3 rfl) ?_
    obtain ⟨z_15, hz_15⟩ := pl_get (ad := ad) (f := cc cy e0 ad S (nu N 2 i (va_up (N 2 i) cn n))) (hM0 2 i (by decide) (by omega))
    rw [show cc cy e0 ad S (nu N 2 i (va_up (N 2 i) cn n)) (2, i) = .inl (cy 4, 2, .inr (.inr (.inr (.inr (fun s => if s = 0 then some (ad (3, i)) else some (ad (4, i))))))) from by first | rfl | simp [cc, su, nu, upd]] at hz_15
    refine x_aaldA hx hb hK hP z_15 4 hz_15 rfl (t := 1) (by omega) (by decide) dX0_bringIn_12 ?_
    refine to_v (y := .ref (ad (4, i))) rfl ?_
    refine lv_iload_n hx hb dX0_bringIn_13 rfl (lv_at hl 2 rfl) ?_
    refine lv_iconst (v := nI 1) hx hb dX0_bringIn_14 (by decide) ?_
    obtain ⟨z_16, hz_16⟩ := pl_get (ad := ad) (f := cc cy e0 ad S (nu N 2 i (va_up (N 2 i) cn n))) (hM0 4 i (by decide) (by omega))
    rw [show cc cy e0 ad S (nu N 2 i (va_up (N 2 i) cn n)) (4, i) = .inl (cy 0, 10, .inl (S 5 i)) from by first | rfl | simp [cc, su, nu, upd]] at hz_16
    have eW : (cw cy e0 ad L S (nu N 2 i (va_up (N 2 i) cn n))).set z_16 (ad (4, i), .inl (cy 0, 10, .inl (upd (S 5 i) cn (nI 1)))) = cw cy e0 ad L (su S 5 i (upd (S 5 i) cn (nI 1))) (nu N 2 i (va_up (N 2 i) cn n)) := st_4 (upd (S 5 i) cn (nI 1)) hD hz_16 (hM0 4 i (by decide) (by omega))
    refine x_iast (f := S 5 i) hx hb hK hP hD hS z_16 0 hz_16 rfl (t := cn) (x := (nI 1)) (by omega) (by decide) dX0_bringIn_15 (fun H locs hP hD hS => ?_)
    have hP : va_P (dC, dI) vwCl (cw cy e0 ad L (su S 5 i (upd (S 5 i) cn (nI 1))) (nu N 2 i (va_up (N 2 i) cn n))) H := by rw [← eW]; exact hP
    have hD : va_D A (cw cy e0 ad L (su S 5 i (upd (S 5 i) cn (nI 1))) (nu N 2 i (va_up (N 2 i) cn n))) := by rw [← eW]; exact hD
    refine lv_aload_n hx hb dX0_bringIn_16 rfl (lv_at hl 0 rfl) ?_
    obtain ⟨z_17, hz_17⟩ := pl_get (ad := ad) (f := cc cy e0 ad (su S 5 i (upd (S 5 i) cn (nI 1))) (nu N 2 i (va_up (N 2 i) cn n))) (hM0 0 i (by decide) (by omega))
    rw [show cc cy e0 ad (su S 5 i (upd (S 5 i) cn (nI 1))) (nu N 2 i (va_up (N 2 i) cn n)) (0, i) = .inr (1, [.ref (ad (1, i)), .ref (ad (2, i)), .ref (ad (5, i)), .ref (ad (6, i)), .ref (ad (7, i))]) from by first | rfl | simp [cc, su, nu, upd]] at hz_17
    refine va_get (D := (dC, dI)) (ci := 1) (v := .ref (ad (2, i))) (C := RX0) (T := TX0) (N := 5) hx hb hts inX0_ hown hK hP z_17 hz_17 rfl 1 (by decide) lk1 (fun _ h9 => h9) rfl dX0_bringIn_17 ?_
    refine lv_iconst (v := nI 1) hx hb dX0_bringIn_20 (by decide) ?_
    refine lv_iload_n hx hb dX0_bringIn_21 rfl (lv_at hl 3 rfl) ?_
    refine lv_isub hx hb dX0_bringIn_22 ?_
    refine to_i (y := nI 0) (by decide) ?_
    obtain ⟨z_18, hz_18⟩ := pl_get (ad := ad) (f := cc cy e0 ad (su S 5 i (upd (S 5 i) cn (nI 1))) (nu N 2 i (va_up (N 2 i) cn n))) (hM0 2 i (by decide) (by omega))
    rw [show cc cy e0 ad (su S 5 i (upd (S 5 i) cn (nI 1))) (nu N 2 i (va_up (N 2 i) cn n)) (2, i) = .inl (cy 4, 2, .inr (.inr (.inr (.inr (fun s => if s = 0 then some (ad (3, i)) else some (ad (4, i))))))) from by first | rfl | simp [cc, su, nu, upd]] at hz_18
    refine x_aaldA hx hb hK hP z_18 4 hz_18 rfl (t := 0) (by omega) (by decide) dX0_bringIn_23 ?_
    refine to_v (y := .ref (ad (3, i))) rfl ?_
    refine lv_iload_n hx hb dX0_bringIn_24 rfl (lv_at hl 2 rfl) ?_
    refine lv_iconst (v := nI 0) hx hb dX0_bringIn_25 (by decide) ?_
    obtain ⟨z_19, hz_19⟩ := pl_get (ad := ad) (f := cc cy e0 ad (su S 5 i (upd (S 5 i) cn (nI 1))) (nu N 2 i (va_up (N 2 i) cn n))) (hM0 3 i (by decide) (by omega))
    rw [show cc cy e0 ad (su S 5 i (upd (S 5 i) cn (nI 1))) (nu N 2 i (va_up (N 2 i) cn n)) (3, i) = .inl (cy 0, 10, .inl (S 4 i)) from by first | rfl | simp [cc, su, nu, upd]] at hz_19
    have eW : (cw cy e0 ad L (su S 5 i (upd (S 5 i) cn (nI 1))) (nu N 2 i (va_up (N 2 i) cn n))).set z_19 (ad (3, i), .inl (cy 0, 10, .inl (upd (S 4 i) cn (nI 0)))) = cw cy e0 ad L (su (su S 5 i (upd (S 5 i) cn (nI 1))) 4 i (upd (S 4 i) cn (nI 0))) (nu N 2 i (va_up (N 2 i) cn n)) := st_3 (upd (S 4 i) cn (nI 0)) hD hz_19 (hM0 3 i (by decide) (by omega))
    refine x_iast (f := S 4 i) hx hb hK hP hD hS z_19 0 hz_19 rfl (t := cn) (x := (nI 0)) (by omega) (by decide) dX0_bringIn_26 (fun H locs hP hD hS => ?_)
    have hP : va_P (dC, dI) vwCl (cw cy e0 ad L (su (su S 5 i (upd (S 5 i) cn (nI 1))) 4 i (upd (S 4 i) cn (nI 0))) (nu N 2 i (va_up (N 2 i) cn n))) H := by rw [← eW]; exact hP
    have hD : va_D A (cw cy e0 ad L (su (su S 5 i (upd (S 5 i) cn (nI 1))) 4 i (upd (S 4 i) cn (nI 0))) (nu N 2 i (va_up (N 2 i) cn n))) := by rw [← eW]; exact hD
    refine lv_aload_n hx hb dX0_bringIn_27 rfl (lv_at hl 0 rfl) ?_
    obtain ⟨z_20, hz_20⟩ := pl_get (ad := ad) (f := cc cy e0 ad (su (su S 5 i (upd (S 5 i) cn (nI 1))) 4 i (upd (S 4 i) cn (nI 0))) (nu N 2 i (va_up (N 2 i) cn n))) (hM0 0 i (by decide) (by omega))
    rw [show cc cy e0 ad (su (su S 5 i (upd (S 5 i) cn (nI 1))) 4 i (upd (S 4 i) cn (nI 0))) (nu N 2 i (va_up (N 2 i) cn n)) (0, i) = .inr (1, [.ref (ad (1, i)), .ref (ad (2, i)), .ref (ad (5, i)), .ref (ad (6, i)), .ref (ad (7, i))]) from by first | rfl | simp [cc, su, nu, upd]] at hz_20
    refine call_v (va_runV (As := []) (rest := []) ⟨hx, hb, hml, hown, hts⟩ (qX0_loseSignatures l dC dI cy e0 mi ad L (su (su S 5 i (upd (S 5 i) cn (nI 1))) 4 i (upd (S 4 i) cn (nI 0))) (nu N 2 i (va_up (N 2 i) cn n)) H.size i (okC_item hI0 hnl) hi) (cwV 0 hts gX0_bringIn_X0_loseSignatures rfl rfl rfl (by decide +kernel) ⟨Nat.le_of_ble_eq_true rfl, Nat.le_of_ble_eq_true rfl⟩) (preV hK hP hD (w_recv (ci := 1) (q0 := z_20) hK hP hz_20 rfl)) rfl rfl hl.1 rfl (lv_room (Nat.le_of_ble_eq_true rfl)) dX0_bringIn_28 ⟨Nat.le_of_ble_eq_true rfl, Nat.le_of_ble_eq_true rfl⟩) hD hS hA (fun u H locs w_22 hP hD hS => ?_)
    subst w_22
    have hP : va_P (dC, dI) vwCl (cw cy e0 ad L (su (su (su S 5 i (upd (S 5 i) cn (nI 1))) 4 i (upd (S 4 i) cn (nI 0))) 6 i (upd (upd (S 6 i) 0 (nI 0)) 1 (nI 0))) (nu N 2 i (va_up (N 2 i) cn n))) H := hP
    have hD : va_D A (cw cy e0 ad L (su (su (su S 5 i (upd (S 5 i) cn (nI 1))) 4 i (upd (S 4 i) cn (nI 0))) 6 i (upd (upd (S 6 i) 0 (nI 0)) 1 (nI 0))) (nu N 2 i (va_up (N 2 i) cn n))) := hD
    rw [← hQQ]; exact end_v (u := (su (su (su S 5 i (upd (S 5 i) cn (nI 1))) 4 i (upd (S 4 i) cn (nI 0))) 6 i (upd (upd (S 6 i) 0 (nI 0)) 1 (nI 0)), nu N 2 i (va_up (N 2 i) cn n))) hx hb hr hlocks dX0_bringIn_31 hK hP hD hS (by first | rfl | simp [K_bring]) (Nat.le_of_ble_eq_true rfl) (Nat.le_of_ble_eq_true rfl)

/-- the mark rows of the two sides: kinds 4 and 5 -/
def K_mk (S : SS) (i sd : Nat) : Nat → Int32 := if sd = 0 then S 4 i else S 5 i
def K_setmk (S : SS) (i sd : Nat) (r : Nat → Int32) : SS := if sd = 0 then su S 4 i r else su S 5 i r
def K_change (S : SS) (N : NN) (i sd c : Nat) (mk : Int32) : CS :=
  if K_mk S i sd c = mk then (S, N) else
    if ¬ mk = nI 1 ∧ ¬ K_mk S i (1 - sd) c = nI 1 then (noSig (K_setmk S i sd (upd (K_mk S i sd) c mk)) i, nu N 2 i (va_up (N 2 i) c 0))
    else (noSig (K_setmk S i sd (upd (K_mk S i sd) c mk)) i, N)

set_option maxHeartbeats 4000000 in
set_option maxRecDepth 100000 in
/-- changeMark -/
theorem qX0_changeMark (l : Launch) (dC : Nat → ClassId) (dI : Nat → Nat → Nat) (cy : Nat → ClassId) (e0 mi : Nat) (ad : Lc → Nat) (L : List Lc) (S : SS) (N : NN) (sz : Nat) (i cn sd : Nat) (mk : Int32) (hI : okC L N) (hi : i < N 0 0 0) (hcn : cn < 10) (hsd : sd < 2) : Met l yX0_changeMark wsX0_changeMark ({ frames := 1, cells := 0, slots := 0, locals := 20 }) (va_Pc [.ref (ad (0, i)), .int (nI sd), .int (nI cn), .int mk] (wPre (dC, dI) (tyL cy) (cw cy e0 ad L S N) sz)) (QV (dC, dI) (tyL cy) (fun (u : CS) => u = K_change S N i sd cn mk) (cwU cy e0 ad L) (va_A (cw cy e0 ad L S N) sz)) 0 0 (va_A (cw cy e0 ad L S N) sz) := by
  refine en (cc := cX0_changeMark) (maxL := 4) (ret := none) (own := RX0) (lv := [(0, .ref (ad (0, i))), (1, .int (nI sd)), (2, .int (nI cn)), (3, .int mk)]) (by decide) rfl rfl (Nat.le_of_ble_eq_true rfl) rfl ?_
  intro p e s m below meth c ls A H locs hx hb hr hts hown hlocks hml hin hsz hK hP hD hS hA hl
  generalize hQQ : MQ below _ _ s _ _ A = QQ
  have hI0 := hI
  obtain ⟨⟨hM0, hM8, hM9, hMF, hM15, hM17⟩, hV, hLt, hO, hDu, hnc, hnd, hcC, hcD, hcC2, hcD2⟩ := hI
  have inX0_ : ∀ w ∈ wsX00, w ∈ wsX0_changeMark := fun _ h => List.mem_cons_of_mem _ (List.mem_append_right _ h)
  have lk0 : (Cond.fieldLink RX0 19 "ClauseShop$Contract" "marks" "[[I").before (([.ref (ad (0, i)), .int (nI sd), .int (nI cn), .int mk] : List Value).toArray) s = true := hts _ (List.mem_of_getElem? (i := 1) rfl)
  have lk1 : (Cond.fieldLink RX0 11 "ClauseShop$Contract" "items" "[LClauseShop$Version;").before (([.ref (ad (0, i)), .int (nI sd), .int (nI cn), .int mk] : List Value).toArray) s = true := hts _ (List.mem_of_getElem? (i := 2) rfl)
  have hsd2 : sd = 0 ∨ sd = 1 := by omega
  rcases hsd2 with rfl | rfl
  · refine lv_aload_n hx hb dX0_changeMark_0 rfl (lv_at hl 0 rfl) ?_
    obtain ⟨z_1, hz_1⟩ := pl_get (ad := ad) (f := cc cy e0 ad S N) (hM0 0 i (by decide) (by omega))
    rw [show cc cy e0 ad S N (0, i) = .inr (1, [.ref (ad (1, i)), .ref (ad (2, i)), .ref (ad (5, i)), .ref (ad (6, i)), .ref (ad (7, i))]) from rfl] at hz_1
    refine va_get (D := (dC, dI)) (ci := 1) (v := .ref (ad (2, i))) (C := RX0) (T := TX0) (N := 5) hx hb hts inX0_ hown hK hP z_1 hz_1 rfl 1 (by decide) lk0 (fun _ h9 => h9) rfl dX0_changeMark_1 ?_
    refine lv_iload_n hx hb dX0_changeMark_4 rfl (lv_at hl 1 rfl) ?_
    obtain ⟨z_2, hz_2⟩ := pl_get (ad := ad) (f := cc cy e0 ad S N) (hM0 2 i (by decide) (by omega))
    rw [show cc cy e0 ad S N (2, i) = .inl (cy 4, 2, .inr (.inr (.inr (.inr (fun s => if s = 0 then some (ad (3, i)) else some (ad (4, i))))))) from rfl] at hz_2
    refine x_aaldA hx hb hK hP z_2 4 hz_2 rfl (t := 0) (by omega) (by decide) dX0_changeMark_5 ?_
    refine to_v (y := .ref (ad (3, i))) rfl ?_
    refine lv_iload_n hx hb dX0_changeMark_6 rfl (lv_at hl 2 rfl) ?_
    obtain ⟨z_3, hz_3⟩ := pl_get (ad := ad) (f := cc cy e0 ad S N) (hM0 3 i (by decide) (by omega))
    rw [show cc cy e0 ad S N (3, i) = .inl (cy 0, 10, .inl (S 4 i)) from rfl] at hz_3
    refine x_iald (f := S 4 i) hx hb hK hP z_3 0 hz_3 rfl (t := cn) (by omega) (by decide) dX0_changeMark_7 ?_
    refine lv_iload_n hx hb dX0_changeMark_8 rfl (lv_at hl 3 rfl) ?_
    refine lv_icmp_ne (tgt := 13) hx hb dX0_changeMark_9 (by decide) (fun c_4 => ?_) (fun c_4 => ?_)
    · refine lv_aload_n hx hb dX0_changeMark_13 rfl (lv_at hl 0 rfl) ?_
      obtain ⟨z_5, hz_5⟩ := pl_get (ad := ad) (f := cc cy e0 ad S N) (hM0 0 i (by decide) (by omega))
      rw [show cc cy e0 ad S N (0, i) = .inr (1, [.ref (ad (1, i)), .ref (ad (2, i)), .ref (ad (5, i)), .ref (ad (6, i)), .ref (ad (7, i))]) from rfl] at hz_5
      refine va_get (D := (dC, dI)) (ci := 1) (v := .ref (ad (2, i))) (C := RX0) (T := TX0) (N := 5) hx hb hts inX0_ hown hK hP z_5 hz_5 rfl 1 (by decide) lk0 (fun _ h9 => h9) rfl dX0_changeMark_14 ?_
      refine lv_iload_n hx hb dX0_changeMark_17 rfl (lv_at hl 1 rfl) ?_
      obtain ⟨z_6, hz_6⟩ := pl_get (ad := ad) (f := cc cy e0 ad S N) (hM0 2 i (by decide) (by omega))
      rw [show cc cy e0 ad S N (2, i) = .inl (cy 4, 2, .inr (.inr (.inr (.inr (fun s => if s = 0 then some (ad (3, i)) else some (ad (4, i))))))) from rfl] at hz_6
      refine x_aaldA hx hb hK hP z_6 4 hz_6 rfl (t := 0) (by omega) (by decide) dX0_changeMark_18 ?_
      refine to_v (y := .ref (ad (3, i))) rfl ?_
      refine lv_iload_n hx hb dX0_changeMark_19 rfl (lv_at hl 2 rfl) ?_
      refine lv_iload_n hx hb dX0_changeMark_20 rfl (lv_at hl 3 rfl) ?_
      obtain ⟨z_7, hz_7⟩ := pl_get (ad := ad) (f := cc cy e0 ad S N) (hM0 3 i (by decide) (by omega))
      rw [show cc cy e0 ad S N (3, i) = .inl (cy 0, 10, .inl (S 4 i)) from rfl] at hz_7
      have eW : (cw cy e0 ad L S N).set z_7 (ad (3, i), .inl (cy 0, 10, .inl (upd (S 4 i) cn mk))) = cw cy e0 ad L (su S 4 i (upd (S 4 i) cn mk)) N := st_3 (upd (S 4 i) cn mk) hD hz_7 (hM0 3 i (by decide) (by omega))
      refine x_iast (f := S 4 i) hx hb hK hP hD hS z_7 0 hz_7 rfl (t := cn) (x := mk) (by omega) (by decide) dX0_changeMark_21 (fun H locs hP hD hS => ?_)
      have hP : va_P (dC, dI) vwCl (cw cy e0 ad L (su S 4 i (upd (S 4 i) cn mk)) N) H := by rw [← eW]; exact hP
      have hD : va_D A (cw cy e0 ad L (su S 4 i (upd (S 4 i) cn mk)) N) := by rw [← eW]; exact hD
      refine lv_aload_n hx hb dX0_changeMark_22 rfl (lv_at hl 0 rfl) ?_
      obtain ⟨z_8, hz_8⟩ := pl_get (ad := ad) (f := cc cy e0 ad (su S 4 i (upd (S 4 i) cn mk)) N) (hM0 0 i (by decide) (by omega))
      rw [show cc cy e0 ad (su S 4 i (upd (S 4 i) cn mk)) N (0, i) = .inr (1, [.ref (ad (1, i)), .ref (ad (2, i)), .ref (ad (5, i)), .ref (ad (6, i)), .ref (ad (7, i))]) from by first | rfl | simp [cc, su, nu, upd]] at hz_8
      refine call_v (va_runV (As := []) (rest := []) ⟨hx, hb, hml, hown, hts⟩ (qX0_loseSignatures l dC dI cy e0 mi ad L (su S 4 i (upd (S 4 i) cn mk)) N H.size i hI0 hi) (cwV 0 hts gX0_changeMark_X0_loseSignatures rfl rfl rfl (by decide +kernel) ⟨Nat.le_of_ble_eq_true rfl, Nat.le_of_ble_eq_true rfl⟩) (preV hK hP hD (w_recv (ci := 1) (q0 := z_8) hK hP hz_8 rfl)) rfl rfl hl.1 rfl (lv_room (Nat.le_of_ble_eq_true rfl)) dX0_changeMark_23 ⟨Nat.le_of_ble_eq_true rfl, Nat.le_of_ble_eq_true rfl⟩) hD hS hA (fun u H locs w_10 hP hD hS => ?_)
      subst w_10
      have hP : va_P (dC, dI) vwCl (cw cy e0 ad L (su (su S 4 i (upd (S 4 i) cn mk)) 6 i (upd (upd (S 6 i) 0 (nI 0)) 1 (nI 0))) N) H := hP
      have hD : va_D A (cw cy e0 ad L (su (su S 4 i (upd (S 4 i) cn mk)) 6 i (upd (upd (S 6 i) 0 (nI 0)) 1 (nI 0))) N) := hD
      refine lv_aload_n hx hb dX0_changeMark_26 rfl (lv_at hl 0 rfl) ?_
      obtain ⟨z_11, hz_11⟩ := pl_get (ad := ad) (f := cc cy e0 ad (su (su S 4 i (upd (S 4 i) cn mk)) 6 i (upd (upd (S 6 i) 0 (nI 0)) 1 (nI 0))) N) (hM0 0 i (by decide) (by omega))
      rw [show cc cy e0 ad (su (su S 4 i (upd (S 4 i) cn mk)) 6 i (upd (upd (S 6 i) 0 (nI 0)) 1 (nI 0))) N (0, i) = .inr (1, [.ref (ad (1, i)), .ref (ad (2, i)), .ref (ad (5, i)), .ref (ad (6, i)), .ref (ad (7, i))]) from by first | rfl | simp [cc, su, nu, upd]] at hz_11
      refine va_get (D := (dC, dI)) (ci := 1) (v := .ref (ad (2, i))) (C := RX0) (T := TX0) (N := 5) hx hb hts inX0_ hown hK hP z_11 hz_11 rfl 1 (by decide) lk0 (fun _ h9 => h9) rfl dX0_changeMark_27 ?_
      refine lv_iconst (v := nI 0) hx hb dX0_changeMark_30 (by decide) ?_
      obtain ⟨z_12, hz_12⟩ := pl_get (ad := ad) (f := cc cy e0 ad (su (su S 4 i (upd (S 4 i) cn mk)) 6 i (upd (upd (S 6 i) 0 (nI 0)) 1 (nI 0))) N) (hM0 2 i (by decide) (by omega))
      rw [show cc cy e0 ad (su (su S 4 i (upd (S 4 i) cn mk)) 6 i (upd (upd (S 6 i) 0 (nI 0)) 1 (nI 0))) N (2, i) = .inl (cy 4, 2, .inr (.inr (.inr (.inr (fun s => if s = 0 then some (ad (3, i)) else some (ad (4, i))))))) from by first | rfl | simp [cc, su, nu, upd]] at hz_12
      refine x_aaldA hx hb hK hP z_12 4 hz_12 rfl (t := 0) (by omega) (by decide) dX0_changeMark_31 ?_
      refine to_v (y := .ref (ad (3, i))) rfl ?_
      refine lv_iload_n hx hb dX0_changeMark_32 rfl (lv_at hl 2 rfl) ?_
      obtain ⟨z_13, hz_13⟩ := pl_get (ad := ad) (f := cc cy e0 ad (su (su S 4 i (upd (S 4 i) cn mk)) 6 i (upd (upd (S 6 i) 0 (nI 0)) 1 (nI 0))) N) (hM0 3 i (by decide) (by omega))
      rw [show cc cy e0 ad (su (su S 4 i (upd (S 4 i) cn mk)) 6 i (upd (upd (S 6 i) 0 (nI 0)) 1 (nI 0))) N (3, i) = .inl (cy 0, 10, .inl (upd (S 4 i) cn mk)) from by first | rfl | simp [cc, su, nu, upd]] at hz_13
      refine x_iald (f := upd (S 4 i) cn mk) hx hb hK hP z_13 0 hz_13 rfl (t := cn) (by omega) (by decide) dX0_changeMark_33 ?_
      refine to_i (y := mk) (pk_us) ?_
      refine lv_iconst (v := nI 1) hx hb dX0_changeMark_34 (by decide) ?_
      refine lv_icmp_eq (tgt := 57) hx hb dX0_changeMark_35 (by decide) (fun c_14 => ?_) (fun c_14 => ?_)
      · rw [← hQQ]; exact end_v (u := (su (su S 4 i (upd (S 4 i) cn mk)) 6 i (upd (upd (S 6 i) 0 (nI 0)) 1 (nI 0)), N)) hx hb hr hlocks dX0_changeMark_57 hK hP hD hS (by simp only [K_change, K_mk, K_setmk, noSig, c_4, eq_true c_14, and_true, true_and, and_false, false_and, if_true, if_false, not_true, not_false_iff, not_false_eq_true, or_true, true_or, or_false, false_or, ite_true, ite_false, and_self, Classical.not_not, Bool.false_eq_true, Nat.sub_self, Nat.sub_zero, h10, if_true, if_false]; try rfl) (Nat.le_of_ble_eq_true rfl) (Nat.le_of_ble_eq_true rfl)
      · refine lv_aload_n hx hb dX0_changeMark_38 rfl (lv_at hl 0 rfl) ?_
        obtain ⟨z_15, hz_15⟩ := pl_get (ad := ad) (f := cc cy e0 ad (su (su S 4 i (upd (S 4 i) cn mk)) 6 i (upd (upd (S 6 i) 0 (nI 0)) 1 (nI 0))) N) (hM0 0 i (by decide) (by omega))
        rw [show cc cy e0 ad (su (su S 4 i (upd (S 4 i) cn mk)) 6 i (upd (upd (S 6 i) 0 (nI 0)) 1 (nI 0))) N (0, i) = .inr (1, [.ref (ad (1, i)), .ref (ad (2, i)), .ref (ad (5, i)), .ref (ad (6, i)), .ref (ad (7, i))]) from by first | rfl | simp [cc, su, nu, upd]] at hz_15
        refine va_get (D := (dC, dI)) (ci := 1) (v := .ref (ad (2, i))) (C := RX0) (T := TX0) (N := 5) hx hb hts inX0_ hown hK hP z_15 hz_15 rfl 1 (by decide) lk0 (fun _ h9 => h9) rfl dX0_changeMark_39 ?_
        refine lv_iconst (v := nI 1) hx hb dX0_changeMark_42 (by decide) ?_
        obtain ⟨z_16, hz_16⟩ := pl_get (ad := ad) (f := cc cy e0 ad (su (su S 4 i (upd (S 4 i) cn mk)) 6 i (upd (upd (S 6 i) 0 (nI 0)) 1 (nI 0))) N) (hM0 2 i (by decide) (by omega))
        rw [show cc cy e0 ad (su (su S 4 i (upd (S 4 i) cn mk)) 6 i (upd (upd (S 6 i) 0 (nI 0)) 1 (nI 0))) N (2, i) = .inl (cy 4, 2, .inr (.inr (.inr (.inr (fun s => if s = 0 then some (ad (3, i)) else some (ad (4, i))))))) from by first | rfl | simp [cc, su, nu, upd]] at hz_16
        refine x_aaldA hx hb hK hP z_16 4 hz_16 rfl (t := 1) (by omega) (by decide) dX0_changeMark_43 ?_
        refine to_v (y := .ref (ad (4, i))) rfl ?_
        refine lv_iload_n hx hb dX0_changeMark_44 rfl (lv_at hl 2 rfl) ?_
        obtain ⟨z_17, hz_17⟩ := pl_get (ad := ad) (f := cc cy e0 ad (su (su S 4 i (upd (S 4 i) cn mk)) 6 i (upd (upd (S 6 i) 0 (nI 0)) 1 (nI 0))) N) (hM0 4 i (by decide) (by omega))
        rw [show cc cy e0 ad (su (su S 4 i (upd (S 4 i) cn mk)) 6 i (upd (upd (S 6 i) 0 (nI 0)) 1 (nI 0))) N (4, i) = .inl (cy 0, 10, .inl (S 5 i)) from by first | rfl | simp [cc, su, nu, upd]] at hz_17
        refine x_iald (f := S 5 i) hx hb hK hP z_17 0 hz_17 rfl (t := cn) (by omega) (by decide) dX0_changeMark_45 ?_
        refine lv_iconst (v := nI 1) hx hb dX0_changeMark_46 (by decide) ?_
        refine lv_icmp_eq (tgt := 57) hx hb dX0_changeMark_47 (by decide) (fun c_18 => ?_) (fun c_18 => ?_)
        · rw [← hQQ]; exact end_v (u := (su (su S 4 i (upd (S 4 i) cn mk)) 6 i (upd (upd (S 6 i) 0 (nI 0)) 1 (nI 0)), N)) hx hb hr hlocks dX0_changeMark_57 hK hP hD hS (by simp only [K_change, K_mk, K_setmk, noSig, c_4, c_14, eq_true c_18, and_true, true_and, and_false, false_and, if_true, if_false, not_true, not_false_iff, not_false_eq_true, or_true, true_or, or_false, false_or, ite_true, ite_false, and_self, Classical.not_not, Bool.false_eq_true, Nat.sub_self, Nat.sub_zero, h10, if_true, if_false]; try rfl) (Nat.le_of_ble_eq_true rfl) (Nat.le_of_ble_eq_true rfl)
        · refine lv_aload_n hx hb dX0_changeMark_50 rfl (lv_at hl 0 rfl) ?_
          obtain ⟨z_19, hz_19⟩ := pl_get (ad := ad) (f := cc cy e0 ad (su (su S 4 i (upd (S 4 i) cn mk)) 6 i (upd (upd (S 6 i) 0 (nI 0)) 1 (nI 0))) N) (hM0 0 i (by decide) (by omega))
          rw [show cc cy e0 ad (su (su S 4 i (upd (S 4 i) cn mk)) 6 i (upd (upd (S 6 i) 0 (nI 0)) 1 (nI 0))) N (0, i) = .inr (1, [.ref (ad (1, i)), .ref (ad (2, i)), .ref (ad (5, i)), .ref (ad (6, i)), .ref (ad (7, i))]) from by first | rfl | simp [cc, su, nu, upd]] at hz_19
          refine va_get (D := (dC, dI)) (ci := 1) (v := .ref (ad (1, i))) (C := RX0) (T := TX0) (N := 5) hx hb hts inX0_ hown hK hP z_19 hz_19 rfl 0 (by decide) lk1 (fun _ h9 => h9) rfl dX0_changeMark_51 ?_
          refine lv_iload_n hx hb dX0_changeMark_54 rfl (lv_at hl 2 rfl) ?_
          refine lv_null hx hb dX0_changeMark_55 ?_
          obtain ⟨z_20, hz_20⟩ := pl_get (ad := ad) (f := cc cy e0 ad (su (su S 4 i (upd (S 4 i) cn mk)) 6 i (upd (upd (S 6 i) 0 (nI 0)) 1 (nI 0))) N) (hM0 1 i (by decide) (by omega))
          rw [show cc cy e0 ad (su (su S 4 i (upd (S 4 i) cn mk)) 6 i (upd (upd (S 6 i) 0 (nI 0)) 1 (nI 0))) N (1, i) = .inl (cy 2, 10, .inr (.inr (.inr (.inr (fun d => vpt ad ((N 2 i) d) d))))) from by first | rfl | simp [cc, su, nu, upd]] at hz_20
          have eW : (cw cy e0 ad L (su (su S 4 i (upd (S 4 i) cn mk)) 6 i (upd (upd (S 6 i) 0 (nI 0)) 1 (nI 0))) N).set z_20 (ad (1, i), .inl (cy 2, 10, .inr (.inr (.inr (.inr (va_up (fun d => vpt ad (N 2 i d) d) cn none)))))) = cw cy e0 ad L (su (su S 4 i (upd (S 4 i) cn mk)) 6 i (upd (upd (S 6 i) 0 (nI 0)) 1 (nI 0))) (nu N 2 i (va_up (N 2 i) cn 0)) := by rw [← vpt_n (ad := ad) (c := cn)]; exact st_1 cn 0 hD hz_20 (hM0 1 i (by decide) (by omega))
          refine va_astqN hx hb hK hP hD hS z_20 2 hz_20 rfl (vp_in_nI hcn (by decide)) dX0_changeMark_56 (fun H locs hP hD hS => ?_)
          rw [nI_clamp (by omega)] at hP hD
          have hP : va_P (dC, dI) vwCl (cw cy e0 ad L (su (su S 4 i (upd (S 4 i) cn mk)) 6 i (upd (upd (S 6 i) 0 (nI 0)) 1 (nI 0))) (nu N 2 i (va_up (N 2 i) cn 0))) H := by rw [← eW]; exact hP
          have hD : va_D A (cw cy e0 ad L (su (su S 4 i (upd (S 4 i) cn mk)) 6 i (upd (upd (S 6 i) 0 (nI 0)) 1 (nI 0))) (nu N 2 i (va_up (N 2 i) cn 0))) := by rw [← eW]; exact hD
          rw [← hQQ]; exact end_v (u := (su (su S 4 i (upd (S 4 i) cn mk)) 6 i (upd (upd (S 6 i) 0 (nI 0)) 1 (nI 0)), nu N 2 i (va_up (N 2 i) cn 0))) hx hb hr hlocks dX0_changeMark_57 hK hP hD hS (by simp only [K_change, K_mk, K_setmk, noSig, c_4, c_14, c_18, and_true, true_and, and_false, false_and, if_true, if_false, not_true, not_false_iff, not_false_eq_true, or_true, true_or, or_false, false_or, ite_true, ite_false, and_self, Classical.not_not, Bool.false_eq_true, Nat.sub_self, Nat.sub_zero, h10, if_true, if_false]; try rfl) (Nat.le_of_ble_eq_true rfl) (Nat.le_of_ble_eq_true rfl)
    · rw [← hQQ]; exact end_v (u := (S, N)) hx hb hr hlocks dX0_changeMark_12 hK hP hD hS (by simp only [K_change, K_mk, K_setmk, noSig, eq_true c_4, and_true, true_and, and_false, false_and, if_true, if_false, not_true, not_false_iff, not_false_eq_true, or_true, true_or, or_false, false_or, ite_true, ite_false, and_self, Classical.not_not, Bool.false_eq_true, Nat.sub_self, Nat.sub_zero, h10, if_true, if_false]; try rfl) (Nat.le_of_ble_eq_true rfl) (Nat.le_of_ble_eq_true rfl)
  · refine lv_aload_n hx hb dX0_changeMark_0 rfl (lv_at hl 0 rfl) ?_
    obtain ⟨z_21, hz_21⟩ := pl_get (ad := ad) (f := cc cy e0 ad S N) (hM0 0 i (by decide) (by omega))
    rw [show cc cy e0 ad S N (0, i) = .inr (1, [.ref (ad (1, i)), .ref (ad (2, i)), .ref (ad (5, i)), .ref (ad (6, i)), .ref (ad (7, i))]) from rfl] at hz_21
    refine va_get (D := (dC, dI)) (ci := 1) (v := .ref (ad (2, i))) (C := RX0) (T := TX0) (N := 5) hx hb hts inX0_ hown hK hP z_21 hz_21 rfl 1 (by decide) lk0 (fun _ h9 => h9) rfl dX0_changeMark_1 ?_
    refine lv_iload_n hx hb dX0_changeMark_4 rfl (lv_at hl 1 rfl) ?_
    obtain ⟨z_22, hz_22⟩ := pl_get (ad := ad) (f := cc cy e0 ad S N) (hM0 2 i (by decide) (by omega))
    rw [show cc cy e0 ad S N (2, i) = .inl (cy 4, 2, .inr (.inr (.inr (.inr (fun s => if s = 0 then some (ad (3, i)) else some (ad (4, i))))))) from rfl] at hz_22
    refine x_aaldA hx hb hK hP z_22 4 hz_22 rfl (t := 1) (by omega) (by decide) dX0_changeMark_5 ?_
    refine to_v (y := .ref (ad (4, i))) rfl ?_
    refine lv_iload_n hx hb dX0_changeMark_6 rfl (lv_at hl 2 rfl) ?_
    obtain ⟨z_23, hz_23⟩ := pl_get (ad := ad) (f := cc cy e0 ad S N) (hM0 4 i (by decide) (by omega))
    rw [show cc cy e0 ad S N (4, i) = .inl (cy 0, 10, .inl (S 5 i)) from rfl] at hz_23
    refine x_iald (f := S 5 i) hx hb hK hP z_23 0 hz_23 rfl (t := cn) (by omega) (by decide) dX0_changeMark_7 ?_
    refine lv_iload_n hx hb dX0_changeMark_8 rfl (lv_at hl 3 rfl) ?_
    refine lv_icmp_ne (tgt := 13) hx hb dX0_changeMark_9 (by decide) (fun c_24 => ?_) (fun c_24 => ?_)
    · refine lv_aload_n hx hb dX0_changeMark_13 rfl (lv_at hl 0 rfl) ?_
      obtain ⟨z_25, hz_25⟩ := pl_get (ad := ad) (f := cc cy e0 ad S N) (hM0 0 i (by decide) (by omega))
      rw [show cc cy e0 ad S N (0, i) = .inr (1, [.ref (ad (1, i)), .ref (ad (2, i)), .ref (ad (5, i)), .ref (ad (6, i)), .ref (ad (7, i))]) from rfl] at hz_25
      refine va_get (D := (dC, dI)) (ci := 1) (v := .ref (ad (2, i))) (C := RX0) (T := TX0) (N := 5) hx hb hts inX0_ hown hK hP z_25 hz_25 rfl 1 (by decide) lk0 (fun _ h9 => h9) rfl dX0_changeMark_14 ?_
      refine lv_iload_n hx hb dX0_changeMark_17 rfl (lv_at hl 1 rfl) ?_
      obtain ⟨z_26, hz_26⟩ := pl_get (ad := ad) (f := cc cy e0 ad S N) (hM0 2 i (by decide) (by omega))
      rw [show cc cy e0 ad S N (2, i) = .inl (cy 4, 2, .inr (.inr (.inr (.inr (fun s => if s = 0 then some (ad (3, i)) else some (ad (4, i))))))) from rfl] at hz_26
      refine x_aaldA hx hb hK hP z_26 4 hz_26 rfl (t := 1) (by omega) (by decide) dX0_changeMark_18 ?_
      refine to_v (y := .ref (ad (4, i))) rfl ?_
      refine lv_iload_n hx hb dX0_changeMark_19 rfl (lv_at hl 2 rfl) ?_
      refine lv_iload_n hx hb dX0_changeMark_20 rfl (lv_at hl 3 rfl) ?_
      obtain ⟨z_27, hz_27⟩ := pl_get (ad := ad) (f := cc cy e0 ad S N) (hM0 4 i (by decide) (by omega))
      rw [show cc cy e0 ad S N (4, i) = .inl (cy 0, 10, .inl (S 5 i)) from rfl] at hz_27
      have eW : (cw cy e0 ad L S N).set z_27 (ad (4, i), .inl (cy 0, 10, .inl (upd (S 5 i) cn mk))) = cw cy e0 ad L (su S 5 i (upd (S 5 i) cn mk)) N := st_4 (upd (S 5 i) cn mk) hD hz_27 (hM0 4 i (by decide) (by omega))
      refine x_iast (f := S 5 i) hx hb hK hP hD hS z_27 0 hz_27 rfl (t := cn) (x := mk) (by omega) (by decide) dX0_changeMark_21 (fun H locs hP hD hS => ?_)
      have hP : va_P (dC, dI) vwCl (cw cy e0 ad L (su S 5 i (upd (S 5 i) cn mk)) N) H := by rw [← eW]; exact hP
      have hD : va_D A (cw cy e0 ad L (su S 5 i (upd (S 5 i) cn mk)) N) := by rw [← eW]; exact hD
      refine lv_aload_n hx hb dX0_changeMark_22 rfl (lv_at hl 0 rfl) ?_
      obtain ⟨z_28, hz_28⟩ := pl_get (ad := ad) (f := cc cy e0 ad (su S 5 i (upd (S 5 i) cn mk)) N) (hM0 0 i (by decide) (by omega))
      rw [show cc cy e0 ad (su S 5 i (upd (S 5 i) cn mk)) N (0, i) = .inr (1, [.ref (ad (1, i)), .ref (ad (2, i)), .ref (ad (5, i)), .ref (ad (6, i)), .ref (ad (7, i))]) from by first | rfl | simp [cc, su, nu, upd]] at hz_28
      refine call_v (va_runV (As := []) (rest := []) ⟨hx, hb, hml, hown, hts⟩ (qX0_loseSignatures l dC dI cy e0 mi ad L (su S 5 i (upd (S 5 i) cn mk)) N H.size i hI0 hi) (cwV 0 hts gX0_changeMark_X0_loseSignatures rfl rfl rfl (by decide +kernel) ⟨Nat.le_of_ble_eq_true rfl, Nat.le_of_ble_eq_true rfl⟩) (preV hK hP hD (w_recv (ci := 1) (q0 := z_28) hK hP hz_28 rfl)) rfl rfl hl.1 rfl (lv_room (Nat.le_of_ble_eq_true rfl)) dX0_changeMark_23 ⟨Nat.le_of_ble_eq_true rfl, Nat.le_of_ble_eq_true rfl⟩) hD hS hA (fun u H locs w_30 hP hD hS => ?_)
      subst w_30
      have hP : va_P (dC, dI) vwCl (cw cy e0 ad L (su (su S 5 i (upd (S 5 i) cn mk)) 6 i (upd (upd (S 6 i) 0 (nI 0)) 1 (nI 0))) N) H := hP
      have hD : va_D A (cw cy e0 ad L (su (su S 5 i (upd (S 5 i) cn mk)) 6 i (upd (upd (S 6 i) 0 (nI 0)) 1 (nI 0))) N) := hD
      refine lv_aload_n hx hb dX0_changeMark_26 rfl (lv_at hl 0 rfl) ?_
      obtain ⟨z_31, hz_31⟩ := pl_get (ad := ad) (f := cc cy e0 ad (su (su S 5 i (upd (S 5 i) cn mk)) 6 i (upd (upd (S 6 i) 0 (nI 0)) 1 (nI 0))) N) (hM0 0 i (by decide) (by omega))
      rw [show cc cy e0 ad (su (su S 5 i (upd (S 5 i) cn mk)) 6 i (upd (upd (S 6 i) 0 (nI 0)) 1 (nI 0))) N (0, i) = .inr (1, [.ref (ad (1, i)), .ref (ad (2, i)), .ref (ad (5, i)), .ref (ad (6, i)), .ref (ad (7, i))]) from by first | rfl | simp [cc, su, nu, upd]] at hz_31
      refine va_get (D := (dC, dI)) (ci := 1) (v := .ref (ad (2, i))) (C := RX0) (T := TX0) (N := 5) hx hb hts inX0_ hown hK hP z_31 hz_31 rfl 1 (by decide) lk0 (fun _ h9 => h9) rfl dX0_changeMark_27 ?_
      refine lv_iconst (v := nI 0) hx hb dX0_changeMark_30 (by decide) ?_
      obtain ⟨z_32, hz_32⟩ := pl_get (ad := ad) (f := cc cy e0 ad (su (su S 5 i (upd (S 5 i) cn mk)) 6 i (upd (upd (S 6 i) 0 (nI 0)) 1 (nI 0))) N) (hM0 2 i (by decide) (by omega))
      rw [show cc cy e0 ad (su (su S 5 i (upd (S 5 i) cn mk)) 6 i (upd (upd (S 6 i) 0 (nI 0)) 1 (nI 0))) N (2, i) = .inl (cy 4, 2, .inr (.inr (.inr (.inr (fun s => if s = 0 then some (ad (3, i)) else some (ad (4, i))))))) from by first | rfl | simp [cc, su, nu, upd]] at hz_32
      refine x_aaldA hx hb hK hP z_32 4 hz_32 rfl (t := 0) (by omega) (by decide) dX0_changeMark_31 ?_
      refine to_v (y := .ref (ad (3, i))) rfl ?_
      refine lv_iload_n hx hb dX0_changeMark_32 rfl (lv_at hl 2 rfl) ?_
      obtain ⟨z_33, hz_33⟩ := pl_get (ad := ad) (f := cc cy e0 ad (su (su S 5 i (upd (S 5 i) cn mk)) 6 i (upd (upd (S 6 i) 0 (nI 0)) 1 (nI 0))) N) (hM0 3 i (by decide) (by omega))
      rw [show cc cy e0 ad (su (su S 5 i (upd (S 5 i) cn mk)) 6 i (upd (upd (S 6 i) 0 (nI 0)) 1 (nI 0))) N (3, i) = .inl (cy 0, 10, .inl (S 4 i)) from by first | rfl | simp [cc, su, nu, upd]] at hz_33
      refine x_iald (f := S 4 i) hx hb hK hP z_33 0 hz_33 rfl (t := cn) (by omega) (by decide) dX0_changeMark_33 ?_
      refine lv_iconst (v := nI 1) hx hb dX0_changeMark_34 (by decide) ?_
      refine lv_icmp_eq (tgt := 57) hx hb dX0_changeMark_35 (by decide) (fun c_34 => ?_) (fun c_34 => ?_)
      · rw [← hQQ]; exact end_v (u := (su (su S 5 i (upd (S 5 i) cn mk)) 6 i (upd (upd (S 6 i) 0 (nI 0)) 1 (nI 0)), N)) hx hb hr hlocks dX0_changeMark_57 hK hP hD hS (by simp only [K_change, K_mk, K_setmk, noSig, c_24, eq_true c_34, and_true, true_and, and_false, false_and, if_true, if_false, not_true, not_false_iff, not_false_eq_true, or_true, true_or, or_false, false_or, ite_true, ite_false, and_self, Classical.not_not, Bool.false_eq_true, Nat.sub_self, Nat.sub_zero, h10, if_true, if_false]; try rfl) (Nat.le_of_ble_eq_true rfl) (Nat.le_of_ble_eq_true rfl)
      · refine lv_aload_n hx hb dX0_changeMark_38 rfl (lv_at hl 0 rfl) ?_
        obtain ⟨z_35, hz_35⟩ := pl_get (ad := ad) (f := cc cy e0 ad (su (su S 5 i (upd (S 5 i) cn mk)) 6 i (upd (upd (S 6 i) 0 (nI 0)) 1 (nI 0))) N) (hM0 0 i (by decide) (by omega))
        rw [show cc cy e0 ad (su (su S 5 i (upd (S 5 i) cn mk)) 6 i (upd (upd (S 6 i) 0 (nI 0)) 1 (nI 0))) N (0, i) = .inr (1, [.ref (ad (1, i)), .ref (ad (2, i)), .ref (ad (5, i)), .ref (ad (6, i)), .ref (ad (7, i))]) from by first | rfl | simp [cc, su, nu, upd]] at hz_35
        refine va_get (D := (dC, dI)) (ci := 1) (v := .ref (ad (2, i))) (C := RX0) (T := TX0) (N := 5) hx hb hts inX0_ hown hK hP z_35 hz_35 rfl 1 (by decide) lk0 (fun _ h9 => h9) rfl dX0_changeMark_39 ?_
        refine lv_iconst (v := nI 1) hx hb dX0_changeMark_42 (by decide) ?_
        obtain ⟨z_36, hz_36⟩ := pl_get (ad := ad) (f := cc cy e0 ad (su (su S 5 i (upd (S 5 i) cn mk)) 6 i (upd (upd (S 6 i) 0 (nI 0)) 1 (nI 0))) N) (hM0 2 i (by decide) (by omega))
        rw [show cc cy e0 ad (su (su S 5 i (upd (S 5 i) cn mk)) 6 i (upd (upd (S 6 i) 0 (nI 0)) 1 (nI 0))) N (2, i) = .inl (cy 4, 2, .inr (.inr (.inr (.inr (fun s => if s = 0 then some (ad (3, i)) else some (ad (4, i))))))) from by first | rfl | simp [cc, su, nu, upd]] at hz_36
        refine x_aaldA hx hb hK hP z_36 4 hz_36 rfl (t := 1) (by omega) (by decide) dX0_changeMark_43 ?_
        refine to_v (y := .ref (ad (4, i))) rfl ?_
        refine lv_iload_n hx hb dX0_changeMark_44 rfl (lv_at hl 2 rfl) ?_
        obtain ⟨z_37, hz_37⟩ := pl_get (ad := ad) (f := cc cy e0 ad (su (su S 5 i (upd (S 5 i) cn mk)) 6 i (upd (upd (S 6 i) 0 (nI 0)) 1 (nI 0))) N) (hM0 4 i (by decide) (by omega))
        rw [show cc cy e0 ad (su (su S 5 i (upd (S 5 i) cn mk)) 6 i (upd (upd (S 6 i) 0 (nI 0)) 1 (nI 0))) N (4, i) = .inl (cy 0, 10, .inl (upd (S 5 i) cn mk)) from by first | rfl | simp [cc, su, nu, upd]] at hz_37
        refine x_iald (f := upd (S 5 i) cn mk) hx hb hK hP z_37 0 hz_37 rfl (t := cn) (by omega) (by decide) dX0_changeMark_45 ?_
        refine to_i (y := mk) (pk_us) ?_
        refine lv_iconst (v := nI 1) hx hb dX0_changeMark_46 (by decide) ?_
        refine lv_icmp_eq (tgt := 57) hx hb dX0_changeMark_47 (by decide) (fun c_38 => ?_) (fun c_38 => ?_)
        · rw [← hQQ]; exact end_v (u := (su (su S 5 i (upd (S 5 i) cn mk)) 6 i (upd (upd (S 6 i) 0 (nI 0)) 1 (nI 0)), N)) hx hb hr hlocks dX0_changeMark_57 hK hP hD hS (by simp only [K_change, K_mk, K_setmk, noSig, c_24, c_34, eq_true c_38, and_true, true_and, and_false, false_and, if_true, if_false, not_true, not_false_iff, not_false_eq_true, or_true, true_or, or_false, false_or, ite_true, ite_false, and_self, Classical.not_not, Bool.false_eq_true, Nat.sub_self, Nat.sub_zero, h10, if_true, if_false]; try rfl) (Nat.le_of_ble_eq_true rfl) (Nat.le_of_ble_eq_true rfl)
        · refine lv_aload_n hx hb dX0_changeMark_50 rfl (lv_at hl 0 rfl) ?_
          obtain ⟨z_39, hz_39⟩ := pl_get (ad := ad) (f := cc cy e0 ad (su (su S 5 i (upd (S 5 i) cn mk)) 6 i (upd (upd (S 6 i) 0 (nI 0)) 1 (nI 0))) N) (hM0 0 i (by decide) (by omega))
          rw [show cc cy e0 ad (su (su S 5 i (upd (S 5 i) cn mk)) 6 i (upd (upd (S 6 i) 0 (nI 0)) 1 (nI 0))) N (0, i) = .inr (1, [.ref (ad (1, i)), .ref (ad (2, i)), .ref (ad (5, i)), .ref (ad (6, i)), .ref (ad (7, i))]) from by first | rfl | simp [cc, su, nu, upd]] at hz_39
          refine va_get (D := (dC, dI)) (ci := 1) (v := .ref (ad (1, i))) (C := RX0) (T := TX0) (N := 5) hx hb hts inX0_ hown hK hP z_39 hz_39 rfl 0 (by decide) lk1 (fun _ h9 => h9) rfl dX0_changeMark_51 ?_
          refine lv_iload_n hx hb dX0_changeMark_54 rfl (lv_at hl 2 rfl) ?_
          refine lv_null hx hb dX0_changeMark_55 ?_
          obtain ⟨z_40, hz_40⟩ := pl_get (ad := ad) (f := cc cy e0 ad (su (su S 5 i (upd (S 5 i) cn mk)) 6 i (upd (upd (S 6 i) 0 (nI 0)) 1 (nI 0))) N) (hM0 1 i (by decide) (by omega))
          rw [show cc cy e0 ad (su (su S 5 i (upd (S 5 i) cn mk)) 6 i (upd (upd (S 6 i) 0 (nI 0)) 1 (nI 0))) N (1, i) = .inl (cy 2, 10, .inr (.inr (.inr (.inr (fun d => vpt ad ((N 2 i) d) d))))) from by first | rfl | simp [cc, su, nu, upd]] at hz_40
          have eW : (cw cy e0 ad L (su (su S 5 i (upd (S 5 i) cn mk)) 6 i (upd (upd (S 6 i) 0 (nI 0)) 1 (nI 0))) N).set z_40 (ad (1, i), .inl (cy 2, 10, .inr (.inr (.inr (.inr (va_up (fun d => vpt ad (N 2 i d) d) cn none)))))) = cw cy e0 ad L (su (su S 5 i (upd (S 5 i) cn mk)) 6 i (upd (upd (S 6 i) 0 (nI 0)) 1 (nI 0))) (nu N 2 i (va_up (N 2 i) cn 0)) := by rw [← vpt_n (ad := ad) (c := cn)]; exact st_1 cn 0 hD hz_40 (hM0 1 i (by decide) (by omega))
          refine va_astqN hx hb hK hP hD hS z_40 2 hz_40 rfl (vp_in_nI hcn (by decide)) dX0_changeMark_56 (fun H locs hP hD hS => ?_)
          rw [nI_clamp (by omega)] at hP hD
          have hP : va_P (dC, dI) vwCl (cw cy e0 ad L (su (su S 5 i (upd (S 5 i) cn mk)) 6 i (upd (upd (S 6 i) 0 (nI 0)) 1 (nI 0))) (nu N 2 i (va_up (N 2 i) cn 0))) H := by rw [← eW]; exact hP
          have hD : va_D A (cw cy e0 ad L (su (su S 5 i (upd (S 5 i) cn mk)) 6 i (upd (upd (S 6 i) 0 (nI 0)) 1 (nI 0))) (nu N 2 i (va_up (N 2 i) cn 0))) := by rw [← eW]; exact hD
          rw [← hQQ]; exact end_v (u := (su (su S 5 i (upd (S 5 i) cn mk)) 6 i (upd (upd (S 6 i) 0 (nI 0)) 1 (nI 0)), nu N 2 i (va_up (N 2 i) cn 0))) hx hb hr hlocks dX0_changeMark_57 hK hP hD hS (by simp only [K_change, K_mk, K_setmk, noSig, c_24, c_34, c_38, and_true, true_and, and_false, false_and, if_true, if_false, not_true, not_false_iff, not_false_eq_true, or_true, true_or, or_false, false_or, ite_true, ite_false, and_self, Classical.not_not, Bool.false_eq_true, Nat.sub_self, Nat.sub_zero, h10, if_true, if_false]; try rfl) (Nat.le_of_ble_eq_true rfl) (Nat.le_of_ble_eq_true rfl)
    · rw [← hQQ]; exact end_v (u := (S, N)) hx hb hr hlocks dX0_changeMark_12 hK hP hD hS (by simp only [K_change, K_mk, K_setmk, noSig, eq_true c_24, and_true, true_and, and_false, false_and, if_true, if_false, not_true, not_false_iff, not_false_eq_true, or_true, true_or, or_false, false_or, ite_true, ite_false, and_self, Classical.not_not, Bool.false_eq_true, Nat.sub_self, Nat.sub_zero, h10, if_true, if_false]; try rfl) (Nat.le_of_ble_eq_true rfl) (Nat.le_of_ble_eq_true rfl)
